set_option maxHeartbeats 4000000 in
set_option maxRecDepth 100000 in
theorem tI_X10 (l : Launch) (D : va_G) (cs : Nat → ClassId) {kp : Nat → Nat} {L : List Nat} {E : Nat → va_E} (o : Nat) (sz : Nat) : Met l yX10_init (.code yX10_init cX10_init 1 none :: cx_big) { frames := 1, cells := 7, slots := 280, locals := 12 } (tw_Pi D cs kp L E (o, .inr (10, [.int 0, .null, .null, .null, .null, .null, .null, .null])) sz) (tw_Qi D cs kp L E o 10 (fun L1 E1 => nw_ok L o E1) (va_A ([(o, .inr (10, [.int 0, .null, .null, .null, .null, .null, .null, .null]))] ++ va_pl L E) sz)) 7 280 (va_A ([(o, .inr (10, [.int 0, .null, .null, .null, .null, .null, .null, .null]))] ++ va_pl L E) sz) := by
  refine tw_Iof (X := (o, .inr (10, [.int 0, .null, .null, .null, .null, .null, .null, .null]))) (ci := 10) (by decide) (Nat.le_of_ble_eq_true rfl) ?_
  intro p e s m below meth c A ls hx hb hr hml hB hown hlocks hnm hK hN hA hP hD hT hS hl
  have hown : s.vm.findClass "TreeMerge$Tree" = some m.cls := hown
  have hnm : meth.name = "<init>" := hnm
  have hl : lv_has ls 1 [(0, .ref o)] := hl
  obtain ⟨L0, eL⟩ : ∃ z, z = L := ⟨_, rfl⟩
  obtain ⟨kp0, ekp⟩ : ∃ z, z = kp := ⟨_, rfl⟩
  obtain ⟨E0, eE⟩ : ∃ z, z = E := ⟨_, rfl⟩
  show W p l e { frames := 1, cells := 7, slots := 280, locals := 12 } s m [.ref o].toArray below meth c s.heap [] 0 0 (MQ below (tw_Qi D cs kp L E o 10 (fun L1 E1 => nw_ok L o E1) A) [.ref o].toArray s 7 280 A) (F0 m 0 ls [])
  rw [show tw_Qi D cs kp L E o 10 (fun L1 E1 => nw_ok L o E1) = tw_Qi D cs kp0 L0 E0 o 10 (fun L1 E1 => nw_ok L0 o E1) by rw [ekp, eL, eE]]
  have hex : ∀ a : Nat, a ∈ L0 → a ∈ L ∧ kp a = kp0 a ∧ E a = E0 a := fun a h => ⟨by rw [← eL]; exact h, by rw [ekp], by rw [eE]⟩
  refine lv_aload_n hx hb dX10_init_0 rfl (lv_at hl 0 rfl) ?_
  refine W.objInit hx hb hown (hB _ cw_115) (hB _ cw_26) (hB _ cw_27) rfl (by rw [hml]; exact hl.1) rfl dX10_init_1 (Nat.le_of_ble_eq_true rfl) (Nat.le_of_ble_eq_true rfl) ?_
  refine W.eq (g2 := F0 m 4 ls []) rfl ?_
  refine lv_aload_n hx hb dX10_init_4 rfl (lv_at hl 0 rfl) ?_
  refine lv_bipush (v := 40) hx hb dX10_init_5 (by decide) ?_
  refine cx_newa (cs := cs) (atype := .int) (ty := .int) (a0 := (40, .inl (fun _ => 0))) hx hb hB cw_59 rfl cx_ra_int 0 rfl hK hP hD hS hA (fun _ => rfl) (by decide) (by decide) (Nat.le_of_ble_eq_true rfl) (Nat.le_of_ble_eq_true rfl) (Nat.le_of_ble_eq_true rfl) dX10_init_7 (fun qa1 H hP hD hS => ?_)
  obtain ⟨kp2, E3, hP, hD, hT, hx5, hkqa1, heq, hnqa1⟩ := tw_abs (k := 110) hP hD hT (fun _ _ _ => ⟨by decide, rfl, rfl, (fun _ _ => (show ((-1) : Int) ≤ ((0 : Int32)).toInt ∧ ((0 : Int32)).toInt ≤ 149 from by decide))⟩)
  obtain ⟨L4, hL⟩ : ∃ z, z = L ++ [qa1] := ⟨_, rfl⟩
  have hmqa1 : qa1 ∈ L4 := by rw [hL]; simp
  rw [← hL] at hP hD hT hx5
  have hnqa1 : qa1 ∉ L0 := fun z => hnqa1 (hex _ z).1
  have hex : ∀ a : Nat, a ∈ L0 → a ∈ L4 ∧ kp2 a = kp0 a ∧ E3 a = E0 a := fun a h => ⟨(hx5 a (hex a h).1).1, ((hx5 a (hex a h).1).2.1).trans (hex a h).2.1, ((hx5 a (hex a h).1).2.2).trans (hex a h).2.2⟩
  refine va_putF (D := D) (ci := 10) (v := .ref qa1) (ty := .array .int) (C := RX10) (T := TX10) (N := 8) hx hb hB cx_inX10 tyX10 tyX10_ok nmX10 hown hK hP hD hS 0 rfl rfl 1 (by decide) (hB _ cw_122) (fun _ h9 => h9) rfl hnm rfl (by decide +kernel) rfl rfl (Nat.le_of_ble_eq_true rfl) dX10_init_9 (fun H locs hP hD hS => ?_)
  have hP : va_P D vwCl ([(o, .inr (10, [.int 0, .ref qa1, .null, .null, .null, .null, .null, .null]))] ++ va_pl L4 E3) H := hP
  have hD : va_D A ([(o, .inr (10, [.int 0, .ref qa1, .null, .null, .null, .null, .null, .null]))] ++ va_pl L4 E3) := hD
  refine lv_aload_n hx hb dX10_init_12 rfl (lv_at hl 0 rfl) ?_
  refine lv_bipush (v := 40) hx hb dX10_init_13 (by decide) ?_
  refine cx_newa (cs := cs) (atype := .int) (ty := .int) (a0 := (40, .inl (fun _ => 0))) hx hb hB cw_59 rfl cx_ra_int 0 rfl hK hP hD hS hA (fun _ => rfl) (by decide) (by decide) (Nat.le_of_ble_eq_true rfl) (Nat.le_of_ble_eq_true rfl) (Nat.le_of_ble_eq_true rfl) dX10_init_15 (fun qa6 H hP hD hS => ?_)
  obtain ⟨kp7, E8, hP, hD, hT, hx10, hkqa6, heq, hnqa6⟩ := tw_abs (k := 111) hP hD hT (fun _ _ _ => ⟨by decide, rfl, rfl, (fun _ _ => (show ((-1) : Int) ≤ ((0 : Int32)).toInt ∧ ((0 : Int32)).toInt ≤ 149 from by decide))⟩)
  obtain ⟨L9, hL⟩ : ∃ z, z = L4 ++ [qa6] := ⟨_, rfl⟩
  have hmqa6 : qa6 ∈ L9 := by rw [hL]; simp
  rw [← hL] at hP hD hT hx10
  have hnqa6 : qa6 ∉ L0 := fun z => hnqa6 (hex _ z).1
  have hex : ∀ a : Nat, a ∈ L0 → a ∈ L9 ∧ kp7 a = kp0 a ∧ E8 a = E0 a := fun a h => ⟨(hx10 a (hex a h).1).1, ((hx10 a (hex a h).1).2.1).trans (hex a h).2.1, ((hx10 a (hex a h).1).2.2).trans (hex a h).2.2⟩
  have hvqa1 := (hx10 qa1 hmqa1).2
  have hmqa1 : qa1 ∈ L9 := (hx10 qa1 hmqa1).1
  have hkqa1 : kp7 qa1 = 110 := (hvqa1.1).trans hkqa1
  refine va_putF (D := D) (ci := 10) (v := .ref qa6) (ty := .array .int) (C := RX10) (T := TX10) (N := 8) hx hb hB cx_inX10 tyX10 tyX10_ok nmX10 hown hK hP hD hS 0 rfl rfl 2 (by decide) (hB _ cw_127) (fun _ h9 => h9) rfl hnm rfl (by decide +kernel) rfl rfl (Nat.le_of_ble_eq_true rfl) dX10_init_17 (fun H locs hP hD hS => ?_)
  have hP : va_P D vwCl ([(o, .inr (10, [.int 0, .ref qa1, .ref qa6, .null, .null, .null, .null, .null]))] ++ va_pl L9 E8) H := hP
  have hD : va_D A ([(o, .inr (10, [.int 0, .ref qa1, .ref qa6, .null, .null, .null, .null, .null]))] ++ va_pl L9 E8) := hD
  refine lv_aload_n hx hb dX10_init_20 rfl (lv_at hl 0 rfl) ?_
  refine lv_bipush (v := 40) hx hb dX10_init_21 (by decide) ?_
  refine cx_newa (cs := cs) (atype := .int) (ty := .int) (a0 := (40, .inl (fun _ => 0))) hx hb hB cw_59 rfl cx_ra_int 0 rfl hK hP hD hS hA (fun _ => rfl) (by decide) (by decide) (Nat.le_of_ble_eq_true rfl) (Nat.le_of_ble_eq_true rfl) (Nat.le_of_ble_eq_true rfl) dX10_init_23 (fun qa11 H hP hD hS => ?_)
  obtain ⟨kp12, E13, hP, hD, hT, hx15, hkqa11, heq, hnqa11⟩ := tw_abs (k := 112) hP hD hT (fun _ _ _ => ⟨by decide, rfl, rfl, (fun _ _ => (show ((-1) : Int) ≤ ((0 : Int32)).toInt ∧ ((0 : Int32)).toInt ≤ 39 from by decide))⟩)
  obtain ⟨L14, hL⟩ : ∃ z, z = L9 ++ [qa11] := ⟨_, rfl⟩
  have hmqa11 : qa11 ∈ L14 := by rw [hL]; simp
  rw [← hL] at hP hD hT hx15
  have hnqa11 : qa11 ∉ L0 := fun z => hnqa11 (hex _ z).1
  have hex : ∀ a : Nat, a ∈ L0 → a ∈ L14 ∧ kp12 a = kp0 a ∧ E13 a = E0 a := fun a h => ⟨(hx15 a (hex a h).1).1, ((hx15 a (hex a h).1).2.1).trans (hex a h).2.1, ((hx15 a (hex a h).1).2.2).trans (hex a h).2.2⟩
  have hvqa1 := (hx15 qa1 hmqa1).2
  have hmqa1 : qa1 ∈ L14 := (hx15 qa1 hmqa1).1
  have hkqa1 : kp12 qa1 = 110 := (hvqa1.1).trans hkqa1
  have hvqa6 := (hx15 qa6 hmqa6).2
  have hmqa6 : qa6 ∈ L14 := (hx15 qa6 hmqa6).1
  have hkqa6 : kp12 qa6 = 111 := (hvqa6.1).trans hkqa6
  refine va_putF (D := D) (ci := 10) (v := .ref qa11) (ty := .array .int) (C := RX10) (T := TX10) (N := 8) hx hb hB cx_inX10 tyX10 tyX10_ok nmX10 hown hK hP hD hS 0 rfl rfl 3 (by decide) (hB _ cw_130) (fun _ h9 => h9) rfl hnm rfl (by decide +kernel) rfl rfl (Nat.le_of_ble_eq_true rfl) dX10_init_25 (fun H locs hP hD hS => ?_)
  have hP : va_P D vwCl ([(o, .inr (10, [.int 0, .ref qa1, .ref qa6, .ref qa11, .null, .null, .null, .null]))] ++ va_pl L14 E13) H := hP
  have hD : va_D A ([(o, .inr (10, [.int 0, .ref qa1, .ref qa6, .ref qa11, .null, .null, .null, .null]))] ++ va_pl L14 E13) := hD
  refine lv_aload_n hx hb dX10_init_28 rfl (lv_at hl 0 rfl) ?_
  refine lv_bipush (v := 40) hx hb dX10_init_29 (by decide) ?_
  refine cx_newa (cs := cs) (atype := .int) (ty := .int) (a0 := (40, .inl (fun _ => 0))) hx hb hB cw_59 rfl cx_ra_int 0 rfl hK hP hD hS hA (fun _ => rfl) (by decide) (by decide) (Nat.le_of_ble_eq_true rfl) (Nat.le_of_ble_eq_true rfl) (Nat.le_of_ble_eq_true rfl) dX10_init_31 (fun qa16 H hP hD hS => ?_)
  obtain ⟨kp17, E18, hP, hD, hT, hx20, hkqa16, heq, hnqa16⟩ := tw_abs (k := 113) hP hD hT (fun _ _ _ => ⟨by decide, rfl, rfl, (fun _ _ => (show (0 : Int) ≤ ((0 : Int32)).toInt ∧ ((0 : Int32)).toInt ≤ 40 from by decide))⟩)
  obtain ⟨L19, hL⟩ : ∃ z, z = L14 ++ [qa16] := ⟨_, rfl⟩
  have hmqa16 : qa16 ∈ L19 := by rw [hL]; simp
  rw [← hL] at hP hD hT hx20
  have hnqa16 : qa16 ∉ L0 := fun z => hnqa16 (hex _ z).1
  have hex : ∀ a : Nat, a ∈ L0 → a ∈ L19 ∧ kp17 a = kp0 a ∧ E18 a = E0 a := fun a h => ⟨(hx20 a (hex a h).1).1, ((hx20 a (hex a h).1).2.1).trans (hex a h).2.1, ((hx20 a (hex a h).1).2.2).trans (hex a h).2.2⟩
  have hvqa1 := (hx20 qa1 hmqa1).2
  have hmqa1 : qa1 ∈ L19 := (hx20 qa1 hmqa1).1
  have hkqa1 : kp17 qa1 = 110 := (hvqa1.1).trans hkqa1
  have hvqa6 := (hx20 qa6 hmqa6).2
  have hmqa6 : qa6 ∈ L19 := (hx20 qa6 hmqa6).1
  have hkqa6 : kp17 qa6 = 111 := (hvqa6.1).trans hkqa6
  have hvqa11 := (hx20 qa11 hmqa11).2
  have hmqa11 : qa11 ∈ L19 := (hx20 qa11 hmqa11).1
  have hkqa11 : kp17 qa11 = 112 := (hvqa11.1).trans hkqa11
  refine va_putF (D := D) (ci := 10) (v := .ref qa16) (ty := .array .int) (C := RX10) (T := TX10) (N := 8) hx hb hB cx_inX10 tyX10 tyX10_ok nmX10 hown hK hP hD hS 0 rfl rfl 4 (by decide) (hB _ cw_135) (fun _ h9 => h9) rfl hnm rfl (by decide +kernel) rfl rfl (Nat.le_of_ble_eq_true rfl) dX10_init_33 (fun H locs hP hD hS => ?_)
  have hP : va_P D vwCl ([(o, .inr (10, [.int 0, .ref qa1, .ref qa6, .ref qa11, .ref qa16, .null, .null, .null]))] ++ va_pl L19 E18) H := hP
  have hD : va_D A ([(o, .inr (10, [.int 0, .ref qa1, .ref qa6, .ref qa11, .ref qa16, .null, .null, .null]))] ++ va_pl L19 E18) := hD
  refine lv_aload_n hx hb dX10_init_36 rfl (lv_at hl 0 rfl) ?_
  refine lv_bipush (v := 40) hx hb dX10_init_37 (by decide) ?_
  refine cx_newa (cs := cs) (atype := .int) (ty := .int) (a0 := (40, .inl (fun _ => 0))) hx hb hB cw_59 rfl cx_ra_int 0 rfl hK hP hD hS hA (fun _ => rfl) (by decide) (by decide) (Nat.le_of_ble_eq_true rfl) (Nat.le_of_ble_eq_true rfl) (Nat.le_of_ble_eq_true rfl) dX10_init_39 (fun qa21 H hP hD hS => ?_)
  obtain ⟨kp22, E23, hP, hD, hT, hx25, hkqa21, heq, hnqa21⟩ := tw_abs (k := 114) hP hD hT (fun _ _ _ => ⟨by decide, rfl, rfl, (fun _ _ => (show ((-1) : Int) ≤ ((0 : Int32)).toInt ∧ ((0 : Int32)).toInt ≤ 9 from by decide))⟩)
  obtain ⟨L24, hL⟩ : ∃ z, z = L19 ++ [qa21] := ⟨_, rfl⟩
  have hmqa21 : qa21 ∈ L24 := by rw [hL]; simp
  rw [← hL] at hP hD hT hx25
  have hnqa21 : qa21 ∉ L0 := fun z => hnqa21 (hex _ z).1
  have hex : ∀ a : Nat, a ∈ L0 → a ∈ L24 ∧ kp22 a = kp0 a ∧ E23 a = E0 a := fun a h => ⟨(hx25 a (hex a h).1).1, ((hx25 a (hex a h).1).2.1).trans (hex a h).2.1, ((hx25 a (hex a h).1).2.2).trans (hex a h).2.2⟩
  have hvqa1 := (hx25 qa1 hmqa1).2
  have hmqa1 : qa1 ∈ L24 := (hx25 qa1 hmqa1).1
  have hkqa1 : kp22 qa1 = 110 := (hvqa1.1).trans hkqa1
  have hvqa6 := (hx25 qa6 hmqa6).2
  have hmqa6 : qa6 ∈ L24 := (hx25 qa6 hmqa6).1
  have hkqa6 : kp22 qa6 = 111 := (hvqa6.1).trans hkqa6
  have hvqa11 := (hx25 qa11 hmqa11).2
  have hmqa11 : qa11 ∈ L24 := (hx25 qa11 hmqa11).1
  have hkqa11 : kp22 qa11 = 112 := (hvqa11.1).trans hkqa11
  have hvqa16 := (hx25 qa16 hmqa16).2
  have hmqa16 : qa16 ∈ L24 := (hx25 qa16 hmqa16).1
  have hkqa16 : kp22 qa16 = 113 := (hvqa16.1).trans hkqa16
  refine va_putF (D := D) (ci := 10) (v := .ref qa21) (ty := .array .int) (C := RX10) (T := TX10) (N := 8) hx hb hB cx_inX10 tyX10 tyX10_ok nmX10 hown hK hP hD hS 0 rfl rfl 5 (by decide) (hB _ cw_138) (fun _ h9 => h9) rfl hnm rfl (by decide +kernel) rfl rfl (Nat.le_of_ble_eq_true rfl) dX10_init_41 (fun H locs hP hD hS => ?_)
  have hP : va_P D vwCl ([(o, .inr (10, [.int 0, .ref qa1, .ref qa6, .ref qa11, .ref qa16, .ref qa21, .null, .null]))] ++ va_pl L24 E23) H := hP
  have hD : va_D A ([(o, .inr (10, [.int 0, .ref qa1, .ref qa6, .ref qa11, .ref qa16, .ref qa21, .null, .null]))] ++ va_pl L24 E23) := hD
  refine lv_aload_n hx hb dX10_init_44 rfl (lv_at hl 0 rfl) ?_
  refine lv_bipush (v := 40) hx hb dX10_init_45 (by decide) ?_
  refine cx_newa (cs := cs) (atype := .long) (ty := .long) (a0 := (40, .inr (.inl (fun _ => 0)))) hx hb hB cw_170 rfl cx_ra_long 1 rfl hK hP hD hS hA (fun _ => rfl) (by decide) (by decide) (Nat.le_of_ble_eq_true rfl) (Nat.le_of_ble_eq_true rfl) (Nat.le_of_ble_eq_true rfl) dX10_init_47 (fun qa26 H hP hD hS => ?_)
  obtain ⟨kp27, E28, hP, hD, hT, hx30, hkqa26, heq, hnqa26⟩ := tw_abs (k := 102) hP hD hT (fun _ _ _ => ⟨by decide, rfl, rfl, trivial⟩)
  obtain ⟨L29, hL⟩ : ∃ z, z = L24 ++ [qa26] := ⟨_, rfl⟩
  have hmqa26 : qa26 ∈ L29 := by rw [hL]; simp
  rw [← hL] at hP hD hT hx30
  have hnqa26 : qa26 ∉ L0 := fun z => hnqa26 (hex _ z).1
  have hex : ∀ a : Nat, a ∈ L0 → a ∈ L29 ∧ kp27 a = kp0 a ∧ E28 a = E0 a := fun a h => ⟨(hx30 a (hex a h).1).1, ((hx30 a (hex a h).1).2.1).trans (hex a h).2.1, ((hx30 a (hex a h).1).2.2).trans (hex a h).2.2⟩
  have hvqa1 := (hx30 qa1 hmqa1).2
  have hmqa1 : qa1 ∈ L29 := (hx30 qa1 hmqa1).1
  have hkqa1 : kp27 qa1 = 110 := (hvqa1.1).trans hkqa1
  have hvqa6 := (hx30 qa6 hmqa6).2
  have hmqa6 : qa6 ∈ L29 := (hx30 qa6 hmqa6).1
  have hkqa6 : kp27 qa6 = 111 := (hvqa6.1).trans hkqa6
  have hvqa11 := (hx30 qa11 hmqa11).2
  have hmqa11 : qa11 ∈ L29 := (hx30 qa11 hmqa11).1
  have hkqa11 : kp27 qa11 = 112 := (hvqa11.1).trans hkqa11
  have hvqa16 := (hx30 qa16 hmqa16).2
  have hmqa16 : qa16 ∈ L29 := (hx30 qa16 hmqa16).1
  have hkqa16 : kp27 qa16 = 113 := (hvqa16.1).trans hkqa16
  have hvqa21 := (hx30 qa21 hmqa21).2
  have hmqa21 : qa21 ∈ L29 := (hx30 qa21 hmqa21).1
  have hkqa21 : kp27 qa21 = 114 := (hvqa21.1).trans hkqa21
  refine va_putF (D := D) (ci := 10) (v := .ref qa26) (ty := .array .long) (C := RX10) (T := TX10) (N := 8) hx hb hB cx_inX10 tyX10 tyX10_ok nmX10 hown hK hP hD hS 0 rfl rfl 6 (by decide) (hB _ cw_144) (fun _ h9 => h9) rfl hnm rfl (by decide +kernel) rfl rfl (Nat.le_of_ble_eq_true rfl) dX10_init_49 (fun H locs hP hD hS => ?_)
  have hP : va_P D vwCl ([(o, .inr (10, [.int 0, .ref qa1, .ref qa6, .ref qa11, .ref qa16, .ref qa21, .ref qa26, .null]))] ++ va_pl L29 E28) H := hP
  have hD : va_D A ([(o, .inr (10, [.int 0, .ref qa1, .ref qa6, .ref qa11, .ref qa16, .ref qa21, .ref qa26, .null]))] ++ va_pl L29 E28) := hD
  refine lv_aload_n hx hb dX10_init_52 rfl (lv_at hl 0 rfl) ?_
  refine lv_bipush (v := 40) hx hb dX10_init_53 (by decide) ?_
  refine cx_newa (cs := cs) (atype := .int) (ty := .int) (a0 := (40, .inl (fun _ => 0))) hx hb hB cw_59 rfl cx_ra_int 0 rfl hK hP hD hS hA (fun _ => rfl) (by decide) (by decide) (Nat.le_of_ble_eq_true rfl) (Nat.le_of_ble_eq_true rfl) (Nat.le_of_ble_eq_true rfl) dX10_init_55 (fun qa31 H hP hD hS => ?_)
  obtain ⟨kp32, E33, hP, hD, hT, hx35, hkqa31, heq, hnqa31⟩ := tw_abs (k := 115) hP hD hT (fun _ _ _ => ⟨by decide, rfl, rfl, (fun _ _ => (show ((-1) : Int) ≤ ((0 : Int32)).toInt ∧ ((0 : Int32)).toInt ≤ 11 from by decide))⟩)
  obtain ⟨L34, hL⟩ : ∃ z, z = L29 ++ [qa31] := ⟨_, rfl⟩
  have hmqa31 : qa31 ∈ L34 := by rw [hL]; simp
  rw [← hL] at hP hD hT hx35
  have hnqa31 : qa31 ∉ L0 := fun z => hnqa31 (hex _ z).1
  have hex : ∀ a : Nat, a ∈ L0 → a ∈ L34 ∧ kp32 a = kp0 a ∧ E33 a = E0 a := fun a h => ⟨(hx35 a (hex a h).1).1, ((hx35 a (hex a h).1).2.1).trans (hex a h).2.1, ((hx35 a (hex a h).1).2.2).trans (hex a h).2.2⟩
  have hvqa1 := (hx35 qa1 hmqa1).2
  have hmqa1 : qa1 ∈ L34 := (hx35 qa1 hmqa1).1
  have hkqa1 : kp32 qa1 = 110 := (hvqa1.1).trans hkqa1
  have hvqa6 := (hx35 qa6 hmqa6).2
  have hmqa6 : qa6 ∈ L34 := (hx35 qa6 hmqa6).1
  have hkqa6 : kp32 qa6 = 111 := (hvqa6.1).trans hkqa6
  have hvqa11 := (hx35 qa11 hmqa11).2
  have hmqa11 : qa11 ∈ L34 := (hx35 qa11 hmqa11).1
  have hkqa11 : kp32 qa11 = 112 := (hvqa11.1).trans hkqa11
  have hvqa16 := (hx35 qa16 hmqa16).2
  have hmqa16 : qa16 ∈ L34 := (hx35 qa16 hmqa16).1
  have hkqa16 : kp32 qa16 = 113 := (hvqa16.1).trans hkqa16
  have hvqa21 := (hx35 qa21 hmqa21).2
  have hmqa21 : qa21 ∈ L34 := (hx35 qa21 hmqa21).1
  have hkqa21 : kp32 qa21 = 114 := (hvqa21.1).trans hkqa21
  have hvqa26 := (hx35 qa26 hmqa26).2
  have hmqa26 : qa26 ∈ L34 := (hx35 qa26 hmqa26).1
  have hkqa26 : kp32 qa26 = 102 := (hvqa26.1).trans hkqa26
  refine va_putF (D := D) (ci := 10) (v := .ref qa31) (ty := .array .int) (C := RX10) (T := TX10) (N := 8) hx hb hB cx_inX10 tyX10 tyX10_ok nmX10 hown hK hP hD hS 0 rfl rfl 7 (by decide) (hB _ cw_150) (fun _ h9 => h9) rfl hnm rfl (by decide +kernel) rfl rfl (Nat.le_of_ble_eq_true rfl) dX10_init_57 (fun H locs hP hD hS => ?_)
  have hP : va_P D vwCl ([(o, .inr (10, [.int 0, .ref qa1, .ref qa6, .ref qa11, .ref qa16, .ref qa21, .ref qa26, .ref qa31]))] ++ va_pl L34 E33) H := hP
  have hD : va_D A ([(o, .inr (10, [.int 0, .ref qa1, .ref qa6, .ref qa11, .ref qa16, .ref qa21, .ref qa26, .ref qa31]))] ++ va_pl L34 E33) := hD
  have hf : ∀ (j : Nat) (v : Value), [(.int 0 : Value), (.ref qa1 : Value), (.ref qa6 : Value), (.ref qa11 : Value), (.ref qa16 : Value), (.ref qa21 : Value), (.ref qa26 : Value), (.ref qa31 : Value)][j]? = some v → tw_V kp32 L34 (tw_FT 10 j) v := by
    intro j v hj
    match j, hj with
    | 0, hj => cases hj; exact ⟨0, rfl, (show (0 : Int) ≤ ((0 : Int32)).toInt from by decide), (show ((0 : Int32)).toInt ≤ (40 : Int) from by decide)⟩
    | 1, hj => cases hj; exact ⟨qa1, rfl, hmqa1, hkqa1⟩
    | 2, hj => cases hj; exact ⟨qa6, rfl, hmqa6, hkqa6⟩
    | 3, hj => cases hj; exact ⟨qa11, rfl, hmqa11, hkqa11⟩
    | 4, hj => cases hj; exact ⟨qa16, rfl, hmqa16, hkqa16⟩
    | 5, hj => cases hj; exact ⟨qa21, rfl, hmqa21, hkqa21⟩
    | 6, hj => cases hj; exact ⟨qa26, rfl, hmqa26, hkqa26⟩
    | 7, hj => cases hj; exact ⟨qa31, rfl, hmqa31, hkqa31⟩
    | k + 8, hj => simp at hj
  have hnw : ∀ v ∈ [(.int 0 : Value), (.ref qa1 : Value), (.ref qa6 : Value), (.ref qa11 : Value), (.ref qa16 : Value), (.ref qa21 : Value), (.ref qa26 : Value), (.ref qa31 : Value)], match v with | .ref b => b ∉ L0 | .int x => x = 0 | _ => True := by
    intro v hv
    simp only [List.mem_cons, List.not_mem_nil, or_false] at hv
    rcases hv with rfl | rfl | rfl | rfl | rfl | rfl | rfl | rfl
    · exact rfl
    · exact hnqa1
    · exact hnqa6
    · exact hnqa11
    · exact hnqa16
    · exact hnqa21
    · exact hnqa26
    · exact hnqa31
  exact tw_Iret hx hb hr hlocks hP hD hT hS hex (by decide) rfl hf (fun hno E1 he1 hes => nw_ok_of he1 hnw) (Nat.le_of_ble_eq_true rfl) (Nat.le_of_ble_eq_true rfl) dX10_init_60
set_option maxHeartbeats 4000000 in
set_option maxRecDepth 100000 in
theorem tI_X9 (l : Launch) (D : va_G) (cs : Nat → ClassId) {kp : Nat → Nat} {L : List Nat} {E : Nat → va_E} (o : Nat) (sz : Nat) : Met l yX9_init (.code yX9_init cX9_init 1 none :: cx_big) { frames := 1, cells := 1, slots := 500, locals := 12 } (tw_Pi D cs kp L E (o, .inr (9, [.null, .int 0, .int 0, .int 0, .int 0])) sz) (tw_Qi D cs kp L E o 9 (fun L1 E1 => nw_ok L o E1) (va_A ([(o, .inr (9, [.null, .int 0, .int 0, .int 0, .int 0]))] ++ va_pl L E) sz)) 1 500 (va_A ([(o, .inr (9, [.null, .int 0, .int 0, .int 0, .int 0]))] ++ va_pl L E) sz) := by
  refine tw_Iof (X := (o, .inr (9, [.null, .int 0, .int 0, .int 0, .int 0]))) (ci := 9) (by decide) (Nat.le_of_ble_eq_true rfl) ?_
  intro p e s m below meth c A ls hx hb hr hml hB hown hlocks hnm hK hN hA hP hD hT hS hl
  have hown : s.vm.findClass "TreeMerge$Text" = some m.cls := hown
  have hnm : meth.name = "<init>" := hnm
  have hl : lv_has ls 1 [(0, .ref o)] := hl
  obtain ⟨L0, eL⟩ : ∃ z, z = L := ⟨_, rfl⟩
  obtain ⟨kp0, ekp⟩ : ∃ z, z = kp := ⟨_, rfl⟩
  obtain ⟨E0, eE⟩ : ∃ z, z = E := ⟨_, rfl⟩
  show W p l e { frames := 1, cells := 1, slots := 500, locals := 12 } s m [.ref o].toArray below meth c s.heap [] 0 0 (MQ below (tw_Qi D cs kp L E o 9 (fun L1 E1 => nw_ok L o E1) A) [.ref o].toArray s 1 500 A) (F0 m 0 ls [])
  rw [show tw_Qi D cs kp L E o 9 (fun L1 E1 => nw_ok L o E1) = tw_Qi D cs kp0 L0 E0 o 9 (fun L1 E1 => nw_ok L0 o E1) by rw [ekp, eL, eE]]
  have hex : ∀ a : Nat, a ∈ L0 → a ∈ L ∧ kp a = kp0 a ∧ E a = E0 a := fun a h => ⟨by rw [← eL]; exact h, by rw [ekp], by rw [eE]⟩
  refine lv_aload_n hx hb dX9_init_0 rfl (lv_at hl 0 rfl) ?_
  refine W.objInit hx hb hown (hB _ cw_33) (hB _ cw_26) (hB _ cw_27) rfl (by rw [hml]; exact hl.1) rfl dX9_init_1 (Nat.le_of_ble_eq_true rfl) (Nat.le_of_ble_eq_true rfl) ?_
  refine W.eq (g2 := F0 m 4 ls []) rfl ?_
  refine lv_aload_n hx hb dX9_init_4 rfl (lv_at hl 0 rfl) ?_
  refine lv_sipush (v := 500) hx hb dX9_init_5 (by decide) ?_
  refine cx_newa (cs := cs) (atype := .int) (ty := .int) (a0 := (500, .inl (fun _ => 0))) hx hb hB cw_59 rfl cx_ra_int 0 rfl hK hP hD hS hA (fun _ => rfl) (by decide) (by decide) (Nat.le_of_ble_eq_true rfl) (Nat.le_of_ble_eq_true rfl) (Nat.le_of_ble_eq_true rfl) dX9_init_8 (fun qa1 H hP hD hS => ?_)
  obtain ⟨kp2, E3, hP, hD, hT, hx5, hkqa1, heq, hnqa1⟩ := tw_abs (k := 100) hP hD hT (fun _ _ _ => ⟨by decide, rfl, rfl, (fun _ _ => (show (0 : Int) ≤ ((0 : Int32)).toInt ∧ ((0 : Int32)).toInt ≤ 255 from by decide))⟩)
  obtain ⟨L4, hL⟩ : ∃ z, z = L ++ [qa1] := ⟨_, rfl⟩
  have hmqa1 : qa1 ∈ L4 := by rw [hL]; simp
  rw [← hL] at hP hD hT hx5
  have hnqa1 : qa1 ∉ L0 := fun z => hnqa1 (hex _ z).1
  have hex : ∀ a : Nat, a ∈ L0 → a ∈ L4 ∧ kp2 a = kp0 a ∧ E3 a = E0 a := fun a h => ⟨(hx5 a (hex a h).1).1, ((hx5 a (hex a h).1).2.1).trans (hex a h).2.1, ((hx5 a (hex a h).1).2.2).trans (hex a h).2.2⟩
  refine va_putF (D := D) (ci := 9) (v := .ref qa1) (ty := .array .int) (C := RX9) (T := TX9) (N := 5) hx hb hB cx_inX9 tyX9 tyX9_ok nmX9 hown hK hP hD hS 0 rfl rfl 0 (by decide) (hB _ cw_34) (fun _ h9 => h9) rfl hnm rfl (by decide +kernel) rfl rfl (Nat.le_of_ble_eq_true rfl) dX9_init_10 (fun H locs hP hD hS => ?_)
  have hP : va_P D vwCl ([(o, .inr (9, [.ref qa1, .int 0, .int 0, .int 0, .int 0]))] ++ va_pl L4 E3) H := hP
  have hD : va_D A ([(o, .inr (9, [.ref qa1, .int 0, .int 0, .int 0, .int 0]))] ++ va_pl L4 E3) := hD
  have hf : ∀ (j : Nat) (v : Value), [(.ref qa1 : Value), (.int 0 : Value), (.int 0 : Value), (.int 0 : Value), (.int 0 : Value)][j]? = some v → tw_V kp2 L4 (tw_FT 9 j) v := by
    intro j v hj
    match j, hj with
    | 0, hj => cases hj; exact ⟨qa1, rfl, hmqa1, hkqa1⟩
    | 1, hj => cases hj; exact ⟨0, rfl, (show (0 : Int) ≤ ((0 : Int32)).toInt from by decide), (show ((0 : Int32)).toInt ≤ (500 : Int) from by decide)⟩
    | 2, hj => cases hj; exact ⟨0, rfl, (show (0 : Int) ≤ ((0 : Int32)).toInt from by decide), (show ((0 : Int32)).toInt ≤ (255 : Int) from by decide)⟩
    | 3, hj => cases hj; exact ⟨0, rfl, (show (0 : Int) ≤ ((0 : Int32)).toInt from by decide), (show ((0 : Int32)).toInt ≤ (500 : Int) from by decide)⟩
    | 4, hj => cases hj; exact ⟨0, rfl, (show (0 : Int) ≤ ((0 : Int32)).toInt from by decide), (show ((0 : Int32)).toInt ≤ (500 : Int) from by decide)⟩
    | k + 5, hj => simp at hj
  have hnw : ∀ v ∈ [(.ref qa1 : Value), (.int 0 : Value), (.int 0 : Value), (.int 0 : Value), (.int 0 : Value)], match v with | .ref b => b ∉ L0 | .int x => x = 0 | _ => True := by
    intro v hv
    simp only [List.mem_cons, List.not_mem_nil, or_false] at hv
    rcases hv with rfl | rfl | rfl | rfl | rfl
    · exact hnqa1
    · exact rfl
    · exact rfl
    · exact rfl
    · exact rfl
  exact tw_Iret hx hb hr hlocks hP hD hT hS hex (by decide) rfl hf (fun hno E1 he1 hes => nw_ok_of he1 hnw) (Nat.le_of_ble_eq_true rfl) (Nat.le_of_ble_eq_true rfl) dX9_init_13
set_option maxHeartbeats 4000000 in
set_option maxRecDepth 100000 in
theorem tI_X2 (l : Launch) (D : va_G) (cs : Nat → ClassId) {kp : Nat → Nat} {L : List Nat} {E : Nat → va_E} (o : Nat) (sz : Nat) : Met l yX2_init (.code yX2_init cX2_init 1 none :: cx_big) { frames := 1, cells := 11, slots := 3051, locals := 12 } (tw_Pi D cs kp L E (o, .inr (2, [.null, .int 0, .null, .null, .null, .null, .null, .int 0, .null, .null, .null, .null, .null])) sz) (tw_Qi D cs kp L E o 2 (fun L1 E1 => nw_ok L o E1) (va_A ([(o, .inr (2, [.null, .int 0, .null, .null, .null, .null, .null, .int 0, .null, .null, .null, .null, .null]))] ++ va_pl L E) sz)) 11 3051 (va_A ([(o, .inr (2, [.null, .int 0, .null, .null, .null, .null, .null, .int 0, .null, .null, .null, .null, .null]))] ++ va_pl L E) sz) := by
  refine tw_Iof (X := (o, .inr (2, [.null, .int 0, .null, .null, .null, .null, .null, .int 0, .null, .null, .null, .null, .null]))) (ci := 2) (by decide) (Nat.le_of_ble_eq_true rfl) ?_
  intro p e s m below meth c A ls hx hb hr hml hB hown hlocks hnm hK hN hA hP hD hT hS hl
  have hown : s.vm.findClass "TreeMerge$Grammar" = some m.cls := hown
  have hnm : meth.name = "<init>" := hnm
  have hl : lv_has ls 1 [(0, .ref o)] := hl
  obtain ⟨L0, eL⟩ : ∃ z, z = L := ⟨_, rfl⟩
  obtain ⟨kp0, ekp⟩ : ∃ z, z = kp := ⟨_, rfl⟩
  obtain ⟨E0, eE⟩ : ∃ z, z = E := ⟨_, rfl⟩
  show W p l e { frames := 1, cells := 11, slots := 3051, locals := 12 } s m [.ref o].toArray below meth c s.heap [] 0 0 (MQ below (tw_Qi D cs kp L E o 2 (fun L1 E1 => nw_ok L o E1) A) [.ref o].toArray s 11 3051 A) (F0 m 0 ls [])
  rw [show tw_Qi D cs kp L E o 2 (fun L1 E1 => nw_ok L o E1) = tw_Qi D cs kp0 L0 E0 o 2 (fun L1 E1 => nw_ok L0 o E1) by rw [ekp, eL, eE]]
  have hex : ∀ a : Nat, a ∈ L0 → a ∈ L ∧ kp a = kp0 a ∧ E a = E0 a := fun a h => ⟨by rw [← eL]; exact h, by rw [ekp], by rw [eE]⟩
  refine lv_aload_n hx hb dX2_init_0 rfl (lv_at hl 0 rfl) ?_
  refine W.objInit hx hb hown (hB _ cw_65) (hB _ cw_26) (hB _ cw_27) rfl (by rw [hml]; exact hl.1) rfl dX2_init_1 (Nat.le_of_ble_eq_true rfl) (Nat.le_of_ble_eq_true rfl) ?_
  refine W.eq (g2 := F0 m 4 ls []) rfl ?_
  refine lv_aload_n hx hb dX2_init_4 rfl (lv_at hl 0 rfl) ?_
  refine lv_sipush (v := 500) hx hb dX2_init_5 (by decide) ?_
  refine cx_newa (cs := cs) (atype := .int) (ty := .int) (a0 := (500, .inl (fun _ => 0))) hx hb hB cw_59 rfl cx_ra_int 0 rfl hK hP hD hS hA (fun _ => rfl) (by decide) (by decide) (Nat.le_of_ble_eq_true rfl) (Nat.le_of_ble_eq_true rfl) (Nat.le_of_ble_eq_true rfl) dX2_init_8 (fun qa1 H hP hD hS => ?_)
  obtain ⟨kp2, E3, hP, hD, hT, hx5, hkqa1, heq, hnqa1⟩ := tw_abs (k := 100) hP hD hT (fun _ _ _ => ⟨by decide, rfl, rfl, (fun _ _ => (show (0 : Int) ≤ ((0 : Int32)).toInt ∧ ((0 : Int32)).toInt ≤ 255 from by decide))⟩)
  obtain ⟨L4, hL⟩ : ∃ z, z = L ++ [qa1] := ⟨_, rfl⟩
  have hmqa1 : qa1 ∈ L4 := by rw [hL]; simp
  rw [← hL] at hP hD hT hx5
  have hnqa1 : qa1 ∉ L0 := fun z => hnqa1 (hex _ z).1
  have hex : ∀ a : Nat, a ∈ L0 → a ∈ L4 ∧ kp2 a = kp0 a ∧ E3 a = E0 a := fun a h => ⟨(hx5 a (hex a h).1).1, ((hx5 a (hex a h).1).2.1).trans (hex a h).2.1, ((hx5 a (hex a h).1).2.2).trans (hex a h).2.2⟩
  refine va_putF (D := D) (ci := 2) (v := .ref qa1) (ty := .array .int) (C := RX2) (T := TX2) (N := 13) hx hb hB cx_inX2 tyX2 tyX2_ok nmX2 hown hK hP hD hS 0 rfl rfl 0 (by decide) (hB _ cw_66) (fun _ h9 => h9) rfl hnm rfl (by decide +kernel) rfl rfl (Nat.le_of_ble_eq_true rfl) dX2_init_10 (fun H locs hP hD hS => ?_)
  have hP : va_P D vwCl ([(o, .inr (2, [.ref qa1, .int 0, .null, .null, .null, .null, .null, .int 0, .null, .null, .null, .null, .null]))] ++ va_pl L4 E3) H := hP
  have hD : va_D A ([(o, .inr (2, [.ref qa1, .int 0, .null, .null, .null, .null, .null, .int 0, .null, .null, .null, .null, .null]))] ++ va_pl L4 E3) := hD
  refine lv_aload_n hx hb dX2_init_13 rfl (lv_at hl 0 rfl) ?_
  refine lv_bipush (v := 10) hx hb dX2_init_14 (by decide) ?_
  refine cx_newa (cs := cs) (atype := .int) (ty := .int) (a0 := (10, .inl (fun _ => 0))) hx hb hB cw_59 rfl cx_ra_int 0 rfl hK hP hD hS hA (fun _ => rfl) (by decide) (by decide) (Nat.le_of_ble_eq_true rfl) (Nat.le_of_ble_eq_true rfl) (Nat.le_of_ble_eq_true rfl) dX2_init_16 (fun qa6 H hP hD hS => ?_)
  obtain ⟨kp7, E8, hP, hD, hT, hx10, hkqa6, heq, hnqa6⟩ := tw_abs (k := 130) hP hD hT (fun _ _ _ => ⟨by decide, rfl, rfl, (fun _ _ => (show (0 : Int) ≤ ((0 : Int32)).toInt ∧ ((0 : Int32)).toInt ≤ 500 from by decide))⟩)
  obtain ⟨L9, hL⟩ : ∃ z, z = L4 ++ [qa6] := ⟨_, rfl⟩
  have hmqa6 : qa6 ∈ L9 := by rw [hL]; simp
  rw [← hL] at hP hD hT hx10
  have hnqa6 : qa6 ∉ L0 := fun z => hnqa6 (hex _ z).1
  have hex : ∀ a : Nat, a ∈ L0 → a ∈ L9 ∧ kp7 a = kp0 a ∧ E8 a = E0 a := fun a h => ⟨(hx10 a (hex a h).1).1, ((hx10 a (hex a h).1).2.1).trans (hex a h).2.1, ((hx10 a (hex a h).1).2.2).trans (hex a h).2.2⟩
  have hvqa1 := (hx10 qa1 hmqa1).2
  have hmqa1 : qa1 ∈ L9 := (hx10 qa1 hmqa1).1
  have hkqa1 : kp7 qa1 = 100 := (hvqa1.1).trans hkqa1
  refine va_putF (D := D) (ci := 2) (v := .ref qa6) (ty := .array .int) (C := RX2) (T := TX2) (N := 13) hx hb hB cx_inX2 tyX2 tyX2_ok nmX2 hown hK hP hD hS 0 rfl rfl 2 (by decide) (hB _ cw_70) (fun _ h9 => h9) rfl hnm rfl (by decide +kernel) rfl rfl (Nat.le_of_ble_eq_true rfl) dX2_init_18 (fun H locs hP hD hS => ?_)
  have hP : va_P D vwCl ([(o, .inr (2, [.ref qa1, .int 0, .ref qa6, .null, .null, .null, .null, .int 0, .null, .null, .null, .null, .null]))] ++ va_pl L9 E8) H := hP
  have hD : va_D A ([(o, .inr (2, [.ref qa1, .int 0, .ref qa6, .null, .null, .null, .null, .int 0, .null, .null, .null, .null, .null]))] ++ va_pl L9 E8) := hD
  refine lv_aload_n hx hb dX2_init_21 rfl (lv_at hl 0 rfl) ?_
  refine lv_bipush (v := 10) hx hb dX2_init_22 (by decide) ?_
  refine cx_newa (cs := cs) (atype := .int) (ty := .int) (a0 := (10, .inl (fun _ => 0))) hx hb hB cw_59 rfl cx_ra_int 0 rfl hK hP hD hS hA (fun _ => rfl) (by decide) (by decide) (Nat.le_of_ble_eq_true rfl) (Nat.le_of_ble_eq_true rfl) (Nat.le_of_ble_eq_true rfl) dX2_init_24 (fun qa11 H hP hD hS => ?_)
  obtain ⟨kp12, E13, hP, hD, hT, hx15, hkqa11, heq, hnqa11⟩ := tw_abs (k := 137) hP hD hT (fun _ _ _ => ⟨by decide, rfl, rfl, (fun _ _ => (show (0 : Int) ≤ ((0 : Int32)).toInt ∧ ((0 : Int32)).toInt ≤ 500 from by decide))⟩)
  obtain ⟨L14, hL⟩ : ∃ z, z = L9 ++ [qa11] := ⟨_, rfl⟩
  have hmqa11 : qa11 ∈ L14 := by rw [hL]; simp
  rw [← hL] at hP hD hT hx15
  have hnqa11 : qa11 ∉ L0 := fun z => hnqa11 (hex _ z).1
  have hex : ∀ a : Nat, a ∈ L0 → a ∈ L14 ∧ kp12 a = kp0 a ∧ E13 a = E0 a := fun a h => ⟨(hx15 a (hex a h).1).1, ((hx15 a (hex a h).1).2.1).trans (hex a h).2.1, ((hx15 a (hex a h).1).2.2).trans (hex a h).2.2⟩
  have hvqa1 := (hx15 qa1 hmqa1).2
  have hmqa1 : qa1 ∈ L14 := (hx15 qa1 hmqa1).1
  have hkqa1 : kp12 qa1 = 100 := (hvqa1.1).trans hkqa1
  have hvqa6 := (hx15 qa6 hmqa6).2
  have hmqa6 : qa6 ∈ L14 := (hx15 qa6 hmqa6).1
  have hkqa6 : kp12 qa6 = 130 := (hvqa6.1).trans hkqa6
  refine va_putF (D := D) (ci := 2) (v := .ref qa11) (ty := .array .int) (C := RX2) (T := TX2) (N := 13) hx hb hB cx_inX2 tyX2 tyX2_ok nmX2 hown hK hP hD hS 0 rfl rfl 3 (by decide) (hB _ cw_72) (fun _ h9 => h9) rfl hnm rfl (by decide +kernel) rfl rfl (Nat.le_of_ble_eq_true rfl) dX2_init_26 (fun H locs hP hD hS => ?_)
  have hP : va_P D vwCl ([(o, .inr (2, [.ref qa1, .int 0, .ref qa6, .ref qa11, .null, .null, .null, .int 0, .null, .null, .null, .null, .null]))] ++ va_pl L14 E13) H := hP
  have hD : va_D A ([(o, .inr (2, [.ref qa1, .int 0, .ref qa6, .ref qa11, .null, .null, .null, .int 0, .null, .null, .null, .null, .null]))] ++ va_pl L14 E13) := hD
  refine lv_aload_n hx hb dX2_init_29 rfl (lv_at hl 0 rfl) ?_
  refine lv_bipush (v := 10) hx hb dX2_init_30 (by decide) ?_
  refine cx_newa (cs := cs) (atype := .int) (ty := .int) (a0 := (10, .inl (fun _ => 0))) hx hb hB cw_59 rfl cx_ra_int 0 rfl hK hP hD hS hA (fun _ => rfl) (by decide) (by decide) (Nat.le_of_ble_eq_true rfl) (Nat.le_of_ble_eq_true rfl) (Nat.le_of_ble_eq_true rfl) dX2_init_32 (fun qa16 H hP hD hS => ?_)
  obtain ⟨kp17, E18, hP, hD, hT, hx20, hkqa16, heq, hnqa16⟩ := tw_abs (k := 131) hP hD hT (fun _ _ _ => ⟨by decide, rfl, rfl, (fun _ _ => (show (0 : Int) ≤ ((0 : Int32)).toInt ∧ ((0 : Int32)).toInt ≤ 255 from by decide))⟩)
  obtain ⟨L19, hL⟩ : ∃ z, z = L14 ++ [qa16] := ⟨_, rfl⟩
  have hmqa16 : qa16 ∈ L19 := by rw [hL]; simp
  rw [← hL] at hP hD hT hx20
  have hnqa16 : qa16 ∉ L0 := fun z => hnqa16 (hex _ z).1
  have hex : ∀ a : Nat, a ∈ L0 → a ∈ L19 ∧ kp17 a = kp0 a ∧ E18 a = E0 a := fun a h => ⟨(hx20 a (hex a h).1).1, ((hx20 a (hex a h).1).2.1).trans (hex a h).2.1, ((hx20 a (hex a h).1).2.2).trans (hex a h).2.2⟩
  have hvqa1 := (hx20 qa1 hmqa1).2
  have hmqa1 : qa1 ∈ L19 := (hx20 qa1 hmqa1).1
  have hkqa1 : kp17 qa1 = 100 := (hvqa1.1).trans hkqa1
  have hvqa6 := (hx20 qa6 hmqa6).2
  have hmqa6 : qa6 ∈ L19 := (hx20 qa6 hmqa6).1
  have hkqa6 : kp17 qa6 = 130 := (hvqa6.1).trans hkqa6
  have hvqa11 := (hx20 qa11 hmqa11).2
  have hmqa11 : qa11 ∈ L19 := (hx20 qa11 hmqa11).1
  have hkqa11 : kp17 qa11 = 137 := (hvqa11.1).trans hkqa11
  refine va_putF (D := D) (ci := 2) (v := .ref qa16) (ty := .array .int) (C := RX2) (T := TX2) (N := 13) hx hb hB cx_inX2 tyX2 tyX2_ok nmX2 hown hK hP hD hS 0 rfl rfl 4 (by decide) (hB _ cw_74) (fun _ h9 => h9) rfl hnm rfl (by decide +kernel) rfl rfl (Nat.le_of_ble_eq_true rfl) dX2_init_34 (fun H locs hP hD hS => ?_)
  have hP : va_P D vwCl ([(o, .inr (2, [.ref qa1, .int 0, .ref qa6, .ref qa11, .ref qa16, .null, .null, .int 0, .null, .null, .null, .null, .null]))] ++ va_pl L19 E18) H := hP
  have hD : va_D A ([(o, .inr (2, [.ref qa1, .int 0, .ref qa6, .ref qa11, .ref qa16, .null, .null, .int 0, .null, .null, .null, .null, .null]))] ++ va_pl L19 E18) := hD
  refine lv_aload_n hx hb dX2_init_37 rfl (lv_at hl 0 rfl) ?_
  refine lv_bipush (v := 10) hx hb dX2_init_38 (by decide) ?_
  refine cx_newa (cs := cs) (atype := .int) (ty := .int) (a0 := (10, .inl (fun _ => 0))) hx hb hB cw_59 rfl cx_ra_int 0 rfl hK hP hD hS hA (fun _ => rfl) (by decide) (by decide) (Nat.le_of_ble_eq_true rfl) (Nat.le_of_ble_eq_true rfl) (Nat.le_of_ble_eq_true rfl) dX2_init_40 (fun qa21 H hP hD hS => ?_)
  obtain ⟨kp22, E23, hP, hD, hT, hx25, hkqa21, heq, hnqa21⟩ := tw_abs (k := 136) hP hD hT (fun _ _ _ => ⟨by decide, rfl, rfl, (fun _ _ => (show (0 : Int) ≤ ((0 : Int32)).toInt ∧ ((0 : Int32)).toInt ≤ 500 from by decide))⟩)
  obtain ⟨L24, hL⟩ : ∃ z, z = L19 ++ [qa21] := ⟨_, rfl⟩
  have hmqa21 : qa21 ∈ L24 := by rw [hL]; simp
  rw [← hL] at hP hD hT hx25
  have hnqa21 : qa21 ∉ L0 := fun z => hnqa21 (hex _ z).1
  have hex : ∀ a : Nat, a ∈ L0 → a ∈ L24 ∧ kp22 a = kp0 a ∧ E23 a = E0 a := fun a h => ⟨(hx25 a (hex a h).1).1, ((hx25 a (hex a h).1).2.1).trans (hex a h).2.1, ((hx25 a (hex a h).1).2.2).trans (hex a h).2.2⟩
  have hvqa1 := (hx25 qa1 hmqa1).2
  have hmqa1 : qa1 ∈ L24 := (hx25 qa1 hmqa1).1
  have hkqa1 : kp22 qa1 = 100 := (hvqa1.1).trans hkqa1
  have hvqa6 := (hx25 qa6 hmqa6).2
  have hmqa6 : qa6 ∈ L24 := (hx25 qa6 hmqa6).1
  have hkqa6 : kp22 qa6 = 130 := (hvqa6.1).trans hkqa6
  have hvqa11 := (hx25 qa11 hmqa11).2
  have hmqa11 : qa11 ∈ L24 := (hx25 qa11 hmqa11).1
  have hkqa11 : kp22 qa11 = 137 := (hvqa11.1).trans hkqa11
  have hvqa16 := (hx25 qa16 hmqa16).2
  have hmqa16 : qa16 ∈ L24 := (hx25 qa16 hmqa16).1
  have hkqa16 : kp22 qa16 = 131 := (hvqa16.1).trans hkqa16
  refine va_putF (D := D) (ci := 2) (v := .ref qa21) (ty := .array .int) (C := RX2) (T := TX2) (N := 13) hx hb hB cx_inX2 tyX2 tyX2_ok nmX2 hown hK hP hD hS 0 rfl rfl 5 (by decide) (hB _ cw_75) (fun _ h9 => h9) rfl hnm rfl (by decide +kernel) rfl rfl (Nat.le_of_ble_eq_true rfl) dX2_init_42 (fun H locs hP hD hS => ?_)
  have hP : va_P D vwCl ([(o, .inr (2, [.ref qa1, .int 0, .ref qa6, .ref qa11, .ref qa16, .ref qa21, .null, .int 0, .null, .null, .null, .null, .null]))] ++ va_pl L24 E23) H := hP
  have hD : va_D A ([(o, .inr (2, [.ref qa1, .int 0, .ref qa6, .ref qa11, .ref qa16, .ref qa21, .null, .int 0, .null, .null, .null, .null, .null]))] ++ va_pl L24 E23) := hD
  refine lv_aload_n hx hb dX2_init_45 rfl (lv_at hl 0 rfl) ?_
  refine lv_bipush (v := 10) hx hb dX2_init_46 (by decide) ?_
  refine cx_newa (cs := cs) (atype := .int) (ty := .int) (a0 := (10, .inl (fun _ => 0))) hx hb hB cw_59 rfl cx_ra_int 0 rfl hK hP hD hS hA (fun _ => rfl) (by decide) (by decide) (Nat.le_of_ble_eq_true rfl) (Nat.le_of_ble_eq_true rfl) (Nat.le_of_ble_eq_true rfl) dX2_init_48 (fun qa26 H hP hD hS => ?_)
  obtain ⟨kp27, E28, hP, hD, hT, hx30, hkqa26, heq, hnqa26⟩ := tw_abs (k := 138) hP hD hT (fun _ _ _ => ⟨by decide, rfl, rfl, (fun _ _ => (show (0 : Int) ≤ ((0 : Int32)).toInt ∧ ((0 : Int32)).toInt ≤ 500 from by decide))⟩)
  obtain ⟨L29, hL⟩ : ∃ z, z = L24 ++ [qa26] := ⟨_, rfl⟩
  have hmqa26 : qa26 ∈ L29 := by rw [hL]; simp
  rw [← hL] at hP hD hT hx30
  have hnqa26 : qa26 ∉ L0 := fun z => hnqa26 (hex _ z).1
  have hex : ∀ a : Nat, a ∈ L0 → a ∈ L29 ∧ kp27 a = kp0 a ∧ E28 a = E0 a := fun a h => ⟨(hx30 a (hex a h).1).1, ((hx30 a (hex a h).1).2.1).trans (hex a h).2.1, ((hx30 a (hex a h).1).2.2).trans (hex a h).2.2⟩
  have hvqa1 := (hx30 qa1 hmqa1).2
  have hmqa1 : qa1 ∈ L29 := (hx30 qa1 hmqa1).1
  have hkqa1 : kp27 qa1 = 100 := (hvqa1.1).trans hkqa1
  have hvqa6 := (hx30 qa6 hmqa6).2
  have hmqa6 : qa6 ∈ L29 := (hx30 qa6 hmqa6).1
  have hkqa6 : kp27 qa6 = 130 := (hvqa6.1).trans hkqa6
  have hvqa11 := (hx30 qa11 hmqa11).2
  have hmqa11 : qa11 ∈ L29 := (hx30 qa11 hmqa11).1
  have hkqa11 : kp27 qa11 = 137 := (hvqa11.1).trans hkqa11
  have hvqa16 := (hx30 qa16 hmqa16).2
  have hmqa16 : qa16 ∈ L29 := (hx30 qa16 hmqa16).1
  have hkqa16 : kp27 qa16 = 131 := (hvqa16.1).trans hkqa16
  have hvqa21 := (hx30 qa21 hmqa21).2
  have hmqa21 : qa21 ∈ L29 := (hx30 qa21 hmqa21).1
  have hkqa21 : kp27 qa21 = 136 := (hvqa21.1).trans hkqa21
  refine va_putF (D := D) (ci := 2) (v := .ref qa26) (ty := .array .int) (C := RX2) (T := TX2) (N := 13) hx hb hB cx_inX2 tyX2 tyX2_ok nmX2 hown hK hP hD hS 0 rfl rfl 6 (by decide) (hB _ cw_76) (fun _ h9 => h9) rfl hnm rfl (by decide +kernel) rfl rfl (Nat.le_of_ble_eq_true rfl) dX2_init_50 (fun H locs hP hD hS => ?_)
  have hP : va_P D vwCl ([(o, .inr (2, [.ref qa1, .int 0, .ref qa6, .ref qa11, .ref qa16, .ref qa21, .ref qa26, .int 0, .null, .null, .null, .null, .null]))] ++ va_pl L29 E28) H := hP
  have hD : va_D A ([(o, .inr (2, [.ref qa1, .int 0, .ref qa6, .ref qa11, .ref qa16, .ref qa21, .ref qa26, .int 0, .null, .null, .null, .null, .null]))] ++ va_pl L29 E28) := hD
  refine lv_aload_n hx hb dX2_init_53 rfl (lv_at hl 0 rfl) ?_
  refine lv_sipush (v := 500) hx hb dX2_init_54 (by decide) ?_
  refine cx_newa (cs := cs) (atype := .int) (ty := .int) (a0 := (500, .inl (fun _ => 0))) hx hb hB cw_59 rfl cx_ra_int 0 rfl hK hP hD hS hA (fun _ => rfl) (by decide) (by decide) (Nat.le_of_ble_eq_true rfl) (Nat.le_of_ble_eq_true rfl) (Nat.le_of_ble_eq_true rfl) dX2_init_57 (fun qa31 H hP hD hS => ?_)
  obtain ⟨kp32, E33, hP, hD, hT, hx35, hkqa31, heq, hnqa31⟩ := tw_abs (k := 132) hP hD hT (fun _ _ _ => ⟨by decide, rfl, rfl, (fun _ _ => (show (0 : Int) ≤ ((0 : Int32)).toInt ∧ ((0 : Int32)).toInt ≤ 500 from by decide))⟩)
  obtain ⟨L34, hL⟩ : ∃ z, z = L29 ++ [qa31] := ⟨_, rfl⟩
  have hmqa31 : qa31 ∈ L34 := by rw [hL]; simp
  rw [← hL] at hP hD hT hx35
  have hnqa31 : qa31 ∉ L0 := fun z => hnqa31 (hex _ z).1
  have hex : ∀ a : Nat, a ∈ L0 → a ∈ L34 ∧ kp32 a = kp0 a ∧ E33 a = E0 a := fun a h => ⟨(hx35 a (hex a h).1).1, ((hx35 a (hex a h).1).2.1).trans (hex a h).2.1, ((hx35 a (hex a h).1).2.2).trans (hex a h).2.2⟩
  have hvqa1 := (hx35 qa1 hmqa1).2
  have hmqa1 : qa1 ∈ L34 := (hx35 qa1 hmqa1).1
  have hkqa1 : kp32 qa1 = 100 := (hvqa1.1).trans hkqa1
  have hvqa6 := (hx35 qa6 hmqa6).2
  have hmqa6 : qa6 ∈ L34 := (hx35 qa6 hmqa6).1
  have hkqa6 : kp32 qa6 = 130 := (hvqa6.1).trans hkqa6
  have hvqa11 := (hx35 qa11 hmqa11).2
  have hmqa11 : qa11 ∈ L34 := (hx35 qa11 hmqa11).1
  have hkqa11 : kp32 qa11 = 137 := (hvqa11.1).trans hkqa11
  have hvqa16 := (hx35 qa16 hmqa16).2
  have hmqa16 : qa16 ∈ L34 := (hx35 qa16 hmqa16).1
  have hkqa16 : kp32 qa16 = 131 := (hvqa16.1).trans hkqa16
  have hvqa21 := (hx35 qa21 hmqa21).2
  have hmqa21 : qa21 ∈ L34 := (hx35 qa21 hmqa21).1
  have hkqa21 : kp32 qa21 = 136 := (hvqa21.1).trans hkqa21
  have hvqa26 := (hx35 qa26 hmqa26).2
  have hmqa26 : qa26 ∈ L34 := (hx35 qa26 hmqa26).1
  have hkqa26 : kp32 qa26 = 138 := (hvqa26.1).trans hkqa26
  refine va_putF (D := D) (ci := 2) (v := .ref qa31) (ty := .array .int) (C := RX2) (T := TX2) (N := 13) hx hb hB cx_inX2 tyX2 tyX2_ok nmX2 hown hK hP hD hS 0 rfl rfl 8 (by decide) (hB _ cw_78) (fun _ h9 => h9) rfl hnm rfl (by decide +kernel) rfl rfl (Nat.le_of_ble_eq_true rfl) dX2_init_59 (fun H locs hP hD hS => ?_)
  have hP : va_P D vwCl ([(o, .inr (2, [.ref qa1, .int 0, .ref qa6, .ref qa11, .ref qa16, .ref qa21, .ref qa26, .int 0, .ref qa31, .null, .null, .null, .null]))] ++ va_pl L34 E33) H := hP
  have hD : va_D A ([(o, .inr (2, [.ref qa1, .int 0, .ref qa6, .ref qa11, .ref qa16, .ref qa21, .ref qa26, .int 0, .ref qa31, .null, .null, .null, .null]))] ++ va_pl L34 E33) := hD
  refine lv_aload_n hx hb dX2_init_62 rfl (lv_at hl 0 rfl) ?_
  refine lv_sipush (v := 500) hx hb dX2_init_63 (by decide) ?_
  refine cx_newa (cs := cs) (atype := .int) (ty := .int) (a0 := (500, .inl (fun _ => 0))) hx hb hB cw_59 rfl cx_ra_int 0 rfl hK hP hD hS hA (fun _ => rfl) (by decide) (by decide) (Nat.le_of_ble_eq_true rfl) (Nat.le_of_ble_eq_true rfl) (Nat.le_of_ble_eq_true rfl) dX2_init_66 (fun qa36 H hP hD hS => ?_)
  obtain ⟨kp37, E38, hP, hD, hT, hx40, hkqa36, heq, hnqa36⟩ := tw_abs (k := 139) hP hD hT (fun _ _ _ => ⟨by decide, rfl, rfl, (fun _ _ => (show (0 : Int) ≤ ((0 : Int32)).toInt ∧ ((0 : Int32)).toInt ≤ 500 from by decide))⟩)
  obtain ⟨L39, hL⟩ : ∃ z, z = L34 ++ [qa36] := ⟨_, rfl⟩
  have hmqa36 : qa36 ∈ L39 := by rw [hL]; simp
  rw [← hL] at hP hD hT hx40
  have hnqa36 : qa36 ∉ L0 := fun z => hnqa36 (hex _ z).1
  have hex : ∀ a : Nat, a ∈ L0 → a ∈ L39 ∧ kp37 a = kp0 a ∧ E38 a = E0 a := fun a h => ⟨(hx40 a (hex a h).1).1, ((hx40 a (hex a h).1).2.1).trans (hex a h).2.1, ((hx40 a (hex a h).1).2.2).trans (hex a h).2.2⟩
  have hvqa1 := (hx40 qa1 hmqa1).2
  have hmqa1 : qa1 ∈ L39 := (hx40 qa1 hmqa1).1
  have hkqa1 : kp37 qa1 = 100 := (hvqa1.1).trans hkqa1
  have hvqa6 := (hx40 qa6 hmqa6).2
  have hmqa6 : qa6 ∈ L39 := (hx40 qa6 hmqa6).1
  have hkqa6 : kp37 qa6 = 130 := (hvqa6.1).trans hkqa6
  have hvqa11 := (hx40 qa11 hmqa11).2
  have hmqa11 : qa11 ∈ L39 := (hx40 qa11 hmqa11).1
  have hkqa11 : kp37 qa11 = 137 := (hvqa11.1).trans hkqa11
  have hvqa16 := (hx40 qa16 hmqa16).2
  have hmqa16 : qa16 ∈ L39 := (hx40 qa16 hmqa16).1
  have hkqa16 : kp37 qa16 = 131 := (hvqa16.1).trans hkqa16
  have hvqa21 := (hx40 qa21 hmqa21).2
  have hmqa21 : qa21 ∈ L39 := (hx40 qa21 hmqa21).1
  have hkqa21 : kp37 qa21 = 136 := (hvqa21.1).trans hkqa21
  have hvqa26 := (hx40 qa26 hmqa26).2
  have hmqa26 : qa26 ∈ L39 := (hx40 qa26 hmqa26).1
  have hkqa26 : kp37 qa26 = 138 := (hvqa26.1).trans hkqa26
  have hvqa31 := (hx40 qa31 hmqa31).2
  have hmqa31 : qa31 ∈ L39 := (hx40 qa31 hmqa31).1
  have hkqa31 : kp37 qa31 = 132 := (hvqa31.1).trans hkqa31
  refine va_putF (D := D) (ci := 2) (v := .ref qa36) (ty := .array .int) (C := RX2) (T := TX2) (N := 13) hx hb hB cx_inX2 tyX2 tyX2_ok nmX2 hown hK hP hD hS 0 rfl rfl 9 (by decide) (hB _ cw_79) (fun _ h9 => h9) rfl hnm rfl (by decide +kernel) rfl rfl (Nat.le_of_ble_eq_true rfl) dX2_init_68 (fun H locs hP hD hS => ?_)
  have hP : va_P D vwCl ([(o, .inr (2, [.ref qa1, .int 0, .ref qa6, .ref qa11, .ref qa16, .ref qa21, .ref qa26, .int 0, .ref qa31, .ref qa36, .null, .null, .null]))] ++ va_pl L39 E38) H := hP
  have hD : va_D A ([(o, .inr (2, [.ref qa1, .int 0, .ref qa6, .ref qa11, .ref qa16, .ref qa21, .ref qa26, .int 0, .ref qa31, .ref qa36, .null, .null, .null]))] ++ va_pl L39 E38) := hD
  refine lv_aload_n hx hb dX2_init_71 rfl (lv_at hl 0 rfl) ?_
  refine lv_sipush (v := 500) hx hb dX2_init_72 (by decide) ?_
  refine cx_newa (cs := cs) (atype := .int) (ty := .int) (a0 := (500, .inl (fun _ => 0))) hx hb hB cw_59 rfl cx_ra_int 0 rfl hK hP hD hS hA (fun _ => rfl) (by decide) (by decide) (Nat.le_of_ble_eq_true rfl) (Nat.le_of_ble_eq_true rfl) (Nat.le_of_ble_eq_true rfl) dX2_init_75 (fun qa41 H hP hD hS => ?_)
  obtain ⟨kp42, E43, hP, hD, hT, hx45, hkqa41, heq, hnqa41⟩ := tw_abs (k := 133) hP hD hT (fun _ _ _ => ⟨by decide, rfl, rfl, (fun _ _ => (show ((-1) : Int) ≤ ((0 : Int32)).toInt ∧ ((0 : Int32)).toInt ≤ 9 from by decide))⟩)
  obtain ⟨L44, hL⟩ : ∃ z, z = L39 ++ [qa41] := ⟨_, rfl⟩
  have hmqa41 : qa41 ∈ L44 := by rw [hL]; simp
  rw [← hL] at hP hD hT hx45
  have hnqa41 : qa41 ∉ L0 := fun z => hnqa41 (hex _ z).1
  have hex : ∀ a : Nat, a ∈ L0 → a ∈ L44 ∧ kp42 a = kp0 a ∧ E43 a = E0 a := fun a h => ⟨(hx45 a (hex a h).1).1, ((hx45 a (hex a h).1).2.1).trans (hex a h).2.1, ((hx45 a (hex a h).1).2.2).trans (hex a h).2.2⟩
  have hvqa1 := (hx45 qa1 hmqa1).2
  have hmqa1 : qa1 ∈ L44 := (hx45 qa1 hmqa1).1
  have hkqa1 : kp42 qa1 = 100 := (hvqa1.1).trans hkqa1
  have hvqa6 := (hx45 qa6 hmqa6).2
  have hmqa6 : qa6 ∈ L44 := (hx45 qa6 hmqa6).1
  have hkqa6 : kp42 qa6 = 130 := (hvqa6.1).trans hkqa6
  have hvqa11 := (hx45 qa11 hmqa11).2
  have hmqa11 : qa11 ∈ L44 := (hx45 qa11 hmqa11).1
  have hkqa11 : kp42 qa11 = 137 := (hvqa11.1).trans hkqa11
  have hvqa16 := (hx45 qa16 hmqa16).2
  have hmqa16 : qa16 ∈ L44 := (hx45 qa16 hmqa16).1
  have hkqa16 : kp42 qa16 = 131 := (hvqa16.1).trans hkqa16
  have hvqa21 := (hx45 qa21 hmqa21).2
  have hmqa21 : qa21 ∈ L44 := (hx45 qa21 hmqa21).1
  have hkqa21 : kp42 qa21 = 136 := (hvqa21.1).trans hkqa21
  have hvqa26 := (hx45 qa26 hmqa26).2
  have hmqa26 : qa26 ∈ L44 := (hx45 qa26 hmqa26).1
  have hkqa26 : kp42 qa26 = 138 := (hvqa26.1).trans hkqa26
  have hvqa31 := (hx45 qa31 hmqa31).2
  have hmqa31 : qa31 ∈ L44 := (hx45 qa31 hmqa31).1
  have hkqa31 : kp42 qa31 = 132 := (hvqa31.1).trans hkqa31
  have hvqa36 := (hx45 qa36 hmqa36).2
  have hmqa36 : qa36 ∈ L44 := (hx45 qa36 hmqa36).1
  have hkqa36 : kp42 qa36 = 139 := (hvqa36.1).trans hkqa36
  refine va_putF (D := D) (ci := 2) (v := .ref qa41) (ty := .array .int) (C := RX2) (T := TX2) (N := 13) hx hb hB cx_inX2 tyX2 tyX2_ok nmX2 hown hK hP hD hS 0 rfl rfl 10 (by decide) (hB _ cw_80) (fun _ h9 => h9) rfl hnm rfl (by decide +kernel) rfl rfl (Nat.le_of_ble_eq_true rfl) dX2_init_77 (fun H locs hP hD hS => ?_)
  have hP : va_P D vwCl ([(o, .inr (2, [.ref qa1, .int 0, .ref qa6, .ref qa11, .ref qa16, .ref qa21, .ref qa26, .int 0, .ref qa31, .ref qa36, .ref qa41, .null, .null]))] ++ va_pl L44 E43) H := hP
  have hD : va_D A ([(o, .inr (2, [.ref qa1, .int 0, .ref qa6, .ref qa11, .ref qa16, .ref qa21, .ref qa26, .int 0, .ref qa31, .ref qa36, .ref qa41, .null, .null]))] ++ va_pl L44 E43) := hD
  refine lv_aload_n hx hb dX2_init_80 rfl (lv_at hl 0 rfl) ?_
  refine lv_sipush (v := 500) hx hb dX2_init_81 (by decide) ?_
  refine cx_newa (cs := cs) (atype := .int) (ty := .int) (a0 := (500, .inl (fun _ => 0))) hx hb hB cw_59 rfl cx_ra_int 0 rfl hK hP hD hS hA (fun _ => rfl) (by decide) (by decide) (Nat.le_of_ble_eq_true rfl) (Nat.le_of_ble_eq_true rfl) (Nat.le_of_ble_eq_true rfl) dX2_init_84 (fun qa46 H hP hD hS => ?_)
  obtain ⟨kp47, E48, hP, hD, hT, hx50, hkqa46, heq, hnqa46⟩ := tw_abs (k := 134) hP hD hT (fun _ _ _ => ⟨by decide, rfl, rfl, (fun _ _ => (show (0 : Int) ≤ ((0 : Int32)).toInt ∧ ((0 : Int32)).toInt ≤ 255 from by decide))⟩)
  obtain ⟨L49, hL⟩ : ∃ z, z = L44 ++ [qa46] := ⟨_, rfl⟩
  have hmqa46 : qa46 ∈ L49 := by rw [hL]; simp
  rw [← hL] at hP hD hT hx50
  have hnqa46 : qa46 ∉ L0 := fun z => hnqa46 (hex _ z).1
  have hex : ∀ a : Nat, a ∈ L0 → a ∈ L49 ∧ kp47 a = kp0 a ∧ E48 a = E0 a := fun a h => ⟨(hx50 a (hex a h).1).1, ((hx50 a (hex a h).1).2.1).trans (hex a h).2.1, ((hx50 a (hex a h).1).2.2).trans (hex a h).2.2⟩
  have hvqa1 := (hx50 qa1 hmqa1).2
  have hmqa1 : qa1 ∈ L49 := (hx50 qa1 hmqa1).1
  have hkqa1 : kp47 qa1 = 100 := (hvqa1.1).trans hkqa1
  have hvqa6 := (hx50 qa6 hmqa6).2
  have hmqa6 : qa6 ∈ L49 := (hx50 qa6 hmqa6).1
  have hkqa6 : kp47 qa6 = 130 := (hvqa6.1).trans hkqa6
  have hvqa11 := (hx50 qa11 hmqa11).2
  have hmqa11 : qa11 ∈ L49 := (hx50 qa11 hmqa11).1
  have hkqa11 : kp47 qa11 = 137 := (hvqa11.1).trans hkqa11
  have hvqa16 := (hx50 qa16 hmqa16).2
  have hmqa16 : qa16 ∈ L49 := (hx50 qa16 hmqa16).1
  have hkqa16 : kp47 qa16 = 131 := (hvqa16.1).trans hkqa16
  have hvqa21 := (hx50 qa21 hmqa21).2
  have hmqa21 : qa21 ∈ L49 := (hx50 qa21 hmqa21).1
  have hkqa21 : kp47 qa21 = 136 := (hvqa21.1).trans hkqa21
  have hvqa26 := (hx50 qa26 hmqa26).2
  have hmqa26 : qa26 ∈ L49 := (hx50 qa26 hmqa26).1
  have hkqa26 : kp47 qa26 = 138 := (hvqa26.1).trans hkqa26
  have hvqa31 := (hx50 qa31 hmqa31).2
  have hmqa31 : qa31 ∈ L49 := (hx50 qa31 hmqa31).1
  have hkqa31 : kp47 qa31 = 132 := (hvqa31.1).trans hkqa31
  have hvqa36 := (hx50 qa36 hmqa36).2
  have hmqa36 : qa36 ∈ L49 := (hx50 qa36 hmqa36).1
  have hkqa36 : kp47 qa36 = 139 := (hvqa36.1).trans hkqa36
  have hvqa41 := (hx50 qa41 hmqa41).2
  have hmqa41 : qa41 ∈ L49 := (hx50 qa41 hmqa41).1
  have hkqa41 : kp47 qa41 = 133 := (hvqa41.1).trans hkqa41
  refine va_putF (D := D) (ci := 2) (v := .ref qa46) (ty := .array .int) (C := RX2) (T := TX2) (N := 13) hx hb hB cx_inX2 tyX2 tyX2_ok nmX2 hown hK hP hD hS 0 rfl rfl 11 (by decide) (hB _ cw_81) (fun _ h9 => h9) rfl hnm rfl (by decide +kernel) rfl rfl (Nat.le_of_ble_eq_true rfl) dX2_init_86 (fun H locs hP hD hS => ?_)
  have hP : va_P D vwCl ([(o, .inr (2, [.ref qa1, .int 0, .ref qa6, .ref qa11, .ref qa16, .ref qa21, .ref qa26, .int 0, .ref qa31, .ref qa36, .ref qa41, .ref qa46, .null]))] ++ va_pl L49 E48) H := hP
  have hD : va_D A ([(o, .inr (2, [.ref qa1, .int 0, .ref qa6, .ref qa11, .ref qa16, .ref qa21, .ref qa26, .int 0, .ref qa31, .ref qa36, .ref qa41, .ref qa46, .null]))] ++ va_pl L49 E48) := hD
  refine lv_aload_n hx hb dX2_init_89 rfl (lv_at hl 0 rfl) ?_
  refine lv_sipush (v := 501) hx hb dX2_init_90 (by decide) ?_
  refine cx_newa (cs := cs) (atype := .int) (ty := .int) (a0 := (501, .inl (fun _ => 0))) hx hb hB cw_59 rfl cx_ra_int 0 rfl hK hP hD hS hA (fun _ => rfl) (by decide) (by decide) (Nat.le_of_ble_eq_true rfl) (Nat.le_of_ble_eq_true rfl) (Nat.le_of_ble_eq_true rfl) dX2_init_93 (fun qa51 H hP hD hS => ?_)
  obtain ⟨kp52, E53, hP, hD, hT, hx55, hkqa51, heq, hnqa51⟩ := tw_abs (k := 135) hP hD hT (fun _ _ _ => ⟨by decide, rfl, rfl, (fun _ _ => (show (0 : Int) ≤ ((0 : Int32)).toInt ∧ ((0 : Int32)).toInt ≤ 1 from by decide))⟩)
  obtain ⟨L54, hL⟩ : ∃ z, z = L49 ++ [qa51] := ⟨_, rfl⟩
  have hmqa51 : qa51 ∈ L54 := by rw [hL]; simp
  rw [← hL] at hP hD hT hx55
  have hnqa51 : qa51 ∉ L0 := fun z => hnqa51 (hex _ z).1
  have hex : ∀ a : Nat, a ∈ L0 → a ∈ L54 ∧ kp52 a = kp0 a ∧ E53 a = E0 a := fun a h => ⟨(hx55 a (hex a h).1).1, ((hx55 a (hex a h).1).2.1).trans (hex a h).2.1, ((hx55 a (hex a h).1).2.2).trans (hex a h).2.2⟩
  have hvqa1 := (hx55 qa1 hmqa1).2
  have hmqa1 : qa1 ∈ L54 := (hx55 qa1 hmqa1).1
  have hkqa1 : kp52 qa1 = 100 := (hvqa1.1).trans hkqa1
  have hvqa6 := (hx55 qa6 hmqa6).2
  have hmqa6 : qa6 ∈ L54 := (hx55 qa6 hmqa6).1
  have hkqa6 : kp52 qa6 = 130 := (hvqa6.1).trans hkqa6
  have hvqa11 := (hx55 qa11 hmqa11).2
  have hmqa11 : qa11 ∈ L54 := (hx55 qa11 hmqa11).1
  have hkqa11 : kp52 qa11 = 137 := (hvqa11.1).trans hkqa11
  have hvqa16 := (hx55 qa16 hmqa16).2
  have hmqa16 : qa16 ∈ L54 := (hx55 qa16 hmqa16).1
  have hkqa16 : kp52 qa16 = 131 := (hvqa16.1).trans hkqa16
  have hvqa21 := (hx55 qa21 hmqa21).2
  have hmqa21 : qa21 ∈ L54 := (hx55 qa21 hmqa21).1
  have hkqa21 : kp52 qa21 = 136 := (hvqa21.1).trans hkqa21
  have hvqa26 := (hx55 qa26 hmqa26).2
  have hmqa26 : qa26 ∈ L54 := (hx55 qa26 hmqa26).1
  have hkqa26 : kp52 qa26 = 138 := (hvqa26.1).trans hkqa26
  have hvqa31 := (hx55 qa31 hmqa31).2
  have hmqa31 : qa31 ∈ L54 := (hx55 qa31 hmqa31).1
  have hkqa31 : kp52 qa31 = 132 := (hvqa31.1).trans hkqa31
  have hvqa36 := (hx55 qa36 hmqa36).2
  have hmqa36 : qa36 ∈ L54 := (hx55 qa36 hmqa36).1
  have hkqa36 : kp52 qa36 = 139 := (hvqa36.1).trans hkqa36
  have hvqa41 := (hx55 qa41 hmqa41).2
  have hmqa41 : qa41 ∈ L54 := (hx55 qa41 hmqa41).1
  have hkqa41 : kp52 qa41 = 133 := (hvqa41.1).trans hkqa41
  have hvqa46 := (hx55 qa46 hmqa46).2
  have hmqa46 : qa46 ∈ L54 := (hx55 qa46 hmqa46).1
  have hkqa46 : kp52 qa46 = 134 := (hvqa46.1).trans hkqa46
  refine va_putF (D := D) (ci := 2) (v := .ref qa51) (ty := .array .int) (C := RX2) (T := TX2) (N := 13) hx hb hB cx_inX2 tyX2 tyX2_ok nmX2 hown hK hP hD hS 0 rfl rfl 12 (by decide) (hB _ cw_82) (fun _ h9 => h9) rfl hnm rfl (by decide +kernel) rfl rfl (Nat.le_of_ble_eq_true rfl) dX2_init_95 (fun H locs hP hD hS => ?_)
  have hP : va_P D vwCl ([(o, .inr (2, [.ref qa1, .int 0, .ref qa6, .ref qa11, .ref qa16, .ref qa21, .ref qa26, .int 0, .ref qa31, .ref qa36, .ref qa41, .ref qa46, .ref qa51]))] ++ va_pl L54 E53) H := hP
  have hD : va_D A ([(o, .inr (2, [.ref qa1, .int 0, .ref qa6, .ref qa11, .ref qa16, .ref qa21, .ref qa26, .int 0, .ref qa31, .ref qa36, .ref qa41, .ref qa46, .ref qa51]))] ++ va_pl L54 E53) := hD
  have hf : ∀ (j : Nat) (v : Value), [(.ref qa1 : Value), (.int 0 : Value), (.ref qa6 : Value), (.ref qa11 : Value), (.ref qa16 : Value), (.ref qa21 : Value), (.ref qa26 : Value), (.int 0 : Value), (.ref qa31 : Value), (.ref qa36 : Value), (.ref qa41 : Value), (.ref qa46 : Value), (.ref qa51 : Value)][j]? = some v → tw_V kp52 L54 (tw_FT 2 j) v := by
    intro j v hj
    match j, hj with
    | 0, hj => cases hj; exact ⟨qa1, rfl, hmqa1, hkqa1⟩
    | 1, hj => cases hj; exact ⟨0, rfl, (show (0 : Int) ≤ ((0 : Int32)).toInt from by decide), (show ((0 : Int32)).toInt ≤ (10 : Int) from by decide)⟩
    | 2, hj => cases hj; exact ⟨qa6, rfl, hmqa6, hkqa6⟩
    | 3, hj => cases hj; exact ⟨qa11, rfl, hmqa11, hkqa11⟩
    | 4, hj => cases hj; exact ⟨qa16, rfl, hmqa16, hkqa16⟩
    | 5, hj => cases hj; exact ⟨qa21, rfl, hmqa21, hkqa21⟩
    | 6, hj => cases hj; exact ⟨qa26, rfl, hmqa26, hkqa26⟩
    | 7, hj => cases hj; exact ⟨0, rfl, (show (0 : Int) ≤ ((0 : Int32)).toInt from by decide), (show ((0 : Int32)).toInt ≤ (500 : Int) from by decide)⟩
    | 8, hj => cases hj; exact ⟨qa31, rfl, hmqa31, hkqa31⟩
    | 9, hj => cases hj; exact ⟨qa36, rfl, hmqa36, hkqa36⟩
    | 10, hj => cases hj; exact ⟨qa41, rfl, hmqa41, hkqa41⟩
    | 11, hj => cases hj; exact ⟨qa46, rfl, hmqa46, hkqa46⟩
    | 12, hj => cases hj; exact ⟨qa51, rfl, hmqa51, hkqa51⟩
    | k + 13, hj => simp at hj
  have hnw : ∀ v ∈ [(.ref qa1 : Value), (.int 0 : Value), (.ref qa6 : Value), (.ref qa11 : Value), (.ref qa16 : Value), (.ref qa21 : Value), (.ref qa26 : Value), (.int 0 : Value), (.ref qa31 : Value), (.ref qa36 : Value), (.ref qa41 : Value), (.ref qa46 : Value), (.ref qa51 : Value)], match v with | .ref b => b ∉ L0 | .int x => x = 0 | _ => True := by
    intro v hv
    simp only [List.mem_cons, List.not_mem_nil, or_false] at hv
    rcases hv with rfl | rfl | rfl | rfl | rfl | rfl | rfl | rfl | rfl | rfl | rfl | rfl | rfl
    · exact hnqa1
    · exact rfl
    · exact hnqa6
    · exact hnqa11
    · exact hnqa16
    · exact hnqa21
    · exact hnqa26
    · exact rfl
    · exact hnqa31
    · exact hnqa36
    · exact hnqa41
    · exact hnqa46
    · exact hnqa51
  exact tw_Iret hx hb hr hlocks hP hD hT hS hex (by decide) rfl hf (fun hno E1 he1 hes => nw_ok_of he1 hnw) (Nat.le_of_ble_eq_true rfl) (Nat.le_of_ble_eq_true rfl) dX2_init_98
set_option maxHeartbeats 4000000 in
set_option maxRecDepth 100000 in
theorem tI_X3 (l : Launch) (D : va_G) (cs : Nat → ClassId) {kp : Nat → Nat} {L : List Nat} {E : Nat → va_E} (o : Nat) (sz : Nat) : Met l yX3_init (.code yX3_init cX3_init 1 none :: cx_big) { frames := 1, cells := 2, slots := 80, locals := 12 } (tw_Pi D cs kp L E (o, .inr (3, [.int 0, .null, .null])) sz) (tw_Qi D cs kp L E o 3 (fun L1 E1 => nw_ok L o E1) (va_A ([(o, .inr (3, [.int 0, .null, .null]))] ++ va_pl L E) sz)) 2 80 (va_A ([(o, .inr (3, [.int 0, .null, .null]))] ++ va_pl L E) sz) := by
  refine tw_Iof (X := (o, .inr (3, [.int 0, .null, .null]))) (ci := 3) (by decide) (Nat.le_of_ble_eq_true rfl) ?_
  intro p e s m below meth c A ls hx hb hr hml hB hown hlocks hnm hK hN hA hP hD hT hS hl
  have hown : s.vm.findClass "TreeMerge$Kids" = some m.cls := hown
  have hnm : meth.name = "<init>" := hnm
  have hl : lv_has ls 1 [(0, .ref o)] := hl
  obtain ⟨L0, eL⟩ : ∃ z, z = L := ⟨_, rfl⟩
  obtain ⟨kp0, ekp⟩ : ∃ z, z = kp := ⟨_, rfl⟩
  obtain ⟨E0, eE⟩ : ∃ z, z = E := ⟨_, rfl⟩
  show W p l e { frames := 1, cells := 2, slots := 80, locals := 12 } s m [.ref o].toArray below meth c s.heap [] 0 0 (MQ below (tw_Qi D cs kp L E o 3 (fun L1 E1 => nw_ok L o E1) A) [.ref o].toArray s 2 80 A) (F0 m 0 ls [])
  rw [show tw_Qi D cs kp L E o 3 (fun L1 E1 => nw_ok L o E1) = tw_Qi D cs kp0 L0 E0 o 3 (fun L1 E1 => nw_ok L0 o E1) by rw [ekp, eL, eE]]
  have hex : ∀ a : Nat, a ∈ L0 → a ∈ L ∧ kp a = kp0 a ∧ E a = E0 a := fun a h => ⟨by rw [← eL]; exact h, by rw [ekp], by rw [eE]⟩
  refine lv_aload_n hx hb dX3_init_0 rfl (lv_at hl 0 rfl) ?_
  refine W.objInit hx hb hown (hB _ cw_176) (hB _ cw_26) (hB _ cw_27) rfl (by rw [hml]; exact hl.1) rfl dX3_init_1 (Nat.le_of_ble_eq_true rfl) (Nat.le_of_ble_eq_true rfl) ?_
  refine W.eq (g2 := F0 m 4 ls []) rfl ?_
  refine lv_aload_n hx hb dX3_init_4 rfl (lv_at hl 0 rfl) ?_
  refine lv_bipush (v := 40) hx hb dX3_init_5 (by decide) ?_
  refine cx_newa (cs := cs) (atype := .int) (ty := .int) (a0 := (40, .inl (fun _ => 0))) hx hb hB cw_59 rfl cx_ra_int 0 rfl hK hP hD hS hA (fun _ => rfl) (by decide) (by decide) (Nat.le_of_ble_eq_true rfl) (Nat.le_of_ble_eq_true rfl) (Nat.le_of_ble_eq_true rfl) dX3_init_7 (fun qa1 H hP hD hS => ?_)
  obtain ⟨kp2, E3, hP, hD, hT, hx5, hkqa1, heq, hnqa1⟩ := tw_abs (k := 101) hP hD hT (fun _ _ _ => ⟨by decide, rfl, rfl, (fun _ _ => (show ((-1) : Int) ≤ ((0 : Int32)).toInt ∧ ((0 : Int32)).toInt ≤ 9 from by decide))⟩)
  obtain ⟨L4, hL⟩ : ∃ z, z = L ++ [qa1] := ⟨_, rfl⟩
  have hmqa1 : qa1 ∈ L4 := by rw [hL]; simp
  rw [← hL] at hP hD hT hx5
  have hnqa1 : qa1 ∉ L0 := fun z => hnqa1 (hex _ z).1
  have hex : ∀ a : Nat, a ∈ L0 → a ∈ L4 ∧ kp2 a = kp0 a ∧ E3 a = E0 a := fun a h => ⟨(hx5 a (hex a h).1).1, ((hx5 a (hex a h).1).2.1).trans (hex a h).2.1, ((hx5 a (hex a h).1).2.2).trans (hex a h).2.2⟩
  refine va_putF (D := D) (ci := 3) (v := .ref qa1) (ty := .array .int) (C := RX3) (T := TX3) (N := 3) hx hb hB cx_inX3 tyX3 tyX3_ok nmX3 hown hK hP hD hS 0 rfl rfl 1 (by decide) (hB _ cw_179) (fun _ h9 => h9) rfl hnm rfl (by decide +kernel) rfl rfl (Nat.le_of_ble_eq_true rfl) dX3_init_9 (fun H locs hP hD hS => ?_)
  have hP : va_P D vwCl ([(o, .inr (3, [.int 0, .ref qa1, .null]))] ++ va_pl L4 E3) H := hP
  have hD : va_D A ([(o, .inr (3, [.int 0, .ref qa1, .null]))] ++ va_pl L4 E3) := hD
  refine lv_aload_n hx hb dX3_init_12 rfl (lv_at hl 0 rfl) ?_
  refine lv_bipush (v := 40) hx hb dX3_init_13 (by decide) ?_
  refine cx_newa (cs := cs) (atype := .long) (ty := .long) (a0 := (40, .inr (.inl (fun _ => 0)))) hx hb hB cw_170 rfl cx_ra_long 1 rfl hK hP hD hS hA (fun _ => rfl) (by decide) (by decide) (Nat.le_of_ble_eq_true rfl) (Nat.le_of_ble_eq_true rfl) (Nat.le_of_ble_eq_true rfl) dX3_init_15 (fun qa6 H hP hD hS => ?_)
  obtain ⟨kp7, E8, hP, hD, hT, hx10, hkqa6, heq, hnqa6⟩ := tw_abs (k := 102) hP hD hT (fun _ _ _ => ⟨by decide, rfl, rfl, trivial⟩)
  obtain ⟨L9, hL⟩ : ∃ z, z = L4 ++ [qa6] := ⟨_, rfl⟩
  have hmqa6 : qa6 ∈ L9 := by rw [hL]; simp
  rw [← hL] at hP hD hT hx10
  have hnqa6 : qa6 ∉ L0 := fun z => hnqa6 (hex _ z).1
  have hex : ∀ a : Nat, a ∈ L0 → a ∈ L9 ∧ kp7 a = kp0 a ∧ E8 a = E0 a := fun a h => ⟨(hx10 a (hex a h).1).1, ((hx10 a (hex a h).1).2.1).trans (hex a h).2.1, ((hx10 a (hex a h).1).2.2).trans (hex a h).2.2⟩
  have hvqa1 := (hx10 qa1 hmqa1).2
  have hmqa1 : qa1 ∈ L9 := (hx10 qa1 hmqa1).1
  have hkqa1 : kp7 qa1 = 101 := (hvqa1.1).trans hkqa1
  refine va_putF (D := D) (ci := 3) (v := .ref qa6) (ty := .array .long) (C := RX3) (T := TX3) (N := 3) hx hb hB cx_inX3 tyX3 tyX3_ok nmX3 hown hK hP hD hS 0 rfl rfl 2 (by decide) (hB _ cw_181) (fun _ h9 => h9) rfl hnm rfl (by decide +kernel) rfl rfl (Nat.le_of_ble_eq_true rfl) dX3_init_17 (fun H locs hP hD hS => ?_)
  have hP : va_P D vwCl ([(o, .inr (3, [.int 0, .ref qa1, .ref qa6]))] ++ va_pl L9 E8) H := hP
  have hD : va_D A ([(o, .inr (3, [.int 0, .ref qa1, .ref qa6]))] ++ va_pl L9 E8) := hD
  have hf : ∀ (j : Nat) (v : Value), [(.int 0 : Value), (.ref qa1 : Value), (.ref qa6 : Value)][j]? = some v → tw_V kp7 L9 (tw_FT 3 j) v := by
    intro j v hj
    match j, hj with
    | 0, hj => cases hj; exact ⟨0, rfl, (show (0 : Int) ≤ ((0 : Int32)).toInt from by decide), (show ((0 : Int32)).toInt ≤ (40 : Int) from by decide)⟩
    | 1, hj => cases hj; exact ⟨qa1, rfl, hmqa1, hkqa1⟩
    | 2, hj => cases hj; exact ⟨qa6, rfl, hmqa6, hkqa6⟩
    | k + 3, hj => simp at hj
  have hnw : ∀ v ∈ [(.int 0 : Value), (.ref qa1 : Value), (.ref qa6 : Value)], match v with | .ref b => b ∉ L0 | .int x => x = 0 | _ => True := by
    intro v hv
    simp only [List.mem_cons, List.not_mem_nil, or_false] at hv
    rcases hv with rfl | rfl | rfl
    · exact rfl
    · exact hnqa1
    · exact hnqa6
  exact tw_Iret hx hb hr hlocks hP hD hT hS hex (by decide) rfl hf (fun hno E1 he1 hes => nw_ok_of he1 hnw) (Nat.le_of_ble_eq_true rfl) (Nat.le_of_ble_eq_true rfl) dX3_init_20
set_option maxHeartbeats 4000000 in
set_option maxRecDepth 100000 in
theorem tI_X4 (l : Launch) (D : va_G) (cs : Nat → ClassId) {kp : Nat → Nat} {L : List Nat} {E : Nat → va_E} (o : Nat) (sz : Nat) : Met l yX4_init (.code yX4_init cX4_init 1 none :: cx_big) { frames := 2, cells := 19, slots := 696, locals := 32 } (tw_Pi D cs kp L E (o, .inr (4, [.null, .null, .null, .null, .null, .int 0, .int 0])) sz) (tw_Qi D cs kp L E o 4 (fun L1 E1 => nw_ok L o E1) (va_A ([(o, .inr (4, [.null, .null, .null, .null, .null, .int 0, .int 0]))] ++ va_pl L E) sz)) 19 696 (va_A ([(o, .inr (4, [.null, .null, .null, .null, .null, .int 0, .int 0]))] ++ va_pl L E) sz) := by
  refine tw_Iof (X := (o, .inr (4, [.null, .null, .null, .null, .null, .int 0, .int 0]))) (ci := 4) (by decide) (Nat.le_of_ble_eq_true rfl) ?_
  intro p e s m below meth c A ls hx hb hr hml hB hown hlocks hnm hK hN hA hP hD hT hS hl
  have hown : s.vm.findClass "TreeMerge$Matcher" = some m.cls := hown
  have hnm : meth.name = "<init>" := hnm
  have hl : lv_has ls 1 [(0, .ref o)] := hl
  obtain ⟨L0, eL⟩ : ∃ z, z = L := ⟨_, rfl⟩
  obtain ⟨kp0, ekp⟩ : ∃ z, z = kp := ⟨_, rfl⟩
  obtain ⟨E0, eE⟩ : ∃ z, z = E := ⟨_, rfl⟩
  show W p l e { frames := 2, cells := 19, slots := 696, locals := 32 } s m [.ref o].toArray below meth c s.heap [] 0 0 (MQ below (tw_Qi D cs kp L E o 4 (fun L1 E1 => nw_ok L o E1) A) [.ref o].toArray s 19 696 A) (F0 m 0 ls [])
  rw [show tw_Qi D cs kp L E o 4 (fun L1 E1 => nw_ok L o E1) = tw_Qi D cs kp0 L0 E0 o 4 (fun L1 E1 => nw_ok L0 o E1) by rw [ekp, eL, eE]]
  have hex : ∀ a : Nat, a ∈ L0 → a ∈ L ∧ kp a = kp0 a ∧ E a = E0 a := fun a h => ⟨by rw [← eL]; exact h, by rw [ekp], by rw [eE]⟩
  refine lv_aload_n hx hb dX4_init_0 rfl (lv_at hl 0 rfl) ?_
  refine W.objInit hx hb hown (hB _ cw_194) (hB _ cw_26) (hB _ cw_27) rfl (by rw [hml]; exact hl.1) rfl dX4_init_1 (Nat.le_of_ble_eq_true rfl) (Nat.le_of_ble_eq_true rfl) ?_
  refine W.eq (g2 := F0 m 4 ls []) rfl ?_
  refine lv_aload_n hx hb dX4_init_4 rfl (lv_at hl 0 rfl) ?_
  refine va_new (ci := 10) (fs := [.int 0, .null, .null, .null, .null, .null, .null, .null]) (C := RX10) (T := TX10) (N := 8) hx hb hB cx_inX10 tyX10 tyX10_ok hown (hB _ cw_195) (hB _ cw_111) (hB _ cw_4) hK hP hD hS hA rfl cx_fsX10 (Nat.le_of_ble_eq_true rfl) (Nat.le_of_ble_eq_true rfl) dX4_init_5 (fun qn1 H hP hD hS => ?_)
  refine lv_dup hx hb dX4_init_8 rfl ?_
  refine tw_ICN (Xs := [(o, .inr (4, [.null, .null, .null, .null, .null, .int 0, .int 0]))]) (o := qn1) (ci := 10) (fs := [.int 0, .null, .null, .null, .null, .null, .null, .null]) (kp := kp) (rest := [.ref qn1, .ref o]) ⟨hx, hb, hml, hown, hB⟩ (fun sz => tI_X10 l D cs qn1 sz) cw_114 cw_4 (by decide +kernel) cw_113 rfl rfl rfl (by decide +kernel) ⟨Nat.le_of_ble_eq_true rfl, Nat.le_of_ble_eq_true rfl⟩ hK hN hP hD hT hS hA hl.1 rfl (Nat.le_of_ble_eq_true rfl) dX4_init_9 ⟨Nat.le_of_ble_eq_true rfl, Nat.le_of_ble_eq_true rfl⟩ (fun kp2 L3 E4 H locs hx5 hmqn1 hkqn1 hnqn1 hpqn1 hP hD hT hS => ?_)
  have hnqn1 : qn1 ∉ L0 := fun z => hnqn1 (hex _ z).1
  have hex : ∀ a : Nat, a ∈ L0 → a ∈ L3 ∧ kp2 a = kp0 a ∧ E4 a = E0 a := fun a h => ⟨(hx5 a (hex a h).1).1, ((hx5 a (hex a h).1).2.1).trans (hex a h).2.1, ((hx5 a (hex a h).1).2.2).trans (hex a h).2.2⟩
  refine va_put (D := D) (ci := 4) (v := .ref qn1) (ty := .object "TreeMerge$Tree") (C := RX4) (T := TX4) (N := 7) hx hb hB cx_inX4 tyX4 tyX4_ok nmX4 hown hK hP hD hS 0 rfl rfl 0 (by decide) (hB _ cw_197) (fun _ h9 => h9) rfl (by decide +kernel) rfl rfl (Nat.le_of_ble_eq_true rfl) dX4_init_12 (fun H locs hP hD hS => ?_)
  have hP : va_P D vwCl ([(o, .inr (4, [.ref qn1, .null, .null, .null, .null, .int 0, .int 0]))] ++ va_pl L3 E4) H := hP
  have hD : va_D A ([(o, .inr (4, [.ref qn1, .null, .null, .null, .null, .int 0, .int 0]))] ++ va_pl L3 E4) := hD
  refine lv_aload_n hx hb dX4_init_15 rfl (lv_at hl 0 rfl) ?_
  refine va_new (ci := 10) (fs := [.int 0, .null, .null, .null, .null, .null, .null, .null]) (C := RX10) (T := TX10) (N := 8) hx hb hB cx_inX10 tyX10 tyX10_ok hown (hB _ cw_195) (hB _ cw_111) (hB _ cw_4) hK hP hD hS hA rfl cx_fsX10 (Nat.le_of_ble_eq_true rfl) (Nat.le_of_ble_eq_true rfl) dX4_init_16 (fun qn6 H hP hD hS => ?_)
  refine lv_dup hx hb dX4_init_19 rfl ?_
  refine tw_ICN (Xs := [(o, .inr (4, [.ref qn1, .null, .null, .null, .null, .int 0, .int 0]))]) (o := qn6) (ci := 10) (fs := [.int 0, .null, .null, .null, .null, .null, .null, .null]) (kp := kp2) (rest := [.ref qn6, .ref o]) ⟨hx, hb, hml, hown, hB⟩ (fun sz => tI_X10 l D cs qn6 sz) cw_114 cw_4 (by decide +kernel) cw_113 rfl rfl rfl (by decide +kernel) ⟨Nat.le_of_ble_eq_true rfl, Nat.le_of_ble_eq_true rfl⟩ hK hN hP hD hT hS hA hl.1 rfl (Nat.le_of_ble_eq_true rfl) dX4_init_20 ⟨Nat.le_of_ble_eq_true rfl, Nat.le_of_ble_eq_true rfl⟩ (fun kp7 L8 E9 H locs hx10 hmqn6 hkqn6 hnqn6 hpqn6 hP hD hT hS => ?_)
  have hnqn6 : qn6 ∉ L0 := fun z => hnqn6 (hex _ z).1
  have hex : ∀ a : Nat, a ∈ L0 → a ∈ L8 ∧ kp7 a = kp0 a ∧ E9 a = E0 a := fun a h => ⟨(hx10 a (hex a h).1).1, ((hx10 a (hex a h).1).2.1).trans (hex a h).2.1, ((hx10 a (hex a h).1).2.2).trans (hex a h).2.2⟩
  have hvqn1 := (hx10 qn1 hmqn1).2
  have hmqn1 : qn1 ∈ L8 := (hx10 qn1 hmqn1).1
  have hkqn1 : kp7 qn1 = 10 := (hvqn1.1).trans hkqn1
  refine va_put (D := D) (ci := 4) (v := .ref qn6) (ty := .object "TreeMerge$Tree") (C := RX4) (T := TX4) (N := 7) hx hb hB cx_inX4 tyX4 tyX4_ok nmX4 hown hK hP hD hS 0 rfl rfl 1 (by decide) (hB _ cw_198) (fun _ h9 => h9) rfl (by decide +kernel) rfl rfl (Nat.le_of_ble_eq_true rfl) dX4_init_23 (fun H locs hP hD hS => ?_)
  have hP : va_P D vwCl ([(o, .inr (4, [.ref qn1, .ref qn6, .null, .null, .null, .int 0, .int 0]))] ++ va_pl L8 E9) H := hP
  have hD : va_D A ([(o, .inr (4, [.ref qn1, .ref qn6, .null, .null, .null, .int 0, .int 0]))] ++ va_pl L8 E9) := hD
  refine lv_aload_n hx hb dX4_init_26 rfl (lv_at hl 0 rfl) ?_
  refine lv_bipush (v := 40) hx hb dX4_init_27 (by decide) ?_
  refine cx_newa (cs := cs) (atype := .int) (ty := .int) (a0 := (40, .inl (fun _ => 0))) hx hb hB cw_59 rfl cx_ra_int 0 rfl hK hP hD hS hA (fun _ => rfl) (by decide) (by decide) (Nat.le_of_ble_eq_true rfl) (Nat.le_of_ble_eq_true rfl) (Nat.le_of_ble_eq_true rfl) dX4_init_29 (fun qa11 H hP hD hS => ?_)
  obtain ⟨kp12, E13, hP, hD, hT, hx15, hkqa11, heq, hnqa11⟩ := tw_abs (k := 150) hP hD hT (fun _ _ _ => ⟨by decide, rfl, rfl, (fun _ _ => (show ((-1) : Int) ≤ ((0 : Int32)).toInt ∧ ((0 : Int32)).toInt ≤ 39 from by decide))⟩)
  obtain ⟨L14, hL⟩ : ∃ z, z = L8 ++ [qa11] := ⟨_, rfl⟩
  have hmqa11 : qa11 ∈ L14 := by rw [hL]; simp
  rw [← hL] at hP hD hT hx15
  have hnqa11 : qa11 ∉ L0 := fun z => hnqa11 (hex _ z).1
  have hex : ∀ a : Nat, a ∈ L0 → a ∈ L14 ∧ kp12 a = kp0 a ∧ E13 a = E0 a := fun a h => ⟨(hx15 a (hex a h).1).1, ((hx15 a (hex a h).1).2.1).trans (hex a h).2.1, ((hx15 a (hex a h).1).2.2).trans (hex a h).2.2⟩
  have hvqn1 := (hx15 qn1 hmqn1).2
  have hmqn1 : qn1 ∈ L14 := (hx15 qn1 hmqn1).1
  have hkqn1 : kp12 qn1 = 10 := (hvqn1.1).trans hkqn1
  have hvqn6 := (hx15 qn6 hmqn6).2
  have hmqn6 : qn6 ∈ L14 := (hx15 qn6 hmqn6).1
  have hkqn6 : kp12 qn6 = 10 := (hvqn6.1).trans hkqn6
  refine va_putF (D := D) (ci := 4) (v := .ref qa11) (ty := .array .int) (C := RX4) (T := TX4) (N := 7) hx hb hB cx_inX4 tyX4 tyX4_ok nmX4 hown hK hP hD hS 0 rfl rfl 2 (by decide) (hB _ cw_199) (fun _ h9 => h9) rfl hnm rfl (by decide +kernel) rfl rfl (Nat.le_of_ble_eq_true rfl) dX4_init_31 (fun H locs hP hD hS => ?_)
  have hP : va_P D vwCl ([(o, .inr (4, [.ref qn1, .ref qn6, .ref qa11, .null, .null, .int 0, .int 0]))] ++ va_pl L14 E13) H := hP
  have hD : va_D A ([(o, .inr (4, [.ref qn1, .ref qn6, .ref qa11, .null, .null, .int 0, .int 0]))] ++ va_pl L14 E13) := hD
  refine lv_aload_n hx hb dX4_init_34 rfl (lv_at hl 0 rfl) ?_
  refine lv_bipush (v := 40) hx hb dX4_init_35 (by decide) ?_
  refine cx_newa (cs := cs) (atype := .int) (ty := .int) (a0 := (40, .inl (fun _ => 0))) hx hb hB cw_59 rfl cx_ra_int 0 rfl hK hP hD hS hA (fun _ => rfl) (by decide) (by decide) (Nat.le_of_ble_eq_true rfl) (Nat.le_of_ble_eq_true rfl) (Nat.le_of_ble_eq_true rfl) dX4_init_37 (fun qa16 H hP hD hS => ?_)
  obtain ⟨kp17, E18, hP, hD, hT, hx20, hkqa16, heq, hnqa16⟩ := tw_abs (k := 151) hP hD hT (fun _ _ _ => ⟨by decide, rfl, rfl, (fun _ _ => (show ((-1) : Int) ≤ ((0 : Int32)).toInt ∧ ((0 : Int32)).toInt ≤ 39 from by decide))⟩)
  obtain ⟨L19, hL⟩ : ∃ z, z = L14 ++ [qa16] := ⟨_, rfl⟩
  have hmqa16 : qa16 ∈ L19 := by rw [hL]; simp
  rw [← hL] at hP hD hT hx20
  have hnqa16 : qa16 ∉ L0 := fun z => hnqa16 (hex _ z).1
  have hex : ∀ a : Nat, a ∈ L0 → a ∈ L19 ∧ kp17 a = kp0 a ∧ E18 a = E0 a := fun a h => ⟨(hx20 a (hex a h).1).1, ((hx20 a (hex a h).1).2.1).trans (hex a h).2.1, ((hx20 a (hex a h).1).2.2).trans (hex a h).2.2⟩
  have hvqn1 := (hx20 qn1 hmqn1).2
  have hmqn1 : qn1 ∈ L19 := (hx20 qn1 hmqn1).1
  have hkqn1 : kp17 qn1 = 10 := (hvqn1.1).trans hkqn1
  have hvqn6 := (hx20 qn6 hmqn6).2
  have hmqn6 : qn6 ∈ L19 := (hx20 qn6 hmqn6).1
  have hkqn6 : kp17 qn6 = 10 := (hvqn6.1).trans hkqn6
  have hvqa11 := (hx20 qa11 hmqa11).2
  have hmqa11 : qa11 ∈ L19 := (hx20 qa11 hmqa11).1
  have hkqa11 : kp17 qa11 = 150 := (hvqa11.1).trans hkqa11
  refine va_putF (D := D) (ci := 4) (v := .ref qa16) (ty := .array .int) (C := RX4) (T := TX4) (N := 7) hx hb hB cx_inX4 tyX4 tyX4_ok nmX4 hown hK hP hD hS 0 rfl rfl 3 (by decide) (hB _ cw_200) (fun _ h9 => h9) rfl hnm rfl (by decide +kernel) rfl rfl (Nat.le_of_ble_eq_true rfl) dX4_init_39 (fun H locs hP hD hS => ?_)
  have hP : va_P D vwCl ([(o, .inr (4, [.ref qn1, .ref qn6, .ref qa11, .ref qa16, .null, .int 0, .int 0]))] ++ va_pl L19 E18) H := hP
  have hD : va_D A ([(o, .inr (4, [.ref qn1, .ref qn6, .ref qa11, .ref qa16, .null, .int 0, .int 0]))] ++ va_pl L19 E18) := hD
  refine lv_aload_n hx hb dX4_init_42 rfl (lv_at hl 0 rfl) ?_
  refine lv_bipush (v := 40) hx hb dX4_init_43 (by decide) ?_
  refine cx_newa (cs := cs) (atype := .int) (ty := .int) (a0 := (40, .inl (fun _ => 0))) hx hb hB cw_59 rfl cx_ra_int 0 rfl hK hP hD hS hA (fun _ => rfl) (by decide) (by decide) (Nat.le_of_ble_eq_true rfl) (Nat.le_of_ble_eq_true rfl) (Nat.le_of_ble_eq_true rfl) dX4_init_45 (fun qa21 H hP hD hS => ?_)
  obtain ⟨kp22, E23, hP, hD, hT, hx25, hkqa21, heq, hnqa21⟩ := tw_abs (k := 152) hP hD hT (fun _ _ _ => ⟨by decide, rfl, rfl, (fun _ _ => (show ((-1) : Int) ≤ ((0 : Int32)).toInt ∧ ((0 : Int32)).toInt ≤ 39 from by decide))⟩)
  obtain ⟨L24, hL⟩ : ∃ z, z = L19 ++ [qa21] := ⟨_, rfl⟩
  have hmqa21 : qa21 ∈ L24 := by rw [hL]; simp
  rw [← hL] at hP hD hT hx25
  have hnqa21 : qa21 ∉ L0 := fun z => hnqa21 (hex _ z).1
  have hex : ∀ a : Nat, a ∈ L0 → a ∈ L24 ∧ kp22 a = kp0 a ∧ E23 a = E0 a := fun a h => ⟨(hx25 a (hex a h).1).1, ((hx25 a (hex a h).1).2.1).trans (hex a h).2.1, ((hx25 a (hex a h).1).2.2).trans (hex a h).2.2⟩
  have hvqn1 := (hx25 qn1 hmqn1).2
  have hmqn1 : qn1 ∈ L24 := (hx25 qn1 hmqn1).1
  have hkqn1 : kp22 qn1 = 10 := (hvqn1.1).trans hkqn1
  have hvqn6 := (hx25 qn6 hmqn6).2
  have hmqn6 : qn6 ∈ L24 := (hx25 qn6 hmqn6).1
  have hkqn6 : kp22 qn6 = 10 := (hvqn6.1).trans hkqn6
  have hvqa11 := (hx25 qa11 hmqa11).2
  have hmqa11 : qa11 ∈ L24 := (hx25 qa11 hmqa11).1
  have hkqa11 : kp22 qa11 = 150 := (hvqa11.1).trans hkqa11
  have hvqa16 := (hx25 qa16 hmqa16).2
  have hmqa16 : qa16 ∈ L24 := (hx25 qa16 hmqa16).1
  have hkqa16 : kp22 qa16 = 151 := (hvqa16.1).trans hkqa16
  refine va_putF (D := D) (ci := 4) (v := .ref qa21) (ty := .array .int) (C := RX4) (T := TX4) (N := 7) hx hb hB cx_inX4 tyX4 tyX4_ok nmX4 hown hK hP hD hS 0 rfl rfl 4 (by decide) (hB _ cw_201) (fun _ h9 => h9) rfl hnm rfl (by decide +kernel) rfl rfl (Nat.le_of_ble_eq_true rfl) dX4_init_47 (fun H locs hP hD hS => ?_)
  have hP : va_P D vwCl ([(o, .inr (4, [.ref qn1, .ref qn6, .ref qa11, .ref qa16, .ref qa21, .int 0, .int 0]))] ++ va_pl L24 E23) H := hP
  have hD : va_D A ([(o, .inr (4, [.ref qn1, .ref qn6, .ref qa11, .ref qa16, .ref qa21, .int 0, .int 0]))] ++ va_pl L24 E23) := hD
  have hf : ∀ (j : Nat) (v : Value), [(.ref qn1 : Value), (.ref qn6 : Value), (.ref qa11 : Value), (.ref qa16 : Value), (.ref qa21 : Value), (.int 0 : Value), (.int 0 : Value)][j]? = some v → tw_V kp22 L24 (tw_FT 4 j) v := by
    intro j v hj
    match j, hj with
    | 0, hj => cases hj; exact ⟨qn1, rfl, hmqn1, hkqn1⟩
    | 1, hj => cases hj; exact ⟨qn6, rfl, hmqn6, hkqn6⟩
    | 2, hj => cases hj; exact ⟨qa11, rfl, hmqa11, hkqa11⟩
    | 3, hj => cases hj; exact ⟨qa16, rfl, hmqa16, hkqa16⟩
    | 4, hj => cases hj; exact ⟨qa21, rfl, hmqa21, hkqa21⟩
    | 5, hj => cases hj; exact ⟨0, rfl, (show ((-2147483648) : Int) ≤ ((0 : Int32)).toInt from by decide), (show ((0 : Int32)).toInt ≤ (2147483647 : Int) from by decide)⟩
    | 6, hj => cases hj; exact ⟨0, rfl, (show (0 : Int) ≤ ((0 : Int32)).toInt from by decide), (show ((0 : Int32)).toInt ≤ (1 : Int) from by decide)⟩
    | k + 7, hj => simp at hj
  have hnw : ∀ v ∈ [(.ref qn1 : Value), (.ref qn6 : Value), (.ref qa11 : Value), (.ref qa16 : Value), (.ref qa21 : Value), (.int 0 : Value), (.int 0 : Value)], match v with | .ref b => b ∉ L0 | .int x => x = 0 | _ => True := by
    intro v hv
    simp only [List.mem_cons, List.not_mem_nil, or_false] at hv
    rcases hv with rfl | rfl | rfl | rfl | rfl | rfl | rfl
    · exact hnqn1
    · exact hnqn6
    · exact hnqa11
    · exact hnqa16
    · exact hnqa21
    · exact rfl
    · exact rfl
  exact tw_Iret hx hb hr hlocks hP hD hT hS hex (by decide) rfl hf (fun hno E1 he1 hes => nw_ok_of he1 hnw) (Nat.le_of_ble_eq_true rfl) (Nat.le_of_ble_eq_true rfl) dX4_init_50
set_option maxHeartbeats 4000000 in
set_option maxRecDepth 100000 in
theorem tI_X8 (l : Launch) (D : va_G) (cs : Nat → ClassId) {kp : Nat → Nat} {L : List Nat} {E : Nat → va_E} (o : Nat) (sz : Nat) : Met l yX8_init (.code yX8_init cX8_init 1 none :: cx_big) { frames := 2, cells := 10, slots := 478, locals := 32 } (tw_Pi D cs kp L E (o, .inr (8, [.null, .int 0, .null, .null])) sz) (tw_Qi D cs kp L E o 8 (fun L1 E1 => nw_ok L o E1) (va_A ([(o, .inr (8, [.null, .int 0, .null, .null]))] ++ va_pl L E) sz)) 10 478 (va_A ([(o, .inr (8, [.null, .int 0, .null, .null]))] ++ va_pl L E) sz) := by
  refine tw_Iof (X := (o, .inr (8, [.null, .int 0, .null, .null]))) (ci := 8) (by decide) (Nat.le_of_ble_eq_true rfl) ?_
  intro p e s m below meth c A ls hx hb hr hml hB hown hlocks hnm hK hN hA hP hD hT hS hl
  have hown : s.vm.findClass "TreeMerge$Side" = some m.cls := hown
  have hnm : meth.name = "<init>" := hnm
  have hl : lv_has ls 1 [(0, .ref o)] := hl
  obtain ⟨L0, eL⟩ : ∃ z, z = L := ⟨_, rfl⟩
  obtain ⟨kp0, ekp⟩ : ∃ z, z = kp := ⟨_, rfl⟩
  obtain ⟨E0, eE⟩ : ∃ z, z = E := ⟨_, rfl⟩
  show W p l e { frames := 2, cells := 10, slots := 478, locals := 32 } s m [.ref o].toArray below meth c s.heap [] 0 0 (MQ below (tw_Qi D cs kp L E o 8 (fun L1 E1 => nw_ok L o E1) A) [.ref o].toArray s 10 478 A) (F0 m 0 ls [])
  rw [show tw_Qi D cs kp L E o 8 (fun L1 E1 => nw_ok L o E1) = tw_Qi D cs kp0 L0 E0 o 8 (fun L1 E1 => nw_ok L0 o E1) by rw [ekp, eL, eE]]
  have hex : ∀ a : Nat, a ∈ L0 → a ∈ L ∧ kp a = kp0 a ∧ E a = E0 a := fun a h => ⟨by rw [← eL]; exact h, by rw [ekp], by rw [eE]⟩
  refine lv_aload_n hx hb dX8_init_0 rfl (lv_at hl 0 rfl) ?_
  refine W.objInit hx hb hown (hB _ cw_296) (hB _ cw_26) (hB _ cw_27) rfl (by rw [hml]; exact hl.1) rfl dX8_init_1 (Nat.le_of_ble_eq_true rfl) (Nat.le_of_ble_eq_true rfl) ?_
  refine W.eq (g2 := F0 m 4 ls []) rfl ?_
  refine lv_aload_n hx hb dX8_init_4 rfl (lv_at hl 0 rfl) ?_
  refine va_new (ci := 10) (fs := [.int 0, .null, .null, .null, .null, .null, .null, .null]) (C := RX10) (T := TX10) (N := 8) hx hb hB cx_inX10 tyX10 tyX10_ok hown (hB _ cw_297) (hB _ cw_111) (hB _ cw_4) hK hP hD hS hA rfl cx_fsX10 (Nat.le_of_ble_eq_true rfl) (Nat.le_of_ble_eq_true rfl) dX8_init_5 (fun qn1 H hP hD hS => ?_)
  refine lv_dup hx hb dX8_init_8 rfl ?_
  refine tw_ICN (Xs := [(o, .inr (8, [.null, .int 0, .null, .null]))]) (o := qn1) (ci := 10) (fs := [.int 0, .null, .null, .null, .null, .null, .null, .null]) (kp := kp) (rest := [.ref qn1, .ref o]) ⟨hx, hb, hml, hown, hB⟩ (fun sz => tI_X10 l D cs qn1 sz) cw_114 cw_4 (by decide +kernel) cw_113 rfl rfl rfl (by decide +kernel) ⟨Nat.le_of_ble_eq_true rfl, Nat.le_of_ble_eq_true rfl⟩ hK hN hP hD hT hS hA hl.1 rfl (Nat.le_of_ble_eq_true rfl) dX8_init_9 ⟨Nat.le_of_ble_eq_true rfl, Nat.le_of_ble_eq_true rfl⟩ (fun kp2 L3 E4 H locs hx5 hmqn1 hkqn1 hnqn1 hpqn1 hP hD hT hS => ?_)
  have hnqn1 : qn1 ∉ L0 := fun z => hnqn1 (hex _ z).1
  have hex : ∀ a : Nat, a ∈ L0 → a ∈ L3 ∧ kp2 a = kp0 a ∧ E4 a = E0 a := fun a h => ⟨(hx5 a (hex a h).1).1, ((hx5 a (hex a h).1).2.1).trans (hex a h).2.1, ((hx5 a (hex a h).1).2.2).trans (hex a h).2.2⟩
  refine va_put (D := D) (ci := 8) (v := .ref qn1) (ty := .object "TreeMerge$Tree") (C := RX8) (T := TX8) (N := 4) hx hb hB cx_inX8 tyX8 tyX8_ok nmX8 hown hK hP hD hS 0 rfl rfl 0 (by decide) (hB _ cw_299) (fun _ h9 => h9) rfl (by decide +kernel) rfl rfl (Nat.le_of_ble_eq_true rfl) dX8_init_12 (fun H locs hP hD hS => ?_)
  have hP : va_P D vwCl ([(o, .inr (8, [.ref qn1, .int 0, .null, .null]))] ++ va_pl L3 E4) H := hP
  have hD : va_D A ([(o, .inr (8, [.ref qn1, .int 0, .null, .null]))] ++ va_pl L3 E4) := hD
  refine lv_aload_n hx hb dX8_init_15 rfl (lv_at hl 0 rfl) ?_
  refine lv_sipush (v := 150) hx hb dX8_init_16 (by decide) ?_
  refine cx_newa (cs := cs) (atype := .int) (ty := .int) (a0 := (150, .inl (fun _ => 0))) hx hb hB cw_59 rfl cx_ra_int 0 rfl hK hP hD hS hA (fun _ => rfl) (by decide) (by decide) (Nat.le_of_ble_eq_true rfl) (Nat.le_of_ble_eq_true rfl) (Nat.le_of_ble_eq_true rfl) dX8_init_19 (fun qa6 H hP hD hS => ?_)
  obtain ⟨kp7, E8, hP, hD, hT, hx10, hkqa6, heq, hnqa6⟩ := tw_abs (k := 170) hP hD hT (fun _ _ _ => ⟨by decide, rfl, rfl, (fun _ _ => (show ((-1) : Int) ≤ ((0 : Int32)).toInt ∧ ((0 : Int32)).toInt ≤ 39 from by decide))⟩)
  obtain ⟨L9, hL⟩ : ∃ z, z = L3 ++ [qa6] := ⟨_, rfl⟩
  have hmqa6 : qa6 ∈ L9 := by rw [hL]; simp
  rw [← hL] at hP hD hT hx10
  have hnqa6 : qa6 ∉ L0 := fun z => hnqa6 (hex _ z).1
  have hex : ∀ a : Nat, a ∈ L0 → a ∈ L9 ∧ kp7 a = kp0 a ∧ E8 a = E0 a := fun a h => ⟨(hx10 a (hex a h).1).1, ((hx10 a (hex a h).1).2.1).trans (hex a h).2.1, ((hx10 a (hex a h).1).2.2).trans (hex a h).2.2⟩
  have hvqn1 := (hx10 qn1 hmqn1).2
  have hmqn1 : qn1 ∈ L9 := (hx10 qn1 hmqn1).1
  have hkqn1 : kp7 qn1 = 10 := (hvqn1.1).trans hkqn1
  refine va_putF (D := D) (ci := 8) (v := .ref qa6) (ty := .array .int) (C := RX8) (T := TX8) (N := 4) hx hb hB cx_inX8 tyX8 tyX8_ok nmX8 hown hK hP hD hS 0 rfl rfl 2 (by decide) (hB _ cw_302) (fun _ h9 => h9) rfl hnm rfl (by decide +kernel) rfl rfl (Nat.le_of_ble_eq_true rfl) dX8_init_21 (fun H locs hP hD hS => ?_)
  have hP : va_P D vwCl ([(o, .inr (8, [.ref qn1, .int 0, .ref qa6, .null]))] ++ va_pl L9 E8) H := hP
  have hD : va_D A ([(o, .inr (8, [.ref qn1, .int 0, .ref qa6, .null]))] ++ va_pl L9 E8) := hD
  refine lv_aload_n hx hb dX8_init_24 rfl (lv_at hl 0 rfl) ?_
  refine lv_bipush (v := 40) hx hb dX8_init_25 (by decide) ?_
  refine cx_newa (cs := cs) (atype := .int) (ty := .int) (a0 := (40, .inl (fun _ => 0))) hx hb hB cw_59 rfl cx_ra_int 0 rfl hK hP hD hS hA (fun _ => rfl) (by decide) (by decide) (Nat.le_of_ble_eq_true rfl) (Nat.le_of_ble_eq_true rfl) (Nat.le_of_ble_eq_true rfl) dX8_init_27 (fun qa11 H hP hD hS => ?_)
  obtain ⟨kp12, E13, hP, hD, hT, hx15, hkqa11, heq, hnqa11⟩ := tw_abs (k := 171) hP hD hT (fun _ _ _ => ⟨by decide, rfl, rfl, (fun _ _ => (show (0 : Int) ≤ ((0 : Int32)).toInt ∧ ((0 : Int32)).toInt ≤ 1 from by decide))⟩)
  obtain ⟨L14, hL⟩ : ∃ z, z = L9 ++ [qa11] := ⟨_, rfl⟩
  have hmqa11 : qa11 ∈ L14 := by rw [hL]; simp
  rw [← hL] at hP hD hT hx15
  have hnqa11 : qa11 ∉ L0 := fun z => hnqa11 (hex _ z).1
  have hex : ∀ a : Nat, a ∈ L0 → a ∈ L14 ∧ kp12 a = kp0 a ∧ E13 a = E0 a := fun a h => ⟨(hx15 a (hex a h).1).1, ((hx15 a (hex a h).1).2.1).trans (hex a h).2.1, ((hx15 a (hex a h).1).2.2).trans (hex a h).2.2⟩
  have hvqn1 := (hx15 qn1 hmqn1).2
  have hmqn1 : qn1 ∈ L14 := (hx15 qn1 hmqn1).1
  have hkqn1 : kp12 qn1 = 10 := (hvqn1.1).trans hkqn1
  have hvqa6 := (hx15 qa6 hmqa6).2
  have hmqa6 : qa6 ∈ L14 := (hx15 qa6 hmqa6).1
  have hkqa6 : kp12 qa6 = 170 := (hvqa6.1).trans hkqa6
  refine va_putF (D := D) (ci := 8) (v := .ref qa11) (ty := .array .int) (C := RX8) (T := TX8) (N := 4) hx hb hB cx_inX8 tyX8 tyX8_ok nmX8 hown hK hP hD hS 0 rfl rfl 3 (by decide) (hB _ cw_303) (fun _ h9 => h9) rfl hnm rfl (by decide +kernel) rfl rfl (Nat.le_of_ble_eq_true rfl) dX8_init_29 (fun H locs hP hD hS => ?_)
  have hP : va_P D vwCl ([(o, .inr (8, [.ref qn1, .int 0, .ref qa6, .ref qa11]))] ++ va_pl L14 E13) H := hP
  have hD : va_D A ([(o, .inr (8, [.ref qn1, .int 0, .ref qa6, .ref qa11]))] ++ va_pl L14 E13) := hD
  have hf : ∀ (j : Nat) (v : Value), [(.ref qn1 : Value), (.int 0 : Value), (.ref qa6 : Value), (.ref qa11 : Value)][j]? = some v → tw_V kp12 L14 (tw_FT 8 j) v := by
    intro j v hj
    match j, hj with
    | 0, hj => cases hj; exact ⟨qn1, rfl, hmqn1, hkqn1⟩
    | 1, hj => cases hj; exact ⟨0, rfl, (show ((-1) : Int) ≤ ((0 : Int32)).toInt from by decide), (show ((0 : Int32)).toInt ≤ (11 : Int) from by decide)⟩
    | 2, hj => cases hj; exact ⟨qa6, rfl, hmqa6, hkqa6⟩
    | 3, hj => cases hj; exact ⟨qa11, rfl, hmqa11, hkqa11⟩
    | k + 4, hj => simp at hj
  have hnw : ∀ v ∈ [(.ref qn1 : Value), (.int 0 : Value), (.ref qa6 : Value), (.ref qa11 : Value)], match v with | .ref b => b ∉ L0 | .int x => x = 0 | _ => True := by
    intro v hv
    simp only [List.mem_cons, List.not_mem_nil, or_false] at hv
    rcases hv with rfl | rfl | rfl | rfl
    · exact hnqn1
    · exact rfl
    · exact hnqa6
    · exact hnqa11
  exact tw_Iret hx hb hr hlocks hP hD hT hS hex (by decide) rfl hf (fun hno E1 he1 hes => nw_ok_of he1 hnw) (Nat.le_of_ble_eq_true rfl) (Nat.le_of_ble_eq_true rfl) dX8_init_32
set_option maxHeartbeats 4000000 in
set_option maxRecDepth 100000 in
theorem tI_X5 (l : Launch) (D : va_G) (cs : Nat → ClassId) {kp : Nat → Nat} {L : List Nat} {E : Nat → va_E} (o : Nat) (sz : Nat) : Met l yX5_init (.code yX5_init cX5_init 1 none :: cx_big) { frames := 3, cells := 57, slots := 4452, locals := 52 } (tw_Pi D cs kp L E (o, .inr (5, [.null, .null, .null, .null, .null, .null, .null, .null, .null, .null, .int 0, .null, .int 0, .null, .null])) sz) (tw_Qi D cs kp L E o 5 (fun L1 E1 => nw_ok L o E1) (va_A ([(o, .inr (5, [.null, .null, .null, .null, .null, .null, .null, .null, .null, .null, .int 0, .null, .int 0, .null, .null]))] ++ va_pl L E) sz)) 57 4452 (va_A ([(o, .inr (5, [.null, .null, .null, .null, .null, .null, .null, .null, .null, .null, .int 0, .null, .int 0, .null, .null]))] ++ va_pl L E) sz) := by
  refine tw_Iof (X := (o, .inr (5, [.null, .null, .null, .null, .null, .null, .null, .null, .null, .null, .int 0, .null, .int 0, .null, .null]))) (ci := 5) (by decide) (Nat.le_of_ble_eq_true rfl) ?_
  intro p e s m below meth c A ls hx hb hr hml hB hown hlocks hnm hK hN hA hP hD hT hS hl
  have hown : s.vm.findClass "TreeMerge$Merging" = some m.cls := hown
  have hnm : meth.name = "<init>" := hnm
  have hl : lv_has ls 1 [(0, .ref o)] := hl
  obtain ⟨L0, eL⟩ : ∃ z, z = L := ⟨_, rfl⟩
  obtain ⟨kp0, ekp⟩ : ∃ z, z = kp := ⟨_, rfl⟩
  obtain ⟨E0, eE⟩ : ∃ z, z = E := ⟨_, rfl⟩
  show W p l e { frames := 3, cells := 57, slots := 4452, locals := 52 } s m [.ref o].toArray below meth c s.heap [] 0 0 (MQ below (tw_Qi D cs kp L E o 5 (fun L1 E1 => nw_ok L o E1) A) [.ref o].toArray s 57 4452 A) (F0 m 0 ls [])
  rw [show tw_Qi D cs kp L E o 5 (fun L1 E1 => nw_ok L o E1) = tw_Qi D cs kp0 L0 E0 o 5 (fun L1 E1 => nw_ok L0 o E1) by rw [ekp, eL, eE]]
  have hex : ∀ a : Nat, a ∈ L0 → a ∈ L ∧ kp a = kp0 a ∧ E a = E0 a := fun a h => ⟨by rw [← eL]; exact h, by rw [ekp], by rw [eE]⟩
  refine lv_aload_n hx hb dX5_init_0 rfl (lv_at hl 0 rfl) ?_
  refine W.objInit hx hb hown (hB _ cw_290) (hB _ cw_26) (hB _ cw_27) rfl (by rw [hml]; exact hl.1) rfl dX5_init_1 (Nat.le_of_ble_eq_true rfl) (Nat.le_of_ble_eq_true rfl) ?_
  refine W.eq (g2 := F0 m 4 ls []) rfl ?_
  refine lv_aload_n hx hb dX5_init_4 rfl (lv_at hl 0 rfl) ?_
  refine va_new (ci := 8) (fs := [.null, .int 0, .null, .null]) (C := RX8) (T := TX8) (N := 4) hx hb hB cx_inX8 tyX8 tyX8_ok hown (hB _ cw_291) (hB _ cw_292) (hB _ cw_11) hK hP hD hS hA rfl cx_fsX8 (Nat.le_of_ble_eq_true rfl) (Nat.le_of_ble_eq_true rfl) dX5_init_5 (fun qn1 H hP hD hS => ?_)
  refine lv_dup hx hb dX5_init_8 rfl ?_
  refine tw_ICN (Xs := [(o, .inr (5, [.null, .null, .null, .null, .null, .null, .null, .null, .null, .null, .int 0, .null, .int 0, .null, .null]))]) (o := qn1) (ci := 8) (fs := [.null, .int 0, .null, .null]) (kp := kp) (rest := [.ref qn1, .ref o]) ⟨hx, hb, hml, hown, hB⟩ (fun sz => tI_X8 l D cs qn1 sz) cw_295 cw_11 (by decide +kernel) cw_294 rfl rfl rfl (by decide +kernel) ⟨Nat.le_of_ble_eq_true rfl, Nat.le_of_ble_eq_true rfl⟩ hK hN hP hD hT hS hA hl.1 rfl (Nat.le_of_ble_eq_true rfl) dX5_init_9 ⟨Nat.le_of_ble_eq_true rfl, Nat.le_of_ble_eq_true rfl⟩ (fun kp2 L3 E4 H locs hx5 hmqn1 hkqn1 hnqn1 hpqn1 hP hD hT hS => ?_)
  have hnqn1 : qn1 ∉ L0 := fun z => hnqn1 (hex _ z).1
  have hex : ∀ a : Nat, a ∈ L0 → a ∈ L3 ∧ kp2 a = kp0 a ∧ E4 a = E0 a := fun a h => ⟨(hx5 a (hex a h).1).1, ((hx5 a (hex a h).1).2.1).trans (hex a h).2.1, ((hx5 a (hex a h).1).2.2).trans (hex a h).2.2⟩
  refine va_putF (D := D) (ci := 5) (v := .ref qn1) (ty := .object "TreeMerge$Side") (C := RX5) (T := TX5) (N := 15) hx hb hB cx_inX5 tyX5 tyX5_ok nmX5 hown hK hP hD hS 0 rfl rfl 0 (by decide) (hB _ cw_315) (fun _ h9 => h9) rfl hnm rfl (by decide +kernel) rfl rfl (Nat.le_of_ble_eq_true rfl) dX5_init_12 (fun H locs hP hD hS => ?_)
  have hP : va_P D vwCl ([(o, .inr (5, [.ref qn1, .null, .null, .null, .null, .null, .null, .null, .null, .null, .int 0, .null, .int 0, .null, .null]))] ++ va_pl L3 E4) H := hP
  have hD : va_D A ([(o, .inr (5, [.ref qn1, .null, .null, .null, .null, .null, .null, .null, .null, .null, .int 0, .null, .int 0, .null, .null]))] ++ va_pl L3 E4) := hD
  refine lv_aload_n hx hb dX5_init_15 rfl (lv_at hl 0 rfl) ?_
  refine va_new (ci := 8) (fs := [.null, .int 0, .null, .null]) (C := RX8) (T := TX8) (N := 4) hx hb hB cx_inX8 tyX8 tyX8_ok hown (hB _ cw_291) (hB _ cw_292) (hB _ cw_11) hK hP hD hS hA rfl cx_fsX8 (Nat.le_of_ble_eq_true rfl) (Nat.le_of_ble_eq_true rfl) dX5_init_16 (fun qn6 H hP hD hS => ?_)
  refine lv_dup hx hb dX5_init_19 rfl ?_
  refine tw_ICN (Xs := [(o, .inr (5, [.ref qn1, .null, .null, .null, .null, .null, .null, .null, .null, .null, .int 0, .null, .int 0, .null, .null]))]) (o := qn6) (ci := 8) (fs := [.null, .int 0, .null, .null]) (kp := kp2) (rest := [.ref qn6, .ref o]) ⟨hx, hb, hml, hown, hB⟩ (fun sz => tI_X8 l D cs qn6 sz) cw_295 cw_11 (by decide +kernel) cw_294 rfl rfl rfl (by decide +kernel) ⟨Nat.le_of_ble_eq_true rfl, Nat.le_of_ble_eq_true rfl⟩ hK hN hP hD hT hS hA hl.1 rfl (Nat.le_of_ble_eq_true rfl) dX5_init_20 ⟨Nat.le_of_ble_eq_true rfl, Nat.le_of_ble_eq_true rfl⟩ (fun kp7 L8 E9 H locs hx10 hmqn6 hkqn6 hnqn6 hpqn6 hP hD hT hS => ?_)
  have hnqn6 : qn6 ∉ L0 := fun z => hnqn6 (hex _ z).1
  have hex : ∀ a : Nat, a ∈ L0 → a ∈ L8 ∧ kp7 a = kp0 a ∧ E9 a = E0 a := fun a h => ⟨(hx10 a (hex a h).1).1, ((hx10 a (hex a h).1).2.1).trans (hex a h).2.1, ((hx10 a (hex a h).1).2.2).trans (hex a h).2.2⟩
  have hvqn1 := (hx10 qn1 hmqn1).2
  have hmqn1 : qn1 ∈ L8 := (hx10 qn1 hmqn1).1
  have hkqn1 : kp7 qn1 = 8 := (hvqn1.1).trans hkqn1
  refine va_putF (D := D) (ci := 5) (v := .ref qn6) (ty := .object "TreeMerge$Side") (C := RX5) (T := TX5) (N := 15) hx hb hB cx_inX5 tyX5 tyX5_ok nmX5 hown hK hP hD hS 0 rfl rfl 1 (by decide) (hB _ cw_317) (fun _ h9 => h9) rfl hnm rfl (by decide +kernel) rfl rfl (Nat.le_of_ble_eq_true rfl) dX5_init_23 (fun H locs hP hD hS => ?_)
  have hP : va_P D vwCl ([(o, .inr (5, [.ref qn1, .ref qn6, .null, .null, .null, .null, .null, .null, .null, .null, .int 0, .null, .int 0, .null, .null]))] ++ va_pl L8 E9) H := hP
  have hD : va_D A ([(o, .inr (5, [.ref qn1, .ref qn6, .null, .null, .null, .null, .null, .null, .null, .null, .int 0, .null, .int 0, .null, .null]))] ++ va_pl L8 E9) := hD
  refine lv_aload_n hx hb dX5_init_26 rfl (lv_at hl 0 rfl) ?_
  refine va_new (ci := 8) (fs := [.null, .int 0, .null, .null]) (C := RX8) (T := TX8) (N := 4) hx hb hB cx_inX8 tyX8 tyX8_ok hown (hB _ cw_291) (hB _ cw_292) (hB _ cw_11) hK hP hD hS hA rfl cx_fsX8 (Nat.le_of_ble_eq_true rfl) (Nat.le_of_ble_eq_true rfl) dX5_init_27 (fun qn11 H hP hD hS => ?_)
  refine lv_dup hx hb dX5_init_30 rfl ?_
  refine tw_ICN (Xs := [(o, .inr (5, [.ref qn1, .ref qn6, .null, .null, .null, .null, .null, .null, .null, .null, .int 0, .null, .int 0, .null, .null]))]) (o := qn11) (ci := 8) (fs := [.null, .int 0, .null, .null]) (kp := kp7) (rest := [.ref qn11, .ref o]) ⟨hx, hb, hml, hown, hB⟩ (fun sz => tI_X8 l D cs qn11 sz) cw_295 cw_11 (by decide +kernel) cw_294 rfl rfl rfl (by decide +kernel) ⟨Nat.le_of_ble_eq_true rfl, Nat.le_of_ble_eq_true rfl⟩ hK hN hP hD hT hS hA hl.1 rfl (Nat.le_of_ble_eq_true rfl) dX5_init_31 ⟨Nat.le_of_ble_eq_true rfl, Nat.le_of_ble_eq_true rfl⟩ (fun kp12 L13 E14 H locs hx15 hmqn11 hkqn11 hnqn11 hpqn11 hP hD hT hS => ?_)
  have hnqn11 : qn11 ∉ L0 := fun z => hnqn11 (hex _ z).1
  have hex : ∀ a : Nat, a ∈ L0 → a ∈ L13 ∧ kp12 a = kp0 a ∧ E14 a = E0 a := fun a h => ⟨(hx15 a (hex a h).1).1, ((hx15 a (hex a h).1).2.1).trans (hex a h).2.1, ((hx15 a (hex a h).1).2.2).trans (hex a h).2.2⟩
  have hvqn1 := (hx15 qn1 hmqn1).2
  have hmqn1 : qn1 ∈ L13 := (hx15 qn1 hmqn1).1
  have hkqn1 : kp12 qn1 = 8 := (hvqn1.1).trans hkqn1
  have hvqn6 := (hx15 qn6 hmqn6).2
  have hmqn6 : qn6 ∈ L13 := (hx15 qn6 hmqn6).1
  have hkqn6 : kp12 qn6 = 8 := (hvqn6.1).trans hkqn6
  refine va_putF (D := D) (ci := 5) (v := .ref qn11) (ty := .object "TreeMerge$Side") (C := RX5) (T := TX5) (N := 15) hx hb hB cx_inX5 tyX5 tyX5_ok nmX5 hown hK hP hD hS 0 rfl rfl 2 (by decide) (hB _ cw_319) (fun _ h9 => h9) rfl hnm rfl (by decide +kernel) rfl rfl (Nat.le_of_ble_eq_true rfl) dX5_init_34 (fun H locs hP hD hS => ?_)
  have hP : va_P D vwCl ([(o, .inr (5, [.ref qn1, .ref qn6, .ref qn11, .null, .null, .null, .null, .null, .null, .null, .int 0, .null, .int 0, .null, .null]))] ++ va_pl L13 E14) H := hP
  have hD : va_D A ([(o, .inr (5, [.ref qn1, .ref qn6, .ref qn11, .null, .null, .null, .null, .null, .null, .null, .int 0, .null, .int 0, .null, .null]))] ++ va_pl L13 E14) := hD
  refine lv_aload_n hx hb dX5_init_37 rfl (lv_at hl 0 rfl) ?_
  refine va_new (ci := 10) (fs := [.int 0, .null, .null, .null, .null, .null, .null, .null]) (C := RX10) (T := TX10) (N := 8) hx hb hB cx_inX10 tyX10 tyX10_ok hown (hB _ cw_313) (hB _ cw_111) (hB _ cw_4) hK hP hD hS hA rfl cx_fsX10 (Nat.le_of_ble_eq_true rfl) (Nat.le_of_ble_eq_true rfl) dX5_init_38 (fun qn16 H hP hD hS => ?_)
  refine lv_dup hx hb dX5_init_41 rfl ?_
  refine tw_ICN (Xs := [(o, .inr (5, [.ref qn1, .ref qn6, .ref qn11, .null, .null, .null, .null, .null, .null, .null, .int 0, .null, .int 0, .null, .null]))]) (o := qn16) (ci := 10) (fs := [.int 0, .null, .null, .null, .null, .null, .null, .null]) (kp := kp12) (rest := [.ref qn16, .ref o]) ⟨hx, hb, hml, hown, hB⟩ (fun sz => tI_X10 l D cs qn16 sz) cw_114 cw_4 (by decide +kernel) cw_113 rfl rfl rfl (by decide +kernel) ⟨Nat.le_of_ble_eq_true rfl, Nat.le_of_ble_eq_true rfl⟩ hK hN hP hD hT hS hA hl.1 rfl (Nat.le_of_ble_eq_true rfl) dX5_init_42 ⟨Nat.le_of_ble_eq_true rfl, Nat.le_of_ble_eq_true rfl⟩ (fun kp17 L18 E19 H locs hx20 hmqn16 hkqn16 hnqn16 hpqn16 hP hD hT hS => ?_)
  have hnqn16 : qn16 ∉ L0 := fun z => hnqn16 (hex _ z).1
  have hex : ∀ a : Nat, a ∈ L0 → a ∈ L18 ∧ kp17 a = kp0 a ∧ E19 a = E0 a := fun a h => ⟨(hx20 a (hex a h).1).1, ((hx20 a (hex a h).1).2.1).trans (hex a h).2.1, ((hx20 a (hex a h).1).2.2).trans (hex a h).2.2⟩
  have hvqn1 := (hx20 qn1 hmqn1).2
  have hmqn1 : qn1 ∈ L18 := (hx20 qn1 hmqn1).1
  have hkqn1 : kp17 qn1 = 8 := (hvqn1.1).trans hkqn1
  have hvqn6 := (hx20 qn6 hmqn6).2
  have hmqn6 : qn6 ∈ L18 := (hx20 qn6 hmqn6).1
  have hkqn6 : kp17 qn6 = 8 := (hvqn6.1).trans hkqn6
  have hvqn11 := (hx20 qn11 hmqn11).2
  have hmqn11 : qn11 ∈ L18 := (hx20 qn11 hmqn11).1
  have hkqn11 : kp17 qn11 = 8 := (hvqn11.1).trans hkqn11
  refine va_putF (D := D) (ci := 5) (v := .ref qn16) (ty := .object "TreeMerge$Tree") (C := RX5) (T := TX5) (N := 15) hx hb hB cx_inX5 tyX5 tyX5_ok nmX5 hown hK hP hD hS 0 rfl rfl 3 (by decide) (hB _ cw_321) (fun _ h9 => h9) rfl hnm rfl (by decide +kernel) rfl rfl (Nat.le_of_ble_eq_true rfl) dX5_init_45 (fun H locs hP hD hS => ?_)
  have hP : va_P D vwCl ([(o, .inr (5, [.ref qn1, .ref qn6, .ref qn11, .ref qn16, .null, .null, .null, .null, .null, .null, .int 0, .null, .int 0, .null, .null]))] ++ va_pl L18 E19) H := hP
  have hD : va_D A ([(o, .inr (5, [.ref qn1, .ref qn6, .ref qn11, .ref qn16, .null, .null, .null, .null, .null, .null, .int 0, .null, .int 0, .null, .null]))] ++ va_pl L18 E19) := hD
  refine lv_aload_n hx hb dX5_init_48 rfl (lv_at hl 0 rfl) ?_
  refine va_new (ci := 10) (fs := [.int 0, .null, .null, .null, .null, .null, .null, .null]) (C := RX10) (T := TX10) (N := 8) hx hb hB cx_inX10 tyX10 tyX10_ok hown (hB _ cw_313) (hB _ cw_111) (hB _ cw_4) hK hP hD hS hA rfl cx_fsX10 (Nat.le_of_ble_eq_true rfl) (Nat.le_of_ble_eq_true rfl) dX5_init_49 (fun qn21 H hP hD hS => ?_)
  refine lv_dup hx hb dX5_init_52 rfl ?_
  refine tw_ICN (Xs := [(o, .inr (5, [.ref qn1, .ref qn6, .ref qn11, .ref qn16, .null, .null, .null, .null, .null, .null, .int 0, .null, .int 0, .null, .null]))]) (o := qn21) (ci := 10) (fs := [.int 0, .null, .null, .null, .null, .null, .null, .null]) (kp := kp17) (rest := [.ref qn21, .ref o]) ⟨hx, hb, hml, hown, hB⟩ (fun sz => tI_X10 l D cs qn21 sz) cw_114 cw_4 (by decide +kernel) cw_113 rfl rfl rfl (by decide +kernel) ⟨Nat.le_of_ble_eq_true rfl, Nat.le_of_ble_eq_true rfl⟩ hK hN hP hD hT hS hA hl.1 rfl (Nat.le_of_ble_eq_true rfl) dX5_init_53 ⟨Nat.le_of_ble_eq_true rfl, Nat.le_of_ble_eq_true rfl⟩ (fun kp22 L23 E24 H locs hx25 hmqn21 hkqn21 hnqn21 hpqn21 hP hD hT hS => ?_)
  have hnqn21 : qn21 ∉ L0 := fun z => hnqn21 (hex _ z).1
  have hex : ∀ a : Nat, a ∈ L0 → a ∈ L23 ∧ kp22 a = kp0 a ∧ E24 a = E0 a := fun a h => ⟨(hx25 a (hex a h).1).1, ((hx25 a (hex a h).1).2.1).trans (hex a h).2.1, ((hx25 a (hex a h).1).2.2).trans (hex a h).2.2⟩
  have hvqn1 := (hx25 qn1 hmqn1).2
  have hmqn1 : qn1 ∈ L23 := (hx25 qn1 hmqn1).1
  have hkqn1 : kp22 qn1 = 8 := (hvqn1.1).trans hkqn1
  have hvqn6 := (hx25 qn6 hmqn6).2
  have hmqn6 : qn6 ∈ L23 := (hx25 qn6 hmqn6).1
  have hkqn6 : kp22 qn6 = 8 := (hvqn6.1).trans hkqn6
  have hvqn11 := (hx25 qn11 hmqn11).2
  have hmqn11 : qn11 ∈ L23 := (hx25 qn11 hmqn11).1
  have hkqn11 : kp22 qn11 = 8 := (hvqn11.1).trans hkqn11
  have hvqn16 := (hx25 qn16 hmqn16).2
  have hmqn16 : qn16 ∈ L23 := (hx25 qn16 hmqn16).1
  have hkqn16 : kp22 qn16 = 10 := (hvqn16.1).trans hkqn16
  refine va_putF (D := D) (ci := 5) (v := .ref qn21) (ty := .object "TreeMerge$Tree") (C := RX5) (T := TX5) (N := 15) hx hb hB cx_inX5 tyX5 tyX5_ok nmX5 hown hK hP hD hS 0 rfl rfl 4 (by decide) (hB _ cw_323) (fun _ h9 => h9) rfl hnm rfl (by decide +kernel) rfl rfl (Nat.le_of_ble_eq_true rfl) dX5_init_56 (fun H locs hP hD hS => ?_)
  have hP : va_P D vwCl ([(o, .inr (5, [.ref qn1, .ref qn6, .ref qn11, .ref qn16, .ref qn21, .null, .null, .null, .null, .null, .int 0, .null, .int 0, .null, .null]))] ++ va_pl L23 E24) H := hP
  have hD : va_D A ([(o, .inr (5, [.ref qn1, .ref qn6, .ref qn11, .ref qn16, .ref qn21, .null, .null, .null, .null, .null, .int 0, .null, .int 0, .null, .null]))] ++ va_pl L23 E24) := hD
  refine lv_aload_n hx hb dX5_init_59 rfl (lv_at hl 0 rfl) ?_
  refine lv_sipush (v := 150) hx hb dX5_init_60 (by decide) ?_
  refine cx_newa (cs := cs) (atype := .int) (ty := .int) (a0 := (150, .inl (fun _ => 0))) hx hb hB cw_59 rfl cx_ra_int 0 rfl hK hP hD hS hA (fun _ => rfl) (by decide) (by decide) (Nat.le_of_ble_eq_true rfl) (Nat.le_of_ble_eq_true rfl) (Nat.le_of_ble_eq_true rfl) dX5_init_63 (fun qa26 H hP hD hS => ?_)
  obtain ⟨kp27, E28, hP, hD, hT, hx30, hkqa26, heq, hnqa26⟩ := tw_abs (k := 160) hP hD hT (fun _ _ _ => ⟨by decide, rfl, rfl, (fun _ _ => (show ((-2147483648) : Int) ≤ ((0 : Int32)).toInt ∧ ((0 : Int32)).toInt ≤ 2147483647 from by decide))⟩)
  obtain ⟨L29, hL⟩ : ∃ z, z = L23 ++ [qa26] := ⟨_, rfl⟩
  have hmqa26 : qa26 ∈ L29 := by rw [hL]; simp
  rw [← hL] at hP hD hT hx30
  have hnqa26 : qa26 ∉ L0 := fun z => hnqa26 (hex _ z).1
  have hex : ∀ a : Nat, a ∈ L0 → a ∈ L29 ∧ kp27 a = kp0 a ∧ E28 a = E0 a := fun a h => ⟨(hx30 a (hex a h).1).1, ((hx30 a (hex a h).1).2.1).trans (hex a h).2.1, ((hx30 a (hex a h).1).2.2).trans (hex a h).2.2⟩
  have hvqn1 := (hx30 qn1 hmqn1).2
  have hmqn1 : qn1 ∈ L29 := (hx30 qn1 hmqn1).1
  have hkqn1 : kp27 qn1 = 8 := (hvqn1.1).trans hkqn1
  have hvqn6 := (hx30 qn6 hmqn6).2
  have hmqn6 : qn6 ∈ L29 := (hx30 qn6 hmqn6).1
  have hkqn6 : kp27 qn6 = 8 := (hvqn6.1).trans hkqn6
  have hvqn11 := (hx30 qn11 hmqn11).2
  have hmqn11 : qn11 ∈ L29 := (hx30 qn11 hmqn11).1
  have hkqn11 : kp27 qn11 = 8 := (hvqn11.1).trans hkqn11
  have hvqn16 := (hx30 qn16 hmqn16).2
  have hmqn16 : qn16 ∈ L29 := (hx30 qn16 hmqn16).1
  have hkqn16 : kp27 qn16 = 10 := (hvqn16.1).trans hkqn16
  have hvqn21 := (hx30 qn21 hmqn21).2
  have hmqn21 : qn21 ∈ L29 := (hx30 qn21 hmqn21).1
  have hkqn21 : kp27 qn21 = 10 := (hvqn21.1).trans hkqn21
  refine va_putF (D := D) (ci := 5) (v := .ref qa26) (ty := .array .int) (C := RX5) (T := TX5) (N := 15) hx hb hB cx_inX5 tyX5 tyX5_ok nmX5 hown hK hP hD hS 0 rfl rfl 5 (by decide) (hB _ cw_324) (fun _ h9 => h9) rfl hnm rfl (by decide +kernel) rfl rfl (Nat.le_of_ble_eq_true rfl) dX5_init_65 (fun H locs hP hD hS => ?_)
  have hP : va_P D vwCl ([(o, .inr (5, [.ref qn1, .ref qn6, .ref qn11, .ref qn16, .ref qn21, .ref qa26, .null, .null, .null, .null, .int 0, .null, .int 0, .null, .null]))] ++ va_pl L29 E28) H := hP
  have hD : va_D A ([(o, .inr (5, [.ref qn1, .ref qn6, .ref qn11, .ref qn16, .ref qn21, .ref qa26, .null, .null, .null, .null, .int 0, .null, .int 0, .null, .null]))] ++ va_pl L29 E28) := hD
  refine lv_aload_n hx hb dX5_init_68 rfl (lv_at hl 0 rfl) ?_
  refine lv_sipush (v := 150) hx hb dX5_init_69 (by decide) ?_
  refine cx_newa (cs := cs) (atype := .int) (ty := .int) (a0 := (150, .inl (fun _ => 0))) hx hb hB cw_59 rfl cx_ra_int 0 rfl hK hP hD hS hA (fun _ => rfl) (by decide) (by decide) (Nat.le_of_ble_eq_true rfl) (Nat.le_of_ble_eq_true rfl) (Nat.le_of_ble_eq_true rfl) dX5_init_72 (fun qa31 H hP hD hS => ?_)
  obtain ⟨kp32, E33, hP, hD, hT, hx35, hkqa31, heq, hnqa31⟩ := tw_abs (k := 161) hP hD hT (fun _ _ _ => ⟨by decide, rfl, rfl, (fun _ _ => (show (0 : Int) ≤ ((0 : Int32)).toInt ∧ ((0 : Int32)).toInt ≤ 1 from by decide))⟩)
  obtain ⟨L34, hL⟩ : ∃ z, z = L29 ++ [qa31] := ⟨_, rfl⟩
  have hmqa31 : qa31 ∈ L34 := by rw [hL]; simp
  rw [← hL] at hP hD hT hx35
  have hnqa31 : qa31 ∉ L0 := fun z => hnqa31 (hex _ z).1
  have hex : ∀ a : Nat, a ∈ L0 → a ∈ L34 ∧ kp32 a = kp0 a ∧ E33 a = E0 a := fun a h => ⟨(hx35 a (hex a h).1).1, ((hx35 a (hex a h).1).2.1).trans (hex a h).2.1, ((hx35 a (hex a h).1).2.2).trans (hex a h).2.2⟩
  have hvqn1 := (hx35 qn1 hmqn1).2
  have hmqn1 : qn1 ∈ L34 := (hx35 qn1 hmqn1).1
  have hkqn1 : kp32 qn1 = 8 := (hvqn1.1).trans hkqn1
  have hvqn6 := (hx35 qn6 hmqn6).2
  have hmqn6 : qn6 ∈ L34 := (hx35 qn6 hmqn6).1
  have hkqn6 : kp32 qn6 = 8 := (hvqn6.1).trans hkqn6
  have hvqn11 := (hx35 qn11 hmqn11).2
  have hmqn11 : qn11 ∈ L34 := (hx35 qn11 hmqn11).1
  have hkqn11 : kp32 qn11 = 8 := (hvqn11.1).trans hkqn11
  have hvqn16 := (hx35 qn16 hmqn16).2
  have hmqn16 : qn16 ∈ L34 := (hx35 qn16 hmqn16).1
  have hkqn16 : kp32 qn16 = 10 := (hvqn16.1).trans hkqn16
  have hvqn21 := (hx35 qn21 hmqn21).2
  have hmqn21 : qn21 ∈ L34 := (hx35 qn21 hmqn21).1
  have hkqn21 : kp32 qn21 = 10 := (hvqn21.1).trans hkqn21
  have hvqa26 := (hx35 qa26 hmqa26).2
  have hmqa26 : qa26 ∈ L34 := (hx35 qa26 hmqa26).1
  have hkqa26 : kp32 qa26 = 160 := (hvqa26.1).trans hkqa26
  refine va_putF (D := D) (ci := 5) (v := .ref qa31) (ty := .array .int) (C := RX5) (T := TX5) (N := 15) hx hb hB cx_inX5 tyX5 tyX5_ok nmX5 hown hK hP hD hS 0 rfl rfl 6 (by decide) (hB _ cw_325) (fun _ h9 => h9) rfl hnm rfl (by decide +kernel) rfl rfl (Nat.le_of_ble_eq_true rfl) dX5_init_74 (fun H locs hP hD hS => ?_)
  have hP : va_P D vwCl ([(o, .inr (5, [.ref qn1, .ref qn6, .ref qn11, .ref qn16, .ref qn21, .ref qa26, .ref qa31, .null, .null, .null, .int 0, .null, .int 0, .null, .null]))] ++ va_pl L34 E33) H := hP
  have hD : va_D A ([(o, .inr (5, [.ref qn1, .ref qn6, .ref qn11, .ref qn16, .ref qn21, .ref qa26, .ref qa31, .null, .null, .null, .int 0, .null, .int 0, .null, .null]))] ++ va_pl L34 E33) := hD
  refine lv_aload_n hx hb dX5_init_77 rfl (lv_at hl 0 rfl) ?_
  refine lv_sipush (v := 150) hx hb dX5_init_78 (by decide) ?_
  refine cx_newa (cs := cs) (atype := .int) (ty := .int) (a0 := (150, .inl (fun _ => 0))) hx hb hB cw_59 rfl cx_ra_int 0 rfl hK hP hD hS hA (fun _ => rfl) (by decide) (by decide) (Nat.le_of_ble_eq_true rfl) (Nat.le_of_ble_eq_true rfl) (Nat.le_of_ble_eq_true rfl) dX5_init_81 (fun qa36 H hP hD hS => ?_)
  obtain ⟨kp37, E38, hP, hD, hT, hx40, hkqa36, heq, hnqa36⟩ := tw_abs (k := 162) hP hD hT (fun _ _ _ => ⟨by decide, rfl, rfl, (fun _ _ => (show ((-1) : Int) ≤ ((0 : Int32)).toInt ∧ ((0 : Int32)).toInt ≤ 9 from by decide))⟩)
  obtain ⟨L39, hL⟩ : ∃ z, z = L34 ++ [qa36] := ⟨_, rfl⟩
  have hmqa36 : qa36 ∈ L39 := by rw [hL]; simp
  rw [← hL] at hP hD hT hx40
  have hnqa36 : qa36 ∉ L0 := fun z => hnqa36 (hex _ z).1
  have hex : ∀ a : Nat, a ∈ L0 → a ∈ L39 ∧ kp37 a = kp0 a ∧ E38 a = E0 a := fun a h => ⟨(hx40 a (hex a h).1).1, ((hx40 a (hex a h).1).2.1).trans (hex a h).2.1, ((hx40 a (hex a h).1).2.2).trans (hex a h).2.2⟩
  have hvqn1 := (hx40 qn1 hmqn1).2
  have hmqn1 : qn1 ∈ L39 := (hx40 qn1 hmqn1).1
  have hkqn1 : kp37 qn1 = 8 := (hvqn1.1).trans hkqn1
  have hvqn6 := (hx40 qn6 hmqn6).2
  have hmqn6 : qn6 ∈ L39 := (hx40 qn6 hmqn6).1
  have hkqn6 : kp37 qn6 = 8 := (hvqn6.1).trans hkqn6
  have hvqn11 := (hx40 qn11 hmqn11).2
  have hmqn11 : qn11 ∈ L39 := (hx40 qn11 hmqn11).1
  have hkqn11 : kp37 qn11 = 8 := (hvqn11.1).trans hkqn11
  have hvqn16 := (hx40 qn16 hmqn16).2
  have hmqn16 : qn16 ∈ L39 := (hx40 qn16 hmqn16).1
  have hkqn16 : kp37 qn16 = 10 := (hvqn16.1).trans hkqn16
  have hvqn21 := (hx40 qn21 hmqn21).2
  have hmqn21 : qn21 ∈ L39 := (hx40 qn21 hmqn21).1
  have hkqn21 : kp37 qn21 = 10 := (hvqn21.1).trans hkqn21
  have hvqa26 := (hx40 qa26 hmqa26).2
  have hmqa26 : qa26 ∈ L39 := (hx40 qa26 hmqa26).1
  have hkqa26 : kp37 qa26 = 160 := (hvqa26.1).trans hkqa26
  have hvqa31 := (hx40 qa31 hmqa31).2
  have hmqa31 : qa31 ∈ L39 := (hx40 qa31 hmqa31).1
  have hkqa31 : kp37 qa31 = 161 := (hvqa31.1).trans hkqa31
  refine va_putF (D := D) (ci := 5) (v := .ref qa36) (ty := .array .int) (C := RX5) (T := TX5) (N := 15) hx hb hB cx_inX5 tyX5 tyX5_ok nmX5 hown hK hP hD hS 0 rfl rfl 7 (by decide) (hB _ cw_326) (fun _ h9 => h9) rfl hnm rfl (by decide +kernel) rfl rfl (Nat.le_of_ble_eq_true rfl) dX5_init_83 (fun H locs hP hD hS => ?_)
  have hP : va_P D vwCl ([(o, .inr (5, [.ref qn1, .ref qn6, .ref qn11, .ref qn16, .ref qn21, .ref qa26, .ref qa31, .ref qa36, .null, .null, .int 0, .null, .int 0, .null, .null]))] ++ va_pl L39 E38) H := hP
  have hD : va_D A ([(o, .inr (5, [.ref qn1, .ref qn6, .ref qn11, .ref qn16, .ref qn21, .ref qa26, .ref qa31, .ref qa36, .null, .null, .int 0, .null, .int 0, .null, .null]))] ++ va_pl L39 E38) := hD
  refine lv_aload_n hx hb dX5_init_86 rfl (lv_at hl 0 rfl) ?_
  refine lv_sipush (v := 150) hx hb dX5_init_87 (by decide) ?_
  refine cx_newa (cs := cs) (atype := .int) (ty := .int) (a0 := (150, .inl (fun _ => 0))) hx hb hB cw_59 rfl cx_ra_int 0 rfl hK hP hD hS hA (fun _ => rfl) (by decide) (by decide) (Nat.le_of_ble_eq_true rfl) (Nat.le_of_ble_eq_true rfl) (Nat.le_of_ble_eq_true rfl) dX5_init_90 (fun qa41 H hP hD hS => ?_)
  obtain ⟨kp42, E43, hP, hD, hT, hx45, hkqa41, heq, hnqa41⟩ := tw_abs (k := 163) hP hD hT (fun _ _ _ => ⟨by decide, rfl, rfl, (fun _ _ => (show ((-2147483648) : Int) ≤ ((0 : Int32)).toInt ∧ ((0 : Int32)).toInt ≤ 2147483647 from by decide))⟩)
  obtain ⟨L44, hL⟩ : ∃ z, z = L39 ++ [qa41] := ⟨_, rfl⟩
  have hmqa41 : qa41 ∈ L44 := by rw [hL]; simp
  rw [← hL] at hP hD hT hx45
  have hnqa41 : qa41 ∉ L0 := fun z => hnqa41 (hex _ z).1
  have hex : ∀ a : Nat, a ∈ L0 → a ∈ L44 ∧ kp42 a = kp0 a ∧ E43 a = E0 a := fun a h => ⟨(hx45 a (hex a h).1).1, ((hx45 a (hex a h).1).2.1).trans (hex a h).2.1, ((hx45 a (hex a h).1).2.2).trans (hex a h).2.2⟩
  have hvqn1 := (hx45 qn1 hmqn1).2
  have hmqn1 : qn1 ∈ L44 := (hx45 qn1 hmqn1).1
  have hkqn1 : kp42 qn1 = 8 := (hvqn1.1).trans hkqn1
  have hvqn6 := (hx45 qn6 hmqn6).2
  have hmqn6 : qn6 ∈ L44 := (hx45 qn6 hmqn6).1
  have hkqn6 : kp42 qn6 = 8 := (hvqn6.1).trans hkqn6
  have hvqn11 := (hx45 qn11 hmqn11).2
  have hmqn11 : qn11 ∈ L44 := (hx45 qn11 hmqn11).1
  have hkqn11 : kp42 qn11 = 8 := (hvqn11.1).trans hkqn11
  have hvqn16 := (hx45 qn16 hmqn16).2
  have hmqn16 : qn16 ∈ L44 := (hx45 qn16 hmqn16).1
  have hkqn16 : kp42 qn16 = 10 := (hvqn16.1).trans hkqn16
  have hvqn21 := (hx45 qn21 hmqn21).2
  have hmqn21 : qn21 ∈ L44 := (hx45 qn21 hmqn21).1
  have hkqn21 : kp42 qn21 = 10 := (hvqn21.1).trans hkqn21
  have hvqa26 := (hx45 qa26 hmqa26).2
  have hmqa26 : qa26 ∈ L44 := (hx45 qa26 hmqa26).1
  have hkqa26 : kp42 qa26 = 160 := (hvqa26.1).trans hkqa26
  have hvqa31 := (hx45 qa31 hmqa31).2
  have hmqa31 : qa31 ∈ L44 := (hx45 qa31 hmqa31).1
  have hkqa31 : kp42 qa31 = 161 := (hvqa31.1).trans hkqa31
  have hvqa36 := (hx45 qa36 hmqa36).2
  have hmqa36 : qa36 ∈ L44 := (hx45 qa36 hmqa36).1
  have hkqa36 : kp42 qa36 = 162 := (hvqa36.1).trans hkqa36
  refine va_putF (D := D) (ci := 5) (v := .ref qa41) (ty := .array .int) (C := RX5) (T := TX5) (N := 15) hx hb hB cx_inX5 tyX5 tyX5_ok nmX5 hown hK hP hD hS 0 rfl rfl 8 (by decide) (hB _ cw_327) (fun _ h9 => h9) rfl hnm rfl (by decide +kernel) rfl rfl (Nat.le_of_ble_eq_true rfl) dX5_init_92 (fun H locs hP hD hS => ?_)
  have hP : va_P D vwCl ([(o, .inr (5, [.ref qn1, .ref qn6, .ref qn11, .ref qn16, .ref qn21, .ref qa26, .ref qa31, .ref qa36, .ref qa41, .null, .int 0, .null, .int 0, .null, .null]))] ++ va_pl L44 E43) H := hP
  have hD : va_D A ([(o, .inr (5, [.ref qn1, .ref qn6, .ref qn11, .ref qn16, .ref qn21, .ref qa26, .ref qa31, .ref qa36, .ref qa41, .null, .int 0, .null, .int 0, .null, .null]))] ++ va_pl L44 E43) := hD
  refine lv_aload_n hx hb dX5_init_95 rfl (lv_at hl 0 rfl) ?_
  refine lv_sipush (v := 150) hx hb dX5_init_96 (by decide) ?_
  refine cx_newa (cs := cs) (atype := .long) (ty := .long) (a0 := (150, .inr (.inl (fun _ => 0)))) hx hb hB cw_170 rfl cx_ra_long 1 rfl hK hP hD hS hA (fun _ => rfl) (by decide) (by decide) (Nat.le_of_ble_eq_true rfl) (Nat.le_of_ble_eq_true rfl) (Nat.le_of_ble_eq_true rfl) dX5_init_99 (fun qa46 H hP hD hS => ?_)
  obtain ⟨kp47, E48, hP, hD, hT, hx50, hkqa46, heq, hnqa46⟩ := tw_abs (k := 164) hP hD hT (fun _ _ _ => ⟨by decide, rfl, rfl, trivial⟩)
  obtain ⟨L49, hL⟩ : ∃ z, z = L44 ++ [qa46] := ⟨_, rfl⟩
  have hmqa46 : qa46 ∈ L49 := by rw [hL]; simp
  rw [← hL] at hP hD hT hx50
  have hnqa46 : qa46 ∉ L0 := fun z => hnqa46 (hex _ z).1
  have hex : ∀ a : Nat, a ∈ L0 → a ∈ L49 ∧ kp47 a = kp0 a ∧ E48 a = E0 a := fun a h => ⟨(hx50 a (hex a h).1).1, ((hx50 a (hex a h).1).2.1).trans (hex a h).2.1, ((hx50 a (hex a h).1).2.2).trans (hex a h).2.2⟩
  have hvqn1 := (hx50 qn1 hmqn1).2
  have hmqn1 : qn1 ∈ L49 := (hx50 qn1 hmqn1).1
  have hkqn1 : kp47 qn1 = 8 := (hvqn1.1).trans hkqn1
  have hvqn6 := (hx50 qn6 hmqn6).2
  have hmqn6 : qn6 ∈ L49 := (hx50 qn6 hmqn6).1
  have hkqn6 : kp47 qn6 = 8 := (hvqn6.1).trans hkqn6
  have hvqn11 := (hx50 qn11 hmqn11).2
  have hmqn11 : qn11 ∈ L49 := (hx50 qn11 hmqn11).1
  have hkqn11 : kp47 qn11 = 8 := (hvqn11.1).trans hkqn11
  have hvqn16 := (hx50 qn16 hmqn16).2
  have hmqn16 : qn16 ∈ L49 := (hx50 qn16 hmqn16).1
  have hkqn16 : kp47 qn16 = 10 := (hvqn16.1).trans hkqn16
  have hvqn21 := (hx50 qn21 hmqn21).2
  have hmqn21 : qn21 ∈ L49 := (hx50 qn21 hmqn21).1
  have hkqn21 : kp47 qn21 = 10 := (hvqn21.1).trans hkqn21
  have hvqa26 := (hx50 qa26 hmqa26).2
  have hmqa26 : qa26 ∈ L49 := (hx50 qa26 hmqa26).1
  have hkqa26 : kp47 qa26 = 160 := (hvqa26.1).trans hkqa26
  have hvqa31 := (hx50 qa31 hmqa31).2
  have hmqa31 : qa31 ∈ L49 := (hx50 qa31 hmqa31).1
  have hkqa31 : kp47 qa31 = 161 := (hvqa31.1).trans hkqa31
  have hvqa36 := (hx50 qa36 hmqa36).2
  have hmqa36 : qa36 ∈ L49 := (hx50 qa36 hmqa36).1
  have hkqa36 : kp47 qa36 = 162 := (hvqa36.1).trans hkqa36
  have hvqa41 := (hx50 qa41 hmqa41).2
  have hmqa41 : qa41 ∈ L49 := (hx50 qa41 hmqa41).1
  have hkqa41 : kp47 qa41 = 163 := (hvqa41.1).trans hkqa41
  refine va_putF (D := D) (ci := 5) (v := .ref qa46) (ty := .array .long) (C := RX5) (T := TX5) (N := 15) hx hb hB cx_inX5 tyX5 tyX5_ok nmX5 hown hK hP hD hS 0 rfl rfl 9 (by decide) (hB _ cw_328) (fun _ h9 => h9) rfl hnm rfl (by decide +kernel) rfl rfl (Nat.le_of_ble_eq_true rfl) dX5_init_101 (fun H locs hP hD hS => ?_)
  have hP : va_P D vwCl ([(o, .inr (5, [.ref qn1, .ref qn6, .ref qn11, .ref qn16, .ref qn21, .ref qa26, .ref qa31, .ref qa36, .ref qa41, .ref qa46, .int 0, .null, .int 0, .null, .null]))] ++ va_pl L49 E48) H := hP
  have hD : va_D A ([(o, .inr (5, [.ref qn1, .ref qn6, .ref qn11, .ref qn16, .ref qn21, .ref qa26, .ref qa31, .ref qa36, .ref qa41, .ref qa46, .int 0, .null, .int 0, .null, .null]))] ++ va_pl L49 E48) := hD
  refine lv_aload_n hx hb dX5_init_104 rfl (lv_at hl 0 rfl) ?_
  refine lv_bipush (v := 40) hx hb dX5_init_105 (by decide) ?_
  refine cx_newa (cs := cs) (atype := .int) (ty := .int) (a0 := (40, .inl (fun _ => 0))) hx hb hB cw_59 rfl cx_ra_int 0 rfl hK hP hD hS hA (fun _ => rfl) (by decide) (by decide) (Nat.le_of_ble_eq_true rfl) (Nat.le_of_ble_eq_true rfl) (Nat.le_of_ble_eq_true rfl) dX5_init_107 (fun qa51 H hP hD hS => ?_)
  obtain ⟨kp52, E53, hP, hD, hT, hx55, hkqa51, heq, hnqa51⟩ := tw_abs (k := 165) hP hD hT (fun _ _ _ => ⟨by decide, rfl, rfl, (fun _ _ => (show (0 : Int) ≤ ((0 : Int32)).toInt ∧ ((0 : Int32)).toInt ≤ 149 from by decide))⟩)
  obtain ⟨L54, hL⟩ : ∃ z, z = L49 ++ [qa51] := ⟨_, rfl⟩
  have hmqa51 : qa51 ∈ L54 := by rw [hL]; simp
  rw [← hL] at hP hD hT hx55
  have hnqa51 : qa51 ∉ L0 := fun z => hnqa51 (hex _ z).1
  have hex : ∀ a : Nat, a ∈ L0 → a ∈ L54 ∧ kp52 a = kp0 a ∧ E53 a = E0 a := fun a h => ⟨(hx55 a (hex a h).1).1, ((hx55 a (hex a h).1).2.1).trans (hex a h).2.1, ((hx55 a (hex a h).1).2.2).trans (hex a h).2.2⟩
  have hvqn1 := (hx55 qn1 hmqn1).2
  have hmqn1 : qn1 ∈ L54 := (hx55 qn1 hmqn1).1
  have hkqn1 : kp52 qn1 = 8 := (hvqn1.1).trans hkqn1
  have hvqn6 := (hx55 qn6 hmqn6).2
  have hmqn6 : qn6 ∈ L54 := (hx55 qn6 hmqn6).1
  have hkqn6 : kp52 qn6 = 8 := (hvqn6.1).trans hkqn6
  have hvqn11 := (hx55 qn11 hmqn11).2
  have hmqn11 : qn11 ∈ L54 := (hx55 qn11 hmqn11).1
  have hkqn11 : kp52 qn11 = 8 := (hvqn11.1).trans hkqn11
  have hvqn16 := (hx55 qn16 hmqn16).2
  have hmqn16 : qn16 ∈ L54 := (hx55 qn16 hmqn16).1
  have hkqn16 : kp52 qn16 = 10 := (hvqn16.1).trans hkqn16
  have hvqn21 := (hx55 qn21 hmqn21).2
  have hmqn21 : qn21 ∈ L54 := (hx55 qn21 hmqn21).1
  have hkqn21 : kp52 qn21 = 10 := (hvqn21.1).trans hkqn21
  have hvqa26 := (hx55 qa26 hmqa26).2
  have hmqa26 : qa26 ∈ L54 := (hx55 qa26 hmqa26).1
  have hkqa26 : kp52 qa26 = 160 := (hvqa26.1).trans hkqa26
  have hvqa31 := (hx55 qa31 hmqa31).2
  have hmqa31 : qa31 ∈ L54 := (hx55 qa31 hmqa31).1
  have hkqa31 : kp52 qa31 = 161 := (hvqa31.1).trans hkqa31
  have hvqa36 := (hx55 qa36 hmqa36).2
  have hmqa36 : qa36 ∈ L54 := (hx55 qa36 hmqa36).1
  have hkqa36 : kp52 qa36 = 162 := (hvqa36.1).trans hkqa36
  have hvqa41 := (hx55 qa41 hmqa41).2
  have hmqa41 : qa41 ∈ L54 := (hx55 qa41 hmqa41).1
  have hkqa41 : kp52 qa41 = 163 := (hvqa41.1).trans hkqa41
  have hvqa46 := (hx55 qa46 hmqa46).2
  have hmqa46 : qa46 ∈ L54 := (hx55 qa46 hmqa46).1
  have hkqa46 : kp52 qa46 = 164 := (hvqa46.1).trans hkqa46
  refine va_putF (D := D) (ci := 5) (v := .ref qa51) (ty := .array .int) (C := RX5) (T := TX5) (N := 15) hx hb hB cx_inX5 tyX5 tyX5_ok nmX5 hown hK hP hD hS 0 rfl rfl 11 (by decide) (hB _ cw_330) (fun _ h9 => h9) rfl hnm rfl (by decide +kernel) rfl rfl (Nat.le_of_ble_eq_true rfl) dX5_init_109 (fun H locs hP hD hS => ?_)
  have hP : va_P D vwCl ([(o, .inr (5, [.ref qn1, .ref qn6, .ref qn11, .ref qn16, .ref qn21, .ref qa26, .ref qa31, .ref qa36, .ref qa41, .ref qa46, .int 0, .ref qa51, .int 0, .null, .null]))] ++ va_pl L54 E53) H := hP
  have hD : va_D A ([(o, .inr (5, [.ref qn1, .ref qn6, .ref qn11, .ref qn16, .ref qn21, .ref qa26, .ref qa31, .ref qa36, .ref qa41, .ref qa46, .int 0, .ref qa51, .int 0, .null, .null]))] ++ va_pl L54 E53) := hD
  refine lv_aload_n hx hb dX5_init_112 rfl (lv_at hl 0 rfl) ?_
  refine lv_sipush (v := 1600) hx hb dX5_init_113 (by decide) ?_
  refine cx_newa (cs := cs) (atype := .int) (ty := .int) (a0 := (1600, .inl (fun _ => 0))) hx hb hB cw_59 rfl cx_ra_int 0 rfl hK hP hD hS hA (fun _ => rfl) (by decide) (by decide) (Nat.le_of_ble_eq_true rfl) (Nat.le_of_ble_eq_true rfl) (Nat.le_of_ble_eq_true rfl) dX5_init_116 (fun qa56 H hP hD hS => ?_)
  obtain ⟨kp57, E58, hP, hD, hT, hx60, hkqa56, heq, hnqa56⟩ := tw_abs (k := 166) hP hD hT (fun _ _ _ => ⟨by decide, rfl, rfl, (fun _ _ => (show (0 : Int) ≤ ((0 : Int32)).toInt ∧ ((0 : Int32)).toInt ≤ 1 from by decide))⟩)
  obtain ⟨L59, hL⟩ : ∃ z, z = L54 ++ [qa56] := ⟨_, rfl⟩
  have hmqa56 : qa56 ∈ L59 := by rw [hL]; simp
  rw [← hL] at hP hD hT hx60
  have hnqa56 : qa56 ∉ L0 := fun z => hnqa56 (hex _ z).1
  have hex : ∀ a : Nat, a ∈ L0 → a ∈ L59 ∧ kp57 a = kp0 a ∧ E58 a = E0 a := fun a h => ⟨(hx60 a (hex a h).1).1, ((hx60 a (hex a h).1).2.1).trans (hex a h).2.1, ((hx60 a (hex a h).1).2.2).trans (hex a h).2.2⟩
  have hvqn1 := (hx60 qn1 hmqn1).2
  have hmqn1 : qn1 ∈ L59 := (hx60 qn1 hmqn1).1
  have hkqn1 : kp57 qn1 = 8 := (hvqn1.1).trans hkqn1
  have hvqn6 := (hx60 qn6 hmqn6).2
  have hmqn6 : qn6 ∈ L59 := (hx60 qn6 hmqn6).1
  have hkqn6 : kp57 qn6 = 8 := (hvqn6.1).trans hkqn6
  have hvqn11 := (hx60 qn11 hmqn11).2
  have hmqn11 : qn11 ∈ L59 := (hx60 qn11 hmqn11).1
  have hkqn11 : kp57 qn11 = 8 := (hvqn11.1).trans hkqn11
  have hvqn16 := (hx60 qn16 hmqn16).2
  have hmqn16 : qn16 ∈ L59 := (hx60 qn16 hmqn16).1
  have hkqn16 : kp57 qn16 = 10 := (hvqn16.1).trans hkqn16
  have hvqn21 := (hx60 qn21 hmqn21).2
  have hmqn21 : qn21 ∈ L59 := (hx60 qn21 hmqn21).1
  have hkqn21 : kp57 qn21 = 10 := (hvqn21.1).trans hkqn21
  have hvqa26 := (hx60 qa26 hmqa26).2
  have hmqa26 : qa26 ∈ L59 := (hx60 qa26 hmqa26).1
  have hkqa26 : kp57 qa26 = 160 := (hvqa26.1).trans hkqa26
  have hvqa31 := (hx60 qa31 hmqa31).2
  have hmqa31 : qa31 ∈ L59 := (hx60 qa31 hmqa31).1
  have hkqa31 : kp57 qa31 = 161 := (hvqa31.1).trans hkqa31
  have hvqa36 := (hx60 qa36 hmqa36).2
  have hmqa36 : qa36 ∈ L59 := (hx60 qa36 hmqa36).1
  have hkqa36 : kp57 qa36 = 162 := (hvqa36.1).trans hkqa36
  have hvqa41 := (hx60 qa41 hmqa41).2
  have hmqa41 : qa41 ∈ L59 := (hx60 qa41 hmqa41).1
  have hkqa41 : kp57 qa41 = 163 := (hvqa41.1).trans hkqa41
  have hvqa46 := (hx60 qa46 hmqa46).2
  have hmqa46 : qa46 ∈ L59 := (hx60 qa46 hmqa46).1
  have hkqa46 : kp57 qa46 = 164 := (hvqa46.1).trans hkqa46
  have hvqa51 := (hx60 qa51 hmqa51).2
  have hmqa51 : qa51 ∈ L59 := (hx60 qa51 hmqa51).1
  have hkqa51 : kp57 qa51 = 165 := (hvqa51.1).trans hkqa51
  refine va_putF (D := D) (ci := 5) (v := .ref qa56) (ty := .array .int) (C := RX5) (T := TX5) (N := 15) hx hb hB cx_inX5 tyX5 tyX5_ok nmX5 hown hK hP hD hS 0 rfl rfl 13 (by decide) (hB _ cw_332) (fun _ h9 => h9) rfl hnm rfl (by decide +kernel) rfl rfl (Nat.le_of_ble_eq_true rfl) dX5_init_118 (fun H locs hP hD hS => ?_)
  have hP : va_P D vwCl ([(o, .inr (5, [.ref qn1, .ref qn6, .ref qn11, .ref qn16, .ref qn21, .ref qa26, .ref qa31, .ref qa36, .ref qa41, .ref qa46, .int 0, .ref qa51, .int 0, .ref qa56, .null]))] ++ va_pl L59 E58) H := hP
  have hD : va_D A ([(o, .inr (5, [.ref qn1, .ref qn6, .ref qn11, .ref qn16, .ref qn21, .ref qa26, .ref qa31, .ref qa36, .ref qa41, .ref qa46, .int 0, .ref qa51, .int 0, .ref qa56, .null]))] ++ va_pl L59 E58) := hD
  refine lv_aload_n hx hb dX5_init_121 rfl (lv_at hl 0 rfl) ?_
  refine lv_bipush (v := 40) hx hb dX5_init_122 (by decide) ?_
  refine cx_newa (cs := cs) (atype := .int) (ty := .int) (a0 := (40, .inl (fun _ => 0))) hx hb hB cw_59 rfl cx_ra_int 0 rfl hK hP hD hS hA (fun _ => rfl) (by decide) (by decide) (Nat.le_of_ble_eq_true rfl) (Nat.le_of_ble_eq_true rfl) (Nat.le_of_ble_eq_true rfl) dX5_init_124 (fun qa61 H hP hD hS => ?_)
  obtain ⟨kp62, E63, hP, hD, hT, hx65, hkqa61, heq, hnqa61⟩ := tw_abs (k := 167) hP hD hT (fun _ _ _ => ⟨by decide, rfl, rfl, (fun _ _ => (show ((-2147483648) : Int) ≤ ((0 : Int32)).toInt ∧ ((0 : Int32)).toInt ≤ 2147483647 from by decide))⟩)
  obtain ⟨L64, hL⟩ : ∃ z, z = L59 ++ [qa61] := ⟨_, rfl⟩
  have hmqa61 : qa61 ∈ L64 := by rw [hL]; simp
  rw [← hL] at hP hD hT hx65
  have hnqa61 : qa61 ∉ L0 := fun z => hnqa61 (hex _ z).1
  have hex : ∀ a : Nat, a ∈ L0 → a ∈ L64 ∧ kp62 a = kp0 a ∧ E63 a = E0 a := fun a h => ⟨(hx65 a (hex a h).1).1, ((hx65 a (hex a h).1).2.1).trans (hex a h).2.1, ((hx65 a (hex a h).1).2.2).trans (hex a h).2.2⟩
  have hvqn1 := (hx65 qn1 hmqn1).2
  have hmqn1 : qn1 ∈ L64 := (hx65 qn1 hmqn1).1
  have hkqn1 : kp62 qn1 = 8 := (hvqn1.1).trans hkqn1
  have hvqn6 := (hx65 qn6 hmqn6).2
  have hmqn6 : qn6 ∈ L64 := (hx65 qn6 hmqn6).1
  have hkqn6 : kp62 qn6 = 8 := (hvqn6.1).trans hkqn6
  have hvqn11 := (hx65 qn11 hmqn11).2
  have hmqn11 : qn11 ∈ L64 := (hx65 qn11 hmqn11).1
  have hkqn11 : kp62 qn11 = 8 := (hvqn11.1).trans hkqn11
  have hvqn16 := (hx65 qn16 hmqn16).2
  have hmqn16 : qn16 ∈ L64 := (hx65 qn16 hmqn16).1
  have hkqn16 : kp62 qn16 = 10 := (hvqn16.1).trans hkqn16
  have hvqn21 := (hx65 qn21 hmqn21).2
  have hmqn21 : qn21 ∈ L64 := (hx65 qn21 hmqn21).1
  have hkqn21 : kp62 qn21 = 10 := (hvqn21.1).trans hkqn21
  have hvqa26 := (hx65 qa26 hmqa26).2
  have hmqa26 : qa26 ∈ L64 := (hx65 qa26 hmqa26).1
  have hkqa26 : kp62 qa26 = 160 := (hvqa26.1).trans hkqa26
  have hvqa31 := (hx65 qa31 hmqa31).2
  have hmqa31 : qa31 ∈ L64 := (hx65 qa31 hmqa31).1
  have hkqa31 : kp62 qa31 = 161 := (hvqa31.1).trans hkqa31
  have hvqa36 := (hx65 qa36 hmqa36).2
  have hmqa36 : qa36 ∈ L64 := (hx65 qa36 hmqa36).1
  have hkqa36 : kp62 qa36 = 162 := (hvqa36.1).trans hkqa36
  have hvqa41 := (hx65 qa41 hmqa41).2
  have hmqa41 : qa41 ∈ L64 := (hx65 qa41 hmqa41).1
  have hkqa41 : kp62 qa41 = 163 := (hvqa41.1).trans hkqa41
  have hvqa46 := (hx65 qa46 hmqa46).2
  have hmqa46 : qa46 ∈ L64 := (hx65 qa46 hmqa46).1
  have hkqa46 : kp62 qa46 = 164 := (hvqa46.1).trans hkqa46
  have hvqa51 := (hx65 qa51 hmqa51).2
  have hmqa51 : qa51 ∈ L64 := (hx65 qa51 hmqa51).1
  have hkqa51 : kp62 qa51 = 165 := (hvqa51.1).trans hkqa51
  have hvqa56 := (hx65 qa56 hmqa56).2
  have hmqa56 : qa56 ∈ L64 := (hx65 qa56 hmqa56).1
  have hkqa56 : kp62 qa56 = 166 := (hvqa56.1).trans hkqa56
  refine va_putF (D := D) (ci := 5) (v := .ref qa61) (ty := .array .int) (C := RX5) (T := TX5) (N := 15) hx hb hB cx_inX5 tyX5 tyX5_ok nmX5 hown hK hP hD hS 0 rfl rfl 14 (by decide) (hB _ cw_333) (fun _ h9 => h9) rfl hnm rfl (by decide +kernel) rfl rfl (Nat.le_of_ble_eq_true rfl) dX5_init_126 (fun H locs hP hD hS => ?_)
  have hP : va_P D vwCl ([(o, .inr (5, [.ref qn1, .ref qn6, .ref qn11, .ref qn16, .ref qn21, .ref qa26, .ref qa31, .ref qa36, .ref qa41, .ref qa46, .int 0, .ref qa51, .int 0, .ref qa56, .ref qa61]))] ++ va_pl L64 E63) H := hP
  have hD : va_D A ([(o, .inr (5, [.ref qn1, .ref qn6, .ref qn11, .ref qn16, .ref qn21, .ref qa26, .ref qa31, .ref qa36, .ref qa41, .ref qa46, .int 0, .ref qa51, .int 0, .ref qa56, .ref qa61]))] ++ va_pl L64 E63) := hD
  have hf : ∀ (j : Nat) (v : Value), [(.ref qn1 : Value), (.ref qn6 : Value), (.ref qn11 : Value), (.ref qn16 : Value), (.ref qn21 : Value), (.ref qa26 : Value), (.ref qa31 : Value), (.ref qa36 : Value), (.ref qa41 : Value), (.ref qa46 : Value), (.int 0 : Value), (.ref qa51 : Value), (.int 0 : Value), (.ref qa56 : Value), (.ref qa61 : Value)][j]? = some v → tw_V kp62 L64 (tw_FT 5 j) v := by
    intro j v hj
    match j, hj with
    | 0, hj => cases hj; exact ⟨qn1, rfl, hmqn1, hkqn1⟩
    | 1, hj => cases hj; exact ⟨qn6, rfl, hmqn6, hkqn6⟩
    | 2, hj => cases hj; exact ⟨qn11, rfl, hmqn11, hkqn11⟩
    | 3, hj => cases hj; exact ⟨qn16, rfl, hmqn16, hkqn16⟩
    | 4, hj => cases hj; exact ⟨qn21, rfl, hmqn21, hkqn21⟩
    | 5, hj => cases hj; exact ⟨qa26, rfl, hmqa26, hkqa26⟩
    | 6, hj => cases hj; exact ⟨qa31, rfl, hmqa31, hkqa31⟩
    | 7, hj => cases hj; exact ⟨qa36, rfl, hmqa36, hkqa36⟩
    | 8, hj => cases hj; exact ⟨qa41, rfl, hmqa41, hkqa41⟩
    | 9, hj => cases hj; exact ⟨qa46, rfl, hmqa46, hkqa46⟩
    | 10, hj => cases hj; exact ⟨0, rfl, (show (0 : Int) ≤ ((0 : Int32)).toInt from by decide), (show ((0 : Int32)).toInt ≤ (1 : Int) from by decide)⟩
    | 11, hj => cases hj; exact ⟨qa51, rfl, hmqa51, hkqa51⟩
    | 12, hj => cases hj; exact ⟨0, rfl, (show (0 : Int) ≤ ((0 : Int32)).toInt from by decide), (show ((0 : Int32)).toInt ≤ (40 : Int) from by decide)⟩
    | 13, hj => cases hj; exact ⟨qa56, rfl, hmqa56, hkqa56⟩
    | 14, hj => cases hj; exact ⟨qa61, rfl, hmqa61, hkqa61⟩
    | k + 15, hj => simp at hj
  have hnw : ∀ v ∈ [(.ref qn1 : Value), (.ref qn6 : Value), (.ref qn11 : Value), (.ref qn16 : Value), (.ref qn21 : Value), (.ref qa26 : Value), (.ref qa31 : Value), (.ref qa36 : Value), (.ref qa41 : Value), (.ref qa46 : Value), (.int 0 : Value), (.ref qa51 : Value), (.int 0 : Value), (.ref qa56 : Value), (.ref qa61 : Value)], match v with | .ref b => b ∉ L0 | .int x => x = 0 | _ => True := by
    intro v hv
    simp only [List.mem_cons, List.not_mem_nil, or_false] at hv
    rcases hv with rfl | rfl | rfl | rfl | rfl | rfl | rfl | rfl | rfl | rfl | rfl | rfl | rfl | rfl | rfl
    · exact hnqn1
    · exact hnqn6
    · exact hnqn11
    · exact hnqn16
    · exact hnqn21
    · exact hnqa26
    · exact hnqa31
    · exact hnqa36
    · exact hnqa41
    · exact hnqa46
    · exact rfl
    · exact hnqa51
    · exact rfl
    · exact hnqa56
    · exact hnqa61
  exact tw_Iret hx hb hr hlocks hP hD hT hS hex (by decide) rfl hf (fun hno E1 he1 hes => nw_ok_of he1 hnw) (Nat.le_of_ble_eq_true rfl) (Nat.le_of_ble_eq_true rfl) dX5_init_129
set_option maxHeartbeats 4000000 in
set_option maxRecDepth 100000 in
theorem tI_X0 (l : Launch) (D : va_G) (cs : Nat → ClassId) {kp : Nat → Nat} {L : List Nat} {E : Nat → va_E} (o : Nat) (sz : Nat) : Met l yX0_init (.code yX0_init cX0_init 1 none :: cx_big) { frames := 2, cells := 16, slots := 576, locals := 32 } (tw_Pi D cs kp L E (o, .inr (0, [.int 0, .int 0, .null, .null])) sz) (tw_Qi D cs kp L E o 0 (fun L1 E1 => nw_ok L o E1) (va_A ([(o, .inr (0, [.int 0, .int 0, .null, .null]))] ++ va_pl L E) sz)) 16 576 (va_A ([(o, .inr (0, [.int 0, .int 0, .null, .null]))] ++ va_pl L E) sz) := by
  refine tw_Iof (X := (o, .inr (0, [.int 0, .int 0, .null, .null]))) (ci := 0) (by decide) (Nat.le_of_ble_eq_true rfl) ?_
  intro p e s m below meth c A ls hx hb hr hml hB hown hlocks hnm hK hN hA hP hD hT hS hl
  have hown : s.vm.findClass "TreeMerge$Draft" = some m.cls := hown
  have hnm : meth.name = "<init>" := hnm
  have hl : lv_has ls 1 [(0, .ref o)] := hl
  obtain ⟨L0, eL⟩ : ∃ z, z = L := ⟨_, rfl⟩
  obtain ⟨kp0, ekp⟩ : ∃ z, z = kp := ⟨_, rfl⟩
  obtain ⟨E0, eE⟩ : ∃ z, z = E := ⟨_, rfl⟩
  show W p l e { frames := 2, cells := 16, slots := 576, locals := 32 } s m [.ref o].toArray below meth c s.heap [] 0 0 (MQ below (tw_Qi D cs kp L E o 0 (fun L1 E1 => nw_ok L o E1) A) [.ref o].toArray s 16 576 A) (F0 m 0 ls [])
  rw [show tw_Qi D cs kp L E o 0 (fun L1 E1 => nw_ok L o E1) = tw_Qi D cs kp0 L0 E0 o 0 (fun L1 E1 => nw_ok L0 o E1) by rw [ekp, eL, eE]]
  have hex : ∀ a : Nat, a ∈ L0 → a ∈ L ∧ kp a = kp0 a ∧ E a = E0 a := fun a h => ⟨by rw [← eL]; exact h, by rw [ekp], by rw [eE]⟩
  refine lv_aload_n hx hb dX0_init_0 rfl (lv_at hl 0 rfl) ?_
  refine W.objInit hx hb hown (hB _ cw_253) (hB _ cw_26) (hB _ cw_27) rfl (by rw [hml]; exact hl.1) rfl dX0_init_1 (Nat.le_of_ble_eq_true rfl) (Nat.le_of_ble_eq_true rfl) ?_
  refine W.eq (g2 := F0 m 4 ls []) rfl ?_
  refine lv_aload_n hx hb dX0_init_4 rfl (lv_at hl 0 rfl) ?_
  refine va_new (ci := 10) (fs := [.int 0, .null, .null, .null, .null, .null, .null, .null]) (C := RX10) (T := TX10) (N := 8) hx hb hB cx_inX10 tyX10 tyX10_ok hown (hB _ cw_254) (hB _ cw_111) (hB _ cw_4) hK hP hD hS hA rfl cx_fsX10 (Nat.le_of_ble_eq_true rfl) (Nat.le_of_ble_eq_true rfl) dX0_init_5 (fun qn1 H hP hD hS => ?_)
  refine lv_dup hx hb dX0_init_8 rfl ?_
  refine tw_ICN (Xs := [(o, .inr (0, [.int 0, .int 0, .null, .null]))]) (o := qn1) (ci := 10) (fs := [.int 0, .null, .null, .null, .null, .null, .null, .null]) (kp := kp) (rest := [.ref qn1, .ref o]) ⟨hx, hb, hml, hown, hB⟩ (fun sz => tI_X10 l D cs qn1 sz) cw_114 cw_4 (by decide +kernel) cw_113 rfl rfl rfl (by decide +kernel) ⟨Nat.le_of_ble_eq_true rfl, Nat.le_of_ble_eq_true rfl⟩ hK hN hP hD hT hS hA hl.1 rfl (Nat.le_of_ble_eq_true rfl) dX0_init_9 ⟨Nat.le_of_ble_eq_true rfl, Nat.le_of_ble_eq_true rfl⟩ (fun kp2 L3 E4 H locs hx5 hmqn1 hkqn1 hnqn1 hpqn1 hP hD hT hS => ?_)
  have hnqn1 : qn1 ∉ L0 := fun z => hnqn1 (hex _ z).1
  have hex : ∀ a : Nat, a ∈ L0 → a ∈ L3 ∧ kp2 a = kp0 a ∧ E4 a = E0 a := fun a h => ⟨(hx5 a (hex a h).1).1, ((hx5 a (hex a h).1).2.1).trans (hex a h).2.1, ((hx5 a (hex a h).1).2.2).trans (hex a h).2.2⟩
  refine va_putF (D := D) (ci := 0) (v := .ref qn1) (ty := .object "TreeMerge$Tree") (C := RX0) (T := TX0) (N := 4) hx hb hB cx_inX0 tyX0 tyX0_ok nmX0 hown hK hP hD hS 0 rfl rfl 2 (by decide) (hB _ cw_259) (fun _ h9 => h9) rfl hnm rfl (by decide +kernel) rfl rfl (Nat.le_of_ble_eq_true rfl) dX0_init_12 (fun H locs hP hD hS => ?_)
  have hP : va_P D vwCl ([(o, .inr (0, [.int 0, .int 0, .ref qn1, .null]))] ++ va_pl L3 E4) H := hP
  have hD : va_D A ([(o, .inr (0, [.int 0, .int 0, .ref qn1, .null]))] ++ va_pl L3 E4) := hD
  refine lv_aload_n hx hb dX0_init_15 rfl (lv_at hl 0 rfl) ?_
  refine va_new (ci := 10) (fs := [.int 0, .null, .null, .null, .null, .null, .null, .null]) (C := RX10) (T := TX10) (N := 8) hx hb hB cx_inX10 tyX10 tyX10_ok hown (hB _ cw_254) (hB _ cw_111) (hB _ cw_4) hK hP hD hS hA rfl cx_fsX10 (Nat.le_of_ble_eq_true rfl) (Nat.le_of_ble_eq_true rfl) dX0_init_16 (fun qn6 H hP hD hS => ?_)
  refine lv_dup hx hb dX0_init_19 rfl ?_
  refine tw_ICN (Xs := [(o, .inr (0, [.int 0, .int 0, .ref qn1, .null]))]) (o := qn6) (ci := 10) (fs := [.int 0, .null, .null, .null, .null, .null, .null, .null]) (kp := kp2) (rest := [.ref qn6, .ref o]) ⟨hx, hb, hml, hown, hB⟩ (fun sz => tI_X10 l D cs qn6 sz) cw_114 cw_4 (by decide +kernel) cw_113 rfl rfl rfl (by decide +kernel) ⟨Nat.le_of_ble_eq_true rfl, Nat.le_of_ble_eq_true rfl⟩ hK hN hP hD hT hS hA hl.1 rfl (Nat.le_of_ble_eq_true rfl) dX0_init_20 ⟨Nat.le_of_ble_eq_true rfl, Nat.le_of_ble_eq_true rfl⟩ (fun kp7 L8 E9 H locs hx10 hmqn6 hkqn6 hnqn6 hpqn6 hP hD hT hS => ?_)
  have hnqn6 : qn6 ∉ L0 := fun z => hnqn6 (hex _ z).1
  have hex : ∀ a : Nat, a ∈ L0 → a ∈ L8 ∧ kp7 a = kp0 a ∧ E9 a = E0 a := fun a h => ⟨(hx10 a (hex a h).1).1, ((hx10 a (hex a h).1).2.1).trans (hex a h).2.1, ((hx10 a (hex a h).1).2.2).trans (hex a h).2.2⟩
  have hvqn1 := (hx10 qn1 hmqn1).2
  have hmqn1 : qn1 ∈ L8 := (hx10 qn1 hmqn1).1
  have hkqn1 : kp7 qn1 = 10 := (hvqn1.1).trans hkqn1
  refine va_putF (D := D) (ci := 0) (v := .ref qn6) (ty := .object "TreeMerge$Tree") (C := RX0) (T := TX0) (N := 4) hx hb hB cx_inX0 tyX0 tyX0_ok nmX0 hown hK hP hD hS 0 rfl rfl 3 (by decide) (hB _ cw_261) (fun _ h9 => h9) rfl hnm rfl (by decide +kernel) rfl rfl (Nat.le_of_ble_eq_true rfl) dX0_init_23 (fun H locs hP hD hS => ?_)
  have hP : va_P D vwCl ([(o, .inr (0, [.int 0, .int 0, .ref qn1, .ref qn6]))] ++ va_pl L8 E9) H := hP
  have hD : va_D A ([(o, .inr (0, [.int 0, .int 0, .ref qn1, .ref qn6]))] ++ va_pl L8 E9) := hD
  have hf : ∀ (j : Nat) (v : Value), [(.int 0 : Value), (.int 0 : Value), (.ref qn1 : Value), (.ref qn6 : Value)][j]? = some v → tw_V kp7 L8 (tw_FT 0 j) v := by
    intro j v hj
    match j, hj with
    | 0, hj => cases hj; exact ⟨0, rfl, (show (0 : Int) ≤ ((0 : Int32)).toInt from by decide), (show ((0 : Int32)).toInt ≤ (1 : Int) from by decide)⟩
    | 1, hj => cases hj; exact ⟨0, rfl, (show ((-1) : Int) ≤ ((0 : Int32)).toInt from by decide), (show ((0 : Int32)).toInt ≤ (11 : Int) from by decide)⟩
    | 2, hj => cases hj; exact ⟨qn1, rfl, hmqn1, hkqn1⟩
    | 3, hj => cases hj; exact ⟨qn6, rfl, hmqn6, hkqn6⟩
    | k + 4, hj => simp at hj
  have hnw : ∀ v ∈ [(.int 0 : Value), (.int 0 : Value), (.ref qn1 : Value), (.ref qn6 : Value)], match v with | .ref b => b ∉ L0 | .int x => x = 0 | _ => True := by
    intro v hv
    simp only [List.mem_cons, List.not_mem_nil, or_false] at hv
    rcases hv with rfl | rfl | rfl | rfl
    · exact rfl
    · exact rfl
    · exact hnqn1
    · exact hnqn6
  exact tw_Iret hx hb hr hlocks hP hD hT hS hex (by decide) rfl hf (fun hno E1 he1 hes => nw_ok_of he1 hnw) (Nat.le_of_ble_eq_true rfl) (Nat.le_of_ble_eq_true rfl) dX0_init_26
set_option maxHeartbeats 4000000 in
set_option maxRecDepth 100000 in
theorem tI_X1 (l : Launch) (D : va_G) (cs : Nat → ClassId) {kp : Nat → Nat} {L : List Nat} {E : Nat → va_E} (o : Nat) (sz : Nat) : Met l yX1_init (.code yX1_init cX1_init 1 none :: cx_big) { frames := 1, cells := 4, slots := 48, locals := 12 } (tw_Pi D cs kp L E (o, .inr (1, [.int 0, .null, .null, .null, .null])) sz) (tw_Qi D cs kp L E o 1 (fun L1 E1 => nw_ok L o E1) (va_A ([(o, .inr (1, [.int 0, .null, .null, .null, .null]))] ++ va_pl L E) sz)) 4 48 (va_A ([(o, .inr (1, [.int 0, .null, .null, .null, .null]))] ++ va_pl L E) sz) := by
  refine tw_Iof (X := (o, .inr (1, [.int 0, .null, .null, .null, .null]))) (ci := 1) (by decide) (Nat.le_of_ble_eq_true rfl) ?_
  intro p e s m below meth c A ls hx hb hr hml hB hown hlocks hnm hK hN hA hP hD hT hS hl
  have hown : s.vm.findClass "TreeMerge$Editions" = some m.cls := hown
  have hnm : meth.name = "<init>" := hnm
  have hl : lv_has ls 1 [(0, .ref o)] := hl
  obtain ⟨L0, eL⟩ : ∃ z, z = L := ⟨_, rfl⟩
  obtain ⟨kp0, ekp⟩ : ∃ z, z = kp := ⟨_, rfl⟩
  obtain ⟨E0, eE⟩ : ∃ z, z = E := ⟨_, rfl⟩
  show W p l e { frames := 1, cells := 4, slots := 48, locals := 12 } s m [.ref o].toArray below meth c s.heap [] 0 0 (MQ below (tw_Qi D cs kp L E o 1 (fun L1 E1 => nw_ok L o E1) A) [.ref o].toArray s 4 48 A) (F0 m 0 ls [])
  rw [show tw_Qi D cs kp L E o 1 (fun L1 E1 => nw_ok L o E1) = tw_Qi D cs kp0 L0 E0 o 1 (fun L1 E1 => nw_ok L0 o E1) by rw [ekp, eL, eE]]
  have hex : ∀ a : Nat, a ∈ L0 → a ∈ L ∧ kp a = kp0 a ∧ E a = E0 a := fun a h => ⟨by rw [← eL]; exact h, by rw [ekp], by rw [eE]⟩
  refine lv_aload_n hx hb dX1_init_0 rfl (lv_at hl 0 rfl) ?_
  refine W.objInit hx hb hown (hB _ cw_226) (hB _ cw_26) (hB _ cw_27) rfl (by rw [hml]; exact hl.1) rfl dX1_init_1 (Nat.le_of_ble_eq_true rfl) (Nat.le_of_ble_eq_true rfl) ?_
  refine W.eq (g2 := F0 m 4 ls []) rfl ?_
  refine lv_aload_n hx hb dX1_init_4 rfl (lv_at hl 0 rfl) ?_
  refine lv_bipush (v := 12) hx hb dX1_init_5 (by decide) ?_
  refine va_newq (own := "TreeMerge$Editions") (C := "TreeMerge$Tree") (N' := 12) hx hb hown (hB _ cw_227) hN.2.1 hK hP hD hS hA (by decide) (by decide) (Nat.le_of_ble_eq_true rfl) (Nat.le_of_ble_eq_true rfl) (Nat.le_of_ble_eq_true rfl) dX1_init_7 (fun qa1 cQ H hKq hP hD hS => ?_)
  have hcQ : cQ = cs 7 := cx_ra_tree _ _ (hKq.2 8 _ rfl).2 (hK.2 7 _ rfl).2
  subst hcQ
  obtain ⟨kp2, E3, hP, hD, hT, hx5, hkqa1, heq, hnqa1⟩ := tw_abs (k := 140) hP hD hT (fun _ _ _ => ⟨by decide, rfl, rfl, (fun _ _ _ z => by cases z)⟩)
  obtain ⟨L4, hL⟩ : ∃ z, z = L ++ [qa1] := ⟨_, rfl⟩
  have hmqa1 : qa1 ∈ L4 := by rw [hL]; simp
  rw [← hL] at hP hD hT hx5
  have hnqa1 : qa1 ∉ L0 := fun z => hnqa1 (hex _ z).1
  have hex : ∀ a : Nat, a ∈ L0 → a ∈ L4 ∧ kp2 a = kp0 a ∧ E3 a = E0 a := fun a h => ⟨(hx5 a (hex a h).1).1, ((hx5 a (hex a h).1).2.1).trans (hex a h).2.1, ((hx5 a (hex a h).1).2.2).trans (hex a h).2.2⟩
  refine va_putF (D := D) (ci := 1) (v := .ref qa1) (ty := .array (.object "TreeMerge$Tree")) (C := RX1) (T := TX1) (N := 5) hx hb hB cx_inX1 tyX1 tyX1_ok nmX1 hown hK hP hD hS 0 rfl rfl 1 (by decide) (hB _ cw_231) (fun _ h9 => h9) rfl hnm rfl (by decide +kernel) rfl rfl (Nat.le_of_ble_eq_true rfl) dX1_init_10 (fun H locs hP hD hS => ?_)
  have hP : va_P D vwCl ([(o, .inr (1, [.int 0, .ref qa1, .null, .null, .null]))] ++ va_pl L4 E3) H := hP
  have hD : va_D A ([(o, .inr (1, [.int 0, .ref qa1, .null, .null, .null]))] ++ va_pl L4 E3) := hD
  refine lv_aload_n hx hb dX1_init_13 rfl (lv_at hl 0 rfl) ?_
  refine lv_bipush (v := 12) hx hb dX1_init_14 (by decide) ?_
  refine cx_newa (cs := cs) (atype := .int) (ty := .int) (a0 := (12, .inl (fun _ => 0))) hx hb hB cw_59 rfl cx_ra_int 0 rfl hK hP hD hS hA (fun _ => rfl) (by decide) (by decide) (Nat.le_of_ble_eq_true rfl) (Nat.le_of_ble_eq_true rfl) (Nat.le_of_ble_eq_true rfl) dX1_init_16 (fun qa6 H hP hD hS => ?_)
  obtain ⟨kp7, E8, hP, hD, hT, hx10, hkqa6, heq, hnqa6⟩ := tw_abs (k := 141) hP hD hT (fun _ _ _ => ⟨by decide, rfl, rfl, (fun _ _ => (show ((-2147483648) : Int) ≤ ((0 : Int32)).toInt ∧ ((0 : Int32)).toInt ≤ 2147483647 from by decide))⟩)
  obtain ⟨L9, hL⟩ : ∃ z, z = L4 ++ [qa6] := ⟨_, rfl⟩
  have hmqa6 : qa6 ∈ L9 := by rw [hL]; simp
  rw [← hL] at hP hD hT hx10
  have hnqa6 : qa6 ∉ L0 := fun z => hnqa6 (hex _ z).1
  have hex : ∀ a : Nat, a ∈ L0 → a ∈ L9 ∧ kp7 a = kp0 a ∧ E8 a = E0 a := fun a h => ⟨(hx10 a (hex a h).1).1, ((hx10 a (hex a h).1).2.1).trans (hex a h).2.1, ((hx10 a (hex a h).1).2.2).trans (hex a h).2.2⟩
  have hvqa1 := (hx10 qa1 hmqa1).2
  have hmqa1 : qa1 ∈ L9 := (hx10 qa1 hmqa1).1
  have hkqa1 : kp7 qa1 = 140 := (hvqa1.1).trans hkqa1
  refine va_putF (D := D) (ci := 1) (v := .ref qa6) (ty := .array .int) (C := RX1) (T := TX1) (N := 5) hx hb hB cx_inX1 tyX1 tyX1_ok nmX1 hown hK hP hD hS 0 rfl rfl 2 (by decide) (hB _ cw_232) (fun _ h9 => h9) rfl hnm rfl (by decide +kernel) rfl rfl (Nat.le_of_ble_eq_true rfl) dX1_init_18 (fun H locs hP hD hS => ?_)
  have hP : va_P D vwCl ([(o, .inr (1, [.int 0, .ref qa1, .ref qa6, .null, .null]))] ++ va_pl L9 E8) H := hP
  have hD : va_D A ([(o, .inr (1, [.int 0, .ref qa1, .ref qa6, .null, .null]))] ++ va_pl L9 E8) := hD
  refine lv_aload_n hx hb dX1_init_21 rfl (lv_at hl 0 rfl) ?_
  refine lv_bipush (v := 12) hx hb dX1_init_22 (by decide) ?_
  refine cx_newa (cs := cs) (atype := .int) (ty := .int) (a0 := (12, .inl (fun _ => 0))) hx hb hB cw_59 rfl cx_ra_int 0 rfl hK hP hD hS hA (fun _ => rfl) (by decide) (by decide) (Nat.le_of_ble_eq_true rfl) (Nat.le_of_ble_eq_true rfl) (Nat.le_of_ble_eq_true rfl) dX1_init_24 (fun qa11 H hP hD hS => ?_)
  obtain ⟨kp12, E13, hP, hD, hT, hx15, hkqa11, heq, hnqa11⟩ := tw_abs (k := 141) hP hD hT (fun _ _ _ => ⟨by decide, rfl, rfl, (fun _ _ => (show ((-2147483648) : Int) ≤ ((0 : Int32)).toInt ∧ ((0 : Int32)).toInt ≤ 2147483647 from by decide))⟩)
  obtain ⟨L14, hL⟩ : ∃ z, z = L9 ++ [qa11] := ⟨_, rfl⟩
  have hmqa11 : qa11 ∈ L14 := by rw [hL]; simp
  rw [← hL] at hP hD hT hx15
  have hnqa11 : qa11 ∉ L0 := fun z => hnqa11 (hex _ z).1
  have hex : ∀ a : Nat, a ∈ L0 → a ∈ L14 ∧ kp12 a = kp0 a ∧ E13 a = E0 a := fun a h => ⟨(hx15 a (hex a h).1).1, ((hx15 a (hex a h).1).2.1).trans (hex a h).2.1, ((hx15 a (hex a h).1).2.2).trans (hex a h).2.2⟩
  have hvqa1 := (hx15 qa1 hmqa1).2
  have hmqa1 : qa1 ∈ L14 := (hx15 qa1 hmqa1).1
  have hkqa1 : kp12 qa1 = 140 := (hvqa1.1).trans hkqa1
  have hvqa6 := (hx15 qa6 hmqa6).2
  have hmqa6 : qa6 ∈ L14 := (hx15 qa6 hmqa6).1
  have hkqa6 : kp12 qa6 = 141 := (hvqa6.1).trans hkqa6
  refine va_putF (D := D) (ci := 1) (v := .ref qa11) (ty := .array .int) (C := RX1) (T := TX1) (N := 5) hx hb hB cx_inX1 tyX1 tyX1_ok nmX1 hown hK hP hD hS 0 rfl rfl 3 (by decide) (hB _ cw_234) (fun _ h9 => h9) rfl hnm rfl (by decide +kernel) rfl rfl (Nat.le_of_ble_eq_true rfl) dX1_init_26 (fun H locs hP hD hS => ?_)
  have hP : va_P D vwCl ([(o, .inr (1, [.int 0, .ref qa1, .ref qa6, .ref qa11, .null]))] ++ va_pl L14 E13) H := hP
  have hD : va_D A ([(o, .inr (1, [.int 0, .ref qa1, .ref qa6, .ref qa11, .null]))] ++ va_pl L14 E13) := hD
  refine lv_aload_n hx hb dX1_init_29 rfl (lv_at hl 0 rfl) ?_
  refine lv_bipush (v := 12) hx hb dX1_init_30 (by decide) ?_
  refine cx_newa (cs := cs) (atype := .int) (ty := .int) (a0 := (12, .inl (fun _ => 0))) hx hb hB cw_59 rfl cx_ra_int 0 rfl hK hP hD hS hA (fun _ => rfl) (by decide) (by decide) (Nat.le_of_ble_eq_true rfl) (Nat.le_of_ble_eq_true rfl) (Nat.le_of_ble_eq_true rfl) dX1_init_32 (fun qa16 H hP hD hS => ?_)
  obtain ⟨kp17, E18, hP, hD, hT, hx20, hkqa16, heq, hnqa16⟩ := tw_abs (k := 142) hP hD hT (fun _ _ _ => ⟨by decide, rfl, rfl, (fun _ _ => (show ((-2147483648) : Int) ≤ ((0 : Int32)).toInt ∧ ((0 : Int32)).toInt ≤ 2147483647 from by decide))⟩)
  obtain ⟨L19, hL⟩ : ∃ z, z = L14 ++ [qa16] := ⟨_, rfl⟩
  have hmqa16 : qa16 ∈ L19 := by rw [hL]; simp
  rw [← hL] at hP hD hT hx20
  have hnqa16 : qa16 ∉ L0 := fun z => hnqa16 (hex _ z).1
  have hex : ∀ a : Nat, a ∈ L0 → a ∈ L19 ∧ kp17 a = kp0 a ∧ E18 a = E0 a := fun a h => ⟨(hx20 a (hex a h).1).1, ((hx20 a (hex a h).1).2.1).trans (hex a h).2.1, ((hx20 a (hex a h).1).2.2).trans (hex a h).2.2⟩
  have hvqa1 := (hx20 qa1 hmqa1).2
  have hmqa1 : qa1 ∈ L19 := (hx20 qa1 hmqa1).1
  have hkqa1 : kp17 qa1 = 140 := (hvqa1.1).trans hkqa1
  have hvqa6 := (hx20 qa6 hmqa6).2
  have hmqa6 : qa6 ∈ L19 := (hx20 qa6 hmqa6).1
  have hkqa6 : kp17 qa6 = 141 := (hvqa6.1).trans hkqa6
  have hvqa11 := (hx20 qa11 hmqa11).2
  have hmqa11 : qa11 ∈ L19 := (hx20 qa11 hmqa11).1
  have hkqa11 : kp17 qa11 = 141 := (hvqa11.1).trans hkqa11
  refine va_putF (D := D) (ci := 1) (v := .ref qa16) (ty := .array .int) (C := RX1) (T := TX1) (N := 5) hx hb hB cx_inX1 tyX1 tyX1_ok nmX1 hown hK hP hD hS 0 rfl rfl 4 (by decide) (hB _ cw_236) (fun _ h9 => h9) rfl hnm rfl (by decide +kernel) rfl rfl (Nat.le_of_ble_eq_true rfl) dX1_init_34 (fun H locs hP hD hS => ?_)
  have hP : va_P D vwCl ([(o, .inr (1, [.int 0, .ref qa1, .ref qa6, .ref qa11, .ref qa16]))] ++ va_pl L19 E18) H := hP
  have hD : va_D A ([(o, .inr (1, [.int 0, .ref qa1, .ref qa6, .ref qa11, .ref qa16]))] ++ va_pl L19 E18) := hD
  have hf : ∀ (j : Nat) (v : Value), [(.int 0 : Value), (.ref qa1 : Value), (.ref qa6 : Value), (.ref qa11 : Value), (.ref qa16 : Value)][j]? = some v → tw_V kp17 L19 (tw_FT 1 j) v := by
    intro j v hj
    match j, hj with
    | 0, hj => cases hj; exact ⟨0, rfl, (show (0 : Int) ≤ ((0 : Int32)).toInt from by decide), (show ((0 : Int32)).toInt ≤ (12 : Int) from by decide)⟩
    | 1, hj => cases hj; exact ⟨qa1, rfl, hmqa1, hkqa1⟩
    | 2, hj => cases hj; exact ⟨qa6, rfl, hmqa6, hkqa6⟩
    | 3, hj => cases hj; exact ⟨qa11, rfl, hmqa11, hkqa11⟩
    | 4, hj => cases hj; exact ⟨qa16, rfl, hmqa16, hkqa16⟩
    | k + 5, hj => simp at hj
  have hnw : ∀ v ∈ [(.int 0 : Value), (.ref qa1 : Value), (.ref qa6 : Value), (.ref qa11 : Value), (.ref qa16 : Value)], match v with | .ref b => b ∉ L0 | .int x => x = 0 | _ => True := by
    intro v hv
    simp only [List.mem_cons, List.not_mem_nil, or_false] at hv
    rcases hv with rfl | rfl | rfl | rfl | rfl
    · exact rfl
    · exact hnqa1
    · exact hnqa6
    · exact hnqa11
    · exact hnqa16
  exact tw_Iret hx hb hr hlocks hP hD hT hS hex (by decide) rfl hf (fun hno E1 he1 hes => nw_ok_of he1 hnw) (Nat.le_of_ble_eq_true rfl) (Nat.le_of_ble_eq_true rfl) dX1_init_37
set_option maxHeartbeats 4000000 in
set_option maxRecDepth 100000 in
theorem tI_X7 (l : Launch) (D : va_G) (cs : Nat → ClassId) {kp : Nat → Nat} {L : List Nat} {E : Nat → va_E} (o : Nat) (sz : Nat) : Met l yX7_init (.code yX7_init cX7_init 1 none :: cx_big) { frames := 1, cells := 1, slots := 450, locals := 12 } (tw_Pi D cs kp L E (o, .inr (7, [.int 0, .null])) sz) (tw_Qi D cs kp L E o 7 (fun L1 E1 => nw_ok L o E1) (va_A ([(o, .inr (7, [.int 0, .null]))] ++ va_pl L E) sz)) 1 450 (va_A ([(o, .inr (7, [.int 0, .null]))] ++ va_pl L E) sz) := by
  refine tw_Iof (X := (o, .inr (7, [.int 0, .null]))) (ci := 7) (by decide) (Nat.le_of_ble_eq_true rfl) ?_
  intro p e s m below meth c A ls hx hb hr hml hB hown hlocks hnm hK hN hA hP hD hT hS hl
  have hown : s.vm.findClass "TreeMerge$Settled" = some m.cls := hown
  have hnm : meth.name = "<init>" := hnm
  have hl : lv_has ls 1 [(0, .ref o)] := hl
  obtain ⟨L0, eL⟩ : ∃ z, z = L := ⟨_, rfl⟩
  obtain ⟨kp0, ekp⟩ : ∃ z, z = kp := ⟨_, rfl⟩
  obtain ⟨E0, eE⟩ : ∃ z, z = E := ⟨_, rfl⟩
  show W p l e { frames := 1, cells := 1, slots := 450, locals := 12 } s m [.ref o].toArray below meth c s.heap [] 0 0 (MQ below (tw_Qi D cs kp L E o 7 (fun L1 E1 => nw_ok L o E1) A) [.ref o].toArray s 1 450 A) (F0 m 0 ls [])
  rw [show tw_Qi D cs kp L E o 7 (fun L1 E1 => nw_ok L o E1) = tw_Qi D cs kp0 L0 E0 o 7 (fun L1 E1 => nw_ok L0 o E1) by rw [ekp, eL, eE]]
  have hex : ∀ a : Nat, a ∈ L0 → a ∈ L ∧ kp a = kp0 a ∧ E a = E0 a := fun a h => ⟨by rw [← eL]; exact h, by rw [ekp], by rw [eE]⟩
  refine lv_aload_n hx hb dX7_init_0 rfl (lv_at hl 0 rfl) ?_
  refine W.objInit hx hb hown (hB _ cw_276) (hB _ cw_26) (hB _ cw_27) rfl (by rw [hml]; exact hl.1) rfl dX7_init_1 (Nat.le_of_ble_eq_true rfl) (Nat.le_of_ble_eq_true rfl) ?_
  refine W.eq (g2 := F0 m 4 ls []) rfl ?_
  refine lv_aload_n hx hb dX7_init_4 rfl (lv_at hl 0 rfl) ?_
  refine lv_sipush (v := 450) hx hb dX7_init_5 (by decide) ?_
  refine cx_newa (cs := cs) (atype := .int) (ty := .int) (a0 := (450, .inl (fun _ => 0))) hx hb hB cw_59 rfl cx_ra_int 0 rfl hK hP hD hS hA (fun _ => rfl) (by decide) (by decide) (Nat.le_of_ble_eq_true rfl) (Nat.le_of_ble_eq_true rfl) (Nat.le_of_ble_eq_true rfl) dX7_init_8 (fun qa1 H hP hD hS => ?_)
  obtain ⟨kp2, E3, hP, hD, hT, hx5, hkqa1, heq, hnqa1⟩ := tw_abs (k := 120) hP hD hT (fun _ _ _ => ⟨by decide, rfl, rfl, (fun _ _ => (show (0 : Int) ≤ ((0 : Int32)).toInt ∧ ((0 : Int32)).toInt ≤ 12 from by decide))⟩)
  obtain ⟨L4, hL⟩ : ∃ z, z = L ++ [qa1] := ⟨_, rfl⟩
  have hmqa1 : qa1 ∈ L4 := by rw [hL]; simp
  rw [← hL] at hP hD hT hx5
  have hnqa1 : qa1 ∉ L0 := fun z => hnqa1 (hex _ z).1
  have hex : ∀ a : Nat, a ∈ L0 → a ∈ L4 ∧ kp2 a = kp0 a ∧ E3 a = E0 a := fun a h => ⟨(hx5 a (hex a h).1).1, ((hx5 a (hex a h).1).2.1).trans (hex a h).2.1, ((hx5 a (hex a h).1).2.2).trans (hex a h).2.2⟩
  refine va_putF (D := D) (ci := 7) (v := .ref qa1) (ty := .array .int) (C := RX7) (T := TX7) (N := 2) hx hb hB cx_inX7 tyX7 tyX7_ok nmX7 hown hK hP hD hS 0 rfl rfl 1 (by decide) (hB _ cw_279) (fun _ h9 => h9) rfl hnm rfl (by decide +kernel) rfl rfl (Nat.le_of_ble_eq_true rfl) dX7_init_10 (fun H locs hP hD hS => ?_)
  have hP : va_P D vwCl ([(o, .inr (7, [.int 0, .ref qa1]))] ++ va_pl L4 E3) H := hP
  have hD : va_D A ([(o, .inr (7, [.int 0, .ref qa1]))] ++ va_pl L4 E3) := hD
  have hf : ∀ (j : Nat) (v : Value), [(.int 0 : Value), (.ref qa1 : Value)][j]? = some v → tw_V kp2 L4 (tw_FT 7 j) v := by
    intro j v hj
    match j, hj with
    | 0, hj => cases hj; exact ⟨0, rfl, (show ((-2147483648) : Int) ≤ ((0 : Int32)).toInt from by decide), (show ((0 : Int32)).toInt ≤ (2147483647 : Int) from by decide)⟩
    | 1, hj => cases hj; exact ⟨qa1, rfl, hmqa1, hkqa1⟩
    | k + 2, hj => simp at hj
  have hnw : ∀ v ∈ [(.int 0 : Value), (.ref qa1 : Value)], match v with | .ref b => b ∉ L0 | .int x => x = 0 | _ => True := by
    intro v hv
    simp only [List.mem_cons, List.not_mem_nil, or_false] at hv
    rcases hv with rfl | rfl
    · exact rfl
    · exact hnqa1
  exact tw_Iret hx hb hr hlocks hP hD hT hS hex (by decide) rfl hf (fun hno E1 he1 hes => nw_ok_of he1 hnw) (Nat.le_of_ble_eq_true rfl) (Nat.le_of_ble_eq_true rfl) dX7_init_13
set_option maxHeartbeats 4000000 in
set_option maxRecDepth 100000 in
theorem tI_X6 (l : Launch) (D : va_G) (cs : Nat → ClassId) {kp : Nat → Nat} {L : List Nat} {E : Nat → va_E} (o : Nat) (sz : Nat) : Met l yX6_init (.code yX6_init cX6_init 1 none :: cx_big) { frames := 1, cells := 0, slots := 0, locals := 12 } (tw_Pi D cs kp L E (o, .inr (6, [.int 0, .int 0, .int 0])) sz) (tw_Qi D cs kp L E o 6 (fun L1 E1 => nw_ok L o E1) (va_A ([(o, .inr (6, [.int 0, .int 0, .int 0]))] ++ va_pl L E) sz)) 0 0 (va_A ([(o, .inr (6, [.int 0, .int 0, .int 0]))] ++ va_pl L E) sz) := by
  refine tw_Iof (X := (o, .inr (6, [.int 0, .int 0, .int 0]))) (ci := 6) (by decide) (Nat.le_of_ble_eq_true rfl) ?_
  intro p e s m below meth c A ls hx hb hr hml hB hown hlocks hnm hK hN hA hP hD hT hS hl
  have hown : s.vm.findClass "TreeMerge$Printer" = some m.cls := hown
  have hnm : meth.name = "<init>" := hnm
  have hl : lv_has ls 1 [(0, .ref o)] := hl
  obtain ⟨L0, eL⟩ : ∃ z, z = L := ⟨_, rfl⟩
  obtain ⟨kp0, ekp⟩ : ∃ z, z = kp := ⟨_, rfl⟩
  obtain ⟨E0, eE⟩ : ∃ z, z = E := ⟨_, rfl⟩
  show W p l e { frames := 1, cells := 0, slots := 0, locals := 12 } s m [.ref o].toArray below meth c s.heap [] 0 0 (MQ below (tw_Qi D cs kp L E o 6 (fun L1 E1 => nw_ok L o E1) A) [.ref o].toArray s 0 0 A) (F0 m 0 ls [])
  rw [show tw_Qi D cs kp L E o 6 (fun L1 E1 => nw_ok L o E1) = tw_Qi D cs kp0 L0 E0 o 6 (fun L1 E1 => nw_ok L0 o E1) by rw [ekp, eL, eE]]
  have hex : ∀ a : Nat, a ∈ L0 → a ∈ L ∧ kp a = kp0 a ∧ E a = E0 a := fun a h => ⟨by rw [← eL]; exact h, by rw [ekp], by rw [eE]⟩
  refine lv_aload_n hx hb dX6_init_0 rfl (lv_at hl 0 rfl) ?_
  refine W.objInit hx hb hown (hB _ cw_370) (hB _ cw_26) (hB _ cw_27) rfl (by rw [hml]; exact hl.1) rfl dX6_init_1 (Nat.le_of_ble_eq_true rfl) (Nat.le_of_ble_eq_true rfl) ?_
  refine W.eq (g2 := F0 m 4 ls []) rfl ?_
  have hf : ∀ (j : Nat) (v : Value), [(.int 0 : Value), (.int 0 : Value), (.int 0 : Value)][j]? = some v → tw_V kp L (tw_FT 6 j) v := by
    intro j v hj
    match j, hj with
    | 0, hj => cases hj; exact ⟨0, rfl, (show ((-2147483648) : Int) ≤ ((0 : Int32)).toInt from by decide), (show ((0 : Int32)).toInt ≤ (2147483647 : Int) from by decide)⟩
    | 1, hj => cases hj; exact ⟨0, rfl, (show (0 : Int) ≤ ((0 : Int32)).toInt from by decide), (show ((0 : Int32)).toInt ≤ (1000000 : Int) from by decide)⟩
    | 2, hj => cases hj; exact ⟨0, rfl, (show ((-2147483648) : Int) ≤ ((0 : Int32)).toInt from by decide), (show ((0 : Int32)).toInt ≤ (2147483647 : Int) from by decide)⟩
    | k + 3, hj => simp at hj
  have hnw : ∀ v ∈ [(.int 0 : Value), (.int 0 : Value), (.int 0 : Value)], match v with | .ref b => b ∉ L0 | .int x => x = 0 | _ => True := by
    intro v hv
    simp only [List.mem_cons, List.not_mem_nil, or_false] at hv
    rcases hv with rfl | rfl | rfl
    · exact rfl
    · exact rfl
    · exact rfl
  exact tw_Iret hx hb hr hlocks hP hD hT hS hex (by decide) rfl hf (fun hno E1 he1 hes => nw_ok_of he1 hnw) (Nat.le_of_ble_eq_true rfl) (Nat.le_of_ble_eq_true rfl) dX6_init_4
set_option maxHeartbeats 4000000 in
set_option maxRecDepth 100000 in
theorem tI_X11 (l : Launch) (D : va_G) (cs : Nat → ClassId) {kp : Nat → Nat} {L : List Nat} {E : Nat → va_E} (o : Nat) (sz : Nat) : Met l yX11_init (.code yX11_init cX11_init 1 none :: cx_big) { frames := 4, cells := 167, slots := 14766, locals := 72 } (tw_Pi D cs kp L E (o, .inr (11, [.null, .null, .null, .null, .null, .null, .null, .null, .null, .null, .null, .null, .null, .null, .null, .int 0, .null, .int 0, .null])) sz) (tw_Qi D cs kp L E o 11 (fun L1 E1 => ∃ t r1 r2 : Nat, tw_fv E1 o 0 = .ref t ∧ tw_fv E1 o 1 = .ref r1 ∧ tw_fv E1 o 2 = .ref r2 ∧ tw_fv E1 t 1 = .int 0 ∧ tw_fv E1 r1 1 = .int 0 ∧ sp_ok E1 r2 r1) (va_A ([(o, .inr (11, [.null, .null, .null, .null, .null, .null, .null, .null, .null, .null, .null, .null, .null, .null, .null, .int 0, .null, .int 0, .null]))] ++ va_pl L E) sz)) 167 14766 (va_A ([(o, .inr (11, [.null, .null, .null, .null, .null, .null, .null, .null, .null, .null, .null, .null, .null, .null, .null, .int 0, .null, .int 0, .null]))] ++ va_pl L E) sz) := by
  refine tw_Iof (X := (o, .inr (11, [.null, .null, .null, .null, .null, .null, .null, .null, .null, .null, .null, .null, .null, .null, .null, .int 0, .null, .int 0, .null]))) (ci := 11) (by decide) (Nat.le_of_ble_eq_true rfl) ?_
  intro p e s m below meth c A ls hx hb hr hml hB hown hlocks hnm hK hN hA hP hD hT hS hl
  have hown : s.vm.findClass "TreeMerge" = some m.cls := hown
  have hnm : meth.name = "<init>" := hnm
  have hl : lv_has ls 1 [(0, .ref o)] := hl
  obtain ⟨L0, eL⟩ : ∃ z, z = L := ⟨_, rfl⟩
  obtain ⟨kp0, ekp⟩ : ∃ z, z = kp := ⟨_, rfl⟩
  obtain ⟨E0, eE⟩ : ∃ z, z = E := ⟨_, rfl⟩
  show W p l e { frames := 4, cells := 167, slots := 14766, locals := 72 } s m [.ref o].toArray below meth c s.heap [] 0 0 (MQ below (tw_Qi D cs kp L E o 11 (fun L1 E1 => ∃ t r1 r2 : Nat, tw_fv E1 o 0 = .ref t ∧ tw_fv E1 o 1 = .ref r1 ∧ tw_fv E1 o 2 = .ref r2 ∧ tw_fv E1 t 1 = .int 0 ∧ tw_fv E1 r1 1 = .int 0 ∧ sp_ok E1 r2 r1) A) [.ref o].toArray s 167 14766 A) (F0 m 0 ls [])
  rw [show tw_Qi D cs kp L E o 11 (fun L1 E1 => ∃ t r1 r2 : Nat, tw_fv E1 o 0 = .ref t ∧ tw_fv E1 o 1 = .ref r1 ∧ tw_fv E1 o 2 = .ref r2 ∧ tw_fv E1 t 1 = .int 0 ∧ tw_fv E1 r1 1 = .int 0 ∧ sp_ok E1 r2 r1) = tw_Qi D cs kp0 L0 E0 o 11 (fun L1 E1 => ∃ t r1 r2 : Nat, tw_fv E1 o 0 = .ref t ∧ tw_fv E1 o 1 = .ref r1 ∧ tw_fv E1 o 2 = .ref r2 ∧ tw_fv E1 t 1 = .int 0 ∧ tw_fv E1 r1 1 = .int 0 ∧ sp_ok E1 r2 r1) by rw [ekp, eL, eE]]
  have hex : ∀ a : Nat, a ∈ L0 → a ∈ L ∧ kp a = kp0 a ∧ E a = E0 a := fun a h => ⟨by rw [← eL]; exact h, by rw [ekp], by rw [eE]⟩
  refine lv_aload_n hx hb dX11_init_0 rfl (lv_at hl 0 rfl) ?_
  refine W.objInit hx hb hown (hB _ cw_25) (hB _ cw_26) (hB _ cw_27) rfl (by rw [hml]; exact hl.1) rfl dX11_init_1 (Nat.le_of_ble_eq_true rfl) (Nat.le_of_ble_eq_true rfl) ?_
  refine W.eq (g2 := F0 m 4 ls []) rfl ?_
  refine lv_aload_n hx hb dX11_init_4 rfl (lv_at hl 0 rfl) ?_
  refine va_new (ci := 9) (fs := [.null, .int 0, .int 0, .int 0, .int 0]) (C := RX9) (T := TX9) (N := 5) hx hb hB cx_inX9 tyX9 tyX9_ok hown (hB _ cw_28) (hB _ cw_29) (hB _ cw_2) hK hP hD hS hA rfl cx_fsX9 (Nat.le_of_ble_eq_true rfl) (Nat.le_of_ble_eq_true rfl) dX11_init_5 (fun qn1 H hP hD hS => ?_)
  refine lv_dup hx hb dX11_init_8 rfl ?_
  have hTo := hT
  refine tw_ICN (Xs := [(o, .inr (11, [.null, .null, .null, .null, .null, .null, .null, .null, .null, .null, .null, .null, .null, .null, .null, .int 0, .null, .int 0, .null]))]) (o := qn1) (ci := 9) (fs := [.null, .int 0, .int 0, .int 0, .int 0]) (kp := kp) (rest := [.ref qn1, .ref o]) ⟨hx, hb, hml, hown, hB⟩ (fun sz => tI_X9 l D cs qn1 sz) cw_32 cw_2 (by decide +kernel) cw_31 rfl rfl rfl (by decide +kernel) ⟨Nat.le_of_ble_eq_true rfl, Nat.le_of_ble_eq_true rfl⟩ hK hN hP hD hT hS hA hl.1 rfl (Nat.le_of_ble_eq_true rfl) dX11_init_9 ⟨Nat.le_of_ble_eq_true rfl, Nat.le_of_ble_eq_true rfl⟩ (fun kp2 L3 E4 H locs hx5 hmqn1 hkqn1 hnqn1 hpqn1 hP hD hT hS => ?_)
  have hnnqn1 := hnqn1
  have hnqn1 : qn1 ∉ L0 := fun z => hnqn1 (hex _ z).1
  have hex : ∀ a : Nat, a ∈ L0 → a ∈ L3 ∧ kp2 a = kp0 a ∧ E4 a = E0 a := fun a h => ⟨(hx5 a (hex a h).1).1, ((hx5 a (hex a h).1).2.1).trans (hex a h).2.1, ((hx5 a (hex a h).1).2.2).trans (hex a h).2.2⟩
  have hft : tw_fv E4 qn1 1 = .int 0 := nw_zero hT hmqn1 hkqn1 (by decide) (by decide) rfl hpqn1
  refine va_putF (D := D) (ci := 11) (v := .ref qn1) (ty := .object "TreeMerge$Text") (C := RX11) (T := TX11) (N := 19) hx hb hB cx_inX11 tyX11 tyX11_ok nmX11 hown hK hP hD hS 0 rfl rfl 0 (by decide) (hB _ cw_383) (fun _ h9 => h9) rfl hnm rfl (by decide +kernel) rfl rfl (Nat.le_of_ble_eq_true rfl) dX11_init_12 (fun H locs hP hD hS => ?_)
  have hP : va_P D vwCl ([(o, .inr (11, [.ref qn1, .null, .null, .null, .null, .null, .null, .null, .null, .null, .null, .null, .null, .null, .null, .int 0, .null, .int 0, .null]))] ++ va_pl L3 E4) H := hP
  have hD : va_D A ([(o, .inr (11, [.ref qn1, .null, .null, .null, .null, .null, .null, .null, .null, .null, .null, .null, .null, .null, .null, .int 0, .null, .int 0, .null]))] ++ va_pl L3 E4) := hD
  refine lv_aload_n hx hb dX11_init_15 rfl (lv_at hl 0 rfl) ?_
  refine va_new (ci := 2) (fs := [.null, .int 0, .null, .null, .null, .null, .null, .int 0, .null, .null, .null, .null, .null]) (C := RX2) (T := TX2) (N := 13) hx hb hB cx_inX2 tyX2 tyX2_ok hown (hB _ cw_60) (hB _ cw_61) (hB _ cw_3) hK hP hD hS hA rfl cx_fsX2 (Nat.le_of_ble_eq_true rfl) (Nat.le_of_ble_eq_true rfl) dX11_init_16 (fun qn6 H hP hD hS => ?_)
  refine lv_dup hx hb dX11_init_19 rfl ?_
  have hTo := hT
  have hmoqn1 := hmqn1
  have hkoqn1 := hkqn1
  refine tw_ICN (Xs := [(o, .inr (11, [.ref qn1, .null, .null, .null, .null, .null, .null, .null, .null, .null, .null, .null, .null, .null, .null, .int 0, .null, .int 0, .null]))]) (o := qn6) (ci := 2) (fs := [.null, .int 0, .null, .null, .null, .null, .null, .int 0, .null, .null, .null, .null, .null]) (kp := kp2) (rest := [.ref qn6, .ref o]) ⟨hx, hb, hml, hown, hB⟩ (fun sz => tI_X2 l D cs qn6 sz) cw_64 cw_3 (by decide +kernel) cw_63 rfl rfl rfl (by decide +kernel) ⟨Nat.le_of_ble_eq_true rfl, Nat.le_of_ble_eq_true rfl⟩ hK hN hP hD hT hS hA hl.1 rfl (Nat.le_of_ble_eq_true rfl) dX11_init_20 ⟨Nat.le_of_ble_eq_true rfl, Nat.le_of_ble_eq_true rfl⟩ (fun kp7 L8 E9 H locs hx10 hmqn6 hkqn6 hnqn6 hpqn6 hP hD hT hS => ?_)
  have hnnqn6 := hnqn6
  have hnqn6 : qn6 ∉ L0 := fun z => hnqn6 (hex _ z).1
  have hex : ∀ a : Nat, a ∈ L0 → a ∈ L8 ∧ kp7 a = kp0 a ∧ E9 a = E0 a := fun a h => ⟨(hx10 a (hex a h).1).1, ((hx10 a (hex a h).1).2.1).trans (hex a h).2.1, ((hx10 a (hex a h).1).2.2).trans (hex a h).2.2⟩
  have hvqn1 := (hx10 qn1 hmqn1).2
  have hmqn1 : qn1 ∈ L8 := (hx10 qn1 hmqn1).1
  have hkqn1 : kp7 qn1 = 9 := (hvqn1.1).trans hkqn1
  have hft : tw_fv E9 qn1 1 = .int 0 := fv_ext hvqn1.2 hft
  have hfr : tw_fv E9 qn6 1 = .int 0 := nw_zero hT hmqn6 hkqn6 (by decide) (by decide) rfl hpqn6
  refine va_put (D := D) (ci := 11) (v := .ref qn6) (ty := .object "TreeMerge$Grammar") (C := RX11) (T := TX11) (N := 19) hx hb hB cx_inX11 tyX11 tyX11_ok nmX11 hown hK hP hD hS 0 rfl rfl 1 (by decide) (hB _ cw_384) (fun _ h9 => h9) rfl (by decide +kernel) rfl rfl (Nat.le_of_ble_eq_true rfl) dX11_init_23 (fun H locs hP hD hS => ?_)
  have hP : va_P D vwCl ([(o, .inr (11, [.ref qn1, .ref qn6, .null, .null, .null, .null, .null, .null, .null, .null, .null, .null, .null, .null, .null, .int 0, .null, .int 0, .null]))] ++ va_pl L8 E9) H := hP
  have hD : va_D A ([(o, .inr (11, [.ref qn1, .ref qn6, .null, .null, .null, .null, .null, .null, .null, .null, .null, .null, .null, .null, .null, .int 0, .null, .int 0, .null]))] ++ va_pl L8 E9) := hD
  refine lv_aload_n hx hb dX11_init_26 rfl (lv_at hl 0 rfl) ?_
  refine va_new (ci := 2) (fs := [.null, .int 0, .null, .null, .null, .null, .null, .int 0, .null, .null, .null, .null, .null]) (C := RX2) (T := TX2) (N := 13) hx hb hB cx_inX2 tyX2 tyX2_ok hown (hB _ cw_60) (hB _ cw_61) (hB _ cw_3) hK hP hD hS hA rfl cx_fsX2 (Nat.le_of_ble_eq_true rfl) (Nat.le_of_ble_eq_true rfl) dX11_init_27 (fun qn11 H hP hD hS => ?_)
  refine lv_dup hx hb dX11_init_30 rfl ?_
  have hTo := hT
  have hmoqn1 := hmqn1
  have hkoqn1 := hkqn1
  have hmoqn6 := hmqn6
  have hkoqn6 := hkqn6
  refine tw_ICN (Xs := [(o, .inr (11, [.ref qn1, .ref qn6, .null, .null, .null, .null, .null, .null, .null, .null, .null, .null, .null, .null, .null, .int 0, .null, .int 0, .null]))]) (o := qn11) (ci := 2) (fs := [.null, .int 0, .null, .null, .null, .null, .null, .int 0, .null, .null, .null, .null, .null]) (kp := kp7) (rest := [.ref qn11, .ref o]) ⟨hx, hb, hml, hown, hB⟩ (fun sz => tI_X2 l D cs qn11 sz) cw_64 cw_3 (by decide +kernel) cw_63 rfl rfl rfl (by decide +kernel) ⟨Nat.le_of_ble_eq_true rfl, Nat.le_of_ble_eq_true rfl⟩ hK hN hP hD hT hS hA hl.1 rfl (Nat.le_of_ble_eq_true rfl) dX11_init_31 ⟨Nat.le_of_ble_eq_true rfl, Nat.le_of_ble_eq_true rfl⟩ (fun kp12 L13 E14 H locs hx15 hmqn11 hkqn11 hnqn11 hpqn11 hP hD hT hS => ?_)
  have hnnqn11 := hnqn11
  have hnqn11 : qn11 ∉ L0 := fun z => hnqn11 (hex _ z).1
  have hex : ∀ a : Nat, a ∈ L0 → a ∈ L13 ∧ kp12 a = kp0 a ∧ E14 a = E0 a := fun a h => ⟨(hx15 a (hex a h).1).1, ((hx15 a (hex a h).1).2.1).trans (hex a h).2.1, ((hx15 a (hex a h).1).2.2).trans (hex a h).2.2⟩
  have hvqn1 := (hx15 qn1 hmqn1).2
  have hmqn1 : qn1 ∈ L13 := (hx15 qn1 hmqn1).1
  have hkqn1 : kp12 qn1 = 9 := (hvqn1.1).trans hkqn1
  have hvqn6 := (hx15 qn6 hmqn6).2
  have hmqn6 : qn6 ∈ L13 := (hx15 qn6 hmqn6).1
  have hkqn6 : kp12 qn6 = 2 := (hvqn6.1).trans hkqn6
  have hft : tw_fv E14 qn1 1 = .int 0 := fv_ext hvqn1.2 hft
  have hfr : tw_fv E14 qn6 1 = .int 0 := fv_ext hvqn6.2 hfr
  have hsp : sp_ok E14 qn11 qn6 := sp_ok_new hTo hmoqn6 hkoqn6 hvqn6.2 hpqn11 hnnqn11 hT hmqn11 hkqn11
  refine va_put (D := D) (ci := 11) (v := .ref qn11) (ty := .object "TreeMerge$Grammar") (C := RX11) (T := TX11) (N := 19) hx hb hB cx_inX11 tyX11 tyX11_ok nmX11 hown hK hP hD hS 0 rfl rfl 2 (by decide) (hB _ cw_385) (fun _ h9 => h9) rfl (by decide +kernel) rfl rfl (Nat.le_of_ble_eq_true rfl) dX11_init_34 (fun H locs hP hD hS => ?_)
  have hP : va_P D vwCl ([(o, .inr (11, [.ref qn1, .ref qn6, .ref qn11, .null, .null, .null, .null, .null, .null, .null, .null, .null, .null, .null, .null, .int 0, .null, .int 0, .null]))] ++ va_pl L13 E14) H := hP
  have hD : va_D A ([(o, .inr (11, [.ref qn1, .ref qn6, .ref qn11, .null, .null, .null, .null, .null, .null, .null, .null, .null, .null, .null, .null, .int 0, .null, .int 0, .null]))] ++ va_pl L13 E14) := hD
  refine lv_aload_n hx hb dX11_init_37 rfl (lv_at hl 0 rfl) ?_
  refine va_new (ci := 10) (fs := [.int 0, .null, .null, .null, .null, .null, .null, .null]) (C := RX10) (T := TX10) (N := 8) hx hb hB cx_inX10 tyX10 tyX10_ok hown (hB _ cw_110) (hB _ cw_111) (hB _ cw_4) hK hP hD hS hA rfl cx_fsX10 (Nat.le_of_ble_eq_true rfl) (Nat.le_of_ble_eq_true rfl) dX11_init_38 (fun qn16 H hP hD hS => ?_)
  refine lv_dup hx hb dX11_init_41 rfl ?_
  have hTo := hT
  have hmoqn1 := hmqn1
  have hkoqn1 := hkqn1
  have hmoqn6 := hmqn6
  have hkoqn6 := hkqn6
  have hmoqn11 := hmqn11
  have hkoqn11 := hkqn11
  refine tw_ICN (Xs := [(o, .inr (11, [.ref qn1, .ref qn6, .ref qn11, .null, .null, .null, .null, .null, .null, .null, .null, .null, .null, .null, .null, .int 0, .null, .int 0, .null]))]) (o := qn16) (ci := 10) (fs := [.int 0, .null, .null, .null, .null, .null, .null, .null]) (kp := kp12) (rest := [.ref qn16, .ref o]) ⟨hx, hb, hml, hown, hB⟩ (fun sz => tI_X10 l D cs qn16 sz) cw_114 cw_4 (by decide +kernel) cw_113 rfl rfl rfl (by decide +kernel) ⟨Nat.le_of_ble_eq_true rfl, Nat.le_of_ble_eq_true rfl⟩ hK hN hP hD hT hS hA hl.1 rfl (Nat.le_of_ble_eq_true rfl) dX11_init_42 ⟨Nat.le_of_ble_eq_true rfl, Nat.le_of_ble_eq_true rfl⟩ (fun kp17 L18 E19 H locs hx20 hmqn16 hkqn16 hnqn16 hpqn16 hP hD hT hS => ?_)
  have hnnqn16 := hnqn16
  have hnqn16 : qn16 ∉ L0 := fun z => hnqn16 (hex _ z).1
  have hex : ∀ a : Nat, a ∈ L0 → a ∈ L18 ∧ kp17 a = kp0 a ∧ E19 a = E0 a := fun a h => ⟨(hx20 a (hex a h).1).1, ((hx20 a (hex a h).1).2.1).trans (hex a h).2.1, ((hx20 a (hex a h).1).2.2).trans (hex a h).2.2⟩
  have hvqn1 := (hx20 qn1 hmqn1).2
  have hmqn1 : qn1 ∈ L18 := (hx20 qn1 hmqn1).1
  have hkqn1 : kp17 qn1 = 9 := (hvqn1.1).trans hkqn1
  have hvqn6 := (hx20 qn6 hmqn6).2
  have hmqn6 : qn6 ∈ L18 := (hx20 qn6 hmqn6).1
  have hkqn6 : kp17 qn6 = 2 := (hvqn6.1).trans hkqn6
  have hvqn11 := (hx20 qn11 hmqn11).2
  have hmqn11 : qn11 ∈ L18 := (hx20 qn11 hmqn11).1
  have hkqn11 : kp17 qn11 = 2 := (hvqn11.1).trans hkqn11
  have hft : tw_fv E19 qn1 1 = .int 0 := fv_ext hvqn1.2 hft
  have hfr : tw_fv E19 qn6 1 = .int 0 := fv_ext hvqn6.2 hfr
  have hsp : sp_ok E19 qn11 qn6 := sp_ok_ext hvqn11.2 hvqn6.2 hsp
  refine va_putF (D := D) (ci := 11) (v := .ref qn16) (ty := .object "TreeMerge$Tree") (C := RX11) (T := TX11) (N := 19) hx hb hB cx_inX11 tyX11 tyX11_ok nmX11 hown hK hP hD hS 0 rfl rfl 3 (by decide) (hB _ cw_386) (fun _ h9 => h9) rfl hnm rfl (by decide +kernel) rfl rfl (Nat.le_of_ble_eq_true rfl) dX11_init_45 (fun H locs hP hD hS => ?_)
  have hP : va_P D vwCl ([(o, .inr (11, [.ref qn1, .ref qn6, .ref qn11, .ref qn16, .null, .null, .null, .null, .null, .null, .null, .null, .null, .null, .null, .int 0, .null, .int 0, .null]))] ++ va_pl L18 E19) H := hP
  have hD : va_D A ([(o, .inr (11, [.ref qn1, .ref qn6, .ref qn11, .ref qn16, .null, .null, .null, .null, .null, .null, .null, .null, .null, .null, .null, .int 0, .null, .int 0, .null]))] ++ va_pl L18 E19) := hD
  refine lv_aload_n hx hb dX11_init_48 rfl (lv_at hl 0 rfl) ?_
  refine va_new (ci := 10) (fs := [.int 0, .null, .null, .null, .null, .null, .null, .null]) (C := RX10) (T := TX10) (N := 8) hx hb hB cx_inX10 tyX10 tyX10_ok hown (hB _ cw_110) (hB _ cw_111) (hB _ cw_4) hK hP hD hS hA rfl cx_fsX10 (Nat.le_of_ble_eq_true rfl) (Nat.le_of_ble_eq_true rfl) dX11_init_49 (fun qn21 H hP hD hS => ?_)
  refine lv_dup hx hb dX11_init_52 rfl ?_
  have hTo := hT
  have hmoqn1 := hmqn1
  have hkoqn1 := hkqn1
  have hmoqn6 := hmqn6
  have hkoqn6 := hkqn6
  have hmoqn11 := hmqn11
  have hkoqn11 := hkqn11
  have hmoqn16 := hmqn16
  have hkoqn16 := hkqn16
  refine tw_ICN (Xs := [(o, .inr (11, [.ref qn1, .ref qn6, .ref qn11, .ref qn16, .null, .null, .null, .null, .null, .null, .null, .null, .null, .null, .null, .int 0, .null, .int 0, .null]))]) (o := qn21) (ci := 10) (fs := [.int 0, .null, .null, .null, .null, .null, .null, .null]) (kp := kp17) (rest := [.ref qn21, .ref o]) ⟨hx, hb, hml, hown, hB⟩ (fun sz => tI_X10 l D cs qn21 sz) cw_114 cw_4 (by decide +kernel) cw_113 rfl rfl rfl (by decide +kernel) ⟨Nat.le_of_ble_eq_true rfl, Nat.le_of_ble_eq_true rfl⟩ hK hN hP hD hT hS hA hl.1 rfl (Nat.le_of_ble_eq_true rfl) dX11_init_53 ⟨Nat.le_of_ble_eq_true rfl, Nat.le_of_ble_eq_true rfl⟩ (fun kp22 L23 E24 H locs hx25 hmqn21 hkqn21 hnqn21 hpqn21 hP hD hT hS => ?_)
  have hnnqn21 := hnqn21
  have hnqn21 : qn21 ∉ L0 := fun z => hnqn21 (hex _ z).1
  have hex : ∀ a : Nat, a ∈ L0 → a ∈ L23 ∧ kp22 a = kp0 a ∧ E24 a = E0 a := fun a h => ⟨(hx25 a (hex a h).1).1, ((hx25 a (hex a h).1).2.1).trans (hex a h).2.1, ((hx25 a (hex a h).1).2.2).trans (hex a h).2.2⟩
  have hvqn1 := (hx25 qn1 hmqn1).2
  have hmqn1 : qn1 ∈ L23 := (hx25 qn1 hmqn1).1
  have hkqn1 : kp22 qn1 = 9 := (hvqn1.1).trans hkqn1
  have hvqn6 := (hx25 qn6 hmqn6).2
  have hmqn6 : qn6 ∈ L23 := (hx25 qn6 hmqn6).1
  have hkqn6 : kp22 qn6 = 2 := (hvqn6.1).trans hkqn6
  have hvqn11 := (hx25 qn11 hmqn11).2
  have hmqn11 : qn11 ∈ L23 := (hx25 qn11 hmqn11).1
  have hkqn11 : kp22 qn11 = 2 := (hvqn11.1).trans hkqn11
  have hvqn16 := (hx25 qn16 hmqn16).2
  have hmqn16 : qn16 ∈ L23 := (hx25 qn16 hmqn16).1
  have hkqn16 : kp22 qn16 = 10 := (hvqn16.1).trans hkqn16
  have hft : tw_fv E24 qn1 1 = .int 0 := fv_ext hvqn1.2 hft
  have hfr : tw_fv E24 qn6 1 = .int 0 := fv_ext hvqn6.2 hfr
  have hsp : sp_ok E24 qn11 qn6 := sp_ok_ext hvqn11.2 hvqn6.2 hsp
  refine va_putF (D := D) (ci := 11) (v := .ref qn21) (ty := .object "TreeMerge$Tree") (C := RX11) (T := TX11) (N := 19) hx hb hB cx_inX11 tyX11 tyX11_ok nmX11 hown hK hP hD hS 0 rfl rfl 4 (by decide) (hB _ cw_387) (fun _ h9 => h9) rfl hnm rfl (by decide +kernel) rfl rfl (Nat.le_of_ble_eq_true rfl) dX11_init_56 (fun H locs hP hD hS => ?_)
  have hP : va_P D vwCl ([(o, .inr (11, [.ref qn1, .ref qn6, .ref qn11, .ref qn16, .ref qn21, .null, .null, .null, .null, .null, .null, .null, .null, .null, .null, .int 0, .null, .int 0, .null]))] ++ va_pl L23 E24) H := hP
  have hD : va_D A ([(o, .inr (11, [.ref qn1, .ref qn6, .ref qn11, .ref qn16, .ref qn21, .null, .null, .null, .null, .null, .null, .null, .null, .null, .null, .int 0, .null, .int 0, .null]))] ++ va_pl L23 E24) := hD
  refine lv_aload_n hx hb dX11_init_59 rfl (lv_at hl 0 rfl) ?_
  refine va_new (ci := 3) (fs := [.int 0, .null, .null]) (C := RX3) (T := TX3) (N := 3) hx hb hB cx_inX3 tyX3 tyX3_ok hown (hB _ cw_171) (hB _ cw_172) (hB _ cw_5) hK hP hD hS hA rfl cx_fsX3 (Nat.le_of_ble_eq_true rfl) (Nat.le_of_ble_eq_true rfl) dX11_init_60 (fun qn26 H hP hD hS => ?_)
  refine lv_dup hx hb dX11_init_63 rfl ?_
  have hTo := hT
  have hmoqn1 := hmqn1
  have hkoqn1 := hkqn1
  have hmoqn6 := hmqn6
  have hkoqn6 := hkqn6
  have hmoqn11 := hmqn11
  have hkoqn11 := hkqn11
  have hmoqn16 := hmqn16
  have hkoqn16 := hkqn16
  have hmoqn21 := hmqn21
  have hkoqn21 := hkqn21
  refine tw_ICN (Xs := [(o, .inr (11, [.ref qn1, .ref qn6, .ref qn11, .ref qn16, .ref qn21, .null, .null, .null, .null, .null, .null, .null, .null, .null, .null, .int 0, .null, .int 0, .null]))]) (o := qn26) (ci := 3) (fs := [.int 0, .null, .null]) (kp := kp22) (rest := [.ref qn26, .ref o]) ⟨hx, hb, hml, hown, hB⟩ (fun sz => tI_X3 l D cs qn26 sz) cw_175 cw_5 (by decide +kernel) cw_174 rfl rfl rfl (by decide +kernel) ⟨Nat.le_of_ble_eq_true rfl, Nat.le_of_ble_eq_true rfl⟩ hK hN hP hD hT hS hA hl.1 rfl (Nat.le_of_ble_eq_true rfl) dX11_init_64 ⟨Nat.le_of_ble_eq_true rfl, Nat.le_of_ble_eq_true rfl⟩ (fun kp27 L28 E29 H locs hx30 hmqn26 hkqn26 hnqn26 hpqn26 hP hD hT hS => ?_)
  have hnnqn26 := hnqn26
  have hnqn26 : qn26 ∉ L0 := fun z => hnqn26 (hex _ z).1
  have hex : ∀ a : Nat, a ∈ L0 → a ∈ L28 ∧ kp27 a = kp0 a ∧ E29 a = E0 a := fun a h => ⟨(hx30 a (hex a h).1).1, ((hx30 a (hex a h).1).2.1).trans (hex a h).2.1, ((hx30 a (hex a h).1).2.2).trans (hex a h).2.2⟩
  have hvqn1 := (hx30 qn1 hmqn1).2
  have hmqn1 : qn1 ∈ L28 := (hx30 qn1 hmqn1).1
  have hkqn1 : kp27 qn1 = 9 := (hvqn1.1).trans hkqn1
  have hvqn6 := (hx30 qn6 hmqn6).2
  have hmqn6 : qn6 ∈ L28 := (hx30 qn6 hmqn6).1
  have hkqn6 : kp27 qn6 = 2 := (hvqn6.1).trans hkqn6
  have hvqn11 := (hx30 qn11 hmqn11).2
  have hmqn11 : qn11 ∈ L28 := (hx30 qn11 hmqn11).1
  have hkqn11 : kp27 qn11 = 2 := (hvqn11.1).trans hkqn11
  have hvqn16 := (hx30 qn16 hmqn16).2
  have hmqn16 : qn16 ∈ L28 := (hx30 qn16 hmqn16).1
  have hkqn16 : kp27 qn16 = 10 := (hvqn16.1).trans hkqn16
  have hvqn21 := (hx30 qn21 hmqn21).2
  have hmqn21 : qn21 ∈ L28 := (hx30 qn21 hmqn21).1
  have hkqn21 : kp27 qn21 = 10 := (hvqn21.1).trans hkqn21
  have hft : tw_fv E29 qn1 1 = .int 0 := fv_ext hvqn1.2 hft
  have hfr : tw_fv E29 qn6 1 = .int 0 := fv_ext hvqn6.2 hfr
  have hsp : sp_ok E29 qn11 qn6 := sp_ok_ext hvqn11.2 hvqn6.2 hsp
  refine va_putF (D := D) (ci := 11) (v := .ref qn26) (ty := .object "TreeMerge$Kids") (C := RX11) (T := TX11) (N := 19) hx hb hB cx_inX11 tyX11 tyX11_ok nmX11 hown hK hP hD hS 0 rfl rfl 5 (by decide) (hB _ cw_388) (fun _ h9 => h9) rfl hnm rfl (by decide +kernel) rfl rfl (Nat.le_of_ble_eq_true rfl) dX11_init_67 (fun H locs hP hD hS => ?_)
  have hP : va_P D vwCl ([(o, .inr (11, [.ref qn1, .ref qn6, .ref qn11, .ref qn16, .ref qn21, .ref qn26, .null, .null, .null, .null, .null, .null, .null, .null, .null, .int 0, .null, .int 0, .null]))] ++ va_pl L28 E29) H := hP
  have hD : va_D A ([(o, .inr (11, [.ref qn1, .ref qn6, .ref qn11, .ref qn16, .ref qn21, .ref qn26, .null, .null, .null, .null, .null, .null, .null, .null, .null, .int 0, .null, .int 0, .null]))] ++ va_pl L28 E29) := hD
  refine lv_aload_n hx hb dX11_init_70 rfl (lv_at hl 0 rfl) ?_
  refine va_new (ci := 4) (fs := [.null, .null, .null, .null, .null, .int 0, .int 0]) (C := RX4) (T := TX4) (N := 7) hx hb hB cx_inX4 tyX4 tyX4_ok hown (hB _ cw_189) (hB _ cw_190) (hB _ cw_6) hK hP hD hS hA rfl cx_fsX4 (Nat.le_of_ble_eq_true rfl) (Nat.le_of_ble_eq_true rfl) dX11_init_71 (fun qn31 H hP hD hS => ?_)
  refine lv_dup hx hb dX11_init_74 rfl ?_
  have hTo := hT
  have hmoqn1 := hmqn1
  have hkoqn1 := hkqn1
  have hmoqn6 := hmqn6
  have hkoqn6 := hkqn6
  have hmoqn11 := hmqn11
  have hkoqn11 := hkqn11
  have hmoqn16 := hmqn16
  have hkoqn16 := hkqn16
  have hmoqn21 := hmqn21
  have hkoqn21 := hkqn21
  have hmoqn26 := hmqn26
  have hkoqn26 := hkqn26
  refine tw_ICN (Xs := [(o, .inr (11, [.ref qn1, .ref qn6, .ref qn11, .ref qn16, .ref qn21, .ref qn26, .null, .null, .null, .null, .null, .null, .null, .null, .null, .int 0, .null, .int 0, .null]))]) (o := qn31) (ci := 4) (fs := [.null, .null, .null, .null, .null, .int 0, .int 0]) (kp := kp27) (rest := [.ref qn31, .ref o]) ⟨hx, hb, hml, hown, hB⟩ (fun sz => tI_X4 l D cs qn31 sz) cw_193 cw_6 (by decide +kernel) cw_192 rfl rfl rfl (by decide +kernel) ⟨Nat.le_of_ble_eq_true rfl, Nat.le_of_ble_eq_true rfl⟩ hK hN hP hD hT hS hA hl.1 rfl (Nat.le_of_ble_eq_true rfl) dX11_init_75 ⟨Nat.le_of_ble_eq_true rfl, Nat.le_of_ble_eq_true rfl⟩ (fun kp32 L33 E34 H locs hx35 hmqn31 hkqn31 hnqn31 hpqn31 hP hD hT hS => ?_)
  have hnnqn31 := hnqn31
  have hnqn31 : qn31 ∉ L0 := fun z => hnqn31 (hex _ z).1
  have hex : ∀ a : Nat, a ∈ L0 → a ∈ L33 ∧ kp32 a = kp0 a ∧ E34 a = E0 a := fun a h => ⟨(hx35 a (hex a h).1).1, ((hx35 a (hex a h).1).2.1).trans (hex a h).2.1, ((hx35 a (hex a h).1).2.2).trans (hex a h).2.2⟩
  have hvqn1 := (hx35 qn1 hmqn1).2
  have hmqn1 : qn1 ∈ L33 := (hx35 qn1 hmqn1).1
  have hkqn1 : kp32 qn1 = 9 := (hvqn1.1).trans hkqn1
  have hvqn6 := (hx35 qn6 hmqn6).2
  have hmqn6 : qn6 ∈ L33 := (hx35 qn6 hmqn6).1
  have hkqn6 : kp32 qn6 = 2 := (hvqn6.1).trans hkqn6
  have hvqn11 := (hx35 qn11 hmqn11).2
  have hmqn11 : qn11 ∈ L33 := (hx35 qn11 hmqn11).1
  have hkqn11 : kp32 qn11 = 2 := (hvqn11.1).trans hkqn11
  have hvqn16 := (hx35 qn16 hmqn16).2
  have hmqn16 : qn16 ∈ L33 := (hx35 qn16 hmqn16).1
  have hkqn16 : kp32 qn16 = 10 := (hvqn16.1).trans hkqn16
  have hvqn21 := (hx35 qn21 hmqn21).2
  have hmqn21 : qn21 ∈ L33 := (hx35 qn21 hmqn21).1
  have hkqn21 : kp32 qn21 = 10 := (hvqn21.1).trans hkqn21
  have hvqn26 := (hx35 qn26 hmqn26).2
  have hmqn26 : qn26 ∈ L33 := (hx35 qn26 hmqn26).1
  have hkqn26 : kp32 qn26 = 3 := (hvqn26.1).trans hkqn26
  have hft : tw_fv E34 qn1 1 = .int 0 := fv_ext hvqn1.2 hft
  have hfr : tw_fv E34 qn6 1 = .int 0 := fv_ext hvqn6.2 hfr
  have hsp : sp_ok E34 qn11 qn6 := sp_ok_ext hvqn11.2 hvqn6.2 hsp
  refine va_putF (D := D) (ci := 11) (v := .ref qn31) (ty := .object "TreeMerge$Matcher") (C := RX11) (T := TX11) (N := 19) hx hb hB cx_inX11 tyX11 tyX11_ok nmX11 hown hK hP hD hS 0 rfl rfl 6 (by decide) (hB _ cw_389) (fun _ h9 => h9) rfl hnm rfl (by decide +kernel) rfl rfl (Nat.le_of_ble_eq_true rfl) dX11_init_78 (fun H locs hP hD hS => ?_)
  have hP : va_P D vwCl ([(o, .inr (11, [.ref qn1, .ref qn6, .ref qn11, .ref qn16, .ref qn21, .ref qn26, .ref qn31, .null, .null, .null, .null, .null, .null, .null, .null, .int 0, .null, .int 0, .null]))] ++ va_pl L33 E34) H := hP
  have hD : va_D A ([(o, .inr (11, [.ref qn1, .ref qn6, .ref qn11, .ref qn16, .ref qn21, .ref qn26, .ref qn31, .null, .null, .null, .null, .null, .null, .null, .null, .int 0, .null, .int 0, .null]))] ++ va_pl L33 E34) := hD
  refine lv_aload_n hx hb dX11_init_81 rfl (lv_at hl 0 rfl) ?_
  refine va_new (ci := 1) (fs := [.int 0, .null, .null, .null, .null]) (C := RX1) (T := TX1) (N := 5) hx hb hB cx_inX1 tyX1 tyX1_ok hown (hB _ cw_221) (hB _ cw_222) (hB _ cw_7) hK hP hD hS hA rfl cx_fsX1 (Nat.le_of_ble_eq_true rfl) (Nat.le_of_ble_eq_true rfl) dX11_init_82 (fun qn36 H hP hD hS => ?_)
  refine lv_dup hx hb dX11_init_85 rfl ?_
  have hTo := hT
  have hmoqn1 := hmqn1
  have hkoqn1 := hkqn1
  have hmoqn6 := hmqn6
  have hkoqn6 := hkqn6
  have hmoqn11 := hmqn11
  have hkoqn11 := hkqn11
  have hmoqn16 := hmqn16
  have hkoqn16 := hkqn16
  have hmoqn21 := hmqn21
  have hkoqn21 := hkqn21
  have hmoqn26 := hmqn26
  have hkoqn26 := hkqn26
  have hmoqn31 := hmqn31
  have hkoqn31 := hkqn31
  refine tw_ICN (Xs := [(o, .inr (11, [.ref qn1, .ref qn6, .ref qn11, .ref qn16, .ref qn21, .ref qn26, .ref qn31, .null, .null, .null, .null, .null, .null, .null, .null, .int 0, .null, .int 0, .null]))]) (o := qn36) (ci := 1) (fs := [.int 0, .null, .null, .null, .null]) (kp := kp32) (rest := [.ref qn36, .ref o]) ⟨hx, hb, hml, hown, hB⟩ (fun sz => tI_X1 l D cs qn36 sz) cw_225 cw_7 (by decide +kernel) cw_224 rfl rfl rfl (by decide +kernel) ⟨Nat.le_of_ble_eq_true rfl, Nat.le_of_ble_eq_true rfl⟩ hK hN hP hD hT hS hA hl.1 rfl (Nat.le_of_ble_eq_true rfl) dX11_init_86 ⟨Nat.le_of_ble_eq_true rfl, Nat.le_of_ble_eq_true rfl⟩ (fun kp37 L38 E39 H locs hx40 hmqn36 hkqn36 hnqn36 hpqn36 hP hD hT hS => ?_)
  have hnnqn36 := hnqn36
  have hnqn36 : qn36 ∉ L0 := fun z => hnqn36 (hex _ z).1
  have hex : ∀ a : Nat, a ∈ L0 → a ∈ L38 ∧ kp37 a = kp0 a ∧ E39 a = E0 a := fun a h => ⟨(hx40 a (hex a h).1).1, ((hx40 a (hex a h).1).2.1).trans (hex a h).2.1, ((hx40 a (hex a h).1).2.2).trans (hex a h).2.2⟩
  have hvqn1 := (hx40 qn1 hmqn1).2
  have hmqn1 : qn1 ∈ L38 := (hx40 qn1 hmqn1).1
  have hkqn1 : kp37 qn1 = 9 := (hvqn1.1).trans hkqn1
  have hvqn6 := (hx40 qn6 hmqn6).2
  have hmqn6 : qn6 ∈ L38 := (hx40 qn6 hmqn6).1
  have hkqn6 : kp37 qn6 = 2 := (hvqn6.1).trans hkqn6
  have hvqn11 := (hx40 qn11 hmqn11).2
  have hmqn11 : qn11 ∈ L38 := (hx40 qn11 hmqn11).1
  have hkqn11 : kp37 qn11 = 2 := (hvqn11.1).trans hkqn11
  have hvqn16 := (hx40 qn16 hmqn16).2
  have hmqn16 : qn16 ∈ L38 := (hx40 qn16 hmqn16).1
  have hkqn16 : kp37 qn16 = 10 := (hvqn16.1).trans hkqn16
  have hvqn21 := (hx40 qn21 hmqn21).2
  have hmqn21 : qn21 ∈ L38 := (hx40 qn21 hmqn21).1
  have hkqn21 : kp37 qn21 = 10 := (hvqn21.1).trans hkqn21
  have hvqn26 := (hx40 qn26 hmqn26).2
  have hmqn26 : qn26 ∈ L38 := (hx40 qn26 hmqn26).1
  have hkqn26 : kp37 qn26 = 3 := (hvqn26.1).trans hkqn26
  have hvqn31 := (hx40 qn31 hmqn31).2
  have hmqn31 : qn31 ∈ L38 := (hx40 qn31 hmqn31).1
  have hkqn31 : kp37 qn31 = 4 := (hvqn31.1).trans hkqn31
  have hft : tw_fv E39 qn1 1 = .int 0 := fv_ext hvqn1.2 hft
  have hfr : tw_fv E39 qn6 1 = .int 0 := fv_ext hvqn6.2 hfr
  have hsp : sp_ok E39 qn11 qn6 := sp_ok_ext hvqn11.2 hvqn6.2 hsp
  refine va_putF (D := D) (ci := 11) (v := .ref qn36) (ty := .object "TreeMerge$Editions") (C := RX11) (T := TX11) (N := 19) hx hb hB cx_inX11 tyX11 tyX11_ok nmX11 hown hK hP hD hS 0 rfl rfl 7 (by decide) (hB _ cw_390) (fun _ h9 => h9) rfl hnm rfl (by decide +kernel) rfl rfl (Nat.le_of_ble_eq_true rfl) dX11_init_89 (fun H locs hP hD hS => ?_)
  have hP : va_P D vwCl ([(o, .inr (11, [.ref qn1, .ref qn6, .ref qn11, .ref qn16, .ref qn21, .ref qn26, .ref qn31, .ref qn36, .null, .null, .null, .null, .null, .null, .null, .int 0, .null, .int 0, .null]))] ++ va_pl L38 E39) H := hP
  have hD : va_D A ([(o, .inr (11, [.ref qn1, .ref qn6, .ref qn11, .ref qn16, .ref qn21, .ref qn26, .ref qn31, .ref qn36, .null, .null, .null, .null, .null, .null, .null, .int 0, .null, .int 0, .null]))] ++ va_pl L38 E39) := hD
  refine lv_aload_n hx hb dX11_init_92 rfl (lv_at hl 0 rfl) ?_
  refine va_new (ci := 0) (fs := [.int 0, .int 0, .null, .null]) (C := RX0) (T := TX0) (N := 4) hx hb hB cx_inX0 tyX0 tyX0_ok hown (hB _ cw_248) (hB _ cw_249) (hB _ cw_8) hK hP hD hS hA rfl cx_fsX0 (Nat.le_of_ble_eq_true rfl) (Nat.le_of_ble_eq_true rfl) dX11_init_93 (fun qn41 H hP hD hS => ?_)
  refine lv_dup hx hb dX11_init_96 rfl ?_
  have hTo := hT
  have hmoqn1 := hmqn1
  have hkoqn1 := hkqn1
  have hmoqn6 := hmqn6
  have hkoqn6 := hkqn6
  have hmoqn11 := hmqn11
  have hkoqn11 := hkqn11
  have hmoqn16 := hmqn16
  have hkoqn16 := hkqn16
  have hmoqn21 := hmqn21
  have hkoqn21 := hkqn21
  have hmoqn26 := hmqn26
  have hkoqn26 := hkqn26
  have hmoqn31 := hmqn31
  have hkoqn31 := hkqn31
  have hmoqn36 := hmqn36
  have hkoqn36 := hkqn36
  refine tw_ICN (Xs := [(o, .inr (11, [.ref qn1, .ref qn6, .ref qn11, .ref qn16, .ref qn21, .ref qn26, .ref qn31, .ref qn36, .null, .null, .null, .null, .null, .null, .null, .int 0, .null, .int 0, .null]))]) (o := qn41) (ci := 0) (fs := [.int 0, .int 0, .null, .null]) (kp := kp37) (rest := [.ref qn41, .ref o]) ⟨hx, hb, hml, hown, hB⟩ (fun sz => tI_X0 l D cs qn41 sz) cw_252 cw_8 (by decide +kernel) cw_251 rfl rfl rfl (by decide +kernel) ⟨Nat.le_of_ble_eq_true rfl, Nat.le_of_ble_eq_true rfl⟩ hK hN hP hD hT hS hA hl.1 rfl (Nat.le_of_ble_eq_true rfl) dX11_init_97 ⟨Nat.le_of_ble_eq_true rfl, Nat.le_of_ble_eq_true rfl⟩ (fun kp42 L43 E44 H locs hx45 hmqn41 hkqn41 hnqn41 hpqn41 hP hD hT hS => ?_)
  have hnnqn41 := hnqn41
  have hnqn41 : qn41 ∉ L0 := fun z => hnqn41 (hex _ z).1
  have hex : ∀ a : Nat, a ∈ L0 → a ∈ L43 ∧ kp42 a = kp0 a ∧ E44 a = E0 a := fun a h => ⟨(hx45 a (hex a h).1).1, ((hx45 a (hex a h).1).2.1).trans (hex a h).2.1, ((hx45 a (hex a h).1).2.2).trans (hex a h).2.2⟩
  have hvqn1 := (hx45 qn1 hmqn1).2
  have hmqn1 : qn1 ∈ L43 := (hx45 qn1 hmqn1).1
  have hkqn1 : kp42 qn1 = 9 := (hvqn1.1).trans hkqn1
  have hvqn6 := (hx45 qn6 hmqn6).2
  have hmqn6 : qn6 ∈ L43 := (hx45 qn6 hmqn6).1
  have hkqn6 : kp42 qn6 = 2 := (hvqn6.1).trans hkqn6
  have hvqn11 := (hx45 qn11 hmqn11).2
  have hmqn11 : qn11 ∈ L43 := (hx45 qn11 hmqn11).1
  have hkqn11 : kp42 qn11 = 2 := (hvqn11.1).trans hkqn11
  have hvqn16 := (hx45 qn16 hmqn16).2
  have hmqn16 : qn16 ∈ L43 := (hx45 qn16 hmqn16).1
  have hkqn16 : kp42 qn16 = 10 := (hvqn16.1).trans hkqn16
  have hvqn21 := (hx45 qn21 hmqn21).2
  have hmqn21 : qn21 ∈ L43 := (hx45 qn21 hmqn21).1
  have hkqn21 : kp42 qn21 = 10 := (hvqn21.1).trans hkqn21
  have hvqn26 := (hx45 qn26 hmqn26).2
  have hmqn26 : qn26 ∈ L43 := (hx45 qn26 hmqn26).1
  have hkqn26 : kp42 qn26 = 3 := (hvqn26.1).trans hkqn26
  have hvqn31 := (hx45 qn31 hmqn31).2
  have hmqn31 : qn31 ∈ L43 := (hx45 qn31 hmqn31).1
  have hkqn31 : kp42 qn31 = 4 := (hvqn31.1).trans hkqn31
  have hvqn36 := (hx45 qn36 hmqn36).2
  have hmqn36 : qn36 ∈ L43 := (hx45 qn36 hmqn36).1
  have hkqn36 : kp42 qn36 = 1 := (hvqn36.1).trans hkqn36
  have hft : tw_fv E44 qn1 1 = .int 0 := fv_ext hvqn1.2 hft
  have hfr : tw_fv E44 qn6 1 = .int 0 := fv_ext hvqn6.2 hfr
  have hsp : sp_ok E44 qn11 qn6 := sp_ok_ext hvqn11.2 hvqn6.2 hsp
  refine va_putF (D := D) (ci := 11) (v := .ref qn41) (ty := .object "TreeMerge$Draft") (C := RX11) (T := TX11) (N := 19) hx hb hB cx_inX11 tyX11 tyX11_ok nmX11 hown hK hP hD hS 0 rfl rfl 8 (by decide) (hB _ cw_391) (fun _ h9 => h9) rfl hnm rfl (by decide +kernel) rfl rfl (Nat.le_of_ble_eq_true rfl) dX11_init_100 (fun H locs hP hD hS => ?_)
  have hP : va_P D vwCl ([(o, .inr (11, [.ref qn1, .ref qn6, .ref qn11, .ref qn16, .ref qn21, .ref qn26, .ref qn31, .ref qn36, .ref qn41, .null, .null, .null, .null, .null, .null, .int 0, .null, .int 0, .null]))] ++ va_pl L43 E44) H := hP
  have hD : va_D A ([(o, .inr (11, [.ref qn1, .ref qn6, .ref qn11, .ref qn16, .ref qn21, .ref qn26, .ref qn31, .ref qn36, .ref qn41, .null, .null, .null, .null, .null, .null, .int 0, .null, .int 0, .null]))] ++ va_pl L43 E44) := hD
  refine lv_aload_n hx hb dX11_init_103 rfl (lv_at hl 0 rfl) ?_
  refine va_new (ci := 7) (fs := [.int 0, .null]) (C := RX7) (T := TX7) (N := 2) hx hb hB cx_inX7 tyX7 tyX7_ok hown (hB _ cw_271) (hB _ cw_272) (hB _ cw_9) hK hP hD hS hA rfl cx_fsX7 (Nat.le_of_ble_eq_true rfl) (Nat.le_of_ble_eq_true rfl) dX11_init_104 (fun qn46 H hP hD hS => ?_)
  refine lv_dup hx hb dX11_init_107 rfl ?_
  have hTo := hT
  have hmoqn1 := hmqn1
  have hkoqn1 := hkqn1
  have hmoqn6 := hmqn6
  have hkoqn6 := hkqn6
  have hmoqn11 := hmqn11
  have hkoqn11 := hkqn11
  have hmoqn16 := hmqn16
  have hkoqn16 := hkqn16
  have hmoqn21 := hmqn21
  have hkoqn21 := hkqn21
  have hmoqn26 := hmqn26
  have hkoqn26 := hkqn26
  have hmoqn31 := hmqn31
  have hkoqn31 := hkqn31
  have hmoqn36 := hmqn36
  have hkoqn36 := hkqn36
  have hmoqn41 := hmqn41
  have hkoqn41 := hkqn41
  refine tw_ICN (Xs := [(o, .inr (11, [.ref qn1, .ref qn6, .ref qn11, .ref qn16, .ref qn21, .ref qn26, .ref qn31, .ref qn36, .ref qn41, .null, .null, .null, .null, .null, .null, .int 0, .null, .int 0, .null]))]) (o := qn46) (ci := 7) (fs := [.int 0, .null]) (kp := kp42) (rest := [.ref qn46, .ref o]) ⟨hx, hb, hml, hown, hB⟩ (fun sz => tI_X7 l D cs qn46 sz) cw_275 cw_9 (by decide +kernel) cw_274 rfl rfl rfl (by decide +kernel) ⟨Nat.le_of_ble_eq_true rfl, Nat.le_of_ble_eq_true rfl⟩ hK hN hP hD hT hS hA hl.1 rfl (Nat.le_of_ble_eq_true rfl) dX11_init_108 ⟨Nat.le_of_ble_eq_true rfl, Nat.le_of_ble_eq_true rfl⟩ (fun kp47 L48 E49 H locs hx50 hmqn46 hkqn46 hnqn46 hpqn46 hP hD hT hS => ?_)
  have hnnqn46 := hnqn46
  have hnqn46 : qn46 ∉ L0 := fun z => hnqn46 (hex _ z).1
  have hex : ∀ a : Nat, a ∈ L0 → a ∈ L48 ∧ kp47 a = kp0 a ∧ E49 a = E0 a := fun a h => ⟨(hx50 a (hex a h).1).1, ((hx50 a (hex a h).1).2.1).trans (hex a h).2.1, ((hx50 a (hex a h).1).2.2).trans (hex a h).2.2⟩
  have hvqn1 := (hx50 qn1 hmqn1).2
  have hmqn1 : qn1 ∈ L48 := (hx50 qn1 hmqn1).1
  have hkqn1 : kp47 qn1 = 9 := (hvqn1.1).trans hkqn1
  have hvqn6 := (hx50 qn6 hmqn6).2
  have hmqn6 : qn6 ∈ L48 := (hx50 qn6 hmqn6).1
  have hkqn6 : kp47 qn6 = 2 := (hvqn6.1).trans hkqn6
  have hvqn11 := (hx50 qn11 hmqn11).2
  have hmqn11 : qn11 ∈ L48 := (hx50 qn11 hmqn11).1
  have hkqn11 : kp47 qn11 = 2 := (hvqn11.1).trans hkqn11
  have hvqn16 := (hx50 qn16 hmqn16).2
  have hmqn16 : qn16 ∈ L48 := (hx50 qn16 hmqn16).1
  have hkqn16 : kp47 qn16 = 10 := (hvqn16.1).trans hkqn16
  have hvqn21 := (hx50 qn21 hmqn21).2
  have hmqn21 : qn21 ∈ L48 := (hx50 qn21 hmqn21).1
  have hkqn21 : kp47 qn21 = 10 := (hvqn21.1).trans hkqn21
  have hvqn26 := (hx50 qn26 hmqn26).2
  have hmqn26 : qn26 ∈ L48 := (hx50 qn26 hmqn26).1
  have hkqn26 : kp47 qn26 = 3 := (hvqn26.1).trans hkqn26
  have hvqn31 := (hx50 qn31 hmqn31).2
  have hmqn31 : qn31 ∈ L48 := (hx50 qn31 hmqn31).1
  have hkqn31 : kp47 qn31 = 4 := (hvqn31.1).trans hkqn31
  have hvqn36 := (hx50 qn36 hmqn36).2
  have hmqn36 : qn36 ∈ L48 := (hx50 qn36 hmqn36).1
  have hkqn36 : kp47 qn36 = 1 := (hvqn36.1).trans hkqn36
  have hvqn41 := (hx50 qn41 hmqn41).2
  have hmqn41 : qn41 ∈ L48 := (hx50 qn41 hmqn41).1
  have hkqn41 : kp47 qn41 = 0 := (hvqn41.1).trans hkqn41
  have hft : tw_fv E49 qn1 1 = .int 0 := fv_ext hvqn1.2 hft
  have hfr : tw_fv E49 qn6 1 = .int 0 := fv_ext hvqn6.2 hfr
  have hsp : sp_ok E49 qn11 qn6 := sp_ok_ext hvqn11.2 hvqn6.2 hsp
  refine va_putF (D := D) (ci := 11) (v := .ref qn46) (ty := .object "TreeMerge$Settled") (C := RX11) (T := TX11) (N := 19) hx hb hB cx_inX11 tyX11 tyX11_ok nmX11 hown hK hP hD hS 0 rfl rfl 9 (by decide) (hB _ cw_392) (fun _ h9 => h9) rfl hnm rfl (by decide +kernel) rfl rfl (Nat.le_of_ble_eq_true rfl) dX11_init_111 (fun H locs hP hD hS => ?_)
  have hP : va_P D vwCl ([(o, .inr (11, [.ref qn1, .ref qn6, .ref qn11, .ref qn16, .ref qn21, .ref qn26, .ref qn31, .ref qn36, .ref qn41, .ref qn46, .null, .null, .null, .null, .null, .int 0, .null, .int 0, .null]))] ++ va_pl L48 E49) H := hP
  have hD : va_D A ([(o, .inr (11, [.ref qn1, .ref qn6, .ref qn11, .ref qn16, .ref qn21, .ref qn26, .ref qn31, .ref qn36, .ref qn41, .ref qn46, .null, .null, .null, .null, .null, .int 0, .null, .int 0, .null]))] ++ va_pl L48 E49) := hD
  refine lv_aload_n hx hb dX11_init_114 rfl (lv_at hl 0 rfl) ?_
  refine va_new (ci := 5) (fs := [.null, .null, .null, .null, .null, .null, .null, .null, .null, .null, .int 0, .null, .int 0, .null, .null]) (C := RX5) (T := TX5) (N := 15) hx hb hB cx_inX5 tyX5 tyX5_ok hown (hB _ cw_285) (hB _ cw_286) (hB _ cw_10) hK hP hD hS hA rfl cx_fsX5 (Nat.le_of_ble_eq_true rfl) (Nat.le_of_ble_eq_true rfl) dX11_init_115 (fun qn51 H hP hD hS => ?_)
  refine lv_dup hx hb dX11_init_118 rfl ?_
  have hTo := hT
  have hmoqn1 := hmqn1
  have hkoqn1 := hkqn1
  have hmoqn6 := hmqn6
  have hkoqn6 := hkqn6
  have hmoqn11 := hmqn11
  have hkoqn11 := hkqn11
  have hmoqn16 := hmqn16
  have hkoqn16 := hkqn16
  have hmoqn21 := hmqn21
  have hkoqn21 := hkqn21
  have hmoqn26 := hmqn26
  have hkoqn26 := hkqn26
  have hmoqn31 := hmqn31
  have hkoqn31 := hkqn31
  have hmoqn36 := hmqn36
  have hkoqn36 := hkqn36
  have hmoqn41 := hmqn41
  have hkoqn41 := hkqn41
  have hmoqn46 := hmqn46
  have hkoqn46 := hkqn46
  refine tw_ICN (Xs := [(o, .inr (11, [.ref qn1, .ref qn6, .ref qn11, .ref qn16, .ref qn21, .ref qn26, .ref qn31, .ref qn36, .ref qn41, .ref qn46, .null, .null, .null, .null, .null, .int 0, .null, .int 0, .null]))]) (o := qn51) (ci := 5) (fs := [.null, .null, .null, .null, .null, .null, .null, .null, .null, .null, .int 0, .null, .int 0, .null, .null]) (kp := kp47) (rest := [.ref qn51, .ref o]) ⟨hx, hb, hml, hown, hB⟩ (fun sz => tI_X5 l D cs qn51 sz) cw_289 cw_10 (by decide +kernel) cw_288 rfl rfl rfl (by decide +kernel) ⟨Nat.le_of_ble_eq_true rfl, Nat.le_of_ble_eq_true rfl⟩ hK hN hP hD hT hS hA hl.1 rfl (Nat.le_of_ble_eq_true rfl) dX11_init_119 ⟨Nat.le_of_ble_eq_true rfl, Nat.le_of_ble_eq_true rfl⟩ (fun kp52 L53 E54 H locs hx55 hmqn51 hkqn51 hnqn51 hpqn51 hP hD hT hS => ?_)
  have hnnqn51 := hnqn51
  have hnqn51 : qn51 ∉ L0 := fun z => hnqn51 (hex _ z).1
  have hex : ∀ a : Nat, a ∈ L0 → a ∈ L53 ∧ kp52 a = kp0 a ∧ E54 a = E0 a := fun a h => ⟨(hx55 a (hex a h).1).1, ((hx55 a (hex a h).1).2.1).trans (hex a h).2.1, ((hx55 a (hex a h).1).2.2).trans (hex a h).2.2⟩
  have hvqn1 := (hx55 qn1 hmqn1).2
  have hmqn1 : qn1 ∈ L53 := (hx55 qn1 hmqn1).1
  have hkqn1 : kp52 qn1 = 9 := (hvqn1.1).trans hkqn1
  have hvqn6 := (hx55 qn6 hmqn6).2
  have hmqn6 : qn6 ∈ L53 := (hx55 qn6 hmqn6).1
  have hkqn6 : kp52 qn6 = 2 := (hvqn6.1).trans hkqn6
  have hvqn11 := (hx55 qn11 hmqn11).2
  have hmqn11 : qn11 ∈ L53 := (hx55 qn11 hmqn11).1
  have hkqn11 : kp52 qn11 = 2 := (hvqn11.1).trans hkqn11
  have hvqn16 := (hx55 qn16 hmqn16).2
  have hmqn16 : qn16 ∈ L53 := (hx55 qn16 hmqn16).1
  have hkqn16 : kp52 qn16 = 10 := (hvqn16.1).trans hkqn16
  have hvqn21 := (hx55 qn21 hmqn21).2
  have hmqn21 : qn21 ∈ L53 := (hx55 qn21 hmqn21).1
  have hkqn21 : kp52 qn21 = 10 := (hvqn21.1).trans hkqn21
  have hvqn26 := (hx55 qn26 hmqn26).2
  have hmqn26 : qn26 ∈ L53 := (hx55 qn26 hmqn26).1
  have hkqn26 : kp52 qn26 = 3 := (hvqn26.1).trans hkqn26
  have hvqn31 := (hx55 qn31 hmqn31).2
  have hmqn31 : qn31 ∈ L53 := (hx55 qn31 hmqn31).1
  have hkqn31 : kp52 qn31 = 4 := (hvqn31.1).trans hkqn31
  have hvqn36 := (hx55 qn36 hmqn36).2
  have hmqn36 : qn36 ∈ L53 := (hx55 qn36 hmqn36).1
  have hkqn36 : kp52 qn36 = 1 := (hvqn36.1).trans hkqn36
  have hvqn41 := (hx55 qn41 hmqn41).2
  have hmqn41 : qn41 ∈ L53 := (hx55 qn41 hmqn41).1
  have hkqn41 : kp52 qn41 = 0 := (hvqn41.1).trans hkqn41
  have hvqn46 := (hx55 qn46 hmqn46).2
  have hmqn46 : qn46 ∈ L53 := (hx55 qn46 hmqn46).1
  have hkqn46 : kp52 qn46 = 7 := (hvqn46.1).trans hkqn46
  have hft : tw_fv E54 qn1 1 = .int 0 := fv_ext hvqn1.2 hft
  have hfr : tw_fv E54 qn6 1 = .int 0 := fv_ext hvqn6.2 hfr
  have hsp : sp_ok E54 qn11 qn6 := sp_ok_ext hvqn11.2 hvqn6.2 hsp
  refine va_putF (D := D) (ci := 11) (v := .ref qn51) (ty := .object "TreeMerge$Merging") (C := RX11) (T := TX11) (N := 19) hx hb hB cx_inX11 tyX11 tyX11_ok nmX11 hown hK hP hD hS 0 rfl rfl 10 (by decide) (hB _ cw_393) (fun _ h9 => h9) rfl hnm rfl (by decide +kernel) rfl rfl (Nat.le_of_ble_eq_true rfl) dX11_init_122 (fun H locs hP hD hS => ?_)
  have hP : va_P D vwCl ([(o, .inr (11, [.ref qn1, .ref qn6, .ref qn11, .ref qn16, .ref qn21, .ref qn26, .ref qn31, .ref qn36, .ref qn41, .ref qn46, .ref qn51, .null, .null, .null, .null, .int 0, .null, .int 0, .null]))] ++ va_pl L53 E54) H := hP
  have hD : va_D A ([(o, .inr (11, [.ref qn1, .ref qn6, .ref qn11, .ref qn16, .ref qn21, .ref qn26, .ref qn31, .ref qn36, .ref qn41, .ref qn46, .ref qn51, .null, .null, .null, .null, .int 0, .null, .int 0, .null]))] ++ va_pl L53 E54) := hD
  refine lv_aload_n hx hb dX11_init_125 rfl (lv_at hl 0 rfl) ?_
  refine va_new (ci := 10) (fs := [.int 0, .null, .null, .null, .null, .null, .null, .null]) (C := RX10) (T := TX10) (N := 8) hx hb hB cx_inX10 tyX10 tyX10_ok hown (hB _ cw_110) (hB _ cw_111) (hB _ cw_4) hK hP hD hS hA rfl cx_fsX10 (Nat.le_of_ble_eq_true rfl) (Nat.le_of_ble_eq_true rfl) dX11_init_126 (fun qn56 H hP hD hS => ?_)
  refine lv_dup hx hb dX11_init_129 rfl ?_
  have hTo := hT
  have hmoqn1 := hmqn1
  have hkoqn1 := hkqn1
  have hmoqn6 := hmqn6
  have hkoqn6 := hkqn6
  have hmoqn11 := hmqn11
  have hkoqn11 := hkqn11
  have hmoqn16 := hmqn16
  have hkoqn16 := hkqn16
  have hmoqn21 := hmqn21
  have hkoqn21 := hkqn21
  have hmoqn26 := hmqn26
  have hkoqn26 := hkqn26
  have hmoqn31 := hmqn31
  have hkoqn31 := hkqn31
  have hmoqn36 := hmqn36
  have hkoqn36 := hkqn36
  have hmoqn41 := hmqn41
  have hkoqn41 := hkqn41
  have hmoqn46 := hmqn46
  have hkoqn46 := hkqn46
  have hmoqn51 := hmqn51
  have hkoqn51 := hkqn51
  refine tw_ICN (Xs := [(o, .inr (11, [.ref qn1, .ref qn6, .ref qn11, .ref qn16, .ref qn21, .ref qn26, .ref qn31, .ref qn36, .ref qn41, .ref qn46, .ref qn51, .null, .null, .null, .null, .int 0, .null, .int 0, .null]))]) (o := qn56) (ci := 10) (fs := [.int 0, .null, .null, .null, .null, .null, .null, .null]) (kp := kp52) (rest := [.ref qn56, .ref o]) ⟨hx, hb, hml, hown, hB⟩ (fun sz => tI_X10 l D cs qn56 sz) cw_114 cw_4 (by decide +kernel) cw_113 rfl rfl rfl (by decide +kernel) ⟨Nat.le_of_ble_eq_true rfl, Nat.le_of_ble_eq_true rfl⟩ hK hN hP hD hT hS hA hl.1 rfl (Nat.le_of_ble_eq_true rfl) dX11_init_130 ⟨Nat.le_of_ble_eq_true rfl, Nat.le_of_ble_eq_true rfl⟩ (fun kp57 L58 E59 H locs hx60 hmqn56 hkqn56 hnqn56 hpqn56 hP hD hT hS => ?_)
  have hnnqn56 := hnqn56
  have hnqn56 : qn56 ∉ L0 := fun z => hnqn56 (hex _ z).1
  have hex : ∀ a : Nat, a ∈ L0 → a ∈ L58 ∧ kp57 a = kp0 a ∧ E59 a = E0 a := fun a h => ⟨(hx60 a (hex a h).1).1, ((hx60 a (hex a h).1).2.1).trans (hex a h).2.1, ((hx60 a (hex a h).1).2.2).trans (hex a h).2.2⟩
  have hvqn1 := (hx60 qn1 hmqn1).2
  have hmqn1 : qn1 ∈ L58 := (hx60 qn1 hmqn1).1
  have hkqn1 : kp57 qn1 = 9 := (hvqn1.1).trans hkqn1
  have hvqn6 := (hx60 qn6 hmqn6).2
  have hmqn6 : qn6 ∈ L58 := (hx60 qn6 hmqn6).1
  have hkqn6 : kp57 qn6 = 2 := (hvqn6.1).trans hkqn6
  have hvqn11 := (hx60 qn11 hmqn11).2
  have hmqn11 : qn11 ∈ L58 := (hx60 qn11 hmqn11).1
  have hkqn11 : kp57 qn11 = 2 := (hvqn11.1).trans hkqn11
  have hvqn16 := (hx60 qn16 hmqn16).2
  have hmqn16 : qn16 ∈ L58 := (hx60 qn16 hmqn16).1
  have hkqn16 : kp57 qn16 = 10 := (hvqn16.1).trans hkqn16
  have hvqn21 := (hx60 qn21 hmqn21).2
  have hmqn21 : qn21 ∈ L58 := (hx60 qn21 hmqn21).1
  have hkqn21 : kp57 qn21 = 10 := (hvqn21.1).trans hkqn21
  have hvqn26 := (hx60 qn26 hmqn26).2
  have hmqn26 : qn26 ∈ L58 := (hx60 qn26 hmqn26).1
  have hkqn26 : kp57 qn26 = 3 := (hvqn26.1).trans hkqn26
  have hvqn31 := (hx60 qn31 hmqn31).2
  have hmqn31 : qn31 ∈ L58 := (hx60 qn31 hmqn31).1
  have hkqn31 : kp57 qn31 = 4 := (hvqn31.1).trans hkqn31
  have hvqn36 := (hx60 qn36 hmqn36).2
  have hmqn36 : qn36 ∈ L58 := (hx60 qn36 hmqn36).1
  have hkqn36 : kp57 qn36 = 1 := (hvqn36.1).trans hkqn36
  have hvqn41 := (hx60 qn41 hmqn41).2
  have hmqn41 : qn41 ∈ L58 := (hx60 qn41 hmqn41).1
  have hkqn41 : kp57 qn41 = 0 := (hvqn41.1).trans hkqn41
  have hvqn46 := (hx60 qn46 hmqn46).2
  have hmqn46 : qn46 ∈ L58 := (hx60 qn46 hmqn46).1
  have hkqn46 : kp57 qn46 = 7 := (hvqn46.1).trans hkqn46
  have hvqn51 := (hx60 qn51 hmqn51).2
  have hmqn51 : qn51 ∈ L58 := (hx60 qn51 hmqn51).1
  have hkqn51 : kp57 qn51 = 5 := (hvqn51.1).trans hkqn51
  have hft : tw_fv E59 qn1 1 = .int 0 := fv_ext hvqn1.2 hft
  have hfr : tw_fv E59 qn6 1 = .int 0 := fv_ext hvqn6.2 hfr
  have hsp : sp_ok E59 qn11 qn6 := sp_ok_ext hvqn11.2 hvqn6.2 hsp
  refine va_putF (D := D) (ci := 11) (v := .ref qn56) (ty := .object "TreeMerge$Tree") (C := RX11) (T := TX11) (N := 19) hx hb hB cx_inX11 tyX11 tyX11_ok nmX11 hown hK hP hD hS 0 rfl rfl 11 (by decide) (hB _ cw_394) (fun _ h9 => h9) rfl hnm rfl (by decide +kernel) rfl rfl (Nat.le_of_ble_eq_true rfl) dX11_init_133 (fun H locs hP hD hS => ?_)
  have hP : va_P D vwCl ([(o, .inr (11, [.ref qn1, .ref qn6, .ref qn11, .ref qn16, .ref qn21, .ref qn26, .ref qn31, .ref qn36, .ref qn41, .ref qn46, .ref qn51, .ref qn56, .null, .null, .null, .int 0, .null, .int 0, .null]))] ++ va_pl L58 E59) H := hP
  have hD : va_D A ([(o, .inr (11, [.ref qn1, .ref qn6, .ref qn11, .ref qn16, .ref qn21, .ref qn26, .ref qn31, .ref qn36, .ref qn41, .ref qn46, .ref qn51, .ref qn56, .null, .null, .null, .int 0, .null, .int 0, .null]))] ++ va_pl L58 E59) := hD
  refine lv_aload_n hx hb dX11_init_136 rfl (lv_at hl 0 rfl) ?_
  refine va_new (ci := 10) (fs := [.int 0, .null, .null, .null, .null, .null, .null, .null]) (C := RX10) (T := TX10) (N := 8) hx hb hB cx_inX10 tyX10 tyX10_ok hown (hB _ cw_110) (hB _ cw_111) (hB _ cw_4) hK hP hD hS hA rfl cx_fsX10 (Nat.le_of_ble_eq_true rfl) (Nat.le_of_ble_eq_true rfl) dX11_init_137 (fun qn61 H hP hD hS => ?_)
  refine lv_dup hx hb dX11_init_140 rfl ?_
  have hTo := hT
  have hmoqn1 := hmqn1
  have hkoqn1 := hkqn1
  have hmoqn6 := hmqn6
  have hkoqn6 := hkqn6
  have hmoqn11 := hmqn11
  have hkoqn11 := hkqn11
  have hmoqn16 := hmqn16
  have hkoqn16 := hkqn16
  have hmoqn21 := hmqn21
  have hkoqn21 := hkqn21
  have hmoqn26 := hmqn26
  have hkoqn26 := hkqn26
  have hmoqn31 := hmqn31
  have hkoqn31 := hkqn31
  have hmoqn36 := hmqn36
  have hkoqn36 := hkqn36
  have hmoqn41 := hmqn41
  have hkoqn41 := hkqn41
  have hmoqn46 := hmqn46
  have hkoqn46 := hkqn46
  have hmoqn51 := hmqn51
  have hkoqn51 := hkqn51
  have hmoqn56 := hmqn56
  have hkoqn56 := hkqn56
  refine tw_ICN (Xs := [(o, .inr (11, [.ref qn1, .ref qn6, .ref qn11, .ref qn16, .ref qn21, .ref qn26, .ref qn31, .ref qn36, .ref qn41, .ref qn46, .ref qn51, .ref qn56, .null, .null, .null, .int 0, .null, .int 0, .null]))]) (o := qn61) (ci := 10) (fs := [.int 0, .null, .null, .null, .null, .null, .null, .null]) (kp := kp57) (rest := [.ref qn61, .ref o]) ⟨hx, hb, hml, hown, hB⟩ (fun sz => tI_X10 l D cs qn61 sz) cw_114 cw_4 (by decide +kernel) cw_113 rfl rfl rfl (by decide +kernel) ⟨Nat.le_of_ble_eq_true rfl, Nat.le_of_ble_eq_true rfl⟩ hK hN hP hD hT hS hA hl.1 rfl (Nat.le_of_ble_eq_true rfl) dX11_init_141 ⟨Nat.le_of_ble_eq_true rfl, Nat.le_of_ble_eq_true rfl⟩ (fun kp62 L63 E64 H locs hx65 hmqn61 hkqn61 hnqn61 hpqn61 hP hD hT hS => ?_)
  have hnnqn61 := hnqn61
  have hnqn61 : qn61 ∉ L0 := fun z => hnqn61 (hex _ z).1
  have hex : ∀ a : Nat, a ∈ L0 → a ∈ L63 ∧ kp62 a = kp0 a ∧ E64 a = E0 a := fun a h => ⟨(hx65 a (hex a h).1).1, ((hx65 a (hex a h).1).2.1).trans (hex a h).2.1, ((hx65 a (hex a h).1).2.2).trans (hex a h).2.2⟩
  have hvqn1 := (hx65 qn1 hmqn1).2
  have hmqn1 : qn1 ∈ L63 := (hx65 qn1 hmqn1).1
  have hkqn1 : kp62 qn1 = 9 := (hvqn1.1).trans hkqn1
  have hvqn6 := (hx65 qn6 hmqn6).2
  have hmqn6 : qn6 ∈ L63 := (hx65 qn6 hmqn6).1
  have hkqn6 : kp62 qn6 = 2 := (hvqn6.1).trans hkqn6
  have hvqn11 := (hx65 qn11 hmqn11).2
  have hmqn11 : qn11 ∈ L63 := (hx65 qn11 hmqn11).1
  have hkqn11 : kp62 qn11 = 2 := (hvqn11.1).trans hkqn11
  have hvqn16 := (hx65 qn16 hmqn16).2
  have hmqn16 : qn16 ∈ L63 := (hx65 qn16 hmqn16).1
  have hkqn16 : kp62 qn16 = 10 := (hvqn16.1).trans hkqn16
  have hvqn21 := (hx65 qn21 hmqn21).2
  have hmqn21 : qn21 ∈ L63 := (hx65 qn21 hmqn21).1
  have hkqn21 : kp62 qn21 = 10 := (hvqn21.1).trans hkqn21
  have hvqn26 := (hx65 qn26 hmqn26).2
  have hmqn26 : qn26 ∈ L63 := (hx65 qn26 hmqn26).1
  have hkqn26 : kp62 qn26 = 3 := (hvqn26.1).trans hkqn26
  have hvqn31 := (hx65 qn31 hmqn31).2
  have hmqn31 : qn31 ∈ L63 := (hx65 qn31 hmqn31).1
  have hkqn31 : kp62 qn31 = 4 := (hvqn31.1).trans hkqn31
  have hvqn36 := (hx65 qn36 hmqn36).2
  have hmqn36 : qn36 ∈ L63 := (hx65 qn36 hmqn36).1
  have hkqn36 : kp62 qn36 = 1 := (hvqn36.1).trans hkqn36
  have hvqn41 := (hx65 qn41 hmqn41).2
  have hmqn41 : qn41 ∈ L63 := (hx65 qn41 hmqn41).1
  have hkqn41 : kp62 qn41 = 0 := (hvqn41.1).trans hkqn41
  have hvqn46 := (hx65 qn46 hmqn46).2
  have hmqn46 : qn46 ∈ L63 := (hx65 qn46 hmqn46).1
  have hkqn46 : kp62 qn46 = 7 := (hvqn46.1).trans hkqn46
  have hvqn51 := (hx65 qn51 hmqn51).2
  have hmqn51 : qn51 ∈ L63 := (hx65 qn51 hmqn51).1
  have hkqn51 : kp62 qn51 = 5 := (hvqn51.1).trans hkqn51
  have hvqn56 := (hx65 qn56 hmqn56).2
  have hmqn56 : qn56 ∈ L63 := (hx65 qn56 hmqn56).1
  have hkqn56 : kp62 qn56 = 10 := (hvqn56.1).trans hkqn56
  have hft : tw_fv E64 qn1 1 = .int 0 := fv_ext hvqn1.2 hft
  have hfr : tw_fv E64 qn6 1 = .int 0 := fv_ext hvqn6.2 hfr
  have hsp : sp_ok E64 qn11 qn6 := sp_ok_ext hvqn11.2 hvqn6.2 hsp
  refine va_putF (D := D) (ci := 11) (v := .ref qn61) (ty := .object "TreeMerge$Tree") (C := RX11) (T := TX11) (N := 19) hx hb hB cx_inX11 tyX11 tyX11_ok nmX11 hown hK hP hD hS 0 rfl rfl 12 (by decide) (hB _ cw_395) (fun _ h9 => h9) rfl hnm rfl (by decide +kernel) rfl rfl (Nat.le_of_ble_eq_true rfl) dX11_init_144 (fun H locs hP hD hS => ?_)
  have hP : va_P D vwCl ([(o, .inr (11, [.ref qn1, .ref qn6, .ref qn11, .ref qn16, .ref qn21, .ref qn26, .ref qn31, .ref qn36, .ref qn41, .ref qn46, .ref qn51, .ref qn56, .ref qn61, .null, .null, .int 0, .null, .int 0, .null]))] ++ va_pl L63 E64) H := hP
  have hD : va_D A ([(o, .inr (11, [.ref qn1, .ref qn6, .ref qn11, .ref qn16, .ref qn21, .ref qn26, .ref qn31, .ref qn36, .ref qn41, .ref qn46, .ref qn51, .ref qn56, .ref qn61, .null, .null, .int 0, .null, .int 0, .null]))] ++ va_pl L63 E64) := hD
  refine lv_aload_n hx hb dX11_init_147 rfl (lv_at hl 0 rfl) ?_
  refine va_new (ci := 6) (fs := [.int 0, .int 0, .int 0]) (C := RX6) (T := TX6) (N := 3) hx hb hB cx_inX6 tyX6 tyX6_ok hown (hB _ cw_365) (hB _ cw_366) (hB _ cw_12) hK hP hD hS hA rfl cx_fsX6 (Nat.le_of_ble_eq_true rfl) (Nat.le_of_ble_eq_true rfl) dX11_init_148 (fun qn66 H hP hD hS => ?_)
  refine lv_dup hx hb dX11_init_151 rfl ?_
  have hTo := hT
  have hmoqn1 := hmqn1
  have hkoqn1 := hkqn1
  have hmoqn6 := hmqn6
  have hkoqn6 := hkqn6
  have hmoqn11 := hmqn11
  have hkoqn11 := hkqn11
  have hmoqn16 := hmqn16
  have hkoqn16 := hkqn16
  have hmoqn21 := hmqn21
  have hkoqn21 := hkqn21
  have hmoqn26 := hmqn26
  have hkoqn26 := hkqn26
  have hmoqn31 := hmqn31
  have hkoqn31 := hkqn31
  have hmoqn36 := hmqn36
  have hkoqn36 := hkqn36
  have hmoqn41 := hmqn41
  have hkoqn41 := hkqn41
  have hmoqn46 := hmqn46
  have hkoqn46 := hkqn46
  have hmoqn51 := hmqn51
  have hkoqn51 := hkqn51
  have hmoqn56 := hmqn56
  have hkoqn56 := hkqn56
  have hmoqn61 := hmqn61
  have hkoqn61 := hkqn61
  refine tw_ICN (Xs := [(o, .inr (11, [.ref qn1, .ref qn6, .ref qn11, .ref qn16, .ref qn21, .ref qn26, .ref qn31, .ref qn36, .ref qn41, .ref qn46, .ref qn51, .ref qn56, .ref qn61, .null, .null, .int 0, .null, .int 0, .null]))]) (o := qn66) (ci := 6) (fs := [.int 0, .int 0, .int 0]) (kp := kp62) (rest := [.ref qn66, .ref o]) ⟨hx, hb, hml, hown, hB⟩ (fun sz => tI_X6 l D cs qn66 sz) cw_369 cw_12 (by decide +kernel) cw_368 rfl rfl rfl (by decide +kernel) ⟨Nat.le_of_ble_eq_true rfl, Nat.le_of_ble_eq_true rfl⟩ hK hN hP hD hT hS hA hl.1 rfl (Nat.le_of_ble_eq_true rfl) dX11_init_152 ⟨Nat.le_of_ble_eq_true rfl, Nat.le_of_ble_eq_true rfl⟩ (fun kp67 L68 E69 H locs hx70 hmqn66 hkqn66 hnqn66 hpqn66 hP hD hT hS => ?_)
  have hnnqn66 := hnqn66
  have hnqn66 : qn66 ∉ L0 := fun z => hnqn66 (hex _ z).1
  have hex : ∀ a : Nat, a ∈ L0 → a ∈ L68 ∧ kp67 a = kp0 a ∧ E69 a = E0 a := fun a h => ⟨(hx70 a (hex a h).1).1, ((hx70 a (hex a h).1).2.1).trans (hex a h).2.1, ((hx70 a (hex a h).1).2.2).trans (hex a h).2.2⟩
  have hvqn1 := (hx70 qn1 hmqn1).2
  have hmqn1 : qn1 ∈ L68 := (hx70 qn1 hmqn1).1
  have hkqn1 : kp67 qn1 = 9 := (hvqn1.1).trans hkqn1
  have hvqn6 := (hx70 qn6 hmqn6).2
  have hmqn6 : qn6 ∈ L68 := (hx70 qn6 hmqn6).1
  have hkqn6 : kp67 qn6 = 2 := (hvqn6.1).trans hkqn6
  have hvqn11 := (hx70 qn11 hmqn11).2
  have hmqn11 : qn11 ∈ L68 := (hx70 qn11 hmqn11).1
  have hkqn11 : kp67 qn11 = 2 := (hvqn11.1).trans hkqn11
  have hvqn16 := (hx70 qn16 hmqn16).2
  have hmqn16 : qn16 ∈ L68 := (hx70 qn16 hmqn16).1
  have hkqn16 : kp67 qn16 = 10 := (hvqn16.1).trans hkqn16
  have hvqn21 := (hx70 qn21 hmqn21).2
  have hmqn21 : qn21 ∈ L68 := (hx70 qn21 hmqn21).1
  have hkqn21 : kp67 qn21 = 10 := (hvqn21.1).trans hkqn21
  have hvqn26 := (hx70 qn26 hmqn26).2
  have hmqn26 : qn26 ∈ L68 := (hx70 qn26 hmqn26).1
  have hkqn26 : kp67 qn26 = 3 := (hvqn26.1).trans hkqn26
  have hvqn31 := (hx70 qn31 hmqn31).2
  have hmqn31 : qn31 ∈ L68 := (hx70 qn31 hmqn31).1
  have hkqn31 : kp67 qn31 = 4 := (hvqn31.1).trans hkqn31
  have hvqn36 := (hx70 qn36 hmqn36).2
  have hmqn36 : qn36 ∈ L68 := (hx70 qn36 hmqn36).1
  have hkqn36 : kp67 qn36 = 1 := (hvqn36.1).trans hkqn36
  have hvqn41 := (hx70 qn41 hmqn41).2
  have hmqn41 : qn41 ∈ L68 := (hx70 qn41 hmqn41).1
  have hkqn41 : kp67 qn41 = 0 := (hvqn41.1).trans hkqn41
  have hvqn46 := (hx70 qn46 hmqn46).2
  have hmqn46 : qn46 ∈ L68 := (hx70 qn46 hmqn46).1
  have hkqn46 : kp67 qn46 = 7 := (hvqn46.1).trans hkqn46
  have hvqn51 := (hx70 qn51 hmqn51).2
  have hmqn51 : qn51 ∈ L68 := (hx70 qn51 hmqn51).1
  have hkqn51 : kp67 qn51 = 5 := (hvqn51.1).trans hkqn51
  have hvqn56 := (hx70 qn56 hmqn56).2
  have hmqn56 : qn56 ∈ L68 := (hx70 qn56 hmqn56).1
  have hkqn56 : kp67 qn56 = 10 := (hvqn56.1).trans hkqn56
  have hvqn61 := (hx70 qn61 hmqn61).2
  have hmqn61 : qn61 ∈ L68 := (hx70 qn61 hmqn61).1
  have hkqn61 : kp67 qn61 = 10 := (hvqn61.1).trans hkqn61
  have hft : tw_fv E69 qn1 1 = .int 0 := fv_ext hvqn1.2 hft
  have hfr : tw_fv E69 qn6 1 = .int 0 := fv_ext hvqn6.2 hfr
  have hsp : sp_ok E69 qn11 qn6 := sp_ok_ext hvqn11.2 hvqn6.2 hsp
  refine va_putF (D := D) (ci := 11) (v := .ref qn66) (ty := .object "TreeMerge$Printer") (C := RX11) (T := TX11) (N := 19) hx hb hB cx_inX11 tyX11 tyX11_ok nmX11 hown hK hP hD hS 0 rfl rfl 13 (by decide) (hB _ cw_396) (fun _ h9 => h9) rfl hnm rfl (by decide +kernel) rfl rfl (Nat.le_of_ble_eq_true rfl) dX11_init_155 (fun H locs hP hD hS => ?_)
  have hP : va_P D vwCl ([(o, .inr (11, [.ref qn1, .ref qn6, .ref qn11, .ref qn16, .ref qn21, .ref qn26, .ref qn31, .ref qn36, .ref qn41, .ref qn46, .ref qn51, .ref qn56, .ref qn61, .ref qn66, .null, .int 0, .null, .int 0, .null]))] ++ va_pl L68 E69) H := hP
  have hD : va_D A ([(o, .inr (11, [.ref qn1, .ref qn6, .ref qn11, .ref qn16, .ref qn21, .ref qn26, .ref qn31, .ref qn36, .ref qn41, .ref qn46, .ref qn51, .ref qn56, .ref qn61, .ref qn66, .null, .int 0, .null, .int 0, .null]))] ++ va_pl L68 E69) := hD
  refine lv_aload_n hx hb dX11_init_158 rfl (lv_at hl 0 rfl) ?_
  refine lv_sipush (v := 150) hx hb dX11_init_159 (by decide) ?_
  refine cx_newa (cs := cs) (atype := .int) (ty := .int) (a0 := (150, .inl (fun _ => 0))) hx hb hB cw_59 rfl cx_ra_int 0 rfl hK hP hD hS hA (fun _ => rfl) (by decide) (by decide) (Nat.le_of_ble_eq_true rfl) (Nat.le_of_ble_eq_true rfl) (Nat.le_of_ble_eq_true rfl) dX11_init_162 (fun qa71 H hP hD hS => ?_)
  obtain ⟨kp72, E73, hP, hD, hT, hx75, hkqa71, heq, hnqa71⟩ := tw_abs (k := 180) hP hD hT (fun _ _ _ => ⟨by decide, rfl, rfl, (fun _ _ => (show ((-2) : Int) ≤ ((0 : Int32)).toInt ∧ ((0 : Int32)).toInt ≤ 12 from by decide))⟩)
  obtain ⟨L74, hL⟩ : ∃ z, z = L68 ++ [qa71] := ⟨_, rfl⟩
  have hmqa71 : qa71 ∈ L74 := by rw [hL]; simp
  rw [← hL] at hP hD hT hx75
  have hnqa71 : qa71 ∉ L0 := fun z => hnqa71 (hex _ z).1
  have hex : ∀ a : Nat, a ∈ L0 → a ∈ L74 ∧ kp72 a = kp0 a ∧ E73 a = E0 a := fun a h => ⟨(hx75 a (hex a h).1).1, ((hx75 a (hex a h).1).2.1).trans (hex a h).2.1, ((hx75 a (hex a h).1).2.2).trans (hex a h).2.2⟩
  have hvqn1 := (hx75 qn1 hmqn1).2
  have hmqn1 : qn1 ∈ L74 := (hx75 qn1 hmqn1).1
  have hkqn1 : kp72 qn1 = 9 := (hvqn1.1).trans hkqn1
  have hvqn6 := (hx75 qn6 hmqn6).2
  have hmqn6 : qn6 ∈ L74 := (hx75 qn6 hmqn6).1
  have hkqn6 : kp72 qn6 = 2 := (hvqn6.1).trans hkqn6
  have hvqn11 := (hx75 qn11 hmqn11).2
  have hmqn11 : qn11 ∈ L74 := (hx75 qn11 hmqn11).1
  have hkqn11 : kp72 qn11 = 2 := (hvqn11.1).trans hkqn11
  have hvqn16 := (hx75 qn16 hmqn16).2
  have hmqn16 : qn16 ∈ L74 := (hx75 qn16 hmqn16).1
  have hkqn16 : kp72 qn16 = 10 := (hvqn16.1).trans hkqn16
  have hvqn21 := (hx75 qn21 hmqn21).2
  have hmqn21 : qn21 ∈ L74 := (hx75 qn21 hmqn21).1
  have hkqn21 : kp72 qn21 = 10 := (hvqn21.1).trans hkqn21
  have hvqn26 := (hx75 qn26 hmqn26).2
  have hmqn26 : qn26 ∈ L74 := (hx75 qn26 hmqn26).1
  have hkqn26 : kp72 qn26 = 3 := (hvqn26.1).trans hkqn26
  have hvqn31 := (hx75 qn31 hmqn31).2
  have hmqn31 : qn31 ∈ L74 := (hx75 qn31 hmqn31).1
  have hkqn31 : kp72 qn31 = 4 := (hvqn31.1).trans hkqn31
  have hvqn36 := (hx75 qn36 hmqn36).2
  have hmqn36 : qn36 ∈ L74 := (hx75 qn36 hmqn36).1
  have hkqn36 : kp72 qn36 = 1 := (hvqn36.1).trans hkqn36
  have hvqn41 := (hx75 qn41 hmqn41).2
  have hmqn41 : qn41 ∈ L74 := (hx75 qn41 hmqn41).1
  have hkqn41 : kp72 qn41 = 0 := (hvqn41.1).trans hkqn41
  have hvqn46 := (hx75 qn46 hmqn46).2
  have hmqn46 : qn46 ∈ L74 := (hx75 qn46 hmqn46).1
  have hkqn46 : kp72 qn46 = 7 := (hvqn46.1).trans hkqn46
  have hvqn51 := (hx75 qn51 hmqn51).2
  have hmqn51 : qn51 ∈ L74 := (hx75 qn51 hmqn51).1
  have hkqn51 : kp72 qn51 = 5 := (hvqn51.1).trans hkqn51
  have hvqn56 := (hx75 qn56 hmqn56).2
  have hmqn56 : qn56 ∈ L74 := (hx75 qn56 hmqn56).1
  have hkqn56 : kp72 qn56 = 10 := (hvqn56.1).trans hkqn56
  have hvqn61 := (hx75 qn61 hmqn61).2
  have hmqn61 : qn61 ∈ L74 := (hx75 qn61 hmqn61).1
  have hkqn61 : kp72 qn61 = 10 := (hvqn61.1).trans hkqn61
  have hvqn66 := (hx75 qn66 hmqn66).2
  have hmqn66 : qn66 ∈ L74 := (hx75 qn66 hmqn66).1
  have hkqn66 : kp72 qn66 = 6 := (hvqn66.1).trans hkqn66
  have hft : tw_fv E73 qn1 1 = .int 0 := fv_ext hvqn1.2 hft
  have hfr : tw_fv E73 qn6 1 = .int 0 := fv_ext hvqn6.2 hfr
  have hsp : sp_ok E73 qn11 qn6 := sp_ok_ext hvqn11.2 hvqn6.2 hsp
  refine va_putF (D := D) (ci := 11) (v := .ref qa71) (ty := .array .int) (C := RX11) (T := TX11) (N := 19) hx hb hB cx_inX11 tyX11 tyX11_ok nmX11 hown hK hP hD hS 0 rfl rfl 14 (by decide) (hB _ cw_397) (fun _ h9 => h9) rfl hnm rfl (by decide +kernel) rfl rfl (Nat.le_of_ble_eq_true rfl) dX11_init_164 (fun H locs hP hD hS => ?_)
  have hP : va_P D vwCl ([(o, .inr (11, [.ref qn1, .ref qn6, .ref qn11, .ref qn16, .ref qn21, .ref qn26, .ref qn31, .ref qn36, .ref qn41, .ref qn46, .ref qn51, .ref qn56, .ref qn61, .ref qn66, .ref qa71, .int 0, .null, .int 0, .null]))] ++ va_pl L74 E73) H := hP
  have hD : va_D A ([(o, .inr (11, [.ref qn1, .ref qn6, .ref qn11, .ref qn16, .ref qn21, .ref qn26, .ref qn31, .ref qn36, .ref qn41, .ref qn46, .ref qn51, .ref qn56, .ref qn61, .ref qn66, .ref qa71, .int 0, .null, .int 0, .null]))] ++ va_pl L74 E73) := hD
  refine lv_aload_n hx hb dX11_init_167 rfl (lv_at hl 0 rfl) ?_
  refine lv_sipush (v := 450) hx hb dX11_init_168 (by decide) ?_
  refine cx_newa (cs := cs) (atype := .int) (ty := .int) (a0 := (450, .inl (fun _ => 0))) hx hb hB cw_59 rfl cx_ra_int 0 rfl hK hP hD hS hA (fun _ => rfl) (by decide) (by decide) (Nat.le_of_ble_eq_true rfl) (Nat.le_of_ble_eq_true rfl) (Nat.le_of_ble_eq_true rfl) dX11_init_171 (fun qa76 H hP hD hS => ?_)
  obtain ⟨kp77, E78, hP, hD, hT, hx80, hkqa76, heq, hnqa76⟩ := tw_abs (k := 181) hP hD hT (fun _ _ _ => ⟨by decide, rfl, rfl, (fun _ _ => (show ((-2147483648) : Int) ≤ ((0 : Int32)).toInt ∧ ((0 : Int32)).toInt ≤ 2147483647 from by decide))⟩)
  obtain ⟨L79, hL⟩ : ∃ z, z = L74 ++ [qa76] := ⟨_, rfl⟩
  have hmqa76 : qa76 ∈ L79 := by rw [hL]; simp
  rw [← hL] at hP hD hT hx80
  have hnqa76 : qa76 ∉ L0 := fun z => hnqa76 (hex _ z).1
  have hex : ∀ a : Nat, a ∈ L0 → a ∈ L79 ∧ kp77 a = kp0 a ∧ E78 a = E0 a := fun a h => ⟨(hx80 a (hex a h).1).1, ((hx80 a (hex a h).1).2.1).trans (hex a h).2.1, ((hx80 a (hex a h).1).2.2).trans (hex a h).2.2⟩
  have hvqn1 := (hx80 qn1 hmqn1).2
  have hmqn1 : qn1 ∈ L79 := (hx80 qn1 hmqn1).1
  have hkqn1 : kp77 qn1 = 9 := (hvqn1.1).trans hkqn1
  have hvqn6 := (hx80 qn6 hmqn6).2
  have hmqn6 : qn6 ∈ L79 := (hx80 qn6 hmqn6).1
  have hkqn6 : kp77 qn6 = 2 := (hvqn6.1).trans hkqn6
  have hvqn11 := (hx80 qn11 hmqn11).2
  have hmqn11 : qn11 ∈ L79 := (hx80 qn11 hmqn11).1
  have hkqn11 : kp77 qn11 = 2 := (hvqn11.1).trans hkqn11
  have hvqn16 := (hx80 qn16 hmqn16).2
  have hmqn16 : qn16 ∈ L79 := (hx80 qn16 hmqn16).1
  have hkqn16 : kp77 qn16 = 10 := (hvqn16.1).trans hkqn16
  have hvqn21 := (hx80 qn21 hmqn21).2
  have hmqn21 : qn21 ∈ L79 := (hx80 qn21 hmqn21).1
  have hkqn21 : kp77 qn21 = 10 := (hvqn21.1).trans hkqn21
  have hvqn26 := (hx80 qn26 hmqn26).2
  have hmqn26 : qn26 ∈ L79 := (hx80 qn26 hmqn26).1
  have hkqn26 : kp77 qn26 = 3 := (hvqn26.1).trans hkqn26
  have hvqn31 := (hx80 qn31 hmqn31).2
  have hmqn31 : qn31 ∈ L79 := (hx80 qn31 hmqn31).1
  have hkqn31 : kp77 qn31 = 4 := (hvqn31.1).trans hkqn31
  have hvqn36 := (hx80 qn36 hmqn36).2
  have hmqn36 : qn36 ∈ L79 := (hx80 qn36 hmqn36).1
  have hkqn36 : kp77 qn36 = 1 := (hvqn36.1).trans hkqn36
  have hvqn41 := (hx80 qn41 hmqn41).2
  have hmqn41 : qn41 ∈ L79 := (hx80 qn41 hmqn41).1
  have hkqn41 : kp77 qn41 = 0 := (hvqn41.1).trans hkqn41
  have hvqn46 := (hx80 qn46 hmqn46).2
  have hmqn46 : qn46 ∈ L79 := (hx80 qn46 hmqn46).1
  have hkqn46 : kp77 qn46 = 7 := (hvqn46.1).trans hkqn46
  have hvqn51 := (hx80 qn51 hmqn51).2
  have hmqn51 : qn51 ∈ L79 := (hx80 qn51 hmqn51).1
  have hkqn51 : kp77 qn51 = 5 := (hvqn51.1).trans hkqn51
  have hvqn56 := (hx80 qn56 hmqn56).2
  have hmqn56 : qn56 ∈ L79 := (hx80 qn56 hmqn56).1
  have hkqn56 : kp77 qn56 = 10 := (hvqn56.1).trans hkqn56
  have hvqn61 := (hx80 qn61 hmqn61).2
  have hmqn61 : qn61 ∈ L79 := (hx80 qn61 hmqn61).1
  have hkqn61 : kp77 qn61 = 10 := (hvqn61.1).trans hkqn61
  have hvqn66 := (hx80 qn66 hmqn66).2
  have hmqn66 : qn66 ∈ L79 := (hx80 qn66 hmqn66).1
  have hkqn66 : kp77 qn66 = 6 := (hvqn66.1).trans hkqn66
  have hvqa71 := (hx80 qa71 hmqa71).2
  have hmqa71 : qa71 ∈ L79 := (hx80 qa71 hmqa71).1
  have hkqa71 : kp77 qa71 = 180 := (hvqa71.1).trans hkqa71
  have hft : tw_fv E78 qn1 1 = .int 0 := fv_ext hvqn1.2 hft
  have hfr : tw_fv E78 qn6 1 = .int 0 := fv_ext hvqn6.2 hfr
  have hsp : sp_ok E78 qn11 qn6 := sp_ok_ext hvqn11.2 hvqn6.2 hsp
  refine va_putF (D := D) (ci := 11) (v := .ref qa76) (ty := .array .int) (C := RX11) (T := TX11) (N := 19) hx hb hB cx_inX11 tyX11 tyX11_ok nmX11 hown hK hP hD hS 0 rfl rfl 16 (by decide) (hB _ cw_399) (fun _ h9 => h9) rfl hnm rfl (by decide +kernel) rfl rfl (Nat.le_of_ble_eq_true rfl) dX11_init_173 (fun H locs hP hD hS => ?_)
  have hP : va_P D vwCl ([(o, .inr (11, [.ref qn1, .ref qn6, .ref qn11, .ref qn16, .ref qn21, .ref qn26, .ref qn31, .ref qn36, .ref qn41, .ref qn46, .ref qn51, .ref qn56, .ref qn61, .ref qn66, .ref qa71, .int 0, .ref qa76, .int 0, .null]))] ++ va_pl L79 E78) H := hP
  have hD : va_D A ([(o, .inr (11, [.ref qn1, .ref qn6, .ref qn11, .ref qn16, .ref qn21, .ref qn26, .ref qn31, .ref qn36, .ref qn41, .ref qn46, .ref qn51, .ref qn56, .ref qn61, .ref qn66, .ref qa71, .int 0, .ref qa76, .int 0, .null]))] ++ va_pl L79 E78) := hD
  refine lv_aload_n hx hb dX11_init_176 rfl (lv_at hl 0 rfl) ?_
  refine lv_bipush (v := 40) hx hb dX11_init_177 (by decide) ?_
  refine cx_newa (cs := cs) (atype := .int) (ty := .int) (a0 := (40, .inl (fun _ => 0))) hx hb hB cw_59 rfl cx_ra_int 0 rfl hK hP hD hS hA (fun _ => rfl) (by decide) (by decide) (Nat.le_of_ble_eq_true rfl) (Nat.le_of_ble_eq_true rfl) (Nat.le_of_ble_eq_true rfl) dX11_init_179 (fun qa81 H hP hD hS => ?_)
  obtain ⟨kp82, E83, hP, hD, hT, hx85, hkqa81, heq, hnqa81⟩ := tw_abs (k := 182) hP hD hT (fun _ _ _ => ⟨by decide, rfl, rfl, (fun _ _ => (show ((-2147483648) : Int) ≤ ((0 : Int32)).toInt ∧ ((0 : Int32)).toInt ≤ 2147483647 from by decide))⟩)
  obtain ⟨L84, hL⟩ : ∃ z, z = L79 ++ [qa81] := ⟨_, rfl⟩
  have hmqa81 : qa81 ∈ L84 := by rw [hL]; simp
  rw [← hL] at hP hD hT hx85
  have hnqa81 : qa81 ∉ L0 := fun z => hnqa81 (hex _ z).1
  have hex : ∀ a : Nat, a ∈ L0 → a ∈ L84 ∧ kp82 a = kp0 a ∧ E83 a = E0 a := fun a h => ⟨(hx85 a (hex a h).1).1, ((hx85 a (hex a h).1).2.1).trans (hex a h).2.1, ((hx85 a (hex a h).1).2.2).trans (hex a h).2.2⟩
  have hvqn1 := (hx85 qn1 hmqn1).2
  have hmqn1 : qn1 ∈ L84 := (hx85 qn1 hmqn1).1
  have hkqn1 : kp82 qn1 = 9 := (hvqn1.1).trans hkqn1
  have hvqn6 := (hx85 qn6 hmqn6).2
  have hmqn6 : qn6 ∈ L84 := (hx85 qn6 hmqn6).1
  have hkqn6 : kp82 qn6 = 2 := (hvqn6.1).trans hkqn6
  have hvqn11 := (hx85 qn11 hmqn11).2
  have hmqn11 : qn11 ∈ L84 := (hx85 qn11 hmqn11).1
  have hkqn11 : kp82 qn11 = 2 := (hvqn11.1).trans hkqn11
  have hvqn16 := (hx85 qn16 hmqn16).2
  have hmqn16 : qn16 ∈ L84 := (hx85 qn16 hmqn16).1
  have hkqn16 : kp82 qn16 = 10 := (hvqn16.1).trans hkqn16
  have hvqn21 := (hx85 qn21 hmqn21).2
  have hmqn21 : qn21 ∈ L84 := (hx85 qn21 hmqn21).1
  have hkqn21 : kp82 qn21 = 10 := (hvqn21.1).trans hkqn21
  have hvqn26 := (hx85 qn26 hmqn26).2
  have hmqn26 : qn26 ∈ L84 := (hx85 qn26 hmqn26).1
  have hkqn26 : kp82 qn26 = 3 := (hvqn26.1).trans hkqn26
  have hvqn31 := (hx85 qn31 hmqn31).2
  have hmqn31 : qn31 ∈ L84 := (hx85 qn31 hmqn31).1
  have hkqn31 : kp82 qn31 = 4 := (hvqn31.1).trans hkqn31
  have hvqn36 := (hx85 qn36 hmqn36).2
  have hmqn36 : qn36 ∈ L84 := (hx85 qn36 hmqn36).1
  have hkqn36 : kp82 qn36 = 1 := (hvqn36.1).trans hkqn36
  have hvqn41 := (hx85 qn41 hmqn41).2
  have hmqn41 : qn41 ∈ L84 := (hx85 qn41 hmqn41).1
  have hkqn41 : kp82 qn41 = 0 := (hvqn41.1).trans hkqn41
  have hvqn46 := (hx85 qn46 hmqn46).2
  have hmqn46 : qn46 ∈ L84 := (hx85 qn46 hmqn46).1
  have hkqn46 : kp82 qn46 = 7 := (hvqn46.1).trans hkqn46
  have hvqn51 := (hx85 qn51 hmqn51).2
  have hmqn51 : qn51 ∈ L84 := (hx85 qn51 hmqn51).1
  have hkqn51 : kp82 qn51 = 5 := (hvqn51.1).trans hkqn51
  have hvqn56 := (hx85 qn56 hmqn56).2
  have hmqn56 : qn56 ∈ L84 := (hx85 qn56 hmqn56).1
  have hkqn56 : kp82 qn56 = 10 := (hvqn56.1).trans hkqn56
  have hvqn61 := (hx85 qn61 hmqn61).2
  have hmqn61 : qn61 ∈ L84 := (hx85 qn61 hmqn61).1
  have hkqn61 : kp82 qn61 = 10 := (hvqn61.1).trans hkqn61
  have hvqn66 := (hx85 qn66 hmqn66).2
  have hmqn66 : qn66 ∈ L84 := (hx85 qn66 hmqn66).1
  have hkqn66 : kp82 qn66 = 6 := (hvqn66.1).trans hkqn66
  have hvqa71 := (hx85 qa71 hmqa71).2
  have hmqa71 : qa71 ∈ L84 := (hx85 qa71 hmqa71).1
  have hkqa71 : kp82 qa71 = 180 := (hvqa71.1).trans hkqa71
  have hvqa76 := (hx85 qa76 hmqa76).2
  have hmqa76 : qa76 ∈ L84 := (hx85 qa76 hmqa76).1
  have hkqa76 : kp82 qa76 = 181 := (hvqa76.1).trans hkqa76
  have hft : tw_fv E83 qn1 1 = .int 0 := fv_ext hvqn1.2 hft
  have hfr : tw_fv E83 qn6 1 = .int 0 := fv_ext hvqn6.2 hfr
  have hsp : sp_ok E83 qn11 qn6 := sp_ok_ext hvqn11.2 hvqn6.2 hsp
  refine va_putF (D := D) (ci := 11) (v := .ref qa81) (ty := .array .int) (C := RX11) (T := TX11) (N := 19) hx hb hB cx_inX11 tyX11 tyX11_ok nmX11 hown hK hP hD hS 0 rfl rfl 18 (by decide) (hB _ cw_401) (fun _ h9 => h9) rfl hnm rfl (by decide +kernel) rfl rfl (Nat.le_of_ble_eq_true rfl) dX11_init_181 (fun H locs hP hD hS => ?_)
  have hP : va_P D vwCl ([(o, .inr (11, [.ref qn1, .ref qn6, .ref qn11, .ref qn16, .ref qn21, .ref qn26, .ref qn31, .ref qn36, .ref qn41, .ref qn46, .ref qn51, .ref qn56, .ref qn61, .ref qn66, .ref qa71, .int 0, .ref qa76, .int 0, .ref qa81]))] ++ va_pl L84 E83) H := hP
  have hD : va_D A ([(o, .inr (11, [.ref qn1, .ref qn6, .ref qn11, .ref qn16, .ref qn21, .ref qn26, .ref qn31, .ref qn36, .ref qn41, .ref qn46, .ref qn51, .ref qn56, .ref qn61, .ref qn66, .ref qa71, .int 0, .ref qa76, .int 0, .ref qa81]))] ++ va_pl L84 E83) := hD
  have hf : ∀ (j : Nat) (v : Value), [(.ref qn1 : Value), (.ref qn6 : Value), (.ref qn11 : Value), (.ref qn16 : Value), (.ref qn21 : Value), (.ref qn26 : Value), (.ref qn31 : Value), (.ref qn36 : Value), (.ref qn41 : Value), (.ref qn46 : Value), (.ref qn51 : Value), (.ref qn56 : Value), (.ref qn61 : Value), (.ref qn66 : Value), (.ref qa71 : Value), (.int 0 : Value), (.ref qa76 : Value), (.int 0 : Value), (.ref qa81 : Value)][j]? = some v → tw_V kp82 L84 (tw_FT 11 j) v := by
    intro j v hj
    match j, hj with
    | 0, hj => cases hj; exact ⟨qn1, rfl, hmqn1, hkqn1⟩
    | 1, hj => cases hj; exact ⟨qn6, rfl, hmqn6, hkqn6⟩
    | 2, hj => cases hj; exact ⟨qn11, rfl, hmqn11, hkqn11⟩
    | 3, hj => cases hj; exact ⟨qn16, rfl, hmqn16, hkqn16⟩
    | 4, hj => cases hj; exact ⟨qn21, rfl, hmqn21, hkqn21⟩
    | 5, hj => cases hj; exact ⟨qn26, rfl, hmqn26, hkqn26⟩
    | 6, hj => cases hj; exact ⟨qn31, rfl, hmqn31, hkqn31⟩
    | 7, hj => cases hj; exact ⟨qn36, rfl, hmqn36, hkqn36⟩
    | 8, hj => cases hj; exact ⟨qn41, rfl, hmqn41, hkqn41⟩
    | 9, hj => cases hj; exact ⟨qn46, rfl, hmqn46, hkqn46⟩
    | 10, hj => cases hj; exact ⟨qn51, rfl, hmqn51, hkqn51⟩
    | 11, hj => cases hj; exact ⟨qn56, rfl, hmqn56, hkqn56⟩
    | 12, hj => cases hj; exact ⟨qn61, rfl, hmqn61, hkqn61⟩
    | 13, hj => cases hj; exact ⟨qn66, rfl, hmqn66, hkqn66⟩
    | 14, hj => cases hj; exact ⟨qa71, rfl, hmqa71, hkqa71⟩
    | 15, hj => cases hj; exact ⟨0, rfl, (show (0 : Int) ≤ ((0 : Int32)).toInt from by decide), (show ((0 : Int32)).toInt ≤ (150 : Int) from by decide)⟩
    | 16, hj => cases hj; exact ⟨qa76, rfl, hmqa76, hkqa76⟩
    | 17, hj => cases hj; exact ⟨0, rfl, (show (0 : Int) ≤ ((0 : Int32)).toInt from by decide), (show ((0 : Int32)).toInt ≤ (450 : Int) from by decide)⟩
    | 18, hj => cases hj; exact ⟨qa81, rfl, hmqa81, hkqa81⟩
    | k + 19, hj => simp at hj
  have hnw : ∀ v ∈ [(.ref qn1 : Value), (.ref qn6 : Value), (.ref qn11 : Value), (.ref qn16 : Value), (.ref qn21 : Value), (.ref qn26 : Value), (.ref qn31 : Value), (.ref qn36 : Value), (.ref qn41 : Value), (.ref qn46 : Value), (.ref qn51 : Value), (.ref qn56 : Value), (.ref qn61 : Value), (.ref qn66 : Value), (.ref qa71 : Value), (.int 0 : Value), (.ref qa76 : Value), (.int 0 : Value), (.ref qa81 : Value)], match v with | .ref b => b ∉ L0 | .int x => x = 0 | _ => True := by
    intro v hv
    simp only [List.mem_cons, List.not_mem_nil, or_false] at hv
    rcases hv with rfl | rfl | rfl | rfl | rfl | rfl | rfl | rfl | rfl | rfl | rfl | rfl | rfl | rfl | rfl | rfl | rfl | rfl | rfl
    · exact hnqn1
    · exact hnqn6
    · exact hnqn11
    · exact hnqn16
    · exact hnqn21
    · exact hnqn26
    · exact hnqn31
    · exact hnqn36
    · exact hnqn41
    · exact hnqn46
    · exact hnqn51
    · exact hnqn56
    · exact hnqn61
    · exact hnqn66
    · exact hnqa71
    · exact rfl
    · exact hnqa76
    · exact rfl
    · exact hnqa81
  exact tw_Iret hx hb hr hlocks hP hD hT hS hex (by decide) rfl hf (fun hno E1 he1 hes => ⟨qn1, qn6, qn11, (by unfold tw_fv; rw [he1]; rfl), (by unfold tw_fv; rw [he1]; rfl), (by unfold tw_fv; rw [he1]; rfl), fv_ext (hes _ hmqn1) hft, fv_ext (hes _ hmqn6) hfr, sp_ok_ext (hes _ hmqn11) (hes _ hmqn6) hsp⟩) (Nat.le_of_ble_eq_true rfl) (Nat.le_of_ble_eq_true rfl) dX11_init_184
