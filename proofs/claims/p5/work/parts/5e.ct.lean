set_option maxHeartbeats 4000000 in
set_option maxRecDepth 100000 in
theorem tI_X11b (l : Launch) (D : va_G) (cs : Nat → ClassId) {kp : Nat → Nat} {L : List Nat} {E : Nat → va_E} (o : Nat) (sz : Nat) : Met l yX11_init (.code yX11_init cX11_init 1 none :: cx_big) { frames := 4, cells := 167, slots := 14766, locals := 72 } (tw_Pi D cs kp L E (o, .inr (11, [.null, .null, .null, .null, .null, .null, .null, .null, .null, .null, .null, .null, .null, .null, .null, .int 0, .null, .int 0, .null])) sz) (tw_Qi D cs kp L E o 11 (fun L1 E1 => ∃ t r1 r2 : Nat, tw_fv E1 o 0 = .ref t ∧ tw_fv E1 o 1 = .ref r1 ∧ tw_fv E1 o 2 = .ref r2 ∧ tw_fv E1 t 1 = .int 0 ∧ tw_fv E1 r1 1 = .int 0 ∧ sp_ok E1 r2 r1 ∧ ab_ok E1 r1 t ∧ ab_ok E1 r2 t) (va_A ([(o, .inr (11, [.null, .null, .null, .null, .null, .null, .null, .null, .null, .null, .null, .null, .null, .null, .null, .int 0, .null, .int 0, .null]))] ++ va_pl L E) sz)) 167 14766 (va_A ([(o, .inr (11, [.null, .null, .null, .null, .null, .null, .null, .null, .null, .null, .null, .null, .null, .null, .null, .int 0, .null, .int 0, .null]))] ++ va_pl L E) sz) := by
  refine tw_Iof (X := (o, .inr (11, [.null, .null, .null, .null, .null, .null, .null, .null, .null, .null, .null, .null, .null, .null, .null, .int 0, .null, .int 0, .null]))) (ci := 11) (by decide) (Nat.le_of_ble_eq_true rfl) ?_
  intro p e s m below meth c A ls hx hb hr hml hB hown hlocks hnm hK hN hA hP hD hT hS hl
  have hown : s.vm.findClass "TreeMerge" = some m.cls := hown
  have hnm : meth.name = "<init>" := hnm
  have hl : lv_has ls 1 [(0, .ref o)] := hl
  obtain ⟨L0, eL⟩ : ∃ z, z = L := ⟨_, rfl⟩
  obtain ⟨kp0, ekp⟩ : ∃ z, z = kp := ⟨_, rfl⟩
  obtain ⟨E0, eE⟩ : ∃ z, z = E := ⟨_, rfl⟩
  show W p l e { frames := 4, cells := 167, slots := 14766, locals := 72 } s m [.ref o].toArray below meth c s.heap [] 0 0 (MQ below (tw_Qi D cs kp L E o 11 (fun L1 E1 => ∃ t r1 r2 : Nat, tw_fv E1 o 0 = .ref t ∧ tw_fv E1 o 1 = .ref r1 ∧ tw_fv E1 o 2 = .ref r2 ∧ tw_fv E1 t 1 = .int 0 ∧ tw_fv E1 r1 1 = .int 0 ∧ sp_ok E1 r2 r1 ∧ ab_ok E1 r1 t ∧ ab_ok E1 r2 t) A) [.ref o].toArray s 167 14766 A) (F0 m 0 ls [])
  rw [show tw_Qi D cs kp L E o 11 (fun L1 E1 => ∃ t r1 r2 : Nat, tw_fv E1 o 0 = .ref t ∧ tw_fv E1 o 1 = .ref r1 ∧ tw_fv E1 o 2 = .ref r2 ∧ tw_fv E1 t 1 = .int 0 ∧ tw_fv E1 r1 1 = .int 0 ∧ sp_ok E1 r2 r1 ∧ ab_ok E1 r1 t ∧ ab_ok E1 r2 t) = tw_Qi D cs kp0 L0 E0 o 11 (fun L1 E1 => ∃ t r1 r2 : Nat, tw_fv E1 o 0 = .ref t ∧ tw_fv E1 o 1 = .ref r1 ∧ tw_fv E1 o 2 = .ref r2 ∧ tw_fv E1 t 1 = .int 0 ∧ tw_fv E1 r1 1 = .int 0 ∧ sp_ok E1 r2 r1 ∧ ab_ok E1 r1 t ∧ ab_ok E1 r2 t) by rw [ekp, eL, eE]]
  have hex : ∀ a : Nat, a ∈ L0 → a ∈ L ∧ kp a = kp0 a ∧ E a = E0 a := fun a h => ⟨by rw [← eL]; exact h, by rw [ekp], by rw [eE]⟩
  refine lv_aload_n hx hb dX11_init_0 rfl (lv_at hl 0 rfl) ?_
  refine W.objInit hx hb hown (hB _ cw_25) (hB _ cw_26) (hB _ cw_27) rfl (by rw [hml]; exact hl.1) rfl dX11_init_1 (Nat.le_of_ble_eq_true rfl) (Nat.le_of_ble_eq_true rfl) ?_
  refine W.eq (g2 := F0 m 4 ls []) rfl ?_
  refine lv_aload_n hx hb dX11_init_4 rfl (lv_at hl 0 rfl) ?_
  refine va_new (ci := 9) (fs := [.null, .int 0, .int 0, .int 0, .int 0]) (C := RX9) (T := TX9) (N := 5) hx hb hB cx_inX9 tyX9 tyX9_ok hown (hB _ cw_28) (hB _ cw_29) (hB _ cw_2) hK hP hD hS hA rfl cx_fsX9 (Nat.le_of_ble_eq_true rfl) (Nat.le_of_ble_eq_true rfl) dX11_init_5 (fun qn1 H hP hD hS => ?_)
  refine lv_dup hx hb dX11_init_8 rfl ?_
  have hTo := hT
  refine tw_ICN (Xs := [(o, .inr (11, [.null, .null, .null, .null, .null, .null, .null, .null, .null, .null, .null, .null, .null, .null, .null, .int 0, .null, .int 0, .null]))]) (o := qn1) (ci := 9) (fs := [.null, .int 0, .int 0, .int 0, .int 0]) (kp := kp) (rest := [.ref qn1, .ref o]) ⟨hx, hb, hml, hown, hB⟩ (fun sz => tI_X9 l D cs qn1 sz) cw_32 cw_2 (by decide +kernel) cw_31 rfl rfl rfl (by decide +kernel) ⟨Nat.le_of_ble_eq_true rfl, Nat.le_of_ble_eq_true rfl⟩ hK hN hP hD hT hS hA hl.1 rfl (Nat.le_of_ble_eq_true rfl) dX11_init_9 ⟨Nat.le_of_ble_eq_true rfl, Nat.le_of_ble_eq_true rfl⟩ (fun kp2 L3 E4 H locs hx5 hmqn1 hkqn1 hnqn1 hpqn1 hP hD hT hS => ?_)
  have hnnqn1 := hnqn1
  have hnqn1 : qn1 ∉ L0 := fun z => hnqn1 (hex _ z).1
  have hex : ∀ a : Nat, a ∈ L0 → a ∈ L3 ∧ kp2 a = kp0 a ∧ E4 a = E0 a := fun a h => ⟨(hx5 a (hex a h).1).1, ((hx5 a (hex a h).1).2.1).trans (hex a h).2.1, ((hx5 a (hex a h).1).2.2).trans (hex a h).2.2⟩
  have hft : tw_fv E4 qn1 1 = .int 0 := nw_zero hT hmqn1 hkqn1 (by decide) (by decide) rfl hpqn1
  refine va_putF (D := D) (ci := 11) (v := .ref qn1) (ty := .object "TreeMerge$Text") (C := RX11) (T := TX11) (N := 19) hx hb hB cx_inX11 tyX11 tyX11_ok nmX11 hown hK hP hD hS 0 rfl rfl 0 (by decide) (hB _ cw_383) (fun _ h9 => h9) rfl hnm rfl (by decide +kernel) rfl rfl (Nat.le_of_ble_eq_true rfl) dX11_init_12 (fun H locs hP hD hS => ?_)
  have hP : va_P D vwCl ([(o, .inr (11, [.ref qn1, .null, .null, .null, .null, .null, .null, .null, .null, .null, .null, .null, .null, .null, .null, .int 0, .null, .int 0, .null]))] ++ va_pl L3 E4) H := hP
  have hD : va_D A ([(o, .inr (11, [.ref qn1, .null, .null, .null, .null, .null, .null, .null, .null, .null, .null, .null, .null, .null, .null, .int 0, .null, .int 0, .null]))] ++ va_pl L3 E4) := hD
  refine lv_aload_n hx hb dX11_init_15 rfl (lv_at hl 0 rfl) ?_
  refine va_new (ci := 2) (fs := [.null, .int 0, .null, .null, .null, .null, .null, .int 0, .null, .null, .null, .null, .null]) (C := RX2) (T := TX2) (N := 13) hx hb hB cx_inX2 tyX2 tyX2_ok hown (hB _ cw_60) (hB _ cw_61) (hB _ cw_3) hK hP hD hS hA rfl cx_fsX2 (Nat.le_of_ble_eq_true rfl) (Nat.le_of_ble_eq_true rfl) dX11_init_16 (fun qn6 H hP hD hS => ?_)
  refine lv_dup hx hb dX11_init_19 rfl ?_
  have hTo := hT
  have hmoqn1 := hmqn1
  have hkoqn1 := hkqn1
  refine tw_ICN (Xs := [(o, .inr (11, [.ref qn1, .null, .null, .null, .null, .null, .null, .null, .null, .null, .null, .null, .null, .null, .null, .int 0, .null, .int 0, .null]))]) (o := qn6) (ci := 2) (fs := [.null, .int 0, .null, .null, .null, .null, .null, .int 0, .null, .null, .null, .null, .null]) (kp := kp2) (rest := [.ref qn6, .ref o]) ⟨hx, hb, hml, hown, hB⟩ (fun sz => tI_X2 l D cs qn6 sz) cw_64 cw_3 (by decide +kernel) cw_63 rfl rfl rfl (by decide +kernel) ⟨Nat.le_of_ble_eq_true rfl, Nat.le_of_ble_eq_true rfl⟩ hK hN hP hD hT hS hA hl.1 rfl (Nat.le_of_ble_eq_true rfl) dX11_init_20 ⟨Nat.le_of_ble_eq_true rfl, Nat.le_of_ble_eq_true rfl⟩ (fun kp7 L8 E9 H locs hx10 hmqn6 hkqn6 hnqn6 hpqn6 hP hD hT hS => ?_)
  have hnnqn6 := hnqn6
  have hnqn6 : qn6 ∉ L0 := fun z => hnqn6 (hex _ z).1
  have hex : ∀ a : Nat, a ∈ L0 → a ∈ L8 ∧ kp7 a = kp0 a ∧ E9 a = E0 a := fun a h => ⟨(hx10 a (hex a h).1).1, ((hx10 a (hex a h).1).2.1).trans (hex a h).2.1, ((hx10 a (hex a h).1).2.2).trans (hex a h).2.2⟩
  have hvqn1 := (hx10 qn1 hmqn1).2
  have hmqn1 : qn1 ∈ L8 := (hx10 qn1 hmqn1).1
  have hkqn1 : kp7 qn1 = 9 := (hvqn1.1).trans hkqn1
  have hft : tw_fv E9 qn1 1 = .int 0 := fv_ext hvqn1.2 hft
  have hfr : tw_fv E9 qn6 1 = .int 0 := nw_zero hT hmqn6 hkqn6 (by decide) (by decide) rfl hpqn6
  have hab1 : ab_ok E9 qn6 qn1 := ab_ok_new hTo hmoqn1 hkoqn1 hvqn1.2 hpqn6 hT hmqn6 hkqn6
  refine va_put (D := D) (ci := 11) (v := .ref qn6) (ty := .object "TreeMerge$Grammar") (C := RX11) (T := TX11) (N := 19) hx hb hB cx_inX11 tyX11 tyX11_ok nmX11 hown hK hP hD hS 0 rfl rfl 1 (by decide) (hB _ cw_384) (fun _ h9 => h9) rfl (by decide +kernel) rfl rfl (Nat.le_of_ble_eq_true rfl) dX11_init_23 (fun H locs hP hD hS => ?_)
  have hP : va_P D vwCl ([(o, .inr (11, [.ref qn1, .ref qn6, .null, .null, .null, .null, .null, .null, .null, .null, .null, .null, .null, .null, .null, .int 0, .null, .int 0, .null]))] ++ va_pl L8 E9) H := hP
  have hD : va_D A ([(o, .inr (11, [.ref qn1, .ref qn6, .null, .null, .null, .null, .null, .null, .null, .null, .null, .null, .null, .null, .null, .int 0, .null, .int 0, .null]))] ++ va_pl L8 E9) := hD
  refine lv_aload_n hx hb dX11_init_26 rfl (lv_at hl 0 rfl) ?_
  refine va_new (ci := 2) (fs := [.null, .int 0, .null, .null, .null, .null, .null, .int 0, .null, .null, .null, .null, .null]) (C := RX2) (T := TX2) (N := 13) hx hb hB cx_inX2 tyX2 tyX2_ok hown (hB _ cw_60) (hB _ cw_61) (hB _ cw_3) hK hP hD hS hA rfl cx_fsX2 (Nat.le_of_ble_eq_true rfl) (Nat.le_of_ble_eq_true rfl) dX11_init_27 (fun qn11 H hP hD hS => ?_)
  refine lv_dup hx hb dX11_init_30 rfl ?_
  have hTo := hT
  have hmoqn1 := hmqn1
  have hkoqn1 := hkqn1
  have hmoqn6 := hmqn6
  have hkoqn6 := hkqn6
  refine tw_ICN (Xs := [(o, .inr (11, [.ref qn1, .ref qn6, .null, .null, .null, .null, .null, .null, .null, .null, .null, .null, .null, .null, .null, .int 0, .null, .int 0, .null]))]) (o := qn11) (ci := 2) (fs := [.null, .int 0, .null, .null, .null, .null, .null, .int 0, .null, .null, .null, .null, .null]) (kp := kp7) (rest := [.ref qn11, .ref o]) ⟨hx, hb, hml, hown, hB⟩ (fun sz => tI_X2 l D cs qn11 sz) cw_64 cw_3 (by decide +kernel) cw_63 rfl rfl rfl (by decide +kernel) ⟨Nat.le_of_ble_eq_true rfl, Nat.le_of_ble_eq_true rfl⟩ hK hN hP hD hT hS hA hl.1 rfl (Nat.le_of_ble_eq_true rfl) dX11_init_31 ⟨Nat.le_of_ble_eq_true rfl, Nat.le_of_ble_eq_true rfl⟩ (fun kp12 L13 E14 H locs hx15 hmqn11 hkqn11 hnqn11 hpqn11 hP hD hT hS => ?_)
  have hnnqn11 := hnqn11
  have hnqn11 : qn11 ∉ L0 := fun z => hnqn11 (hex _ z).1
  have hex : ∀ a : Nat, a ∈ L0 → a ∈ L13 ∧ kp12 a = kp0 a ∧ E14 a = E0 a := fun a h => ⟨(hx15 a (hex a h).1).1, ((hx15 a (hex a h).1).2.1).trans (hex a h).2.1, ((hx15 a (hex a h).1).2.2).trans (hex a h).2.2⟩
  have hvqn1 := (hx15 qn1 hmqn1).2
  have hmqn1 : qn1 ∈ L13 := (hx15 qn1 hmqn1).1
  have hkqn1 : kp12 qn1 = 9 := (hvqn1.1).trans hkqn1
  have hvqn6 := (hx15 qn6 hmqn6).2
  have hmqn6 : qn6 ∈ L13 := (hx15 qn6 hmqn6).1
  have hkqn6 : kp12 qn6 = 2 := (hvqn6.1).trans hkqn6
  have hft : tw_fv E14 qn1 1 = .int 0 := fv_ext hvqn1.2 hft
  have hfr : tw_fv E14 qn6 1 = .int 0 := fv_ext hvqn6.2 hfr
  have hab1 : ab_ok E14 qn6 qn1 := ab_ok_ext hvqn6.2 hvqn1.2 hab1
  have hsp : sp_ok E14 qn11 qn6 := sp_ok_new hTo hmoqn6 hkoqn6 hvqn6.2 hpqn11 hnnqn11 hT hmqn11 hkqn11
  have hab2 : ab_ok E14 qn11 qn1 := ab_ok_new hTo hmoqn1 hkoqn1 hvqn1.2 hpqn11 hT hmqn11 hkqn11
  refine va_put (D := D) (ci := 11) (v := .ref qn11) (ty := .object "TreeMerge$Grammar") (C := RX11) (T := TX11) (N := 19) hx hb hB cx_inX11 tyX11 tyX11_ok nmX11 hown hK hP hD hS 0 rfl rfl 2 (by decide) (hB _ cw_385) (fun _ h9 => h9) rfl (by decide +kernel) rfl rfl (Nat.le_of_ble_eq_true rfl) dX11_init_34 (fun H locs hP hD hS => ?_)
  have hP : va_P D vwCl ([(o, .inr (11, [.ref qn1, .ref qn6, .ref qn11, .null, .null, .null, .null, .null, .null, .null, .null, .null, .null, .null, .null, .int 0, .null, .int 0, .null]))] ++ va_pl L13 E14) H := hP
  have hD : va_D A ([(o, .inr (11, [.ref qn1, .ref qn6, .ref qn11, .null, .null, .null, .null, .null, .null, .null, .null, .null, .null, .null, .null, .int 0, .null, .int 0, .null]))] ++ va_pl L13 E14) := hD
  refine lv_aload_n hx hb dX11_init_37 rfl (lv_at hl 0 rfl) ?_
  refine va_new (ci := 10) (fs := [.int 0, .null, .null, .null, .null, .null, .null, .null]) (C := RX10) (T := TX10) (N := 8) hx hb hB cx_inX10 tyX10 tyX10_ok hown (hB _ cw_110) (hB _ cw_111) (hB _ cw_4) hK hP hD hS hA rfl cx_fsX10 (Nat.le_of_ble_eq_true rfl) (Nat.le_of_ble_eq_true rfl) dX11_init_38 (fun qn16 H hP hD hS => ?_)
  refine lv_dup hx hb dX11_init_41 rfl ?_
  have hTo := hT
  have hmoqn1 := hmqn1
  have hkoqn1 := hkqn1
  have hmoqn6 := hmqn6
  have hkoqn6 := hkqn6
  have hmoqn11 := hmqn11
  have hkoqn11 := hkqn11
  refine tw_ICN (Xs := [(o, .inr (11, [.ref qn1, .ref qn6, .ref qn11, .null, .null, .null, .null, .null, .null, .null, .null, .null, .null, .null, .null, .int 0, .null, .int 0, .null]))]) (o := qn16) (ci := 10) (fs := [.int 0, .null, .null, .null, .null, .null, .null, .null]) (kp := kp12) (rest := [.ref qn16, .ref o]) ⟨hx, hb, hml, hown, hB⟩ (fun sz => tI_X10 l D cs qn16 sz) cw_114 cw_4 (by decide +kernel) cw_113 rfl rfl rfl (by decide +kernel) ⟨Nat.le_of_ble_eq_true rfl, Nat.le_of_ble_eq_true rfl⟩ hK hN hP hD hT hS hA hl.1 rfl (Nat.le_of_ble_eq_true rfl) dX11_init_42 ⟨Nat.le_of_ble_eq_true rfl, Nat.le_of_ble_eq_true rfl⟩ (fun kp17 L18 E19 H locs hx20 hmqn16 hkqn16 hnqn16 hpqn16 hP hD hT hS => ?_)
  have hnnqn16 := hnqn16
  have hnqn16 : qn16 ∉ L0 := fun z => hnqn16 (hex _ z).1
  have hex : ∀ a : Nat, a ∈ L0 → a ∈ L18 ∧ kp17 a = kp0 a ∧ E19 a = E0 a := fun a h => ⟨(hx20 a (hex a h).1).1, ((hx20 a (hex a h).1).2.1).trans (hex a h).2.1, ((hx20 a (hex a h).1).2.2).trans (hex a h).2.2⟩
  have hvqn1 := (hx20 qn1 hmqn1).2
  have hmqn1 : qn1 ∈ L18 := (hx20 qn1 hmqn1).1
  have hkqn1 : kp17 qn1 = 9 := (hvqn1.1).trans hkqn1
  have hvqn6 := (hx20 qn6 hmqn6).2
  have hmqn6 : qn6 ∈ L18 := (hx20 qn6 hmqn6).1
  have hkqn6 : kp17 qn6 = 2 := (hvqn6.1).trans hkqn6
  have hvqn11 := (hx20 qn11 hmqn11).2
  have hmqn11 : qn11 ∈ L18 := (hx20 qn11 hmqn11).1
  have hkqn11 : kp17 qn11 = 2 := (hvqn11.1).trans hkqn11
  have hft : tw_fv E19 qn1 1 = .int 0 := fv_ext hvqn1.2 hft
  have hfr : tw_fv E19 qn6 1 = .int 0 := fv_ext hvqn6.2 hfr
  have hab1 : ab_ok E19 qn6 qn1 := ab_ok_ext hvqn6.2 hvqn1.2 hab1
  have hsp : sp_ok E19 qn11 qn6 := sp_ok_ext hvqn11.2 hvqn6.2 hsp
  have hab2 : ab_ok E19 qn11 qn1 := ab_ok_ext hvqn11.2 hvqn1.2 hab2
  refine va_putF (D := D) (ci := 11) (v := .ref qn16) (ty := .object "TreeMerge$Tree") (C := RX11) (T := TX11) (N := 19) hx hb hB cx_inX11 tyX11 tyX11_ok nmX11 hown hK hP hD hS 0 rfl rfl 3 (by decide) (hB _ cw_386) (fun _ h9 => h9) rfl hnm rfl (by decide +kernel) rfl rfl (Nat.le_of_ble_eq_true rfl) dX11_init_45 (fun H locs hP hD hS => ?_)
  have hP : va_P D vwCl ([(o, .inr (11, [.ref qn1, .ref qn6, .ref qn11, .ref qn16, .null, .null, .null, .null, .null, .null, .null, .null, .null, .null, .null, .int 0, .null, .int 0, .null]))] ++ va_pl L18 E19) H := hP
  have hD : va_D A ([(o, .inr (11, [.ref qn1, .ref qn6, .ref qn11, .ref qn16, .null, .null, .null, .null, .null, .null, .null, .null, .null, .null, .null, .int 0, .null, .int 0, .null]))] ++ va_pl L18 E19) := hD
  refine lv_aload_n hx hb dX11_init_48 rfl (lv_at hl 0 rfl) ?_
  refine va_new (ci := 10) (fs := [.int 0, .null, .null, .null, .null, .null, .null, .null]) (C := RX10) (T := TX10) (N := 8) hx hb hB cx_inX10 tyX10 tyX10_ok hown (hB _ cw_110) (hB _ cw_111) (hB _ cw_4) hK hP hD hS hA rfl cx_fsX10 (Nat.le_of_ble_eq_true rfl) (Nat.le_of_ble_eq_true rfl) dX11_init_49 (fun qn21 H hP hD hS => ?_)
  refine lv_dup hx hb dX11_init_52 rfl ?_
  have hTo := hT
  have hmoqn1 := hmqn1
  have hkoqn1 := hkqn1
  have hmoqn6 := hmqn6
  have hkoqn6 := hkqn6
  have hmoqn11 := hmqn11
  have hkoqn11 := hkqn11
  have hmoqn16 := hmqn16
  have hkoqn16 := hkqn16
  refine tw_ICN (Xs := [(o, .inr (11, [.ref qn1, .ref qn6, .ref qn11, .ref qn16, .null, .null, .null, .null, .null, .null, .null, .null, .null, .null, .null, .int 0, .null, .int 0, .null]))]) (o := qn21) (ci := 10) (fs := [.int 0, .null, .null, .null, .null, .null, .null, .null]) (kp := kp17) (rest := [.ref qn21, .ref o]) ⟨hx, hb, hml, hown, hB⟩ (fun sz => tI_X10 l D cs qn21 sz) cw_114 cw_4 (by decide +kernel) cw_113 rfl rfl rfl (by decide +kernel) ⟨Nat.le_of_ble_eq_true rfl, Nat.le_of_ble_eq_true rfl⟩ hK hN hP hD hT hS hA hl.1 rfl (Nat.le_of_ble_eq_true rfl) dX11_init_53 ⟨Nat.le_of_ble_eq_true rfl, Nat.le_of_ble_eq_true rfl⟩ (fun kp22 L23 E24 H locs hx25 hmqn21 hkqn21 hnqn21 hpqn21 hP hD hT hS => ?_)
  have hnnqn21 := hnqn21
  have hnqn21 : qn21 ∉ L0 := fun z => hnqn21 (hex _ z).1
  have hex : ∀ a : Nat, a ∈ L0 → a ∈ L23 ∧ kp22 a = kp0 a ∧ E24 a = E0 a := fun a h => ⟨(hx25 a (hex a h).1).1, ((hx25 a (hex a h).1).2.1).trans (hex a h).2.1, ((hx25 a (hex a h).1).2.2).trans (hex a h).2.2⟩
  have hvqn1 := (hx25 qn1 hmqn1).2
  have hmqn1 : qn1 ∈ L23 := (hx25 qn1 hmqn1).1
  have hkqn1 : kp22 qn1 = 9 := (hvqn1.1).trans hkqn1
  have hvqn6 := (hx25 qn6 hmqn6).2
  have hmqn6 : qn6 ∈ L23 := (hx25 qn6 hmqn6).1
  have hkqn6 : kp22 qn6 = 2 := (hvqn6.1).trans hkqn6
  have hvqn11 := (hx25 qn11 hmqn11).2
  have hmqn11 : qn11 ∈ L23 := (hx25 qn11 hmqn11).1
  have hkqn11 : kp22 qn11 = 2 := (hvqn11.1).trans hkqn11
  have hvqn16 := (hx25 qn16 hmqn16).2
  have hmqn16 : qn16 ∈ L23 := (hx25 qn16 hmqn16).1
  have hkqn16 : kp22 qn16 = 10 := (hvqn16.1).trans hkqn16
  have hft : tw_fv E24 qn1 1 = .int 0 := fv_ext hvqn1.2 hft
  have hfr : tw_fv E24 qn6 1 = .int 0 := fv_ext hvqn6.2 hfr
  have hab1 : ab_ok E24 qn6 qn1 := ab_ok_ext hvqn6.2 hvqn1.2 hab1
  have hsp : sp_ok E24 qn11 qn6 := sp_ok_ext hvqn11.2 hvqn6.2 hsp
  have hab2 : ab_ok E24 qn11 qn1 := ab_ok_ext hvqn11.2 hvqn1.2 hab2
  refine va_putF (D := D) (ci := 11) (v := .ref qn21) (ty := .object "TreeMerge$Tree") (C := RX11) (T := TX11) (N := 19) hx hb hB cx_inX11 tyX11 tyX11_ok nmX11 hown hK hP hD hS 0 rfl rfl 4 (by decide) (hB _ cw_387) (fun _ h9 => h9) rfl hnm rfl (by decide +kernel) rfl rfl (Nat.le_of_ble_eq_true rfl) dX11_init_56 (fun H locs hP hD hS => ?_)
  have hP : va_P D vwCl ([(o, .inr (11, [.ref qn1, .ref qn6, .ref qn11, .ref qn16, .ref qn21, .null, .null, .null, .null, .null, .null, .null, .null, .null, .null, .int 0, .null, .int 0, .null]))] ++ va_pl L23 E24) H := hP
  have hD : va_D A ([(o, .inr (11, [.ref qn1, .ref qn6, .ref qn11, .ref qn16, .ref qn21, .null, .null, .null, .null, .null, .null, .null, .null, .null, .null, .int 0, .null, .int 0, .null]))] ++ va_pl L23 E24) := hD
  refine lv_aload_n hx hb dX11_init_59 rfl (lv_at hl 0 rfl) ?_
  refine va_new (ci := 3) (fs := [.int 0, .null, .null]) (C := RX3) (T := TX3) (N := 3) hx hb hB cx_inX3 tyX3 tyX3_ok hown (hB _ cw_171) (hB _ cw_172) (hB _ cw_5) hK hP hD hS hA rfl cx_fsX3 (Nat.le_of_ble_eq_true rfl) (Nat.le_of_ble_eq_true rfl) dX11_init_60 (fun qn26 H hP hD hS => ?_)
  refine lv_dup hx hb dX11_init_63 rfl ?_
  have hTo := hT
  have hmoqn1 := hmqn1
  have hkoqn1 := hkqn1
  have hmoqn6 := hmqn6
  have hkoqn6 := hkqn6
  have hmoqn11 := hmqn11
  have hkoqn11 := hkqn11
  have hmoqn16 := hmqn16
  have hkoqn16 := hkqn16
  have hmoqn21 := hmqn21
  have hkoqn21 := hkqn21
  refine tw_ICN (Xs := [(o, .inr (11, [.ref qn1, .ref qn6, .ref qn11, .ref qn16, .ref qn21, .null, .null, .null, .null, .null, .null, .null, .null, .null, .null, .int 0, .null, .int 0, .null]))]) (o := qn26) (ci := 3) (fs := [.int 0, .null, .null]) (kp := kp22) (rest := [.ref qn26, .ref o]) ⟨hx, hb, hml, hown, hB⟩ (fun sz => tI_X3 l D cs qn26 sz) cw_175 cw_5 (by decide +kernel) cw_174 rfl rfl rfl (by decide +kernel) ⟨Nat.le_of_ble_eq_true rfl, Nat.le_of_ble_eq_true rfl⟩ hK hN hP hD hT hS hA hl.1 rfl (Nat.le_of_ble_eq_true rfl) dX11_init_64 ⟨Nat.le_of_ble_eq_true rfl, Nat.le_of_ble_eq_true rfl⟩ (fun kp27 L28 E29 H locs hx30 hmqn26 hkqn26 hnqn26 hpqn26 hP hD hT hS => ?_)
  have hnnqn26 := hnqn26
  have hnqn26 : qn26 ∉ L0 := fun z => hnqn26 (hex _ z).1
  have hex : ∀ a : Nat, a ∈ L0 → a ∈ L28 ∧ kp27 a = kp0 a ∧ E29 a = E0 a := fun a h => ⟨(hx30 a (hex a h).1).1, ((hx30 a (hex a h).1).2.1).trans (hex a h).2.1, ((hx30 a (hex a h).1).2.2).trans (hex a h).2.2⟩
  have hvqn1 := (hx30 qn1 hmqn1).2
  have hmqn1 : qn1 ∈ L28 := (hx30 qn1 hmqn1).1
  have hkqn1 : kp27 qn1 = 9 := (hvqn1.1).trans hkqn1
  have hvqn6 := (hx30 qn6 hmqn6).2
  have hmqn6 : qn6 ∈ L28 := (hx30 qn6 hmqn6).1
  have hkqn6 : kp27 qn6 = 2 := (hvqn6.1).trans hkqn6
  have hvqn11 := (hx30 qn11 hmqn11).2
  have hmqn11 : qn11 ∈ L28 := (hx30 qn11 hmqn11).1
  have hkqn11 : kp27 qn11 = 2 := (hvqn11.1).trans hkqn11
  have hvqn16 := (hx30 qn16 hmqn16).2
  have hmqn16 : qn16 ∈ L28 := (hx30 qn16 hmqn16).1
  have hkqn16 : kp27 qn16 = 10 := (hvqn16.1).trans hkqn16
  have hvqn21 := (hx30 qn21 hmqn21).2
  have hmqn21 : qn21 ∈ L28 := (hx30 qn21 hmqn21).1
  have hkqn21 : kp27 qn21 = 10 := (hvqn21.1).trans hkqn21
  have hft : tw_fv E29 qn1 1 = .int 0 := fv_ext hvqn1.2 hft
  have hfr : tw_fv E29 qn6 1 = .int 0 := fv_ext hvqn6.2 hfr
  have hab1 : ab_ok E29 qn6 qn1 := ab_ok_ext hvqn6.2 hvqn1.2 hab1
  have hsp : sp_ok E29 qn11 qn6 := sp_ok_ext hvqn11.2 hvqn6.2 hsp
  have hab2 : ab_ok E29 qn11 qn1 := ab_ok_ext hvqn11.2 hvqn1.2 hab2
  refine va_putF (D := D) (ci := 11) (v := .ref qn26) (ty := .object "TreeMerge$Kids") (C := RX11) (T := TX11) (N := 19) hx hb hB cx_inX11 tyX11 tyX11_ok nmX11 hown hK hP hD hS 0 rfl rfl 5 (by decide) (hB _ cw_388) (fun _ h9 => h9) rfl hnm rfl (by decide +kernel) rfl rfl (Nat.le_of_ble_eq_true rfl) dX11_init_67 (fun H locs hP hD hS => ?_)
  have hP : va_P D vwCl ([(o, .inr (11, [.ref qn1, .ref qn6, .ref qn11, .ref qn16, .ref qn21, .ref qn26, .null, .null, .null, .null, .null, .null, .null, .null, .null, .int 0, .null, .int 0, .null]))] ++ va_pl L28 E29) H := hP
  have hD : va_D A ([(o, .inr (11, [.ref qn1, .ref qn6, .ref qn11, .ref qn16, .ref qn21, .ref qn26, .null, .null, .null, .null, .null, .null, .null, .null, .null, .int 0, .null, .int 0, .null]))] ++ va_pl L28 E29) := hD
  refine lv_aload_n hx hb dX11_init_70 rfl (lv_at hl 0 rfl) ?_
  refine va_new (ci := 4) (fs := [.null, .null, .null, .null, .null, .int 0, .int 0]) (C := RX4) (T := TX4) (N := 7) hx hb hB cx_inX4 tyX4 tyX4_ok hown (hB _ cw_189) (hB _ cw_190) (hB _ cw_6) hK hP hD hS hA rfl cx_fsX4 (Nat.le_of_ble_eq_true rfl) (Nat.le_of_ble_eq_true rfl) dX11_init_71 (fun qn31 H hP hD hS => ?_)
  refine lv_dup hx hb dX11_init_74 rfl ?_
  have hTo := hT
  have hmoqn1 := hmqn1
  have hkoqn1 := hkqn1
  have hmoqn6 := hmqn6
  have hkoqn6 := hkqn6
  have hmoqn11 := hmqn11
  have hkoqn11 := hkqn11
  have hmoqn16 := hmqn16
  have hkoqn16 := hkqn16
  have hmoqn21 := hmqn21
  have hkoqn21 := hkqn21
  have hmoqn26 := hmqn26
  have hkoqn26 := hkqn26
  refine tw_ICN (Xs := [(o, .inr (11, [.ref qn1, .ref qn6, .ref qn11, .ref qn16, .ref qn21, .ref qn26, .null, .null, .null, .null, .null, .null, .null, .null, .null, .int 0, .null, .int 0, .null]))]) (o := qn31) (ci := 4) (fs := [.null, .null, .null, .null, .null, .int 0, .int 0]) (kp := kp27) (rest := [.ref qn31, .ref o]) ⟨hx, hb, hml, hown, hB⟩ (fun sz => tI_X4 l D cs qn31 sz) cw_193 cw_6 (by decide +kernel) cw_192 rfl rfl rfl (by decide +kernel) ⟨Nat.le_of_ble_eq_true rfl, Nat.le_of_ble_eq_true rfl⟩ hK hN hP hD hT hS hA hl.1 rfl (Nat.le_of_ble_eq_true rfl) dX11_init_75 ⟨Nat.le_of_ble_eq_true rfl, Nat.le_of_ble_eq_true rfl⟩ (fun kp32 L33 E34 H locs hx35 hmqn31 hkqn31 hnqn31 hpqn31 hP hD hT hS => ?_)
  have hnnqn31 := hnqn31
  have hnqn31 : qn31 ∉ L0 := fun z => hnqn31 (hex _ z).1
  have hex : ∀ a : Nat, a ∈ L0 → a ∈ L33 ∧ kp32 a = kp0 a ∧ E34 a = E0 a := fun a h => ⟨(hx35 a (hex a h).1).1, ((hx35 a (hex a h).1).2.1).trans (hex a h).2.1, ((hx35 a (hex a h).1).2.2).trans (hex a h).2.2⟩
  have hvqn1 := (hx35 qn1 hmqn1).2
  have hmqn1 : qn1 ∈ L33 := (hx35 qn1 hmqn1).1
  have hkqn1 : kp32 qn1 = 9 := (hvqn1.1).trans hkqn1
  have hvqn6 := (hx35 qn6 hmqn6).2
  have hmqn6 : qn6 ∈ L33 := (hx35 qn6 hmqn6).1
  have hkqn6 : kp32 qn6 = 2 := (hvqn6.1).trans hkqn6
  have hvqn11 := (hx35 qn11 hmqn11).2
  have hmqn11 : qn11 ∈ L33 := (hx35 qn11 hmqn11).1
  have hkqn11 : kp32 qn11 = 2 := (hvqn11.1).trans hkqn11
  have hvqn16 := (hx35 qn16 hmqn16).2
  have hmqn16 : qn16 ∈ L33 := (hx35 qn16 hmqn16).1
  have hkqn16 : kp32 qn16 = 10 := (hvqn16.1).trans hkqn16
  have hvqn21 := (hx35 qn21 hmqn21).2
  have hmqn21 : qn21 ∈ L33 := (hx35 qn21 hmqn21).1
  have hkqn21 : kp32 qn21 = 10 := (hvqn21.1).trans hkqn21
  have hvqn26 := (hx35 qn26 hmqn26).2
  have hmqn26 : qn26 ∈ L33 := (hx35 qn26 hmqn26).1
  have hkqn26 : kp32 qn26 = 3 := (hvqn26.1).trans hkqn26
  have hft : tw_fv E34 qn1 1 = .int 0 := fv_ext hvqn1.2 hft
  have hfr : tw_fv E34 qn6 1 = .int 0 := fv_ext hvqn6.2 hfr
  have hab1 : ab_ok E34 qn6 qn1 := ab_ok_ext hvqn6.2 hvqn1.2 hab1
  have hsp : sp_ok E34 qn11 qn6 := sp_ok_ext hvqn11.2 hvqn6.2 hsp
  have hab2 : ab_ok E34 qn11 qn1 := ab_ok_ext hvqn11.2 hvqn1.2 hab2
  refine va_putF (D := D) (ci := 11) (v := .ref qn31) (ty := .object "TreeMerge$Matcher") (C := RX11) (T := TX11) (N := 19) hx hb hB cx_inX11 tyX11 tyX11_ok nmX11 hown hK hP hD hS 0 rfl rfl 6 (by decide) (hB _ cw_389) (fun _ h9 => h9) rfl hnm rfl (by decide +kernel) rfl rfl (Nat.le_of_ble_eq_true rfl) dX11_init_78 (fun H locs hP hD hS => ?_)
  have hP : va_P D vwCl ([(o, .inr (11, [.ref qn1, .ref qn6, .ref qn11, .ref qn16, .ref qn21, .ref qn26, .ref qn31, .null, .null, .null, .null, .null, .null, .null, .null, .int 0, .null, .int 0, .null]))] ++ va_pl L33 E34) H := hP
  have hD : va_D A ([(o, .inr (11, [.ref qn1, .ref qn6, .ref qn11, .ref qn16, .ref qn21, .ref qn26, .ref qn31, .null, .null, .null, .null, .null, .null, .null, .null, .int 0, .null, .int 0, .null]))] ++ va_pl L33 E34) := hD
  refine lv_aload_n hx hb dX11_init_81 rfl (lv_at hl 0 rfl) ?_
  refine va_new (ci := 1) (fs := [.int 0, .null, .null, .null, .null]) (C := RX1) (T := TX1) (N := 5) hx hb hB cx_inX1 tyX1 tyX1_ok hown (hB _ cw_221) (hB _ cw_222) (hB _ cw_7) hK hP hD hS hA rfl cx_fsX1 (Nat.le_of_ble_eq_true rfl) (Nat.le_of_ble_eq_true rfl) dX11_init_82 (fun qn36 H hP hD hS => ?_)
  refine lv_dup hx hb dX11_init_85 rfl ?_
  have hTo := hT
  have hmoqn1 := hmqn1
  have hkoqn1 := hkqn1
  have hmoqn6 := hmqn6
  have hkoqn6 := hkqn6
  have hmoqn11 := hmqn11
  have hkoqn11 := hkqn11
  have hmoqn16 := hmqn16
  have hkoqn16 := hkqn16
  have hmoqn21 := hmqn21
  have hkoqn21 := hkqn21
  have hmoqn26 := hmqn26
  have hkoqn26 := hkqn26
  have hmoqn31 := hmqn31
  have hkoqn31 := hkqn31
  refine tw_ICN (Xs := [(o, .inr (11, [.ref qn1, .ref qn6, .ref qn11, .ref qn16, .ref qn21, .ref qn26, .ref qn31, .null, .null, .null, .null, .null, .null, .null, .null, .int 0, .null, .int 0, .null]))]) (o := qn36) (ci := 1) (fs := [.int 0, .null, .null, .null, .null]) (kp := kp32) (rest := [.ref qn36, .ref o]) ⟨hx, hb, hml, hown, hB⟩ (fun sz => tI_X1 l D cs qn36 sz) cw_225 cw_7 (by decide +kernel) cw_224 rfl rfl rfl (by decide +kernel) ⟨Nat.le_of_ble_eq_true rfl, Nat.le_of_ble_eq_true rfl⟩ hK hN hP hD hT hS hA hl.1 rfl (Nat.le_of_ble_eq_true rfl) dX11_init_86 ⟨Nat.le_of_ble_eq_true rfl, Nat.le_of_ble_eq_true rfl⟩ (fun kp37 L38 E39 H locs hx40 hmqn36 hkqn36 hnqn36 hpqn36 hP hD hT hS => ?_)
  have hnnqn36 := hnqn36
  have hnqn36 : qn36 ∉ L0 := fun z => hnqn36 (hex _ z).1
  have hex : ∀ a : Nat, a ∈ L0 → a ∈ L38 ∧ kp37 a = kp0 a ∧ E39 a = E0 a := fun a h => ⟨(hx40 a (hex a h).1).1, ((hx40 a (hex a h).1).2.1).trans (hex a h).2.1, ((hx40 a (hex a h).1).2.2).trans (hex a h).2.2⟩
  have hvqn1 := (hx40 qn1 hmqn1).2
  have hmqn1 : qn1 ∈ L38 := (hx40 qn1 hmqn1).1
  have hkqn1 : kp37 qn1 = 9 := (hvqn1.1).trans hkqn1
  have hvqn6 := (hx40 qn6 hmqn6).2
  have hmqn6 : qn6 ∈ L38 := (hx40 qn6 hmqn6).1
  have hkqn6 : kp37 qn6 = 2 := (hvqn6.1).trans hkqn6
  have hvqn11 := (hx40 qn11 hmqn11).2
  have hmqn11 : qn11 ∈ L38 := (hx40 qn11 hmqn11).1
  have hkqn11 : kp37 qn11 = 2 := (hvqn11.1).trans hkqn11
  have hvqn16 := (hx40 qn16 hmqn16).2
  have hmqn16 : qn16 ∈ L38 := (hx40 qn16 hmqn16).1
  have hkqn16 : kp37 qn16 = 10 := (hvqn16.1).trans hkqn16
  have hvqn21 := (hx40 qn21 hmqn21).2
  have hmqn21 : qn21 ∈ L38 := (hx40 qn21 hmqn21).1
  have hkqn21 : kp37 qn21 = 10 := (hvqn21.1).trans hkqn21
  have hvqn26 := (hx40 qn26 hmqn26).2
  have hmqn26 : qn26 ∈ L38 := (hx40 qn26 hmqn26).1
  have hkqn26 : kp37 qn26 = 3 := (hvqn26.1).trans hkqn26
  have hvqn31 := (hx40 qn31 hmqn31).2
  have hmqn31 : qn31 ∈ L38 := (hx40 qn31 hmqn31).1
  have hkqn31 : kp37 qn31 = 4 := (hvqn31.1).trans hkqn31
  have hft : tw_fv E39 qn1 1 = .int 0 := fv_ext hvqn1.2 hft
  have hfr : tw_fv E39 qn6 1 = .int 0 := fv_ext hvqn6.2 hfr
  have hab1 : ab_ok E39 qn6 qn1 := ab_ok_ext hvqn6.2 hvqn1.2 hab1
  have hsp : sp_ok E39 qn11 qn6 := sp_ok_ext hvqn11.2 hvqn6.2 hsp
  have hab2 : ab_ok E39 qn11 qn1 := ab_ok_ext hvqn11.2 hvqn1.2 hab2
  refine va_putF (D := D) (ci := 11) (v := .ref qn36) (ty := .object "TreeMerge$Editions") (C := RX11) (T := TX11) (N := 19) hx hb hB cx_inX11 tyX11 tyX11_ok nmX11 hown hK hP hD hS 0 rfl rfl 7 (by decide) (hB _ cw_390) (fun _ h9 => h9) rfl hnm rfl (by decide +kernel) rfl rfl (Nat.le_of_ble_eq_true rfl) dX11_init_89 (fun H locs hP hD hS => ?_)
  have hP : va_P D vwCl ([(o, .inr (11, [.ref qn1, .ref qn6, .ref qn11, .ref qn16, .ref qn21, .ref qn26, .ref qn31, .ref qn36, .null, .null, .null, .null, .null, .null, .null, .int 0, .null, .int 0, .null]))] ++ va_pl L38 E39) H := hP
  have hD : va_D A ([(o, .inr (11, [.ref qn1, .ref qn6, .ref qn11, .ref qn16, .ref qn21, .ref qn26, .ref qn31, .ref qn36, .null, .null, .null, .null, .null, .null, .null, .int 0, .null, .int 0, .null]))] ++ va_pl L38 E39) := hD
  refine lv_aload_n hx hb dX11_init_92 rfl (lv_at hl 0 rfl) ?_
  refine va_new (ci := 0) (fs := [.int 0, .int 0, .null, .null]) (C := RX0) (T := TX0) (N := 4) hx hb hB cx_inX0 tyX0 tyX0_ok hown (hB _ cw_248) (hB _ cw_249) (hB _ cw_8) hK hP hD hS hA rfl cx_fsX0 (Nat.le_of_ble_eq_true rfl) (Nat.le_of_ble_eq_true rfl) dX11_init_93 (fun qn41 H hP hD hS => ?_)
  refine lv_dup hx hb dX11_init_96 rfl ?_
  have hTo := hT
  have hmoqn1 := hmqn1
  have hkoqn1 := hkqn1
  have hmoqn6 := hmqn6
  have hkoqn6 := hkqn6
  have hmoqn11 := hmqn11
  have hkoqn11 := hkqn11
  have hmoqn16 := hmqn16
  have hkoqn16 := hkqn16
  have hmoqn21 := hmqn21
  have hkoqn21 := hkqn21
  have hmoqn26 := hmqn26
  have hkoqn26 := hkqn26
  have hmoqn31 := hmqn31
  have hkoqn31 := hkqn31
  have hmoqn36 := hmqn36
  have hkoqn36 := hkqn36
  refine tw_ICN (Xs := [(o, .inr (11, [.ref qn1, .ref qn6, .ref qn11, .ref qn16, .ref qn21, .ref qn26, .ref qn31, .ref qn36, .null, .null, .null, .null, .null, .null, .null, .int 0, .null, .int 0, .null]))]) (o := qn41) (ci := 0) (fs := [.int 0, .int 0, .null, .null]) (kp := kp37) (rest := [.ref qn41, .ref o]) ⟨hx, hb, hml, hown, hB⟩ (fun sz => tI_X0 l D cs qn41 sz) cw_252 cw_8 (by decide +kernel) cw_251 rfl rfl rfl (by decide +kernel) ⟨Nat.le_of_ble_eq_true rfl, Nat.le_of_ble_eq_true rfl⟩ hK hN hP hD hT hS hA hl.1 rfl (Nat.le_of_ble_eq_true rfl) dX11_init_97 ⟨Nat.le_of_ble_eq_true rfl, Nat.le_of_ble_eq_true rfl⟩ (fun kp42 L43 E44 H locs hx45 hmqn41 hkqn41 hnqn41 hpqn41 hP hD hT hS => ?_)
  have hnnqn41 := hnqn41
  have hnqn41 : qn41 ∉ L0 := fun z => hnqn41 (hex _ z).1
  have hex : ∀ a : Nat, a ∈ L0 → a ∈ L43 ∧ kp42 a = kp0 a ∧ E44 a = E0 a := fun a h => ⟨(hx45 a (hex a h).1).1, ((hx45 a (hex a h).1).2.1).trans (hex a h).2.1, ((hx45 a (hex a h).1).2.2).trans (hex a h).2.2⟩
  have hvqn1 := (hx45 qn1 hmqn1).2
  have hmqn1 : qn1 ∈ L43 := (hx45 qn1 hmqn1).1
  have hkqn1 : kp42 qn1 = 9 := (hvqn1.1).trans hkqn1
  have hvqn6 := (hx45 qn6 hmqn6).2
  have hmqn6 : qn6 ∈ L43 := (hx45 qn6 hmqn6).1
  have hkqn6 : kp42 qn6 = 2 := (hvqn6.1).trans hkqn6
  have hvqn11 := (hx45 qn11 hmqn11).2
  have hmqn11 : qn11 ∈ L43 := (hx45 qn11 hmqn11).1
  have hkqn11 : kp42 qn11 = 2 := (hvqn11.1).trans hkqn11
  have hvqn16 := (hx45 qn16 hmqn16).2
  have hmqn16 : qn16 ∈ L43 := (hx45 qn16 hmqn16).1
  have hkqn16 : kp42 qn16 = 10 := (hvqn16.1).trans hkqn16
  have hvqn21 := (hx45 qn21 hmqn21).2
  have hmqn21 : qn21 ∈ L43 := (hx45 qn21 hmqn21).1
  have hkqn21 : kp42 qn21 = 10 := (hvqn21.1).trans hkqn21
  have hvqn26 := (hx45 qn26 hmqn26).2
  have hmqn26 : qn26 ∈ L43 := (hx45 qn26 hmqn26).1
  have hkqn26 : kp42 qn26 = 3 := (hvqn26.1).trans hkqn26
  have hvqn31 := (hx45 qn31 hmqn31).2
  have hmqn31 : qn31 ∈ L43 := (hx45 qn31 hmqn31).1
  have hkqn31 : kp42 qn31 = 4 := (hvqn31.1).trans hkqn31
  have hvqn36 := (hx45 qn36 hmqn36).2
  have hmqn36 : qn36 ∈ L43 := (hx45 qn36 hmqn36).1
  have hkqn36 : kp42 qn36 = 1 := (hvqn36.1).trans hkqn36
  have hft : tw_fv E44 qn1 1 = .int 0 := fv_ext hvqn1.2 hft
  have hfr : tw_fv E44 qn6 1 = .int 0 := fv_ext hvqn6.2 hfr
  have hab1 : ab_ok E44 qn6 qn1 := ab_ok_ext hvqn6.2 hvqn1.2 hab1
  have hsp : sp_ok E44 qn11 qn6 := sp_ok_ext hvqn11.2 hvqn6.2 hsp
  have hab2 : ab_ok E44 qn11 qn1 := ab_ok_ext hvqn11.2 hvqn1.2 hab2
  refine va_putF (D := D) (ci := 11) (v := .ref qn41) (ty := .object "TreeMerge$Draft") (C := RX11) (T := TX11) (N := 19) hx hb hB cx_inX11 tyX11 tyX11_ok nmX11 hown hK hP hD hS 0 rfl rfl 8 (by decide) (hB _ cw_391) (fun _ h9 => h9) rfl hnm rfl (by decide +kernel) rfl rfl (Nat.le_of_ble_eq_true rfl) dX11_init_100 (fun H locs hP hD hS => ?_)
  have hP : va_P D vwCl ([(o, .inr (11, [.ref qn1, .ref qn6, .ref qn11, .ref qn16, .ref qn21, .ref qn26, .ref qn31, .ref qn36, .ref qn41, .null, .null, .null, .null, .null, .null, .int 0, .null, .int 0, .null]))] ++ va_pl L43 E44) H := hP
  have hD : va_D A ([(o, .inr (11, [.ref qn1, .ref qn6, .ref qn11, .ref qn16, .ref qn21, .ref qn26, .ref qn31, .ref qn36, .ref qn41, .null, .null, .null, .null, .null, .null, .int 0, .null, .int 0, .null]))] ++ va_pl L43 E44) := hD
  refine lv_aload_n hx hb dX11_init_103 rfl (lv_at hl 0 rfl) ?_
  refine va_new (ci := 7) (fs := [.int 0, .null]) (C := RX7) (T := TX7) (N := 2) hx hb hB cx_inX7 tyX7 tyX7_ok hown (hB _ cw_271) (hB _ cw_272) (hB _ cw_9) hK hP hD hS hA rfl cx_fsX7 (Nat.le_of_ble_eq_true rfl) (Nat.le_of_ble_eq_true rfl) dX11_init_104 (fun qn46 H hP hD hS => ?_)
  refine lv_dup hx hb dX11_init_107 rfl ?_
  have hTo := hT
  have hmoqn1 := hmqn1
  have hkoqn1 := hkqn1
  have hmoqn6 := hmqn6
  have hkoqn6 := hkqn6
  have hmoqn11 := hmqn11
  have hkoqn11 := hkqn11
  have hmoqn16 := hmqn16
  have hkoqn16 := hkqn16
  have hmoqn21 := hmqn21
  have hkoqn21 := hkqn21
  have hmoqn26 := hmqn26
  have hkoqn26 := hkqn26
  have hmoqn31 := hmqn31
  have hkoqn31 := hkqn31
  have hmoqn36 := hmqn36
  have hkoqn36 := hkqn36
  have hmoqn41 := hmqn41
  have hkoqn41 := hkqn41
  refine tw_ICN (Xs := [(o, .inr (11, [.ref qn1, .ref qn6, .ref qn11, .ref qn16, .ref qn21, .ref qn26, .ref qn31, .ref qn36, .ref qn41, .null, .null, .null, .null, .null, .null, .int 0, .null, .int 0, .null]))]) (o := qn46) (ci := 7) (fs := [.int 0, .null]) (kp := kp42) (rest := [.ref qn46, .ref o]) ⟨hx, hb, hml, hown, hB⟩ (fun sz => tI_X7 l D cs qn46 sz) cw_275 cw_9 (by decide +kernel) cw_274 rfl rfl rfl (by decide +kernel) ⟨Nat.le_of_ble_eq_true rfl, Nat.le_of_ble_eq_true rfl⟩ hK hN hP hD hT hS hA hl.1 rfl (Nat.le_of_ble_eq_true rfl) dX11_init_108 ⟨Nat.le_of_ble_eq_true rfl, Nat.le_of_ble_eq_true rfl⟩ (fun kp47 L48 E49 H locs hx50 hmqn46 hkqn46 hnqn46 hpqn46 hP hD hT hS => ?_)
  have hnnqn46 := hnqn46
  have hnqn46 : qn46 ∉ L0 := fun z => hnqn46 (hex _ z).1
  have hex : ∀ a : Nat, a ∈ L0 → a ∈ L48 ∧ kp47 a = kp0 a ∧ E49 a = E0 a := fun a h => ⟨(hx50 a (hex a h).1).1, ((hx50 a (hex a h).1).2.1).trans (hex a h).2.1, ((hx50 a (hex a h).1).2.2).trans (hex a h).2.2⟩
  have hvqn1 := (hx50 qn1 hmqn1).2
  have hmqn1 : qn1 ∈ L48 := (hx50 qn1 hmqn1).1
  have hkqn1 : kp47 qn1 = 9 := (hvqn1.1).trans hkqn1
  have hvqn6 := (hx50 qn6 hmqn6).2
  have hmqn6 : qn6 ∈ L48 := (hx50 qn6 hmqn6).1
  have hkqn6 : kp47 qn6 = 2 := (hvqn6.1).trans hkqn6
  have hvqn11 := (hx50 qn11 hmqn11).2
  have hmqn11 : qn11 ∈ L48 := (hx50 qn11 hmqn11).1
  have hkqn11 : kp47 qn11 = 2 := (hvqn11.1).trans hkqn11
  have hvqn16 := (hx50 qn16 hmqn16).2
  have hmqn16 : qn16 ∈ L48 := (hx50 qn16 hmqn16).1
  have hkqn16 : kp47 qn16 = 10 := (hvqn16.1).trans hkqn16
  have hvqn21 := (hx50 qn21 hmqn21).2
  have hmqn21 : qn21 ∈ L48 := (hx50 qn21 hmqn21).1
  have hkqn21 : kp47 qn21 = 10 := (hvqn21.1).trans hkqn21
  have hvqn26 := (hx50 qn26 hmqn26).2
  have hmqn26 : qn26 ∈ L48 := (hx50 qn26 hmqn26).1
  have hkqn26 : kp47 qn26 = 3 := (hvqn26.1).trans hkqn26
  have hvqn31 := (hx50 qn31 hmqn31).2
  have hmqn31 : qn31 ∈ L48 := (hx50 qn31 hmqn31).1
  have hkqn31 : kp47 qn31 = 4 := (hvqn31.1).trans hkqn31
  have hvqn36 := (hx50 qn36 hmqn36).2
  have hmqn36 : qn36 ∈ L48 := (hx50 qn36 hmqn36).1
  have hkqn36 : kp47 qn36 = 1 := (hvqn36.1).trans hkqn36
  have hvqn41 := (hx50 qn41 hmqn41).2
  have hmqn41 : qn41 ∈ L48 := (hx50 qn41 hmqn41).1
  have hkqn41 : kp47 qn41 = 0 := (hvqn41.1).trans hkqn41
  have hft : tw_fv E49 qn1 1 = .int 0 := fv_ext hvqn1.2 hft
  have hfr : tw_fv E49 qn6 1 = .int 0 := fv_ext hvqn6.2 hfr
  have hab1 : ab_ok E49 qn6 qn1 := ab_ok_ext hvqn6.2 hvqn1.2 hab1
  have hsp : sp_ok E49 qn11 qn6 := sp_ok_ext hvqn11.2 hvqn6.2 hsp
  have hab2 : ab_ok E49 qn11 qn1 := ab_ok_ext hvqn11.2 hvqn1.2 hab2
  refine va_putF (D := D) (ci := 11) (v := .ref qn46) (ty := .object "TreeMerge$Settled") (C := RX11) (T := TX11) (N := 19) hx hb hB cx_inX11 tyX11 tyX11_ok nmX11 hown hK hP hD hS 0 rfl rfl 9 (by decide) (hB _ cw_392) (fun _ h9 => h9) rfl hnm rfl (by decide +kernel) rfl rfl (Nat.le_of_ble_eq_true rfl) dX11_init_111 (fun H locs hP hD hS => ?_)
  have hP : va_P D vwCl ([(o, .inr (11, [.ref qn1, .ref qn6, .ref qn11, .ref qn16, .ref qn21, .ref qn26, .ref qn31, .ref qn36, .ref qn41, .ref qn46, .null, .null, .null, .null, .null, .int 0, .null, .int 0, .null]))] ++ va_pl L48 E49) H := hP
  have hD : va_D A ([(o, .inr (11, [.ref qn1, .ref qn6, .ref qn11, .ref qn16, .ref qn21, .ref qn26, .ref qn31, .ref qn36, .ref qn41, .ref qn46, .null, .null, .null, .null, .null, .int 0, .null, .int 0, .null]))] ++ va_pl L48 E49) := hD
  refine lv_aload_n hx hb dX11_init_114 rfl (lv_at hl 0 rfl) ?_
  refine va_new (ci := 5) (fs := [.null, .null, .null, .null, .null, .null, .null, .null, .null, .null, .int 0, .null, .int 0, .null, .null]) (C := RX5) (T := TX5) (N := 15) hx hb hB cx_inX5 tyX5 tyX5_ok hown (hB _ cw_285) (hB _ cw_286) (hB _ cw_10) hK hP hD hS hA rfl cx_fsX5 (Nat.le_of_ble_eq_true rfl) (Nat.le_of_ble_eq_true rfl) dX11_init_115 (fun qn51 H hP hD hS => ?_)
  refine lv_dup hx hb dX11_init_118 rfl ?_
  have hTo := hT
  have hmoqn1 := hmqn1
  have hkoqn1 := hkqn1
  have hmoqn6 := hmqn6
  have hkoqn6 := hkqn6
  have hmoqn11 := hmqn11
  have hkoqn11 := hkqn11
  have hmoqn16 := hmqn16
  have hkoqn16 := hkqn16
  have hmoqn21 := hmqn21
  have hkoqn21 := hkqn21
  have hmoqn26 := hmqn26
  have hkoqn26 := hkqn26
  have hmoqn31 := hmqn31
  have hkoqn31 := hkqn31
  have hmoqn36 := hmqn36
  have hkoqn36 := hkqn36
  have hmoqn41 := hmqn41
  have hkoqn41 := hkqn41
  have hmoqn46 := hmqn46
  have hkoqn46 := hkqn46
  refine tw_ICN (Xs := [(o, .inr (11, [.ref qn1, .ref qn6, .ref qn11, .ref qn16, .ref qn21, .ref qn26, .ref qn31, .ref qn36, .ref qn41, .ref qn46, .null, .null, .null, .null, .null, .int 0, .null, .int 0, .null]))]) (o := qn51) (ci := 5) (fs := [.null, .null, .null, .null, .null, .null, .null, .null, .null, .null, .int 0, .null, .int 0, .null, .null]) (kp := kp47) (rest := [.ref qn51, .ref o]) ⟨hx, hb, hml, hown, hB⟩ (fun sz => tI_X5 l D cs qn51 sz) cw_289 cw_10 (by decide +kernel) cw_288 rfl rfl rfl (by decide +kernel) ⟨Nat.le_of_ble_eq_true rfl, Nat.le_of_ble_eq_true rfl⟩ hK hN hP hD hT hS hA hl.1 rfl (Nat.le_of_ble_eq_true rfl) dX11_init_119 ⟨Nat.le_of_ble_eq_true rfl, Nat.le_of_ble_eq_true rfl⟩ (fun kp52 L53 E54 H locs hx55 hmqn51 hkqn51 hnqn51 hpqn51 hP hD hT hS => ?_)
  have hnnqn51 := hnqn51
  have hnqn51 : qn51 ∉ L0 := fun z => hnqn51 (hex _ z).1
  have hex : ∀ a : Nat, a ∈ L0 → a ∈ L53 ∧ kp52 a = kp0 a ∧ E54 a = E0 a := fun a h => ⟨(hx55 a (hex a h).1).1, ((hx55 a (hex a h).1).2.1).trans (hex a h).2.1, ((hx55 a (hex a h).1).2.2).trans (hex a h).2.2⟩
  have hvqn1 := (hx55 qn1 hmqn1).2
  have hmqn1 : qn1 ∈ L53 := (hx55 qn1 hmqn1).1
  have hkqn1 : kp52 qn1 = 9 := (hvqn1.1).trans hkqn1
  have hvqn6 := (hx55 qn6 hmqn6).2
  have hmqn6 : qn6 ∈ L53 := (hx55 qn6 hmqn6).1
  have hkqn6 : kp52 qn6 = 2 := (hvqn6.1).trans hkqn6
  have hvqn11 := (hx55 qn11 hmqn11).2
  have hmqn11 : qn11 ∈ L53 := (hx55 qn11 hmqn11).1
  have hkqn11 : kp52 qn11 = 2 := (hvqn11.1).trans hkqn11
  have hvqn16 := (hx55 qn16 hmqn16).2
  have hmqn16 : qn16 ∈ L53 := (hx55 qn16 hmqn16).1
  have hkqn16 : kp52 qn16 = 10 := (hvqn16.1).trans hkqn16
  have hvqn21 := (hx55 qn21 hmqn21).2
  have hmqn21 : qn21 ∈ L53 := (hx55 qn21 hmqn21).1
  have hkqn21 : kp52 qn21 = 10 := (hvqn21.1).trans hkqn21
  have hvqn26 := (hx55 qn26 hmqn26).2
  have hmqn26 : qn26 ∈ L53 := (hx55 qn26 hmqn26).1
  have hkqn26 : kp52 qn26 = 3 := (hvqn26.1).trans hkqn26
  have hvqn31 := (hx55 qn31 hmqn31).2
  have hmqn31 : qn31 ∈ L53 := (hx55 qn31 hmqn31).1
  have hkqn31 : kp52 qn31 = 4 := (hvqn31.1).trans hkqn31
  have hvqn36 := (hx55 qn36 hmqn36).2
  have hmqn36 : qn36 ∈ L53 := (hx55 qn36 hmqn36).1
  have hkqn36 : kp52 qn36 = 1 := (hvqn36.1).trans hkqn36
  have hvqn41 := (hx55 qn41 hmqn41).2
  have hmqn41 : qn41 ∈ L53 := (hx55 qn41 hmqn41).1
  have hkqn41 : kp52 qn41 = 0 := (hvqn41.1).trans hkqn41
  have hvqn46 := (hx55 qn46 hmqn46).2
  have hmqn46 : qn46 ∈ L53 := (hx55 qn46 hmqn46).1
  have hkqn46 : kp52 qn46 = 7 := (hvqn46.1).trans hkqn46
  have hft : tw_fv E54 qn1 1 = .int 0 := fv_ext hvqn1.2 hft
  have hfr : tw_fv E54 qn6 1 = .int 0 := fv_ext hvqn6.2 hfr
  have hab1 : ab_ok E54 qn6 qn1 := ab_ok_ext hvqn6.2 hvqn1.2 hab1
  have hsp : sp_ok E54 qn11 qn6 := sp_ok_ext hvqn11.2 hvqn6.2 hsp
  have hab2 : ab_ok E54 qn11 qn1 := ab_ok_ext hvqn11.2 hvqn1.2 hab2
  refine va_putF (D := D) (ci := 11) (v := .ref qn51) (ty := .object "TreeMerge$Merging") (C := RX11) (T := TX11) (N := 19) hx hb hB cx_inX11 tyX11 tyX11_ok nmX11 hown hK hP hD hS 0 rfl rfl 10 (by decide) (hB _ cw_393) (fun _ h9 => h9) rfl hnm rfl (by decide +kernel) rfl rfl (Nat.le_of_ble_eq_true rfl) dX11_init_122 (fun H locs hP hD hS => ?_)
  have hP : va_P D vwCl ([(o, .inr (11, [.ref qn1, .ref qn6, .ref qn11, .ref qn16, .ref qn21, .ref qn26, .ref qn31, .ref qn36, .ref qn41, .ref qn46, .ref qn51, .null, .null, .null, .null, .int 0, .null, .int 0, .null]))] ++ va_pl L53 E54) H := hP
  have hD : va_D A ([(o, .inr (11, [.ref qn1, .ref qn6, .ref qn11, .ref qn16, .ref qn21, .ref qn26, .ref qn31, .ref qn36, .ref qn41, .ref qn46, .ref qn51, .null, .null, .null, .null, .int 0, .null, .int 0, .null]))] ++ va_pl L53 E54) := hD
  refine lv_aload_n hx hb dX11_init_125 rfl (lv_at hl 0 rfl) ?_
  refine va_new (ci := 10) (fs := [.int 0, .null, .null, .null, .null, .null, .null, .null]) (C := RX10) (T := TX10) (N := 8) hx hb hB cx_inX10 tyX10 tyX10_ok hown (hB _ cw_110) (hB _ cw_111) (hB _ cw_4) hK hP hD hS hA rfl cx_fsX10 (Nat.le_of_ble_eq_true rfl) (Nat.le_of_ble_eq_true rfl) dX11_init_126 (fun qn56 H hP hD hS => ?_)
  refine lv_dup hx hb dX11_init_129 rfl ?_
  have hTo := hT
  have hmoqn1 := hmqn1
  have hkoqn1 := hkqn1
  have hmoqn6 := hmqn6
  have hkoqn6 := hkqn6
  have hmoqn11 := hmqn11
  have hkoqn11 := hkqn11
  have hmoqn16 := hmqn16
  have hkoqn16 := hkqn16
  have hmoqn21 := hmqn21
  have hkoqn21 := hkqn21
  have hmoqn26 := hmqn26
  have hkoqn26 := hkqn26
  have hmoqn31 := hmqn31
  have hkoqn31 := hkqn31
  have hmoqn36 := hmqn36
  have hkoqn36 := hkqn36
  have hmoqn41 := hmqn41
  have hkoqn41 := hkqn41
  have hmoqn46 := hmqn46
  have hkoqn46 := hkqn46
  have hmoqn51 := hmqn51
  have hkoqn51 := hkqn51
  refine tw_ICN (Xs := [(o, .inr (11, [.ref qn1, .ref qn6, .ref qn11, .ref qn16, .ref qn21, .ref qn26, .ref qn31, .ref qn36, .ref qn41, .ref qn46, .ref qn51, .null, .null, .null, .null, .int 0, .null, .int 0, .null]))]) (o := qn56) (ci := 10) (fs := [.int 0, .null, .null, .null, .null, .null, .null, .null]) (kp := kp52) (rest := [.ref qn56, .ref o]) ⟨hx, hb, hml, hown, hB⟩ (fun sz => tI_X10 l D cs qn56 sz) cw_114 cw_4 (by decide +kernel) cw_113 rfl rfl rfl (by decide +kernel) ⟨Nat.le_of_ble_eq_true rfl, Nat.le_of_ble_eq_true rfl⟩ hK hN hP hD hT hS hA hl.1 rfl (Nat.le_of_ble_eq_true rfl) dX11_init_130 ⟨Nat.le_of_ble_eq_true rfl, Nat.le_of_ble_eq_true rfl⟩ (fun kp57 L58 E59 H locs hx60 hmqn56 hkqn56 hnqn56 hpqn56 hP hD hT hS => ?_)
  have hnnqn56 := hnqn56
  have hnqn56 : qn56 ∉ L0 := fun z => hnqn56 (hex _ z).1
  have hex : ∀ a : Nat, a ∈ L0 → a ∈ L58 ∧ kp57 a = kp0 a ∧ E59 a = E0 a := fun a h => ⟨(hx60 a (hex a h).1).1, ((hx60 a (hex a h).1).2.1).trans (hex a h).2.1, ((hx60 a (hex a h).1).2.2).trans (hex a h).2.2⟩
  have hvqn1 := (hx60 qn1 hmqn1).2
  have hmqn1 : qn1 ∈ L58 := (hx60 qn1 hmqn1).1
  have hkqn1 : kp57 qn1 = 9 := (hvqn1.1).trans hkqn1
  have hvqn6 := (hx60 qn6 hmqn6).2
  have hmqn6 : qn6 ∈ L58 := (hx60 qn6 hmqn6).1
  have hkqn6 : kp57 qn6 = 2 := (hvqn6.1).trans hkqn6
  have hvqn11 := (hx60 qn11 hmqn11).2
  have hmqn11 : qn11 ∈ L58 := (hx60 qn11 hmqn11).1
  have hkqn11 : kp57 qn11 = 2 := (hvqn11.1).trans hkqn11
  have hvqn16 := (hx60 qn16 hmqn16).2
  have hmqn16 : qn16 ∈ L58 := (hx60 qn16 hmqn16).1
  have hkqn16 : kp57 qn16 = 10 := (hvqn16.1).trans hkqn16
  have hvqn21 := (hx60 qn21 hmqn21).2
  have hmqn21 : qn21 ∈ L58 := (hx60 qn21 hmqn21).1
  have hkqn21 : kp57 qn21 = 10 := (hvqn21.1).trans hkqn21
  have hvqn26 := (hx60 qn26 hmqn26).2
  have hmqn26 : qn26 ∈ L58 := (hx60 qn26 hmqn26).1
  have hkqn26 : kp57 qn26 = 3 := (hvqn26.1).trans hkqn26
  have hvqn31 := (hx60 qn31 hmqn31).2
  have hmqn31 : qn31 ∈ L58 := (hx60 qn31 hmqn31).1
  have hkqn31 : kp57 qn31 = 4 := (hvqn31.1).trans hkqn31
  have hvqn36 := (hx60 qn36 hmqn36).2
  have hmqn36 : qn36 ∈ L58 := (hx60 qn36 hmqn36).1
  have hkqn36 : kp57 qn36 = 1 := (hvqn36.1).trans hkqn36
  have hvqn41 := (hx60 qn41 hmqn41).2
  have hmqn41 : qn41 ∈ L58 := (hx60 qn41 hmqn41).1
  have hkqn41 : kp57 qn41 = 0 := (hvqn41.1).trans hkqn41
  have hvqn46 := (hx60 qn46 hmqn46).2
  have hmqn46 : qn46 ∈ L58 := (hx60 qn46 hmqn46).1
  have hkqn46 : kp57 qn46 = 7 := (hvqn46.1).trans hkqn46
  have hvqn51 := (hx60 qn51 hmqn51).2
  have hmqn51 : qn51 ∈ L58 := (hx60 qn51 hmqn51).1
  have hkqn51 : kp57 qn51 = 5 := (hvqn51.1).trans hkqn51
  have hft : tw_fv E59 qn1 1 = .int 0 := fv_ext hvqn1.2 hft
  have hfr : tw_fv E59 qn6 1 = .int 0 := fv_ext hvqn6.2 hfr
  have hab1 : ab_ok E59 qn6 qn1 := ab_ok_ext hvqn6.2 hvqn1.2 hab1
  have hsp : sp_ok E59 qn11 qn6 := sp_ok_ext hvqn11.2 hvqn6.2 hsp
  have hab2 : ab_ok E59 qn11 qn1 := ab_ok_ext hvqn11.2 hvqn1.2 hab2
  refine va_putF (D := D) (ci := 11) (v := .ref qn56) (ty := .object "TreeMerge$Tree") (C := RX11) (T := TX11) (N := 19) hx hb hB cx_inX11 tyX11 tyX11_ok nmX11 hown hK hP hD hS 0 rfl rfl 11 (by decide) (hB _ cw_394) (fun _ h9 => h9) rfl hnm rfl (by decide +kernel) rfl rfl (Nat.le_of_ble_eq_true rfl) dX11_init_133 (fun H locs hP hD hS => ?_)
  have hP : va_P D vwCl ([(o, .inr (11, [.ref qn1, .ref qn6, .ref qn11, .ref qn16, .ref qn21, .ref qn26, .ref qn31, .ref qn36, .ref qn41, .ref qn46, .ref qn51, .ref qn56, .null, .null, .null, .int 0, .null, .int 0, .null]))] ++ va_pl L58 E59) H := hP
  have hD : va_D A ([(o, .inr (11, [.ref qn1, .ref qn6, .ref qn11, .ref qn16, .ref qn21, .ref qn26, .ref qn31, .ref qn36, .ref qn41, .ref qn46, .ref qn51, .ref qn56, .null, .null, .null, .int 0, .null, .int 0, .null]))] ++ va_pl L58 E59) := hD
  refine lv_aload_n hx hb dX11_init_136 rfl (lv_at hl 0 rfl) ?_
  refine va_new (ci := 10) (fs := [.int 0, .null, .null, .null, .null, .null, .null, .null]) (C := RX10) (T := TX10) (N := 8) hx hb hB cx_inX10 tyX10 tyX10_ok hown (hB _ cw_110) (hB _ cw_111) (hB _ cw_4) hK hP hD hS hA rfl cx_fsX10 (Nat.le_of_ble_eq_true rfl) (Nat.le_of_ble_eq_true rfl) dX11_init_137 (fun qn61 H hP hD hS => ?_)
  refine lv_dup hx hb dX11_init_140 rfl ?_
  have hTo := hT
  have hmoqn1 := hmqn1
  have hkoqn1 := hkqn1
  have hmoqn6 := hmqn6
  have hkoqn6 := hkqn6
  have hmoqn11 := hmqn11
  have hkoqn11 := hkqn11
  have hmoqn16 := hmqn16
  have hkoqn16 := hkqn16
  have hmoqn21 := hmqn21
  have hkoqn21 := hkqn21
  have hmoqn26 := hmqn26
  have hkoqn26 := hkqn26
  have hmoqn31 := hmqn31
  have hkoqn31 := hkqn31
  have hmoqn36 := hmqn36
  have hkoqn36 := hkqn36
  have hmoqn41 := hmqn41
  have hkoqn41 := hkqn41
  have hmoqn46 := hmqn46
  have hkoqn46 := hkqn46
  have hmoqn51 := hmqn51
  have hkoqn51 := hkqn51
  have hmoqn56 := hmqn56
  have hkoqn56 := hkqn56
  refine tw_ICN (Xs := [(o, .inr (11, [.ref qn1, .ref qn6, .ref qn11, .ref qn16, .ref qn21, .ref qn26, .ref qn31, .ref qn36, .ref qn41, .ref qn46, .ref qn51, .ref qn56, .null, .null, .null, .int 0, .null, .int 0, .null]))]) (o := qn61) (ci := 10) (fs := [.int 0, .null, .null, .null, .null, .null, .null, .null]) (kp := kp57) (rest := [.ref qn61, .ref o]) ⟨hx, hb, hml, hown, hB⟩ (fun sz => tI_X10 l D cs qn61 sz) cw_114 cw_4 (by decide +kernel) cw_113 rfl rfl rfl (by decide +kernel) ⟨Nat.le_of_ble_eq_true rfl, Nat.le_of_ble_eq_true rfl⟩ hK hN hP hD hT hS hA hl.1 rfl (Nat.le_of_ble_eq_true rfl) dX11_init_141 ⟨Nat.le_of_ble_eq_true rfl, Nat.le_of_ble_eq_true rfl⟩ (fun kp62 L63 E64 H locs hx65 hmqn61 hkqn61 hnqn61 hpqn61 hP hD hT hS => ?_)
  have hnnqn61 := hnqn61
  have hnqn61 : qn61 ∉ L0 := fun z => hnqn61 (hex _ z).1
  have hex : ∀ a : Nat, a ∈ L0 → a ∈ L63 ∧ kp62 a = kp0 a ∧ E64 a = E0 a := fun a h => ⟨(hx65 a (hex a h).1).1, ((hx65 a (hex a h).1).2.1).trans (hex a h).2.1, ((hx65 a (hex a h).1).2.2).trans (hex a h).2.2⟩
  have hvqn1 := (hx65 qn1 hmqn1).2
  have hmqn1 : qn1 ∈ L63 := (hx65 qn1 hmqn1).1
  have hkqn1 : kp62 qn1 = 9 := (hvqn1.1).trans hkqn1
  have hvqn6 := (hx65 qn6 hmqn6).2
  have hmqn6 : qn6 ∈ L63 := (hx65 qn6 hmqn6).1
  have hkqn6 : kp62 qn6 = 2 := (hvqn6.1).trans hkqn6
  have hvqn11 := (hx65 qn11 hmqn11).2
  have hmqn11 : qn11 ∈ L63 := (hx65 qn11 hmqn11).1
  have hkqn11 : kp62 qn11 = 2 := (hvqn11.1).trans hkqn11
  have hvqn16 := (hx65 qn16 hmqn16).2
  have hmqn16 : qn16 ∈ L63 := (hx65 qn16 hmqn16).1
  have hkqn16 : kp62 qn16 = 10 := (hvqn16.1).trans hkqn16
  have hvqn21 := (hx65 qn21 hmqn21).2
  have hmqn21 : qn21 ∈ L63 := (hx65 qn21 hmqn21).1
  have hkqn21 : kp62 qn21 = 10 := (hvqn21.1).trans hkqn21
  have hvqn26 := (hx65 qn26 hmqn26).2
  have hmqn26 : qn26 ∈ L63 := (hx65 qn26 hmqn26).1
  have hkqn26 : kp62 qn26 = 3 := (hvqn26.1).trans hkqn26
  have hvqn31 := (hx65 qn31 hmqn31).2
  have hmqn31 : qn31 ∈ L63 := (hx65 qn31 hmqn31).1
  have hkqn31 : kp62 qn31 = 4 := (hvqn31.1).trans hkqn31
  have hvqn36 := (hx65 qn36 hmqn36).2
  have hmqn36 : qn36 ∈ L63 := (hx65 qn36 hmqn36).1
  have hkqn36 : kp62 qn36 = 1 := (hvqn36.1).trans hkqn36
  have hvqn41 := (hx65 qn41 hmqn41).2
  have hmqn41 : qn41 ∈ L63 := (hx65 qn41 hmqn41).1
  have hkqn41 : kp62 qn41 = 0 := (hvqn41.1).trans hkqn41
  have hvqn46 := (hx65 qn46 hmqn46).2
  have hmqn46 : qn46 ∈ L63 := (hx65 qn46 hmqn46).1
  have hkqn46 : kp62 qn46 = 7 := (hvqn46.1).trans hkqn46
  have hvqn51 := (hx65 qn51 hmqn51).2
  have hmqn51 : qn51 ∈ L63 := (hx65 qn51 hmqn51).1
  have hkqn51 : kp62 qn51 = 5 := (hvqn51.1).trans hkqn51
  have hvqn56 := (hx65 qn56 hmqn56).2
  have hmqn56 : qn56 ∈ L63 := (hx65 qn56 hmqn56).1
  have hkqn56 : kp62 qn56 = 10 := (hvqn56.1).trans hkqn56
  have hft : tw_fv E64 qn1 1 = .int 0 := fv_ext hvqn1.2 hft
  have hfr : tw_fv E64 qn6 1 = .int 0 := fv_ext hvqn6.2 hfr
  have hab1 : ab_ok E64 qn6 qn1 := ab_ok_ext hvqn6.2 hvqn1.2 hab1
  have hsp : sp_ok E64 qn11 qn6 := sp_ok_ext hvqn11.2 hvqn6.2 hsp
  have hab2 : ab_ok E64 qn11 qn1 := ab_ok_ext hvqn11.2 hvqn1.2 hab2
  refine va_putF (D := D) (ci := 11) (v := .ref qn61) (ty := .object "TreeMerge$Tree") (C := RX11) (T := TX11) (N := 19) hx hb hB cx_inX11 tyX11 tyX11_ok nmX11 hown hK hP hD hS 0 rfl rfl 12 (by decide) (hB _ cw_395) (fun _ h9 => h9) rfl hnm rfl (by decide +kernel) rfl rfl (Nat.le_of_ble_eq_true rfl) dX11_init_144 (fun H locs hP hD hS => ?_)
  have hP : va_P D vwCl ([(o, .inr (11, [.ref qn1, .ref qn6, .ref qn11, .ref qn16, .ref qn21, .ref qn26, .ref qn31, .ref qn36, .ref qn41, .ref qn46, .ref qn51, .ref qn56, .ref qn61, .null, .null, .int 0, .null, .int 0, .null]))] ++ va_pl L63 E64) H := hP
  have hD : va_D A ([(o, .inr (11, [.ref qn1, .ref qn6, .ref qn11, .ref qn16, .ref qn21, .ref qn26, .ref qn31, .ref qn36, .ref qn41, .ref qn46, .ref qn51, .ref qn56, .ref qn61, .null, .null, .int 0, .null, .int 0, .null]))] ++ va_pl L63 E64) := hD
  refine lv_aload_n hx hb dX11_init_147 rfl (lv_at hl 0 rfl) ?_
  refine va_new (ci := 6) (fs := [.int 0, .int 0, .int 0]) (C := RX6) (T := TX6) (N := 3) hx hb hB cx_inX6 tyX6 tyX6_ok hown (hB _ cw_365) (hB _ cw_366) (hB _ cw_12) hK hP hD hS hA rfl cx_fsX6 (Nat.le_of_ble_eq_true rfl) (Nat.le_of_ble_eq_true rfl) dX11_init_148 (fun qn66 H hP hD hS => ?_)
  refine lv_dup hx hb dX11_init_151 rfl ?_
  have hTo := hT
  have hmoqn1 := hmqn1
  have hkoqn1 := hkqn1
  have hmoqn6 := hmqn6
  have hkoqn6 := hkqn6
  have hmoqn11 := hmqn11
  have hkoqn11 := hkqn11
  have hmoqn16 := hmqn16
  have hkoqn16 := hkqn16
  have hmoqn21 := hmqn21
  have hkoqn21 := hkqn21
  have hmoqn26 := hmqn26
  have hkoqn26 := hkqn26
  have hmoqn31 := hmqn31
  have hkoqn31 := hkqn31
  have hmoqn36 := hmqn36
  have hkoqn36 := hkqn36
  have hmoqn41 := hmqn41
  have hkoqn41 := hkqn41
  have hmoqn46 := hmqn46
  have hkoqn46 := hkqn46
  have hmoqn51 := hmqn51
  have hkoqn51 := hkqn51
  have hmoqn56 := hmqn56
  have hkoqn56 := hkqn56
  have hmoqn61 := hmqn61
  have hkoqn61 := hkqn61
  refine tw_ICN (Xs := [(o, .inr (11, [.ref qn1, .ref qn6, .ref qn11, .ref qn16, .ref qn21, .ref qn26, .ref qn31, .ref qn36, .ref qn41, .ref qn46, .ref qn51, .ref qn56, .ref qn61, .null, .null, .int 0, .null, .int 0, .null]))]) (o := qn66) (ci := 6) (fs := [.int 0, .int 0, .int 0]) (kp := kp62) (rest := [.ref qn66, .ref o]) ⟨hx, hb, hml, hown, hB⟩ (fun sz => tI_X6 l D cs qn66 sz) cw_369 cw_12 (by decide +kernel) cw_368 rfl rfl rfl (by decide +kernel) ⟨Nat.le_of_ble_eq_true rfl, Nat.le_of_ble_eq_true rfl⟩ hK hN hP hD hT hS hA hl.1 rfl (Nat.le_of_ble_eq_true rfl) dX11_init_152 ⟨Nat.le_of_ble_eq_true rfl, Nat.le_of_ble_eq_true rfl⟩ (fun kp67 L68 E69 H locs hx70 hmqn66 hkqn66 hnqn66 hpqn66 hP hD hT hS => ?_)
  have hnnqn66 := hnqn66
  have hnqn66 : qn66 ∉ L0 := fun z => hnqn66 (hex _ z).1
  have hex : ∀ a : Nat, a ∈ L0 → a ∈ L68 ∧ kp67 a = kp0 a ∧ E69 a = E0 a := fun a h => ⟨(hx70 a (hex a h).1).1, ((hx70 a (hex a h).1).2.1).trans (hex a h).2.1, ((hx70 a (hex a h).1).2.2).trans (hex a h).2.2⟩
  have hvqn1 := (hx70 qn1 hmqn1).2
  have hmqn1 : qn1 ∈ L68 := (hx70 qn1 hmqn1).1
  have hkqn1 : kp67 qn1 = 9 := (hvqn1.1).trans hkqn1
  have hvqn6 := (hx70 qn6 hmqn6).2
  have hmqn6 : qn6 ∈ L68 := (hx70 qn6 hmqn6).1
  have hkqn6 : kp67 qn6 = 2 := (hvqn6.1).trans hkqn6
  have hvqn11 := (hx70 qn11 hmqn11).2
  have hmqn11 : qn11 ∈ L68 := (hx70 qn11 hmqn11).1
  have hkqn11 : kp67 qn11 = 2 := (hvqn11.1).trans hkqn11
  have hvqn16 := (hx70 qn16 hmqn16).2
  have hmqn16 : qn16 ∈ L68 := (hx70 qn16 hmqn16).1
  have hkqn16 : kp67 qn16 = 10 := (hvqn16.1).trans hkqn16
  have hvqn21 := (hx70 qn21 hmqn21).2
  have hmqn21 : qn21 ∈ L68 := (hx70 qn21 hmqn21).1
  have hkqn21 : kp67 qn21 = 10 := (hvqn21.1).trans hkqn21
  have hvqn26 := (hx70 qn26 hmqn26).2
  have hmqn26 : qn26 ∈ L68 := (hx70 qn26 hmqn26).1
  have hkqn26 : kp67 qn26 = 3 := (hvqn26.1).trans hkqn26
  have hvqn31 := (hx70 qn31 hmqn31).2
  have hmqn31 : qn31 ∈ L68 := (hx70 qn31 hmqn31).1
  have hkqn31 : kp67 qn31 = 4 := (hvqn31.1).trans hkqn31
  have hvqn36 := (hx70 qn36 hmqn36).2
  have hmqn36 : qn36 ∈ L68 := (hx70 qn36 hmqn36).1
  have hkqn36 : kp67 qn36 = 1 := (hvqn36.1).trans hkqn36
  have hvqn41 := (hx70 qn41 hmqn41).2
  have hmqn41 : qn41 ∈ L68 := (hx70 qn41 hmqn41).1
  have hkqn41 : kp67 qn41 = 0 := (hvqn41.1).trans hkqn41
  have hvqn46 := (hx70 qn46 hmqn46).2
  have hmqn46 : qn46 ∈ L68 := (hx70 qn46 hmqn46).1
  have hkqn46 : kp67 qn46 = 7 := (hvqn46.1).trans hkqn46
  have hvqn51 := (hx70 qn51 hmqn51).2
  have hmqn51 : qn51 ∈ L68 := (hx70 qn51 hmqn51).1
  have hkqn51 : kp67 qn51 = 5 := (hvqn51.1).trans hkqn51
  have hvqn56 := (hx70 qn56 hmqn56).2
  have hmqn56 : qn56 ∈ L68 := (hx70 qn56 hmqn56).1
  have hkqn56 : kp67 qn56 = 10 := (hvqn56.1).trans hkqn56
  have hvqn61 := (hx70 qn61 hmqn61).2
  have hmqn61 : qn61 ∈ L68 := (hx70 qn61 hmqn61).1
  have hkqn61 : kp67 qn61 = 10 := (hvqn61.1).trans hkqn61
  have hft : tw_fv E69 qn1 1 = .int 0 := fv_ext hvqn1.2 hft
  have hfr : tw_fv E69 qn6 1 = .int 0 := fv_ext hvqn6.2 hfr
  have hab1 : ab_ok E69 qn6 qn1 := ab_ok_ext hvqn6.2 hvqn1.2 hab1
  have hsp : sp_ok E69 qn11 qn6 := sp_ok_ext hvqn11.2 hvqn6.2 hsp
  have hab2 : ab_ok E69 qn11 qn1 := ab_ok_ext hvqn11.2 hvqn1.2 hab2
  refine va_putF (D := D) (ci := 11) (v := .ref qn66) (ty := .object "TreeMerge$Printer") (C := RX11) (T := TX11) (N := 19) hx hb hB cx_inX11 tyX11 tyX11_ok nmX11 hown hK hP hD hS 0 rfl rfl 13 (by decide) (hB _ cw_396) (fun _ h9 => h9) rfl hnm rfl (by decide +kernel) rfl rfl (Nat.le_of_ble_eq_true rfl) dX11_init_155 (fun H locs hP hD hS => ?_)
  have hP : va_P D vwCl ([(o, .inr (11, [.ref qn1, .ref qn6, .ref qn11, .ref qn16, .ref qn21, .ref qn26, .ref qn31, .ref qn36, .ref qn41, .ref qn46, .ref qn51, .ref qn56, .ref qn61, .ref qn66, .null, .int 0, .null, .int 0, .null]))] ++ va_pl L68 E69) H := hP
  have hD : va_D A ([(o, .inr (11, [.ref qn1, .ref qn6, .ref qn11, .ref qn16, .ref qn21, .ref qn26, .ref qn31, .ref qn36, .ref qn41, .ref qn46, .ref qn51, .ref qn56, .ref qn61, .ref qn66, .null, .int 0, .null, .int 0, .null]))] ++ va_pl L68 E69) := hD
  refine lv_aload_n hx hb dX11_init_158 rfl (lv_at hl 0 rfl) ?_
  refine lv_sipush (v := 150) hx hb dX11_init_159 (by decide) ?_
  refine cx_newa (cs := cs) (atype := .int) (ty := .int) (a0 := (150, .inl (fun _ => 0))) hx hb hB cw_59 rfl cx_ra_int 0 rfl hK hP hD hS hA (fun _ => rfl) (by decide) (by decide) (Nat.le_of_ble_eq_true rfl) (Nat.le_of_ble_eq_true rfl) (Nat.le_of_ble_eq_true rfl) dX11_init_162 (fun qa71 H hP hD hS => ?_)
  obtain ⟨kp72, E73, hP, hD, hT, hx75, hkqa71, heq, hnqa71⟩ := tw_abs (k := 180) hP hD hT (fun _ _ _ => ⟨by decide, rfl, rfl, (fun _ _ => (show ((-2) : Int) ≤ ((0 : Int32)).toInt ∧ ((0 : Int32)).toInt ≤ 12 from by decide))⟩)
  obtain ⟨L74, hL⟩ : ∃ z, z = L68 ++ [qa71] := ⟨_, rfl⟩
  have hmqa71 : qa71 ∈ L74 := by rw [hL]; simp
  rw [← hL] at hP hD hT hx75
  have hnqa71 : qa71 ∉ L0 := fun z => hnqa71 (hex _ z).1
  have hex : ∀ a : Nat, a ∈ L0 → a ∈ L74 ∧ kp72 a = kp0 a ∧ E73 a = E0 a := fun a h => ⟨(hx75 a (hex a h).1).1, ((hx75 a (hex a h).1).2.1).trans (hex a h).2.1, ((hx75 a (hex a h).1).2.2).trans (hex a h).2.2⟩
  have hvqn1 := (hx75 qn1 hmqn1).2
  have hmqn1 : qn1 ∈ L74 := (hx75 qn1 hmqn1).1
  have hkqn1 : kp72 qn1 = 9 := (hvqn1.1).trans hkqn1
  have hvqn6 := (hx75 qn6 hmqn6).2
  have hmqn6 : qn6 ∈ L74 := (hx75 qn6 hmqn6).1
  have hkqn6 : kp72 qn6 = 2 := (hvqn6.1).trans hkqn6
  have hvqn11 := (hx75 qn11 hmqn11).2
  have hmqn11 : qn11 ∈ L74 := (hx75 qn11 hmqn11).1
  have hkqn11 : kp72 qn11 = 2 := (hvqn11.1).trans hkqn11
  have hvqn16 := (hx75 qn16 hmqn16).2
  have hmqn16 : qn16 ∈ L74 := (hx75 qn16 hmqn16).1
  have hkqn16 : kp72 qn16 = 10 := (hvqn16.1).trans hkqn16
  have hvqn21 := (hx75 qn21 hmqn21).2
  have hmqn21 : qn21 ∈ L74 := (hx75 qn21 hmqn21).1
  have hkqn21 : kp72 qn21 = 10 := (hvqn21.1).trans hkqn21
  have hvqn26 := (hx75 qn26 hmqn26).2
  have hmqn26 : qn26 ∈ L74 := (hx75 qn26 hmqn26).1
  have hkqn26 : kp72 qn26 = 3 := (hvqn26.1).trans hkqn26
  have hvqn31 := (hx75 qn31 hmqn31).2
  have hmqn31 : qn31 ∈ L74 := (hx75 qn31 hmqn31).1
  have hkqn31 : kp72 qn31 = 4 := (hvqn31.1).trans hkqn31
  have hvqn36 := (hx75 qn36 hmqn36).2
  have hmqn36 : qn36 ∈ L74 := (hx75 qn36 hmqn36).1
  have hkqn36 : kp72 qn36 = 1 := (hvqn36.1).trans hkqn36
  have hvqn41 := (hx75 qn41 hmqn41).2
  have hmqn41 : qn41 ∈ L74 := (hx75 qn41 hmqn41).1
  have hkqn41 : kp72 qn41 = 0 := (hvqn41.1).trans hkqn41
  have hvqn46 := (hx75 qn46 hmqn46).2
  have hmqn46 : qn46 ∈ L74 := (hx75 qn46 hmqn46).1
  have hkqn46 : kp72 qn46 = 7 := (hvqn46.1).trans hkqn46
  have hvqn51 := (hx75 qn51 hmqn51).2
  have hmqn51 : qn51 ∈ L74 := (hx75 qn51 hmqn51).1
  have hkqn51 : kp72 qn51 = 5 := (hvqn51.1).trans hkqn51
  have hvqn56 := (hx75 qn56 hmqn56).2
  have hmqn56 : qn56 ∈ L74 := (hx75 qn56 hmqn56).1
  have hkqn56 : kp72 qn56 = 10 := (hvqn56.1).trans hkqn56
  have hvqn61 := (hx75 qn61 hmqn61).2
  have hmqn61 : qn61 ∈ L74 := (hx75 qn61 hmqn61).1
  have hkqn61 : kp72 qn61 = 10 := (hvqn61.1).trans hkqn61
  have hvqn66 := (hx75 qn66 hmqn66).2
  have hmqn66 : qn66 ∈ L74 := (hx75 qn66 hmqn66).1
  have hkqn66 : kp72 qn66 = 6 := (hvqn66.1).trans hkqn66
  have hft : tw_fv E73 qn1 1 = .int 0 := fv_ext hvqn1.2 hft
  have hfr : tw_fv E73 qn6 1 = .int 0 := fv_ext hvqn6.2 hfr
  have hab1 : ab_ok E73 qn6 qn1 := ab_ok_ext hvqn6.2 hvqn1.2 hab1
  have hsp : sp_ok E73 qn11 qn6 := sp_ok_ext hvqn11.2 hvqn6.2 hsp
  have hab2 : ab_ok E73 qn11 qn1 := ab_ok_ext hvqn11.2 hvqn1.2 hab2
  refine va_putF (D := D) (ci := 11) (v := .ref qa71) (ty := .array .int) (C := RX11) (T := TX11) (N := 19) hx hb hB cx_inX11 tyX11 tyX11_ok nmX11 hown hK hP hD hS 0 rfl rfl 14 (by decide) (hB _ cw_397) (fun _ h9 => h9) rfl hnm rfl (by decide +kernel) rfl rfl (Nat.le_of_ble_eq_true rfl) dX11_init_164 (fun H locs hP hD hS => ?_)
  have hP : va_P D vwCl ([(o, .inr (11, [.ref qn1, .ref qn6, .ref qn11, .ref qn16, .ref qn21, .ref qn26, .ref qn31, .ref qn36, .ref qn41, .ref qn46, .ref qn51, .ref qn56, .ref qn61, .ref qn66, .ref qa71, .int 0, .null, .int 0, .null]))] ++ va_pl L74 E73) H := hP
  have hD : va_D A ([(o, .inr (11, [.ref qn1, .ref qn6, .ref qn11, .ref qn16, .ref qn21, .ref qn26, .ref qn31, .ref qn36, .ref qn41, .ref qn46, .ref qn51, .ref qn56, .ref qn61, .ref qn66, .ref qa71, .int 0, .null, .int 0, .null]))] ++ va_pl L74 E73) := hD
  refine lv_aload_n hx hb dX11_init_167 rfl (lv_at hl 0 rfl) ?_
  refine lv_sipush (v := 450) hx hb dX11_init_168 (by decide) ?_
  refine cx_newa (cs := cs) (atype := .int) (ty := .int) (a0 := (450, .inl (fun _ => 0))) hx hb hB cw_59 rfl cx_ra_int 0 rfl hK hP hD hS hA (fun _ => rfl) (by decide) (by decide) (Nat.le_of_ble_eq_true rfl) (Nat.le_of_ble_eq_true rfl) (Nat.le_of_ble_eq_true rfl) dX11_init_171 (fun qa76 H hP hD hS => ?_)
  obtain ⟨kp77, E78, hP, hD, hT, hx80, hkqa76, heq, hnqa76⟩ := tw_abs (k := 181) hP hD hT (fun _ _ _ => ⟨by decide, rfl, rfl, (fun _ _ => (show ((-2147483648) : Int) ≤ ((0 : Int32)).toInt ∧ ((0 : Int32)).toInt ≤ 2147483647 from by decide))⟩)
  obtain ⟨L79, hL⟩ : ∃ z, z = L74 ++ [qa76] := ⟨_, rfl⟩
  have hmqa76 : qa76 ∈ L79 := by rw [hL]; simp
  rw [← hL] at hP hD hT hx80
  have hnqa76 : qa76 ∉ L0 := fun z => hnqa76 (hex _ z).1
  have hex : ∀ a : Nat, a ∈ L0 → a ∈ L79 ∧ kp77 a = kp0 a ∧ E78 a = E0 a := fun a h => ⟨(hx80 a (hex a h).1).1, ((hx80 a (hex a h).1).2.1).trans (hex a h).2.1, ((hx80 a (hex a h).1).2.2).trans (hex a h).2.2⟩
  have hvqn1 := (hx80 qn1 hmqn1).2
  have hmqn1 : qn1 ∈ L79 := (hx80 qn1 hmqn1).1
  have hkqn1 : kp77 qn1 = 9 := (hvqn1.1).trans hkqn1
  have hvqn6 := (hx80 qn6 hmqn6).2
  have hmqn6 : qn6 ∈ L79 := (hx80 qn6 hmqn6).1
  have hkqn6 : kp77 qn6 = 2 := (hvqn6.1).trans hkqn6
  have hvqn11 := (hx80 qn11 hmqn11).2
  have hmqn11 : qn11 ∈ L79 := (hx80 qn11 hmqn11).1
  have hkqn11 : kp77 qn11 = 2 := (hvqn11.1).trans hkqn11
  have hvqn16 := (hx80 qn16 hmqn16).2
  have hmqn16 : qn16 ∈ L79 := (hx80 qn16 hmqn16).1
  have hkqn16 : kp77 qn16 = 10 := (hvqn16.1).trans hkqn16
  have hvqn21 := (hx80 qn21 hmqn21).2
  have hmqn21 : qn21 ∈ L79 := (hx80 qn21 hmqn21).1
  have hkqn21 : kp77 qn21 = 10 := (hvqn21.1).trans hkqn21
  have hvqn26 := (hx80 qn26 hmqn26).2
  have hmqn26 : qn26 ∈ L79 := (hx80 qn26 hmqn26).1
  have hkqn26 : kp77 qn26 = 3 := (hvqn26.1).trans hkqn26
  have hvqn31 := (hx80 qn31 hmqn31).2
  have hmqn31 : qn31 ∈ L79 := (hx80 qn31 hmqn31).1
  have hkqn31 : kp77 qn31 = 4 := (hvqn31.1).trans hkqn31
  have hvqn36 := (hx80 qn36 hmqn36).2
  have hmqn36 : qn36 ∈ L79 := (hx80 qn36 hmqn36).1
  have hkqn36 : kp77 qn36 = 1 := (hvqn36.1).trans hkqn36
  have hvqn41 := (hx80 qn41 hmqn41).2
  have hmqn41 : qn41 ∈ L79 := (hx80 qn41 hmqn41).1
  have hkqn41 : kp77 qn41 = 0 := (hvqn41.1).trans hkqn41
  have hvqn46 := (hx80 qn46 hmqn46).2
  have hmqn46 : qn46 ∈ L79 := (hx80 qn46 hmqn46).1
  have hkqn46 : kp77 qn46 = 7 := (hvqn46.1).trans hkqn46
  have hvqn51 := (hx80 qn51 hmqn51).2
  have hmqn51 : qn51 ∈ L79 := (hx80 qn51 hmqn51).1
  have hkqn51 : kp77 qn51 = 5 := (hvqn51.1).trans hkqn51
  have hvqn56 := (hx80 qn56 hmqn56).2
  have hmqn56 : qn56 ∈ L79 := (hx80 qn56 hmqn56).1
  have hkqn56 : kp77 qn56 = 10 := (hvqn56.1).trans hkqn56
  have hvqn61 := (hx80 qn61 hmqn61).2
  have hmqn61 : qn61 ∈ L79 := (hx80 qn61 hmqn61).1
  have hkqn61 : kp77 qn61 = 10 := (hvqn61.1).trans hkqn61
  have hvqn66 := (hx80 qn66 hmqn66).2
  have hmqn66 : qn66 ∈ L79 := (hx80 qn66 hmqn66).1
  have hkqn66 : kp77 qn66 = 6 := (hvqn66.1).trans hkqn66
  have hvqa71 := (hx80 qa71 hmqa71).2
  have hmqa71 : qa71 ∈ L79 := (hx80 qa71 hmqa71).1
  have hkqa71 : kp77 qa71 = 180 := (hvqa71.1).trans hkqa71
  have hft : tw_fv E78 qn1 1 = .int 0 := fv_ext hvqn1.2 hft
  have hfr : tw_fv E78 qn6 1 = .int 0 := fv_ext hvqn6.2 hfr
  have hab1 : ab_ok E78 qn6 qn1 := ab_ok_ext hvqn6.2 hvqn1.2 hab1
  have hsp : sp_ok E78 qn11 qn6 := sp_ok_ext hvqn11.2 hvqn6.2 hsp
  have hab2 : ab_ok E78 qn11 qn1 := ab_ok_ext hvqn11.2 hvqn1.2 hab2
  refine va_putF (D := D) (ci := 11) (v := .ref qa76) (ty := .array .int) (C := RX11) (T := TX11) (N := 19) hx hb hB cx_inX11 tyX11 tyX11_ok nmX11 hown hK hP hD hS 0 rfl rfl 16 (by decide) (hB _ cw_399) (fun _ h9 => h9) rfl hnm rfl (by decide +kernel) rfl rfl (Nat.le_of_ble_eq_true rfl) dX11_init_173 (fun H locs hP hD hS => ?_)
  have hP : va_P D vwCl ([(o, .inr (11, [.ref qn1, .ref qn6, .ref qn11, .ref qn16, .ref qn21, .ref qn26, .ref qn31, .ref qn36, .ref qn41, .ref qn46, .ref qn51, .ref qn56, .ref qn61, .ref qn66, .ref qa71, .int 0, .ref qa76, .int 0, .null]))] ++ va_pl L79 E78) H := hP
  have hD : va_D A ([(o, .inr (11, [.ref qn1, .ref qn6, .ref qn11, .ref qn16, .ref qn21, .ref qn26, .ref qn31, .ref qn36, .ref qn41, .ref qn46, .ref qn51, .ref qn56, .ref qn61, .ref qn66, .ref qa71, .int 0, .ref qa76, .int 0, .null]))] ++ va_pl L79 E78) := hD
  refine lv_aload_n hx hb dX11_init_176 rfl (lv_at hl 0 rfl) ?_
  refine lv_bipush (v := 40) hx hb dX11_init_177 (by decide) ?_
  refine cx_newa (cs := cs) (atype := .int) (ty := .int) (a0 := (40, .inl (fun _ => 0))) hx hb hB cw_59 rfl cx_ra_int 0 rfl hK hP hD hS hA (fun _ => rfl) (by decide) (by decide) (Nat.le_of_ble_eq_true rfl) (Nat.le_of_ble_eq_true rfl) (Nat.le_of_ble_eq_true rfl) dX11_init_179 (fun qa81 H hP hD hS => ?_)
  obtain ⟨kp82, E83, hP, hD, hT, hx85, hkqa81, heq, hnqa81⟩ := tw_abs (k := 182) hP hD hT (fun _ _ _ => ⟨by decide, rfl, rfl, (fun _ _ => (show ((-2147483648) : Int) ≤ ((0 : Int32)).toInt ∧ ((0 : Int32)).toInt ≤ 2147483647 from by decide))⟩)
  obtain ⟨L84, hL⟩ : ∃ z, z = L79 ++ [qa81] := ⟨_, rfl⟩
  have hmqa81 : qa81 ∈ L84 := by rw [hL]; simp
  rw [← hL] at hP hD hT hx85
  have hnqa81 : qa81 ∉ L0 := fun z => hnqa81 (hex _ z).1
  have hex : ∀ a : Nat, a ∈ L0 → a ∈ L84 ∧ kp82 a = kp0 a ∧ E83 a = E0 a := fun a h => ⟨(hx85 a (hex a h).1).1, ((hx85 a (hex a h).1).2.1).trans (hex a h).2.1, ((hx85 a (hex a h).1).2.2).trans (hex a h).2.2⟩
  have hvqn1 := (hx85 qn1 hmqn1).2
  have hmqn1 : qn1 ∈ L84 := (hx85 qn1 hmqn1).1
  have hkqn1 : kp82 qn1 = 9 := (hvqn1.1).trans hkqn1
  have hvqn6 := (hx85 qn6 hmqn6).2
  have hmqn6 : qn6 ∈ L84 := (hx85 qn6 hmqn6).1
  have hkqn6 : kp82 qn6 = 2 := (hvqn6.1).trans hkqn6
  have hvqn11 := (hx85 qn11 hmqn11).2
  have hmqn11 : qn11 ∈ L84 := (hx85 qn11 hmqn11).1
  have hkqn11 : kp82 qn11 = 2 := (hvqn11.1).trans hkqn11
  have hvqn16 := (hx85 qn16 hmqn16).2
  have hmqn16 : qn16 ∈ L84 := (hx85 qn16 hmqn16).1
  have hkqn16 : kp82 qn16 = 10 := (hvqn16.1).trans hkqn16
  have hvqn21 := (hx85 qn21 hmqn21).2
  have hmqn21 : qn21 ∈ L84 := (hx85 qn21 hmqn21).1
  have hkqn21 : kp82 qn21 = 10 := (hvqn21.1).trans hkqn21
  have hvqn26 := (hx85 qn26 hmqn26).2
  have hmqn26 : qn26 ∈ L84 := (hx85 qn26 hmqn26).1
  have hkqn26 : kp82 qn26 = 3 := (hvqn26.1).trans hkqn26
  have hvqn31 := (hx85 qn31 hmqn31).2
  have hmqn31 : qn31 ∈ L84 := (hx85 qn31 hmqn31).1
  have hkqn31 : kp82 qn31 = 4 := (hvqn31.1).trans hkqn31
  have hvqn36 := (hx85 qn36 hmqn36).2
  have hmqn36 : qn36 ∈ L84 := (hx85 qn36 hmqn36).1
  have hkqn36 : kp82 qn36 = 1 := (hvqn36.1).trans hkqn36
  have hvqn41 := (hx85 qn41 hmqn41).2
  have hmqn41 : qn41 ∈ L84 := (hx85 qn41 hmqn41).1
  have hkqn41 : kp82 qn41 = 0 := (hvqn41.1).trans hkqn41
  have hvqn46 := (hx85 qn46 hmqn46).2
  have hmqn46 : qn46 ∈ L84 := (hx85 qn46 hmqn46).1
  have hkqn46 : kp82 qn46 = 7 := (hvqn46.1).trans hkqn46
  have hvqn51 := (hx85 qn51 hmqn51).2
  have hmqn51 : qn51 ∈ L84 := (hx85 qn51 hmqn51).1
  have hkqn51 : kp82 qn51 = 5 := (hvqn51.1).trans hkqn51
  have hvqn56 := (hx85 qn56 hmqn56).2
  have hmqn56 : qn56 ∈ L84 := (hx85 qn56 hmqn56).1
  have hkqn56 : kp82 qn56 = 10 := (hvqn56.1).trans hkqn56
  have hvqn61 := (hx85 qn61 hmqn61).2
  have hmqn61 : qn61 ∈ L84 := (hx85 qn61 hmqn61).1
  have hkqn61 : kp82 qn61 = 10 := (hvqn61.1).trans hkqn61
  have hvqn66 := (hx85 qn66 hmqn66).2
  have hmqn66 : qn66 ∈ L84 := (hx85 qn66 hmqn66).1
  have hkqn66 : kp82 qn66 = 6 := (hvqn66.1).trans hkqn66
  have hvqa71 := (hx85 qa71 hmqa71).2
  have hmqa71 : qa71 ∈ L84 := (hx85 qa71 hmqa71).1
  have hkqa71 : kp82 qa71 = 180 := (hvqa71.1).trans hkqa71
  have hvqa76 := (hx85 qa76 hmqa76).2
  have hmqa76 : qa76 ∈ L84 := (hx85 qa76 hmqa76).1
  have hkqa76 : kp82 qa76 = 181 := (hvqa76.1).trans hkqa76
  have hft : tw_fv E83 qn1 1 = .int 0 := fv_ext hvqn1.2 hft
  have hfr : tw_fv E83 qn6 1 = .int 0 := fv_ext hvqn6.2 hfr
  have hab1 : ab_ok E83 qn6 qn1 := ab_ok_ext hvqn6.2 hvqn1.2 hab1
  have hsp : sp_ok E83 qn11 qn6 := sp_ok_ext hvqn11.2 hvqn6.2 hsp
  have hab2 : ab_ok E83 qn11 qn1 := ab_ok_ext hvqn11.2 hvqn1.2 hab2
  refine va_putF (D := D) (ci := 11) (v := .ref qa81) (ty := .array .int) (C := RX11) (T := TX11) (N := 19) hx hb hB cx_inX11 tyX11 tyX11_ok nmX11 hown hK hP hD hS 0 rfl rfl 18 (by decide) (hB _ cw_401) (fun _ h9 => h9) rfl hnm rfl (by decide +kernel) rfl rfl (Nat.le_of_ble_eq_true rfl) dX11_init_181 (fun H locs hP hD hS => ?_)
  have hP : va_P D vwCl ([(o, .inr (11, [.ref qn1, .ref qn6, .ref qn11, .ref qn16, .ref qn21, .ref qn26, .ref qn31, .ref qn36, .ref qn41, .ref qn46, .ref qn51, .ref qn56, .ref qn61, .ref qn66, .ref qa71, .int 0, .ref qa76, .int 0, .ref qa81]))] ++ va_pl L84 E83) H := hP
  have hD : va_D A ([(o, .inr (11, [.ref qn1, .ref qn6, .ref qn11, .ref qn16, .ref qn21, .ref qn26, .ref qn31, .ref qn36, .ref qn41, .ref qn46, .ref qn51, .ref qn56, .ref qn61, .ref qn66, .ref qa71, .int 0, .ref qa76, .int 0, .ref qa81]))] ++ va_pl L84 E83) := hD
  have hf : ∀ (j : Nat) (v : Value), [(.ref qn1 : Value), (.ref qn6 : Value), (.ref qn11 : Value), (.ref qn16 : Value), (.ref qn21 : Value), (.ref qn26 : Value), (.ref qn31 : Value), (.ref qn36 : Value), (.ref qn41 : Value), (.ref qn46 : Value), (.ref qn51 : Value), (.ref qn56 : Value), (.ref qn61 : Value), (.ref qn66 : Value), (.ref qa71 : Value), (.int 0 : Value), (.ref qa76 : Value), (.int 0 : Value), (.ref qa81 : Value)][j]? = some v → tw_V kp82 L84 (tw_FT 11 j) v := by
    intro j v hj
    match j, hj with
    | 0, hj => cases hj; exact ⟨qn1, rfl, hmqn1, hkqn1⟩
    | 1, hj => cases hj; exact ⟨qn6, rfl, hmqn6, hkqn6⟩
    | 2, hj => cases hj; exact ⟨qn11, rfl, hmqn11, hkqn11⟩
    | 3, hj => cases hj; exact ⟨qn16, rfl, hmqn16, hkqn16⟩
    | 4, hj => cases hj; exact ⟨qn21, rfl, hmqn21, hkqn21⟩
    | 5, hj => cases hj; exact ⟨qn26, rfl, hmqn26, hkqn26⟩
    | 6, hj => cases hj; exact ⟨qn31, rfl, hmqn31, hkqn31⟩
    | 7, hj => cases hj; exact ⟨qn36, rfl, hmqn36, hkqn36⟩
    | 8, hj => cases hj; exact ⟨qn41, rfl, hmqn41, hkqn41⟩
    | 9, hj => cases hj; exact ⟨qn46, rfl, hmqn46, hkqn46⟩
    | 10, hj => cases hj; exact ⟨qn51, rfl, hmqn51, hkqn51⟩
    | 11, hj => cases hj; exact ⟨qn56, rfl, hmqn56, hkqn56⟩
    | 12, hj => cases hj; exact ⟨qn61, rfl, hmqn61, hkqn61⟩
    | 13, hj => cases hj; exact ⟨qn66, rfl, hmqn66, hkqn66⟩
    | 14, hj => cases hj; exact ⟨qa71, rfl, hmqa71, hkqa71⟩
    | 15, hj => cases hj; exact ⟨0, rfl, (show (0 : Int) ≤ ((0 : Int32)).toInt from by decide), (show ((0 : Int32)).toInt ≤ (150 : Int) from by decide)⟩
    | 16, hj => cases hj; exact ⟨qa76, rfl, hmqa76, hkqa76⟩
    | 17, hj => cases hj; exact ⟨0, rfl, (show (0 : Int) ≤ ((0 : Int32)).toInt from by decide), (show ((0 : Int32)).toInt ≤ (450 : Int) from by decide)⟩
    | 18, hj => cases hj; exact ⟨qa81, rfl, hmqa81, hkqa81⟩
    | k + 19, hj => simp at hj
  have hnw : ∀ v ∈ [(.ref qn1 : Value), (.ref qn6 : Value), (.ref qn11 : Value), (.ref qn16 : Value), (.ref qn21 : Value), (.ref qn26 : Value), (.ref qn31 : Value), (.ref qn36 : Value), (.ref qn41 : Value), (.ref qn46 : Value), (.ref qn51 : Value), (.ref qn56 : Value), (.ref qn61 : Value), (.ref qn66 : Value), (.ref qa71 : Value), (.int 0 : Value), (.ref qa76 : Value), (.int 0 : Value), (.ref qa81 : Value)], match v with | .ref b => b ∉ L0 | .int x => x = 0 | _ => True := by
    intro v hv
    simp only [List.mem_cons, List.not_mem_nil, or_false] at hv
    rcases hv with rfl | rfl | rfl | rfl | rfl | rfl | rfl | rfl | rfl | rfl | rfl | rfl | rfl | rfl | rfl | rfl | rfl | rfl | rfl
    · exact hnqn1
    · exact hnqn6
    · exact hnqn11
    · exact hnqn16
    · exact hnqn21
    · exact hnqn26
    · exact hnqn31
    · exact hnqn36
    · exact hnqn41
    · exact hnqn46
    · exact hnqn51
    · exact hnqn56
    · exact hnqn61
    · exact hnqn66
    · exact hnqa71
    · exact rfl
    · exact hnqa76
    · exact rfl
    · exact hnqa81
  exact tw_Iret hx hb hr hlocks hP hD hT hS hex (by decide) rfl hf (fun hno E1 he1 hes => ⟨qn1, qn6, qn11, (by unfold tw_fv; rw [he1]; rfl), (by unfold tw_fv; rw [he1]; rfl), (by unfold tw_fv; rw [he1]; rfl), fv_ext (hes _ hmqn1) hft, fv_ext (hes _ hmqn6) hfr, sp_ok_ext (hes _ hmqn11) (hes _ hmqn6) hsp, ab_ok_ext (hes _ hmqn6) (hes _ hmqn1) hab1, ab_ok_ext (hes _ hmqn11) (hes _ hmqn1) hab2⟩) (Nat.le_of_ble_eq_true rfl) (Nat.le_of_ble_eq_true rfl) dX11_init_184
set_option maxHeartbeats 4000000 in
set_option maxRecDepth 100000 in
theorem tI_X12 (l : Launch) (D : va_G) (cs : Nat → ClassId) {kp : Nat → Nat} {L : List Nat} {E : Nat → va_E} (o : Nat) (sz : Nat) : Met l yX12_init (.code yX12_init cX12_init 1 none :: cx_big) { frames := 1, cells := 172, slots := 52476, locals := 12 } (tw_Pi D cs kp L E (o, .inr (12, [.null, .int 0, .int 0, .int 0, .int 0, .null, .null, .null, .null, .null, .null, .null, .null, .null, .int 0, .int 0, .null, .null, .null, .null, .null, .null, .null, .null, .null, .null, .int 0, .int 0, .int 0, .int 0, .null, .null, .null, .null, .null, .null, .null, .null, .null, .null, .null, .null, .null, .null, .null, .null, .null, .null, .null, .null, .int 0, .int 0, .int 0, .null, .null, .null, .null, .int 0, .int 0, .null, .null, .null, .null, .int 0])) sz) (tw_Qi D cs kp L E o 12 (fun L1 E1 => rz_ok E1 o ∧ tw_fv E1 o 1 = .int 0 ∧ tw_fv E1 o 14 = .int 0) (va_A ([(o, .inr (12, [.null, .int 0, .int 0, .int 0, .int 0, .null, .null, .null, .null, .null, .null, .null, .null, .null, .int 0, .int 0, .null, .null, .null, .null, .null, .null, .null, .null, .null, .null, .int 0, .int 0, .int 0, .int 0, .null, .null, .null, .null, .null, .null, .null, .null, .null, .null, .null, .null, .null, .null, .null, .null, .null, .null, .null, .null, .int 0, .int 0, .int 0, .null, .null, .null, .null, .int 0, .int 0, .null, .null, .null, .null, .int 0]))] ++ va_pl L E) sz)) 172 52476 (va_A ([(o, .inr (12, [.null, .int 0, .int 0, .int 0, .int 0, .null, .null, .null, .null, .null, .null, .null, .null, .null, .int 0, .int 0, .null, .null, .null, .null, .null, .null, .null, .null, .null, .null, .int 0, .int 0, .int 0, .int 0, .null, .null, .null, .null, .null, .null, .null, .null, .null, .null, .null, .null, .null, .null, .null, .null, .null, .null, .null, .null, .int 0, .int 0, .int 0, .null, .null, .null, .null, .int 0, .int 0, .null, .null, .null, .null, .int 0]))] ++ va_pl L E) sz) := by
  refine tw_Iof (y := yX12_init) (bytes := cX12_init) (maxL := 1) (X := (o, .inr (12, [.null, .int 0, .int 0, .int 0, .int 0, .null, .null, .null, .null, .null, .null, .null, .null, .null, .int 0, .int 0, .null, .null, .null, .null, .null, .null, .null, .null, .null, .null, .int 0, .int 0, .int 0, .int 0, .null, .null, .null, .null, .null, .null, .null, .null, .null, .null, .null, .null, .null, .null, .null, .null, .null, .null, .null, .null, .int 0, .int 0, .int 0, .null, .null, .null, .null, .int 0, .int 0, .null, .null, .null, .null, .int 0]))) (ci := 12) (by decide) (Nat.le_of_ble_eq_true rfl) ?_
  intro p e s m below meth c A ls hx hb hr hml hB hown hlocks hnm hK hN hA hP hD hT hS hl
  have hown : s.vm.findClass "TreeMergeModel" = some m.cls := hown
  have hnm : meth.name = "<init>" := hnm
  have hl : lv_has ls 1 [(0, .ref o)] := hl
  obtain ⟨L0, eL⟩ : ∃ z, z = L := ⟨_, rfl⟩
  obtain ⟨kp0, ekp⟩ : ∃ z, z = kp := ⟨_, rfl⟩
  obtain ⟨E0, eE⟩ : ∃ z, z = E := ⟨_, rfl⟩
  show W p l e { frames := 1, cells := 172, slots := 52476, locals := 12 } s m [.ref o].toArray below meth c s.heap [] 0 0 (MQ below (tw_Qi D cs kp L E o 12 (fun L1 E1 => rz_ok E1 o ∧ tw_fv E1 o 1 = .int 0 ∧ tw_fv E1 o 14 = .int 0) A) [.ref o].toArray s 172 52476 A) (F0 m 0 ls [])
  rw [show tw_Qi D cs kp L E o 12 (fun L1 E1 => rz_ok E1 o ∧ tw_fv E1 o 1 = .int 0 ∧ tw_fv E1 o 14 = .int 0) = tw_Qi D cs kp0 L0 E0 o 12 (fun L1 E1 => rz_ok E1 o ∧ tw_fv E1 o 1 = .int 0 ∧ tw_fv E1 o 14 = .int 0) by rw [ekp, eL, eE]]
  have hex : ∀ a : Nat, a ∈ L0 → a ∈ L ∧ kp a = kp0 a ∧ E a = E0 a := fun a h => ⟨by rw [← eL]; exact h, by rw [ekp], by rw [eE]⟩
  refine lv_aload_n hx hb dX12_init_0 rfl (lv_at hl 0 rfl) ?_
  refine W.objInit hx hb hown (hB _ cw_1186) (hB _ cw_26) (hB _ cw_27) rfl (by rw [hml]; exact hl.1) rfl dX12_init_1 (Nat.le_of_ble_eq_true rfl) (Nat.le_of_ble_eq_true rfl) ?_
  refine W.eq (g2 := F0 m 4 ls []) rfl ?_
  refine lv_aload_n hx hb dX12_init_4 rfl (lv_at hl 0 rfl) ?_
  refine lv_sipush (v := 500) hx hb dX12_init_5 (by decide) ?_
  refine cx_newa (cs := cs) (atype := .byte) (ty := .byte) (a0 := (500, .inl (fun _ => 0))) hx hb hB cw_622 rfl cx_ra_byte 2 rfl hK hP hD hS hA (fun _ => rfl) (by decide) (by decide) (Nat.le_of_ble_eq_true rfl) (Nat.le_of_ble_eq_true rfl) (Nat.le_of_ble_eq_true rfl) dX12_init_8 (fun qa1 H hP hD hS => ?_)
  obtain ⟨kp2, E3, hP, hD, hT, hx5, hkqa1, hqqa1, hnqa1⟩ := tw_abs (k := 300) hP hD hT (fun _ _ _ => ⟨by decide, rfl, rfl, (fun _ _ => (show ((-128) : Int) ≤ ((0 : Int32)).toInt ∧ ((0 : Int32)).toInt ≤ 127 from by decide))⟩)
  obtain ⟨L4, hL⟩ : ∃ z, z = L ++ [qa1] := ⟨_, rfl⟩
  have hmqa1 : qa1 ∈ L4 := by rw [hL]; simp
  rw [← hL] at hP hD hT hx5
  have hnqa1 : qa1 ∉ L0 := fun z => hnqa1 (hex _ z).1
  have hex : ∀ a : Nat, a ∈ L0 → a ∈ L4 ∧ kp2 a = kp0 a ∧ E3 a = E0 a := fun a h => ⟨(hx5 a (hex a h).1).1, ((hx5 a (hex a h).1).2.1).trans (hex a h).2.1, ((hx5 a (hex a h).1).2.2).trans (hex a h).2.2⟩
  refine va_putF (D := D) (ci := 12) (v := .ref qa1) (ty := .array .byte) (C := RX12) (T := TX12) (N := 64) hx hb hB cx_inX12 tyX12 tyX12_ok nmX12 hown hK hP hD hS 0 rfl rfl 0 (by decide) (hB _ cw_1193) (fun _ h9 => h9) rfl hnm rfl (by decide +kernel) rfl rfl (Nat.le_of_ble_eq_true rfl) dX12_init_10 (fun H locs hP hD hS => ?_)
  have hP : va_P D vwCl ([(o, .inr (12, [.ref qa1, .int 0, .int 0, .int 0, .int 0, .null, .null, .null, .null, .null, .null, .null, .null, .null, .int 0, .int 0, .null, .null, .null, .null, .null, .null, .null, .null, .null, .null, .int 0, .int 0, .int 0, .int 0, .null, .null, .null, .null, .null, .null, .null, .null, .null, .null, .null, .null, .null, .null, .null, .null, .null, .null, .null, .null, .int 0, .int 0, .int 0, .null, .null, .null, .null, .int 0, .int 0, .null, .null, .null, .null, .int 0]))] ++ va_pl L4 E3) H := hP
  have hD : va_D A ([(o, .inr (12, [.ref qa1, .int 0, .int 0, .int 0, .int 0, .null, .null, .null, .null, .null, .null, .null, .null, .null, .int 0, .int 0, .null, .null, .null, .null, .null, .null, .null, .null, .null, .null, .int 0, .int 0, .int 0, .int 0, .null, .null, .null, .null, .null, .null, .null, .null, .null, .null, .null, .null, .null, .null, .null, .null, .null, .null, .null, .null, .int 0, .int 0, .int 0, .null, .null, .null, .null, .int 0, .int 0, .null, .null, .null, .null, .int 0]))] ++ va_pl L4 E3) := hD
  refine lv_aload_n hx hb dX12_init_13 rfl (lv_at hl 0 rfl) ?_
  refine lv_sipush (v := 500) hx hb dX12_init_14 (by decide) ?_
  refine cx_newa (cs := cs) (atype := .byte) (ty := .byte) (a0 := (500, .inl (fun _ => 0))) hx hb hB cw_622 rfl cx_ra_byte 2 rfl hK hP hD hS hA (fun _ => rfl) (by decide) (by decide) (Nat.le_of_ble_eq_true rfl) (Nat.le_of_ble_eq_true rfl) (Nat.le_of_ble_eq_true rfl) dX12_init_17 (fun qa6 H hP hD hS => ?_)
  obtain ⟨kp7, E8, hP, hD, hT, hx10, hkqa6, hqqa6, hnqa6⟩ := tw_abs (k := 301) hP hD hT (fun _ _ _ => ⟨by decide, rfl, rfl, (fun _ _ => (show ((-128) : Int) ≤ ((0 : Int32)).toInt ∧ ((0 : Int32)).toInt ≤ 127 from by decide))⟩)
  obtain ⟨L9, hL⟩ : ∃ z, z = L4 ++ [qa6] := ⟨_, rfl⟩
  have hmqa6 : qa6 ∈ L9 := by rw [hL]; simp
  rw [← hL] at hP hD hT hx10
  have hnqa6 : qa6 ∉ L0 := fun z => hnqa6 (hex _ z).1
  have hex : ∀ a : Nat, a ∈ L0 → a ∈ L9 ∧ kp7 a = kp0 a ∧ E8 a = E0 a := fun a h => ⟨(hx10 a (hex a h).1).1, ((hx10 a (hex a h).1).2.1).trans (hex a h).2.1, ((hx10 a (hex a h).1).2.2).trans (hex a h).2.2⟩
  have hvqa1 := (hx10 qa1 hmqa1).2
  have hmqa1 : qa1 ∈ L9 := (hx10 qa1 hmqa1).1
  have hkqa1 : kp7 qa1 = 300 := (hvqa1.1).trans hkqa1
  refine va_putF (D := D) (ci := 12) (v := .ref qa6) (ty := .array .byte) (C := RX12) (T := TX12) (N := 64) hx hb hB cx_inX12 tyX12 tyX12_ok nmX12 hown hK hP hD hS 0 rfl rfl 5 (by decide) (hB _ cw_1198) (fun _ h9 => h9) rfl hnm rfl (by decide +kernel) rfl rfl (Nat.le_of_ble_eq_true rfl) dX12_init_19 (fun H locs hP hD hS => ?_)
  have hP : va_P D vwCl ([(o, .inr (12, [.ref qa1, .int 0, .int 0, .int 0, .int 0, .ref qa6, .null, .null, .null, .null, .null, .null, .null, .null, .int 0, .int 0, .null, .null, .null, .null, .null, .null, .null, .null, .null, .null, .int 0, .int 0, .int 0, .int 0, .null, .null, .null, .null, .null, .null, .null, .null, .null, .null, .null, .null, .null, .null, .null, .null, .null, .null, .null, .null, .int 0, .int 0, .int 0, .null, .null, .null, .null, .int 0, .int 0, .null, .null, .null, .null, .int 0]))] ++ va_pl L9 E8) H := hP
  have hD : va_D A ([(o, .inr (12, [.ref qa1, .int 0, .int 0, .int 0, .int 0, .ref qa6, .null, .null, .null, .null, .null, .null, .null, .null, .int 0, .int 0, .null, .null, .null, .null, .null, .null, .null, .null, .null, .null, .int 0, .int 0, .int 0, .int 0, .null, .null, .null, .null, .null, .null, .null, .null, .null, .null, .null, .null, .null, .null, .null, .null, .null, .null, .null, .null, .int 0, .int 0, .int 0, .null, .null, .null, .null, .int 0, .int 0, .null, .null, .null, .null, .int 0]))] ++ va_pl L9 E8) := hD
  refine lv_aload_n hx hb dX12_init_22 rfl (lv_at hl 0 rfl) ?_
  refine lv_bipush (v := 10) hx hb dX12_init_23 (by decide) ?_
  refine cx_newa (cs := cs) (atype := .int) (ty := .int) (a0 := (10, .inl (fun _ => 0))) hx hb hB cw_59 rfl cx_ra_int 0 rfl hK hP hD hS hA (fun _ => rfl) (by decide) (by decide) (Nat.le_of_ble_eq_true rfl) (Nat.le_of_ble_eq_true rfl) (Nat.le_of_ble_eq_true rfl) dX12_init_25 (fun qa11 H hP hD hS => ?_)
  obtain ⟨kp12, E13, hP, hD, hT, hx15, hkqa11, hqqa11, hnqa11⟩ := tw_abs (k := 302) hP hD hT (fun _ _ _ => ⟨by decide, rfl, rfl, (fun _ _ => (show (0 : Int) ≤ ((0 : Int32)).toInt ∧ ((0 : Int32)).toInt ≤ 500 from by decide))⟩)
  obtain ⟨L14, hL⟩ : ∃ z, z = L9 ++ [qa11] := ⟨_, rfl⟩
  have hmqa11 : qa11 ∈ L14 := by rw [hL]; simp
  rw [← hL] at hP hD hT hx15
  have hnqa11 : qa11 ∉ L0 := fun z => hnqa11 (hex _ z).1
  have hex : ∀ a : Nat, a ∈ L0 → a ∈ L14 ∧ kp12 a = kp0 a ∧ E13 a = E0 a := fun a h => ⟨(hx15 a (hex a h).1).1, ((hx15 a (hex a h).1).2.1).trans (hex a h).2.1, ((hx15 a (hex a h).1).2.2).trans (hex a h).2.2⟩
  have hvqa1 := (hx15 qa1 hmqa1).2
  have hmqa1 : qa1 ∈ L14 := (hx15 qa1 hmqa1).1
  have hkqa1 : kp12 qa1 = 300 := (hvqa1.1).trans hkqa1
  have hvqa6 := (hx15 qa6 hmqa6).2
  have hmqa6 : qa6 ∈ L14 := (hx15 qa6 hmqa6).1
  have hkqa6 : kp12 qa6 = 301 := (hvqa6.1).trans hkqa6
  refine va_putF (D := D) (ci := 12) (v := .ref qa11) (ty := .array .int) (C := RX12) (T := TX12) (N := 64) hx hb hB cx_inX12 tyX12 tyX12_ok nmX12 hown hK hP hD hS 0 rfl rfl 6 (by decide) (hB _ cw_1199) (fun _ h9 => h9) rfl hnm rfl (by decide +kernel) rfl rfl (Nat.le_of_ble_eq_true rfl) dX12_init_27 (fun H locs hP hD hS => ?_)
  have hP : va_P D vwCl ([(o, .inr (12, [.ref qa1, .int 0, .int 0, .int 0, .int 0, .ref qa6, .ref qa11, .null, .null, .null, .null, .null, .null, .null, .int 0, .int 0, .null, .null, .null, .null, .null, .null, .null, .null, .null, .null, .int 0, .int 0, .int 0, .int 0, .null, .null, .null, .null, .null, .null, .null, .null, .null, .null, .null, .null, .null, .null, .null, .null, .null, .null, .null, .null, .int 0, .int 0, .int 0, .null, .null, .null, .null, .int 0, .int 0, .null, .null, .null, .null, .int 0]))] ++ va_pl L14 E13) H := hP
  have hD : va_D A ([(o, .inr (12, [.ref qa1, .int 0, .int 0, .int 0, .int 0, .ref qa6, .ref qa11, .null, .null, .null, .null, .null, .null, .null, .int 0, .int 0, .null, .null, .null, .null, .null, .null, .null, .null, .null, .null, .int 0, .int 0, .int 0, .int 0, .null, .null, .null, .null, .null, .null, .null, .null, .null, .null, .null, .null, .null, .null, .null, .null, .null, .null, .null, .null, .int 0, .int 0, .int 0, .null, .null, .null, .null, .int 0, .int 0, .null, .null, .null, .null, .int 0]))] ++ va_pl L14 E13) := hD
  refine lv_aload_n hx hb dX12_init_30 rfl (lv_at hl 0 rfl) ?_
  refine lv_bipush (v := 10) hx hb dX12_init_31 (by decide) ?_
  refine cx_newa (cs := cs) (atype := .int) (ty := .int) (a0 := (10, .inl (fun _ => 0))) hx hb hB cw_59 rfl cx_ra_int 0 rfl hK hP hD hS hA (fun _ => rfl) (by decide) (by decide) (Nat.le_of_ble_eq_true rfl) (Nat.le_of_ble_eq_true rfl) (Nat.le_of_ble_eq_true rfl) dX12_init_33 (fun qa16 H hP hD hS => ?_)
  obtain ⟨kp17, E18, hP, hD, hT, hx20, hkqa16, hqqa16, hnqa16⟩ := tw_abs (k := 303) hP hD hT (fun _ _ _ => ⟨by decide, rfl, rfl, (fun _ _ => (show (0 : Int) ≤ ((0 : Int32)).toInt ∧ ((0 : Int32)).toInt ≤ 500 from by decide))⟩)
  obtain ⟨L19, hL⟩ : ∃ z, z = L14 ++ [qa16] := ⟨_, rfl⟩
  have hmqa16 : qa16 ∈ L19 := by rw [hL]; simp
  rw [← hL] at hP hD hT hx20
  have hnqa16 : qa16 ∉ L0 := fun z => hnqa16 (hex _ z).1
  have hex : ∀ a : Nat, a ∈ L0 → a ∈ L19 ∧ kp17 a = kp0 a ∧ E18 a = E0 a := fun a h => ⟨(hx20 a (hex a h).1).1, ((hx20 a (hex a h).1).2.1).trans (hex a h).2.1, ((hx20 a (hex a h).1).2.2).trans (hex a h).2.2⟩
  have hvqa1 := (hx20 qa1 hmqa1).2
  have hmqa1 : qa1 ∈ L19 := (hx20 qa1 hmqa1).1
  have hkqa1 : kp17 qa1 = 300 := (hvqa1.1).trans hkqa1
  have hvqa6 := (hx20 qa6 hmqa6).2
  have hmqa6 : qa6 ∈ L19 := (hx20 qa6 hmqa6).1
  have hkqa6 : kp17 qa6 = 301 := (hvqa6.1).trans hkqa6
  have hvqa11 := (hx20 qa11 hmqa11).2
  have hmqa11 : qa11 ∈ L19 := (hx20 qa11 hmqa11).1
  have hkqa11 : kp17 qa11 = 302 := (hvqa11.1).trans hkqa11
  refine va_putF (D := D) (ci := 12) (v := .ref qa16) (ty := .array .int) (C := RX12) (T := TX12) (N := 64) hx hb hB cx_inX12 tyX12 tyX12_ok nmX12 hown hK hP hD hS 0 rfl rfl 7 (by decide) (hB _ cw_1200) (fun _ h9 => h9) rfl hnm rfl (by decide +kernel) rfl rfl (Nat.le_of_ble_eq_true rfl) dX12_init_35 (fun H locs hP hD hS => ?_)
  have hP : va_P D vwCl ([(o, .inr (12, [.ref qa1, .int 0, .int 0, .int 0, .int 0, .ref qa6, .ref qa11, .ref qa16, .null, .null, .null, .null, .null, .null, .int 0, .int 0, .null, .null, .null, .null, .null, .null, .null, .null, .null, .null, .int 0, .int 0, .int 0, .int 0, .null, .null, .null, .null, .null, .null, .null, .null, .null, .null, .null, .null, .null, .null, .null, .null, .null, .null, .null, .null, .int 0, .int 0, .int 0, .null, .null, .null, .null, .int 0, .int 0, .null, .null, .null, .null, .int 0]))] ++ va_pl L19 E18) H := hP
  have hD : va_D A ([(o, .inr (12, [.ref qa1, .int 0, .int 0, .int 0, .int 0, .ref qa6, .ref qa11, .ref qa16, .null, .null, .null, .null, .null, .null, .int 0, .int 0, .null, .null, .null, .null, .null, .null, .null, .null, .null, .null, .int 0, .int 0, .int 0, .int 0, .null, .null, .null, .null, .null, .null, .null, .null, .null, .null, .null, .null, .null, .null, .null, .null, .null, .null, .null, .null, .int 0, .int 0, .int 0, .null, .null, .null, .null, .int 0, .int 0, .null, .null, .null, .null, .int 0]))] ++ va_pl L19 E18) := hD
  refine lv_aload_n hx hb dX12_init_38 rfl (lv_at hl 0 rfl) ?_
  refine lv_bipush (v := 10) hx hb dX12_init_39 (by decide) ?_
  refine cx_newa (cs := cs) (atype := .int) (ty := .int) (a0 := (10, .inl (fun _ => 0))) hx hb hB cw_59 rfl cx_ra_int 0 rfl hK hP hD hS hA (fun _ => rfl) (by decide) (by decide) (Nat.le_of_ble_eq_true rfl) (Nat.le_of_ble_eq_true rfl) (Nat.le_of_ble_eq_true rfl) dX12_init_41 (fun qa21 H hP hD hS => ?_)
  obtain ⟨kp22, E23, hP, hD, hT, hx25, hkqa21, hqqa21, hnqa21⟩ := tw_abs (k := 304) hP hD hT (fun _ _ _ => ⟨by decide, rfl, rfl, (fun _ _ => (show (0 : Int) ≤ ((0 : Int32)).toInt ∧ ((0 : Int32)).toInt ≤ 2 from by decide))⟩)
  obtain ⟨L24, hL⟩ : ∃ z, z = L19 ++ [qa21] := ⟨_, rfl⟩
  have hmqa21 : qa21 ∈ L24 := by rw [hL]; simp
  rw [← hL] at hP hD hT hx25
  have hnqa21 : qa21 ∉ L0 := fun z => hnqa21 (hex _ z).1
  have hex : ∀ a : Nat, a ∈ L0 → a ∈ L24 ∧ kp22 a = kp0 a ∧ E23 a = E0 a := fun a h => ⟨(hx25 a (hex a h).1).1, ((hx25 a (hex a h).1).2.1).trans (hex a h).2.1, ((hx25 a (hex a h).1).2.2).trans (hex a h).2.2⟩
  have hvqa1 := (hx25 qa1 hmqa1).2
  have hmqa1 : qa1 ∈ L24 := (hx25 qa1 hmqa1).1
  have hkqa1 : kp22 qa1 = 300 := (hvqa1.1).trans hkqa1
  have hvqa6 := (hx25 qa6 hmqa6).2
  have hmqa6 : qa6 ∈ L24 := (hx25 qa6 hmqa6).1
  have hkqa6 : kp22 qa6 = 301 := (hvqa6.1).trans hkqa6
  have hvqa11 := (hx25 qa11 hmqa11).2
  have hmqa11 : qa11 ∈ L24 := (hx25 qa11 hmqa11).1
  have hkqa11 : kp22 qa11 = 302 := (hvqa11.1).trans hkqa11
  have hvqa16 := (hx25 qa16 hmqa16).2
  have hmqa16 : qa16 ∈ L24 := (hx25 qa16 hmqa16).1
  have hkqa16 : kp22 qa16 = 303 := (hvqa16.1).trans hkqa16
  refine va_putF (D := D) (ci := 12) (v := .ref qa21) (ty := .array .int) (C := RX12) (T := TX12) (N := 64) hx hb hB cx_inX12 tyX12 tyX12_ok nmX12 hown hK hP hD hS 0 rfl rfl 8 (by decide) (hB _ cw_1201) (fun _ h9 => h9) rfl hnm rfl (by decide +kernel) rfl rfl (Nat.le_of_ble_eq_true rfl) dX12_init_43 (fun H locs hP hD hS => ?_)
  have hP : va_P D vwCl ([(o, .inr (12, [.ref qa1, .int 0, .int 0, .int 0, .int 0, .ref qa6, .ref qa11, .ref qa16, .ref qa21, .null, .null, .null, .null, .null, .int 0, .int 0, .null, .null, .null, .null, .null, .null, .null, .null, .null, .null, .int 0, .int 0, .int 0, .int 0, .null, .null, .null, .null, .null, .null, .null, .null, .null, .null, .null, .null, .null, .null, .null, .null, .null, .null, .null, .null, .int 0, .int 0, .int 0, .null, .null, .null, .null, .int 0, .int 0, .null, .null, .null, .null, .int 0]))] ++ va_pl L24 E23) H := hP
  have hD : va_D A ([(o, .inr (12, [.ref qa1, .int 0, .int 0, .int 0, .int 0, .ref qa6, .ref qa11, .ref qa16, .ref qa21, .null, .null, .null, .null, .null, .int 0, .int 0, .null, .null, .null, .null, .null, .null, .null, .null, .null, .null, .int 0, .int 0, .int 0, .int 0, .null, .null, .null, .null, .null, .null, .null, .null, .null, .null, .null, .null, .null, .null, .null, .null, .null, .null, .null, .null, .int 0, .int 0, .int 0, .null, .null, .null, .null, .int 0, .int 0, .null, .null, .null, .null, .int 0]))] ++ va_pl L24 E23) := hD
  refine lv_aload_n hx hb dX12_init_46 rfl (lv_at hl 0 rfl) ?_
  refine lv_bipush (v := 10) hx hb dX12_init_47 (by decide) ?_
  refine cx_newa (cs := cs) (atype := .int) (ty := .int) (a0 := (10, .inl (fun _ => 0))) hx hb hB cw_59 rfl cx_ra_int 0 rfl hK hP hD hS hA (fun _ => rfl) (by decide) (by decide) (Nat.le_of_ble_eq_true rfl) (Nat.le_of_ble_eq_true rfl) (Nat.le_of_ble_eq_true rfl) dX12_init_49 (fun qa26 H hP hD hS => ?_)
  obtain ⟨kp27, E28, hP, hD, hT, hx30, hkqa26, hqqa26, hnqa26⟩ := tw_abs (k := 305) hP hD hT (fun _ _ _ => ⟨by decide, rfl, rfl, (fun _ _ => (show (0 : Int) ≤ ((0 : Int32)).toInt ∧ ((0 : Int32)).toInt ≤ 252 from by decide))⟩)
  obtain ⟨L29, hL⟩ : ∃ z, z = L24 ++ [qa26] := ⟨_, rfl⟩
  have hmqa26 : qa26 ∈ L29 := by rw [hL]; simp
  rw [← hL] at hP hD hT hx30
  have hnqa26 : qa26 ∉ L0 := fun z => hnqa26 (hex _ z).1
  have hex : ∀ a : Nat, a ∈ L0 → a ∈ L29 ∧ kp27 a = kp0 a ∧ E28 a = E0 a := fun a h => ⟨(hx30 a (hex a h).1).1, ((hx30 a (hex a h).1).2.1).trans (hex a h).2.1, ((hx30 a (hex a h).1).2.2).trans (hex a h).2.2⟩
  have hvqa1 := (hx30 qa1 hmqa1).2
  have hmqa1 : qa1 ∈ L29 := (hx30 qa1 hmqa1).1
  have hkqa1 : kp27 qa1 = 300 := (hvqa1.1).trans hkqa1
  have hvqa6 := (hx30 qa6 hmqa6).2
  have hmqa6 : qa6 ∈ L29 := (hx30 qa6 hmqa6).1
  have hkqa6 : kp27 qa6 = 301 := (hvqa6.1).trans hkqa6
  have hvqa11 := (hx30 qa11 hmqa11).2
  have hmqa11 : qa11 ∈ L29 := (hx30 qa11 hmqa11).1
  have hkqa11 : kp27 qa11 = 302 := (hvqa11.1).trans hkqa11
  have hvqa16 := (hx30 qa16 hmqa16).2
  have hmqa16 : qa16 ∈ L29 := (hx30 qa16 hmqa16).1
  have hkqa16 : kp27 qa16 = 303 := (hvqa16.1).trans hkqa16
  have hvqa21 := (hx30 qa21 hmqa21).2
  have hmqa21 : qa21 ∈ L29 := (hx30 qa21 hmqa21).1
  have hkqa21 : kp27 qa21 = 304 := (hvqa21.1).trans hkqa21
  refine va_putF (D := D) (ci := 12) (v := .ref qa26) (ty := .array .int) (C := RX12) (T := TX12) (N := 64) hx hb hB cx_inX12 tyX12 tyX12_ok nmX12 hown hK hP hD hS 0 rfl rfl 9 (by decide) (hB _ cw_1202) (fun _ h9 => h9) rfl hnm rfl (by decide +kernel) rfl rfl (Nat.le_of_ble_eq_true rfl) dX12_init_51 (fun H locs hP hD hS => ?_)
  have hP : va_P D vwCl ([(o, .inr (12, [.ref qa1, .int 0, .int 0, .int 0, .int 0, .ref qa6, .ref qa11, .ref qa16, .ref qa21, .ref qa26, .null, .null, .null, .null, .int 0, .int 0, .null, .null, .null, .null, .null, .null, .null, .null, .null, .null, .int 0, .int 0, .int 0, .int 0, .null, .null, .null, .null, .null, .null, .null, .null, .null, .null, .null, .null, .null, .null, .null, .null, .null, .null, .null, .null, .int 0, .int 0, .int 0, .null, .null, .null, .null, .int 0, .int 0, .null, .null, .null, .null, .int 0]))] ++ va_pl L29 E28) H := hP
  have hD : va_D A ([(o, .inr (12, [.ref qa1, .int 0, .int 0, .int 0, .int 0, .ref qa6, .ref qa11, .ref qa16, .ref qa21, .ref qa26, .null, .null, .null, .null, .int 0, .int 0, .null, .null, .null, .null, .null, .null, .null, .null, .null, .null, .int 0, .int 0, .int 0, .int 0, .null, .null, .null, .null, .null, .null, .null, .null, .null, .null, .null, .null, .null, .null, .null, .null, .null, .null, .null, .null, .int 0, .int 0, .int 0, .null, .null, .null, .null, .int 0, .int 0, .null, .null, .null, .null, .int 0]))] ++ va_pl L29 E28) := hD
  refine lv_aload_n hx hb dX12_init_54 rfl (lv_at hl 0 rfl) ?_
  refine lv_bipush (v := 10) hx hb dX12_init_55 (by decide) ?_
  refine lv_sipush (v := 252) hx hb dX12_init_57 (by decide) ?_
  refine cx_mna (cs := cs) (ty := .int) (N := 10) (K := 252) (z := (252, .inl (fun _ => 0))) hx hb hB hown cw_1187 (by decide) cw_59 hN.2.2.1 (fun _ h => h) 0 4 rfl rfl hK hP hD hS hA (by decide) (by decide) (by decide) (by decide) (Nat.le_of_ble_eq_true rfl) (Nat.le_of_ble_eq_true rfl) (Nat.le_of_ble_eq_true rfl) rfl rfl (Nat.le_of_ble_eq_true rfl) (Nat.le_of_ble_eq_true rfl) (fun _ => rfl) (List.range 10) (fun j hj => List.mem_range.mp hj) (by decide) dX12_init_60 (fun qm31 rr32 H hP hD hS => ?_)
  obtain ⟨kp33, L35, E34, hP, hD, hT, hx36, hmqm31, hkqm31, hqqm31, hnqm31, hrqm31, hiqm31⟩ := tw_absg (ko := 310) (kr := 320) (cA := cs 4) (cy := cs 0) (z := (252, .inl (fun _ => 0))) (N := 10) (r := rr32) (q := qm31) hP hD hT (by decide) rfl rfl rfl rfl (fun _ _ => ⟨by decide, rfl, rfl, (fun _ _ => (show (0 : Int) ≤ ((0 : Int32)).toInt ∧ ((0 : Int32)).toInt ≤ 500 from by decide))⟩)
  have hnqm31 : qm31 ∉ L0 := fun z => hnqm31 (hex _ z).1
  have hex : ∀ a : Nat, a ∈ L0 → a ∈ L35 ∧ kp33 a = kp0 a ∧ E34 a = E0 a := fun a h => ⟨(hx36 a (hex a h).1).1, ((hx36 a (hex a h).1).2.1).trans (hex a h).2.1, ((hx36 a (hex a h).1).2.2).trans (hex a h).2.2⟩
  have hvqa1 := (hx36 qa1 hmqa1).2
  have hmqa1 : qa1 ∈ L35 := (hx36 qa1 hmqa1).1
  have hkqa1 : kp33 qa1 = 300 := (hvqa1.1).trans hkqa1
  have hvqa6 := (hx36 qa6 hmqa6).2
  have hmqa6 : qa6 ∈ L35 := (hx36 qa6 hmqa6).1
  have hkqa6 : kp33 qa6 = 301 := (hvqa6.1).trans hkqa6
  have hvqa11 := (hx36 qa11 hmqa11).2
  have hmqa11 : qa11 ∈ L35 := (hx36 qa11 hmqa11).1
  have hkqa11 : kp33 qa11 = 302 := (hvqa11.1).trans hkqa11
  have hvqa16 := (hx36 qa16 hmqa16).2
  have hmqa16 : qa16 ∈ L35 := (hx36 qa16 hmqa16).1
  have hkqa16 : kp33 qa16 = 303 := (hvqa16.1).trans hkqa16
  have hvqa21 := (hx36 qa21 hmqa21).2
  have hmqa21 : qa21 ∈ L35 := (hx36 qa21 hmqa21).1
  have hkqa21 : kp33 qa21 = 304 := (hvqa21.1).trans hkqa21
  have hvqa26 := (hx36 qa26 hmqa26).2
  have hmqa26 : qa26 ∈ L35 := (hx36 qa26 hmqa26).1
  have hkqa26 : kp33 qa26 = 305 := (hvqa26.1).trans hkqa26
  refine va_putF (D := D) (ci := 12) (v := .ref qm31) (ty := .array (.array .int)) (C := RX12) (T := TX12) (N := 64) hx hb hB cx_inX12 tyX12 tyX12_ok nmX12 hown hK hP hD hS 0 rfl rfl 10 (by decide) (hB _ cw_1203) (fun _ h9 => h9) rfl hnm rfl (by decide +kernel) rfl rfl (Nat.le_of_ble_eq_true rfl) dX12_init_64 (fun H locs hP hD hS => ?_)
  have hP : va_P D vwCl ([(o, .inr (12, [.ref qa1, .int 0, .int 0, .int 0, .int 0, .ref qa6, .ref qa11, .ref qa16, .ref qa21, .ref qa26, .ref qm31, .null, .null, .null, .int 0, .int 0, .null, .null, .null, .null, .null, .null, .null, .null, .null, .null, .int 0, .int 0, .int 0, .int 0, .null, .null, .null, .null, .null, .null, .null, .null, .null, .null, .null, .null, .null, .null, .null, .null, .null, .null, .null, .null, .int 0, .int 0, .int 0, .null, .null, .null, .null, .int 0, .int 0, .null, .null, .null, .null, .int 0]))] ++ va_pl L35 E34) H := hP
  have hD : va_D A ([(o, .inr (12, [.ref qa1, .int 0, .int 0, .int 0, .int 0, .ref qa6, .ref qa11, .ref qa16, .ref qa21, .ref qa26, .ref qm31, .null, .null, .null, .int 0, .int 0, .null, .null, .null, .null, .null, .null, .null, .null, .null, .null, .int 0, .int 0, .int 0, .int 0, .null, .null, .null, .null, .null, .null, .null, .null, .null, .null, .null, .null, .null, .null, .null, .null, .null, .null, .null, .null, .int 0, .int 0, .int 0, .null, .null, .null, .null, .int 0, .int 0, .null, .null, .null, .null, .int 0]))] ++ va_pl L35 E34) := hD
  refine lv_aload_n hx hb dX12_init_67 rfl (lv_at hl 0 rfl) ?_
  refine lv_bipush (v := 10) hx hb dX12_init_68 (by decide) ?_
  refine lv_sipush (v := 252) hx hb dX12_init_70 (by decide) ?_
  refine cx_mna (cs := cs) (ty := .int) (N := 10) (K := 252) (z := (252, .inl (fun _ => 0))) hx hb hB hown cw_1187 (by decide) cw_59 hN.2.2.1 (fun _ h => h) 0 4 rfl rfl hK hP hD hS hA (by decide) (by decide) (by decide) (by decide) (Nat.le_of_ble_eq_true rfl) (Nat.le_of_ble_eq_true rfl) (Nat.le_of_ble_eq_true rfl) rfl rfl (Nat.le_of_ble_eq_true rfl) (Nat.le_of_ble_eq_true rfl) (fun _ => rfl) (List.range 10) (fun j hj => List.mem_range.mp hj) (by decide) dX12_init_73 (fun qm37 rr38 H hP hD hS => ?_)
  obtain ⟨kp39, L41, E40, hP, hD, hT, hx42, hmqm37, hkqm37, hqqm37, hnqm37, hrqm37, hiqm37⟩ := tw_absg (ko := 311) (kr := 321) (cA := cs 4) (cy := cs 0) (z := (252, .inl (fun _ => 0))) (N := 10) (r := rr38) (q := qm37) hP hD hT (by decide) rfl rfl rfl rfl (fun _ _ => ⟨by decide, rfl, rfl, (fun _ _ => (show (0 : Int) ≤ ((0 : Int32)).toInt ∧ ((0 : Int32)).toInt ≤ 500 from by decide))⟩)
  have hnqm37 : qm37 ∉ L0 := fun z => hnqm37 (hex _ z).1
  have hex : ∀ a : Nat, a ∈ L0 → a ∈ L41 ∧ kp39 a = kp0 a ∧ E40 a = E0 a := fun a h => ⟨(hx42 a (hex a h).1).1, ((hx42 a (hex a h).1).2.1).trans (hex a h).2.1, ((hx42 a (hex a h).1).2.2).trans (hex a h).2.2⟩
  have hvqa1 := (hx42 qa1 hmqa1).2
  have hmqa1 : qa1 ∈ L41 := (hx42 qa1 hmqa1).1
  have hkqa1 : kp39 qa1 = 300 := (hvqa1.1).trans hkqa1
  have hvqa6 := (hx42 qa6 hmqa6).2
  have hmqa6 : qa6 ∈ L41 := (hx42 qa6 hmqa6).1
  have hkqa6 : kp39 qa6 = 301 := (hvqa6.1).trans hkqa6
  have hvqa11 := (hx42 qa11 hmqa11).2
  have hmqa11 : qa11 ∈ L41 := (hx42 qa11 hmqa11).1
  have hkqa11 : kp39 qa11 = 302 := (hvqa11.1).trans hkqa11
  have hvqa16 := (hx42 qa16 hmqa16).2
  have hmqa16 : qa16 ∈ L41 := (hx42 qa16 hmqa16).1
  have hkqa16 : kp39 qa16 = 303 := (hvqa16.1).trans hkqa16
  have hvqa21 := (hx42 qa21 hmqa21).2
  have hmqa21 : qa21 ∈ L41 := (hx42 qa21 hmqa21).1
  have hkqa21 : kp39 qa21 = 304 := (hvqa21.1).trans hkqa21
  have hvqa26 := (hx42 qa26 hmqa26).2
  have hmqa26 : qa26 ∈ L41 := (hx42 qa26 hmqa26).1
  have hkqa26 : kp39 qa26 = 305 := (hvqa26.1).trans hkqa26
  have hvqm31 := (hx42 qm31 hmqm31).2
  have hmqm31 : qm31 ∈ L41 := (hx42 qm31 hmqm31).1
  have hkqm31 : kp39 qm31 = 310 := (hvqm31.1).trans hkqm31
  have hqqm31 : E40 qm31 = gd_out (cs 4) 10 rr32 := (hvqm31.2).trans hqqm31
  refine va_putF (D := D) (ci := 12) (v := .ref qm37) (ty := .array (.array .int)) (C := RX12) (T := TX12) (N := 64) hx hb hB cx_inX12 tyX12 tyX12_ok nmX12 hown hK hP hD hS 0 rfl rfl 11 (by decide) (hB _ cw_1204) (fun _ h9 => h9) rfl hnm rfl (by decide +kernel) rfl rfl (Nat.le_of_ble_eq_true rfl) dX12_init_77 (fun H locs hP hD hS => ?_)
  have hP : va_P D vwCl ([(o, .inr (12, [.ref qa1, .int 0, .int 0, .int 0, .int 0, .ref qa6, .ref qa11, .ref qa16, .ref qa21, .ref qa26, .ref qm31, .ref qm37, .null, .null, .int 0, .int 0, .null, .null, .null, .null, .null, .null, .null, .null, .null, .null, .int 0, .int 0, .int 0, .int 0, .null, .null, .null, .null, .null, .null, .null, .null, .null, .null, .null, .null, .null, .null, .null, .null, .null, .null, .null, .null, .int 0, .int 0, .int 0, .null, .null, .null, .null, .int 0, .int 0, .null, .null, .null, .null, .int 0]))] ++ va_pl L41 E40) H := hP
  have hD : va_D A ([(o, .inr (12, [.ref qa1, .int 0, .int 0, .int 0, .int 0, .ref qa6, .ref qa11, .ref qa16, .ref qa21, .ref qa26, .ref qm31, .ref qm37, .null, .null, .int 0, .int 0, .null, .null, .null, .null, .null, .null, .null, .null, .null, .null, .int 0, .int 0, .int 0, .int 0, .null, .null, .null, .null, .null, .null, .null, .null, .null, .null, .null, .null, .null, .null, .null, .null, .null, .null, .null, .null, .int 0, .int 0, .int 0, .null, .null, .null, .null, .int 0, .int 0, .null, .null, .null, .null, .int 0]))] ++ va_pl L41 E40) := hD
  refine lv_aload_n hx hb dX12_init_80 rfl (lv_at hl 0 rfl) ?_
  refine lv_bipush (v := 10) hx hb dX12_init_81 (by decide) ?_
  refine lv_sipush (v := 252) hx hb dX12_init_83 (by decide) ?_
  refine cx_mna (cs := cs) (ty := .int) (N := 10) (K := 252) (z := (252, .inl (fun _ => 0))) hx hb hB hown cw_1187 (by decide) cw_59 hN.2.2.1 (fun _ h => h) 0 4 rfl rfl hK hP hD hS hA (by decide) (by decide) (by decide) (by decide) (Nat.le_of_ble_eq_true rfl) (Nat.le_of_ble_eq_true rfl) (Nat.le_of_ble_eq_true rfl) rfl rfl (Nat.le_of_ble_eq_true rfl) (Nat.le_of_ble_eq_true rfl) (fun _ => rfl) (List.range 10) (fun j hj => List.mem_range.mp hj) (by decide) dX12_init_86 (fun qm43 rr44 H hP hD hS => ?_)
  obtain ⟨kp45, L47, E46, hP, hD, hT, hx48, hmqm43, hkqm43, hqqm43, hnqm43, hrqm43, hiqm43⟩ := tw_absg (ko := 312) (kr := 322) (cA := cs 4) (cy := cs 0) (z := (252, .inl (fun _ => 0))) (N := 10) (r := rr44) (q := qm43) hP hD hT (by decide) rfl rfl rfl rfl (fun _ _ => ⟨by decide, rfl, rfl, (fun _ _ => (show ((-128) : Int) ≤ ((0 : Int32)).toInt ∧ ((0 : Int32)).toInt ≤ 127 from by decide))⟩)
  have hnqm43 : qm43 ∉ L0 := fun z => hnqm43 (hex _ z).1
  have hex : ∀ a : Nat, a ∈ L0 → a ∈ L47 ∧ kp45 a = kp0 a ∧ E46 a = E0 a := fun a h => ⟨(hx48 a (hex a h).1).1, ((hx48 a (hex a h).1).2.1).trans (hex a h).2.1, ((hx48 a (hex a h).1).2.2).trans (hex a h).2.2⟩
  have hvqa1 := (hx48 qa1 hmqa1).2
  have hmqa1 : qa1 ∈ L47 := (hx48 qa1 hmqa1).1
  have hkqa1 : kp45 qa1 = 300 := (hvqa1.1).trans hkqa1
  have hvqa6 := (hx48 qa6 hmqa6).2
  have hmqa6 : qa6 ∈ L47 := (hx48 qa6 hmqa6).1
  have hkqa6 : kp45 qa6 = 301 := (hvqa6.1).trans hkqa6
  have hvqa11 := (hx48 qa11 hmqa11).2
  have hmqa11 : qa11 ∈ L47 := (hx48 qa11 hmqa11).1
  have hkqa11 : kp45 qa11 = 302 := (hvqa11.1).trans hkqa11
  have hvqa16 := (hx48 qa16 hmqa16).2
  have hmqa16 : qa16 ∈ L47 := (hx48 qa16 hmqa16).1
  have hkqa16 : kp45 qa16 = 303 := (hvqa16.1).trans hkqa16
  have hvqa21 := (hx48 qa21 hmqa21).2
  have hmqa21 : qa21 ∈ L47 := (hx48 qa21 hmqa21).1
  have hkqa21 : kp45 qa21 = 304 := (hvqa21.1).trans hkqa21
  have hvqa26 := (hx48 qa26 hmqa26).2
  have hmqa26 : qa26 ∈ L47 := (hx48 qa26 hmqa26).1
  have hkqa26 : kp45 qa26 = 305 := (hvqa26.1).trans hkqa26
  have hvqm31 := (hx48 qm31 hmqm31).2
  have hmqm31 : qm31 ∈ L47 := (hx48 qm31 hmqm31).1
  have hkqm31 : kp45 qm31 = 310 := (hvqm31.1).trans hkqm31
  have hvqm37 := (hx48 qm37 hmqm37).2
  have hmqm37 : qm37 ∈ L47 := (hx48 qm37 hmqm37).1
  have hkqm37 : kp45 qm37 = 311 := (hvqm37.1).trans hkqm37
  have hqqm31 : E46 qm31 = gd_out (cs 4) 10 rr32 := (hvqm31.2).trans hqqm31
  have hqqm37 : E46 qm37 = gd_out (cs 4) 10 rr38 := (hvqm37.2).trans hqqm37
  refine va_putF (D := D) (ci := 12) (v := .ref qm43) (ty := .array (.array .int)) (C := RX12) (T := TX12) (N := 64) hx hb hB cx_inX12 tyX12 tyX12_ok nmX12 hown hK hP hD hS 0 rfl rfl 12 (by decide) (hB _ cw_1205) (fun _ h9 => h9) rfl hnm rfl (by decide +kernel) rfl rfl (Nat.le_of_ble_eq_true rfl) dX12_init_90 (fun H locs hP hD hS => ?_)
  have hP : va_P D vwCl ([(o, .inr (12, [.ref qa1, .int 0, .int 0, .int 0, .int 0, .ref qa6, .ref qa11, .ref qa16, .ref qa21, .ref qa26, .ref qm31, .ref qm37, .ref qm43, .null, .int 0, .int 0, .null, .null, .null, .null, .null, .null, .null, .null, .null, .null, .int 0, .int 0, .int 0, .int 0, .null, .null, .null, .null, .null, .null, .null, .null, .null, .null, .null, .null, .null, .null, .null, .null, .null, .null, .null, .null, .int 0, .int 0, .int 0, .null, .null, .null, .null, .int 0, .int 0, .null, .null, .null, .null, .int 0]))] ++ va_pl L47 E46) H := hP
  have hD : va_D A ([(o, .inr (12, [.ref qa1, .int 0, .int 0, .int 0, .int 0, .ref qa6, .ref qa11, .ref qa16, .ref qa21, .ref qa26, .ref qm31, .ref qm37, .ref qm43, .null, .int 0, .int 0, .null, .null, .null, .null, .null, .null, .null, .null, .null, .null, .int 0, .int 0, .int 0, .int 0, .null, .null, .null, .null, .null, .null, .null, .null, .null, .null, .null, .null, .null, .null, .null, .null, .null, .null, .null, .null, .int 0, .int 0, .int 0, .null, .null, .null, .null, .int 0, .int 0, .null, .null, .null, .null, .int 0]))] ++ va_pl L47 E46) := hD
  refine lv_aload_n hx hb dX12_init_93 rfl (lv_at hl 0 rfl) ?_
  refine lv_bipush (v := 10) hx hb dX12_init_94 (by decide) ?_
  refine lv_sipush (v := 252) hx hb dX12_init_96 (by decide) ?_
  refine cx_mna (cs := cs) (ty := .int) (N := 10) (K := 252) (z := (252, .inl (fun _ => 0))) hx hb hB hown cw_1187 (by decide) cw_59 hN.2.2.1 (fun _ h => h) 0 4 rfl rfl hK hP hD hS hA (by decide) (by decide) (by decide) (by decide) (Nat.le_of_ble_eq_true rfl) (Nat.le_of_ble_eq_true rfl) (Nat.le_of_ble_eq_true rfl) rfl rfl (Nat.le_of_ble_eq_true rfl) (Nat.le_of_ble_eq_true rfl) (fun _ => rfl) (List.range 10) (fun j hj => List.mem_range.mp hj) (by decide) dX12_init_99 (fun qm49 rr50 H hP hD hS => ?_)
  obtain ⟨kp51, L53, E52, hP, hD, hT, hx54, hmqm49, hkqm49, hqqm49, hnqm49, hrqm49, hiqm49⟩ := tw_absg (ko := 313) (kr := 323) (cA := cs 4) (cy := cs 0) (z := (252, .inl (fun _ => 0))) (N := 10) (r := rr50) (q := qm49) hP hD hT (by decide) rfl rfl rfl rfl (fun _ _ => ⟨by decide, rfl, rfl, (fun _ _ => (show ((-1) : Int) ≤ ((0 : Int32)).toInt ∧ ((0 : Int32)).toInt ≤ 9 from by decide))⟩)
  have hnqm49 : qm49 ∉ L0 := fun z => hnqm49 (hex _ z).1
  have hex : ∀ a : Nat, a ∈ L0 → a ∈ L53 ∧ kp51 a = kp0 a ∧ E52 a = E0 a := fun a h => ⟨(hx54 a (hex a h).1).1, ((hx54 a (hex a h).1).2.1).trans (hex a h).2.1, ((hx54 a (hex a h).1).2.2).trans (hex a h).2.2⟩
  have hvqa1 := (hx54 qa1 hmqa1).2
  have hmqa1 : qa1 ∈ L53 := (hx54 qa1 hmqa1).1
  have hkqa1 : kp51 qa1 = 300 := (hvqa1.1).trans hkqa1
  have hvqa6 := (hx54 qa6 hmqa6).2
  have hmqa6 : qa6 ∈ L53 := (hx54 qa6 hmqa6).1
  have hkqa6 : kp51 qa6 = 301 := (hvqa6.1).trans hkqa6
  have hvqa11 := (hx54 qa11 hmqa11).2
  have hmqa11 : qa11 ∈ L53 := (hx54 qa11 hmqa11).1
  have hkqa11 : kp51 qa11 = 302 := (hvqa11.1).trans hkqa11
  have hvqa16 := (hx54 qa16 hmqa16).2
  have hmqa16 : qa16 ∈ L53 := (hx54 qa16 hmqa16).1
  have hkqa16 : kp51 qa16 = 303 := (hvqa16.1).trans hkqa16
  have hvqa21 := (hx54 qa21 hmqa21).2
  have hmqa21 : qa21 ∈ L53 := (hx54 qa21 hmqa21).1
  have hkqa21 : kp51 qa21 = 304 := (hvqa21.1).trans hkqa21
  have hvqa26 := (hx54 qa26 hmqa26).2
  have hmqa26 : qa26 ∈ L53 := (hx54 qa26 hmqa26).1
  have hkqa26 : kp51 qa26 = 305 := (hvqa26.1).trans hkqa26
  have hvqm31 := (hx54 qm31 hmqm31).2
  have hmqm31 : qm31 ∈ L53 := (hx54 qm31 hmqm31).1
  have hkqm31 : kp51 qm31 = 310 := (hvqm31.1).trans hkqm31
  have hvqm37 := (hx54 qm37 hmqm37).2
  have hmqm37 : qm37 ∈ L53 := (hx54 qm37 hmqm37).1
  have hkqm37 : kp51 qm37 = 311 := (hvqm37.1).trans hkqm37
  have hvqm43 := (hx54 qm43 hmqm43).2
  have hmqm43 : qm43 ∈ L53 := (hx54 qm43 hmqm43).1
  have hkqm43 : kp51 qm43 = 312 := (hvqm43.1).trans hkqm43
  have hqqm31 : E52 qm31 = gd_out (cs 4) 10 rr32 := (hvqm31.2).trans hqqm31
  have hqqm37 : E52 qm37 = gd_out (cs 4) 10 rr38 := (hvqm37.2).trans hqqm37
  refine va_putF (D := D) (ci := 12) (v := .ref qm49) (ty := .array (.array .int)) (C := RX12) (T := TX12) (N := 64) hx hb hB cx_inX12 tyX12 tyX12_ok nmX12 hown hK hP hD hS 0 rfl rfl 13 (by decide) (hB _ cw_1206) (fun _ h9 => h9) rfl hnm rfl (by decide +kernel) rfl rfl (Nat.le_of_ble_eq_true rfl) dX12_init_103 (fun H locs hP hD hS => ?_)
  have hP : va_P D vwCl ([(o, .inr (12, [.ref qa1, .int 0, .int 0, .int 0, .int 0, .ref qa6, .ref qa11, .ref qa16, .ref qa21, .ref qa26, .ref qm31, .ref qm37, .ref qm43, .ref qm49, .int 0, .int 0, .null, .null, .null, .null, .null, .null, .null, .null, .null, .null, .int 0, .int 0, .int 0, .int 0, .null, .null, .null, .null, .null, .null, .null, .null, .null, .null, .null, .null, .null, .null, .null, .null, .null, .null, .null, .null, .int 0, .int 0, .int 0, .null, .null, .null, .null, .int 0, .int 0, .null, .null, .null, .null, .int 0]))] ++ va_pl L53 E52) H := hP
  have hD : va_D A ([(o, .inr (12, [.ref qa1, .int 0, .int 0, .int 0, .int 0, .ref qa6, .ref qa11, .ref qa16, .ref qa21, .ref qa26, .ref qm31, .ref qm37, .ref qm43, .ref qm49, .int 0, .int 0, .null, .null, .null, .null, .null, .null, .null, .null, .null, .null, .int 0, .int 0, .int 0, .int 0, .null, .null, .null, .null, .null, .null, .null, .null, .null, .null, .null, .null, .null, .null, .null, .null, .null, .null, .null, .null, .int 0, .int 0, .int 0, .null, .null, .null, .null, .int 0, .int 0, .null, .null, .null, .null, .int 0]))] ++ va_pl L53 E52) := hD
  refine lv_aload_n hx hb dX12_init_106 rfl (lv_at hl 0 rfl) ?_
  refine lv_bipush (v := 16) hx hb dX12_init_107 (by decide) ?_
  refine lv_sipush (v := 150) hx hb dX12_init_109 (by decide) ?_
  refine cx_mna (cs := cs) (ty := .boolean) (N := 16) (K := 150) (z := (150, .inl (fun _ => 0))) hx hb hB hown cw_1189 (by decide) cw_1386 hN.2.2.2.1 (fun _ h => h) 3 5 rfl rfl hK hP hD hS hA (by decide) (by decide) (by decide) (by decide) (Nat.le_of_ble_eq_true rfl) (Nat.le_of_ble_eq_true rfl) (Nat.le_of_ble_eq_true rfl) rfl rfl (Nat.le_of_ble_eq_true rfl) (Nat.le_of_ble_eq_true rfl) (fun _ => rfl) (List.range 16) (fun j hj => List.mem_range.mp hj) (by decide) dX12_init_112 (fun qm55 rr56 H hP hD hS => ?_)
  obtain ⟨kp57, L59, E58, hP, hD, hT, hx60, hmqm55, hkqm55, hqqm55, hnqm55, hrqm55, hiqm55⟩ := tw_absg (ko := 316) (kr := 326) (cA := cs 5) (cy := cs 3) (z := (150, .inl (fun _ => 0))) (N := 16) (r := rr56) (q := qm55) hP hD hT (by decide) rfl rfl rfl rfl (fun _ _ => ⟨by decide, rfl, rfl, (fun _ _ => (show (0 : Int) ≤ ((0 : Int32)).toInt ∧ ((0 : Int32)).toInt ≤ 1 from by decide))⟩)
  have hnqm55 : qm55 ∉ L0 := fun z => hnqm55 (hex _ z).1
  have hex : ∀ a : Nat, a ∈ L0 → a ∈ L59 ∧ kp57 a = kp0 a ∧ E58 a = E0 a := fun a h => ⟨(hx60 a (hex a h).1).1, ((hx60 a (hex a h).1).2.1).trans (hex a h).2.1, ((hx60 a (hex a h).1).2.2).trans (hex a h).2.2⟩
  have hvqa1 := (hx60 qa1 hmqa1).2
  have hmqa1 : qa1 ∈ L59 := (hx60 qa1 hmqa1).1
  have hkqa1 : kp57 qa1 = 300 := (hvqa1.1).trans hkqa1
  have hvqa6 := (hx60 qa6 hmqa6).2
  have hmqa6 : qa6 ∈ L59 := (hx60 qa6 hmqa6).1
  have hkqa6 : kp57 qa6 = 301 := (hvqa6.1).trans hkqa6
  have hvqa11 := (hx60 qa11 hmqa11).2
  have hmqa11 : qa11 ∈ L59 := (hx60 qa11 hmqa11).1
  have hkqa11 : kp57 qa11 = 302 := (hvqa11.1).trans hkqa11
  have hvqa16 := (hx60 qa16 hmqa16).2
  have hmqa16 : qa16 ∈ L59 := (hx60 qa16 hmqa16).1
  have hkqa16 : kp57 qa16 = 303 := (hvqa16.1).trans hkqa16
  have hvqa21 := (hx60 qa21 hmqa21).2
  have hmqa21 : qa21 ∈ L59 := (hx60 qa21 hmqa21).1
  have hkqa21 : kp57 qa21 = 304 := (hvqa21.1).trans hkqa21
  have hvqa26 := (hx60 qa26 hmqa26).2
  have hmqa26 : qa26 ∈ L59 := (hx60 qa26 hmqa26).1
  have hkqa26 : kp57 qa26 = 305 := (hvqa26.1).trans hkqa26
  have hvqm31 := (hx60 qm31 hmqm31).2
  have hmqm31 : qm31 ∈ L59 := (hx60 qm31 hmqm31).1
  have hkqm31 : kp57 qm31 = 310 := (hvqm31.1).trans hkqm31
  have hvqm37 := (hx60 qm37 hmqm37).2
  have hmqm37 : qm37 ∈ L59 := (hx60 qm37 hmqm37).1
  have hkqm37 : kp57 qm37 = 311 := (hvqm37.1).trans hkqm37
  have hvqm43 := (hx60 qm43 hmqm43).2
  have hmqm43 : qm43 ∈ L59 := (hx60 qm43 hmqm43).1
  have hkqm43 : kp57 qm43 = 312 := (hvqm43.1).trans hkqm43
  have hvqm49 := (hx60 qm49 hmqm49).2
  have hmqm49 : qm49 ∈ L59 := (hx60 qm49 hmqm49).1
  have hkqm49 : kp57 qm49 = 313 := (hvqm49.1).trans hkqm49
  have hqqm31 : E58 qm31 = gd_out (cs 4) 10 rr32 := (hvqm31.2).trans hqqm31
  have hqqm37 : E58 qm37 = gd_out (cs 4) 10 rr38 := (hvqm37.2).trans hqqm37
  have hsqm55 : ∀ j : Nat, j < 16 → rr56 j ∈ L59 ∧ E58 (rr56 j) = .inl (cs 3, (150, .inl (fun _ => 0))) := fun j hj => ⟨(hrqm55 j hj).1, (hrqm55 j hj).2.2⟩
  refine va_putF (D := D) (ci := 12) (v := .ref qm55) (ty := .array (.array .boolean)) (C := RX12) (T := TX12) (N := 64) hx hb hB cx_inX12 tyX12 tyX12_ok nmX12 hown hK hP hD hS 0 rfl rfl 16 (by decide) (hB _ cw_1209) (fun _ h9 => h9) rfl hnm rfl (by decide +kernel) rfl rfl (Nat.le_of_ble_eq_true rfl) dX12_init_116 (fun H locs hP hD hS => ?_)
  have hP : va_P D vwCl ([(o, .inr (12, [.ref qa1, .int 0, .int 0, .int 0, .int 0, .ref qa6, .ref qa11, .ref qa16, .ref qa21, .ref qa26, .ref qm31, .ref qm37, .ref qm43, .ref qm49, .int 0, .int 0, .ref qm55, .null, .null, .null, .null, .null, .null, .null, .null, .null, .int 0, .int 0, .int 0, .int 0, .null, .null, .null, .null, .null, .null, .null, .null, .null, .null, .null, .null, .null, .null, .null, .null, .null, .null, .null, .null, .int 0, .int 0, .int 0, .null, .null, .null, .null, .int 0, .int 0, .null, .null, .null, .null, .int 0]))] ++ va_pl L59 E58) H := hP
  have hD : va_D A ([(o, .inr (12, [.ref qa1, .int 0, .int 0, .int 0, .int 0, .ref qa6, .ref qa11, .ref qa16, .ref qa21, .ref qa26, .ref qm31, .ref qm37, .ref qm43, .ref qm49, .int 0, .int 0, .ref qm55, .null, .null, .null, .null, .null, .null, .null, .null, .null, .int 0, .int 0, .int 0, .int 0, .null, .null, .null, .null, .null, .null, .null, .null, .null, .null, .null, .null, .null, .null, .null, .null, .null, .null, .null, .null, .int 0, .int 0, .int 0, .null, .null, .null, .null, .int 0, .int 0, .null, .null, .null, .null, .int 0]))] ++ va_pl L59 E58) := hD
  refine lv_aload_n hx hb dX12_init_119 rfl (lv_at hl 0 rfl) ?_
  refine lv_bipush (v := 16) hx hb dX12_init_120 (by decide) ?_
  refine lv_sipush (v := 150) hx hb dX12_init_122 (by decide) ?_
  refine cx_mna (cs := cs) (ty := .long) (N := 16) (K := 150) (z := (150, .inr (.inl (fun _ => 0)))) hx hb hB hown cw_1191 (by decide) cw_170 hN.2.2.2.2 (fun _ h => h) 1 6 rfl rfl hK hP hD hS hA (by decide) (by decide) (by decide) (by decide) (Nat.le_of_ble_eq_true rfl) (Nat.le_of_ble_eq_true rfl) (Nat.le_of_ble_eq_true rfl) rfl rfl (Nat.le_of_ble_eq_true rfl) (Nat.le_of_ble_eq_true rfl) (fun _ => rfl) (List.range 16) (fun j hj => List.mem_range.mp hj) (by decide) dX12_init_125 (fun qm61 rr62 H hP hD hS => ?_)
  obtain ⟨kp63, L65, E64, hP, hD, hT, hx66, hmqm61, hkqm61, hqqm61, hnqm61, hrqm61, hiqm61⟩ := tw_absg (ko := 317) (kr := 327) (cA := cs 6) (cy := cs 1) (z := (150, .inr (.inl (fun _ => 0)))) (N := 16) (r := rr62) (q := qm61) hP hD hT (by decide) rfl rfl rfl rfl (fun _ _ => ⟨by decide, rfl, rfl, trivial⟩)
  have hnqm61 : qm61 ∉ L0 := fun z => hnqm61 (hex _ z).1
  have hex : ∀ a : Nat, a ∈ L0 → a ∈ L65 ∧ kp63 a = kp0 a ∧ E64 a = E0 a := fun a h => ⟨(hx66 a (hex a h).1).1, ((hx66 a (hex a h).1).2.1).trans (hex a h).2.1, ((hx66 a (hex a h).1).2.2).trans (hex a h).2.2⟩
  have hvqa1 := (hx66 qa1 hmqa1).2
  have hmqa1 : qa1 ∈ L65 := (hx66 qa1 hmqa1).1
  have hkqa1 : kp63 qa1 = 300 := (hvqa1.1).trans hkqa1
  have hvqa6 := (hx66 qa6 hmqa6).2
  have hmqa6 : qa6 ∈ L65 := (hx66 qa6 hmqa6).1
  have hkqa6 : kp63 qa6 = 301 := (hvqa6.1).trans hkqa6
  have hvqa11 := (hx66 qa11 hmqa11).2
  have hmqa11 : qa11 ∈ L65 := (hx66 qa11 hmqa11).1
  have hkqa11 : kp63 qa11 = 302 := (hvqa11.1).trans hkqa11
  have hvqa16 := (hx66 qa16 hmqa16).2
  have hmqa16 : qa16 ∈ L65 := (hx66 qa16 hmqa16).1
  have hkqa16 : kp63 qa16 = 303 := (hvqa16.1).trans hkqa16
  have hvqa21 := (hx66 qa21 hmqa21).2
  have hmqa21 : qa21 ∈ L65 := (hx66 qa21 hmqa21).1
  have hkqa21 : kp63 qa21 = 304 := (hvqa21.1).trans hkqa21
  have hvqa26 := (hx66 qa26 hmqa26).2
  have hmqa26 : qa26 ∈ L65 := (hx66 qa26 hmqa26).1
  have hkqa26 : kp63 qa26 = 305 := (hvqa26.1).trans hkqa26
  have hvqm31 := (hx66 qm31 hmqm31).2
  have hmqm31 : qm31 ∈ L65 := (hx66 qm31 hmqm31).1
  have hkqm31 : kp63 qm31 = 310 := (hvqm31.1).trans hkqm31
  have hvqm37 := (hx66 qm37 hmqm37).2
  have hmqm37 : qm37 ∈ L65 := (hx66 qm37 hmqm37).1
  have hkqm37 : kp63 qm37 = 311 := (hvqm37.1).trans hkqm37
  have hvqm43 := (hx66 qm43 hmqm43).2
  have hmqm43 : qm43 ∈ L65 := (hx66 qm43 hmqm43).1
  have hkqm43 : kp63 qm43 = 312 := (hvqm43.1).trans hkqm43
  have hvqm49 := (hx66 qm49 hmqm49).2
  have hmqm49 : qm49 ∈ L65 := (hx66 qm49 hmqm49).1
  have hkqm49 : kp63 qm49 = 313 := (hvqm49.1).trans hkqm49
  have hvqm55 := (hx66 qm55 hmqm55).2
  have hmqm55 : qm55 ∈ L65 := (hx66 qm55 hmqm55).1
  have hkqm55 : kp63 qm55 = 316 := (hvqm55.1).trans hkqm55
  have hqqm31 : E64 qm31 = gd_out (cs 4) 10 rr32 := (hvqm31.2).trans hqqm31
  have hqqm37 : E64 qm37 = gd_out (cs 4) 10 rr38 := (hvqm37.2).trans hqqm37
  have hqqm55 : E64 qm55 = gd_out (cs 5) 16 rr56 := (hvqm55.2).trans hqqm55
  have hsqm55 : ∀ j : Nat, j < 16 → rr56 j ∈ L65 ∧ E64 (rr56 j) = .inl (cs 3, (150, .inl (fun _ => 0))) := fun j hj => ⟨(hx66 _ (hsqm55 j hj).1).1, ((hx66 _ (hsqm55 j hj).1).2.2).trans (hsqm55 j hj).2⟩
  refine va_putF (D := D) (ci := 12) (v := .ref qm61) (ty := .array (.array .long)) (C := RX12) (T := TX12) (N := 64) hx hb hB cx_inX12 tyX12 tyX12_ok nmX12 hown hK hP hD hS 0 rfl rfl 17 (by decide) (hB _ cw_1210) (fun _ h9 => h9) rfl hnm rfl (by decide +kernel) rfl rfl (Nat.le_of_ble_eq_true rfl) dX12_init_129 (fun H locs hP hD hS => ?_)
  have hP : va_P D vwCl ([(o, .inr (12, [.ref qa1, .int 0, .int 0, .int 0, .int 0, .ref qa6, .ref qa11, .ref qa16, .ref qa21, .ref qa26, .ref qm31, .ref qm37, .ref qm43, .ref qm49, .int 0, .int 0, .ref qm55, .ref qm61, .null, .null, .null, .null, .null, .null, .null, .null, .int 0, .int 0, .int 0, .int 0, .null, .null, .null, .null, .null, .null, .null, .null, .null, .null, .null, .null, .null, .null, .null, .null, .null, .null, .null, .null, .int 0, .int 0, .int 0, .null, .null, .null, .null, .int 0, .int 0, .null, .null, .null, .null, .int 0]))] ++ va_pl L65 E64) H := hP
  have hD : va_D A ([(o, .inr (12, [.ref qa1, .int 0, .int 0, .int 0, .int 0, .ref qa6, .ref qa11, .ref qa16, .ref qa21, .ref qa26, .ref qm31, .ref qm37, .ref qm43, .ref qm49, .int 0, .int 0, .ref qm55, .ref qm61, .null, .null, .null, .null, .null, .null, .null, .null, .int 0, .int 0, .int 0, .int 0, .null, .null, .null, .null, .null, .null, .null, .null, .null, .null, .null, .null, .null, .null, .null, .null, .null, .null, .null, .null, .int 0, .int 0, .int 0, .null, .null, .null, .null, .int 0, .int 0, .null, .null, .null, .null, .int 0]))] ++ va_pl L65 E64) := hD
  refine lv_aload_n hx hb dX12_init_132 rfl (lv_at hl 0 rfl) ?_
  refine lv_bipush (v := 16) hx hb dX12_init_133 (by decide) ?_
  refine lv_sipush (v := 150) hx hb dX12_init_135 (by decide) ?_
  refine cx_mna (cs := cs) (ty := .int) (N := 16) (K := 150) (z := (150, .inl (fun _ => 0))) hx hb hB hown cw_1187 (by decide) cw_59 hN.2.2.1 (fun _ h => h) 0 4 rfl rfl hK hP hD hS hA (by decide) (by decide) (by decide) (by decide) (Nat.le_of_ble_eq_true rfl) (Nat.le_of_ble_eq_true rfl) (Nat.le_of_ble_eq_true rfl) rfl rfl (Nat.le_of_ble_eq_true rfl) (Nat.le_of_ble_eq_true rfl) (fun _ => rfl) (List.range 16) (fun j hj => List.mem_range.mp hj) (by decide) dX12_init_138 (fun qm67 rr68 H hP hD hS => ?_)
  obtain ⟨kp69, L71, E70, hP, hD, hT, hx72, hmqm67, hkqm67, hqqm67, hnqm67, hrqm67, hiqm67⟩ := tw_absg (ko := 318) (kr := 328) (cA := cs 4) (cy := cs 0) (z := (150, .inl (fun _ => 0))) (N := 16) (r := rr68) (q := qm67) hP hD hT (by decide) rfl rfl rfl rfl (fun _ _ => ⟨by decide, rfl, rfl, (fun _ _ => (show ((-1) : Int) ≤ ((0 : Int32)).toInt ∧ ((0 : Int32)).toInt ≤ 149 from by decide))⟩)
  have hnqm67 : qm67 ∉ L0 := fun z => hnqm67 (hex _ z).1
  have hex : ∀ a : Nat, a ∈ L0 → a ∈ L71 ∧ kp69 a = kp0 a ∧ E70 a = E0 a := fun a h => ⟨(hx72 a (hex a h).1).1, ((hx72 a (hex a h).1).2.1).trans (hex a h).2.1, ((hx72 a (hex a h).1).2.2).trans (hex a h).2.2⟩
  have hvqa1 := (hx72 qa1 hmqa1).2
  have hmqa1 : qa1 ∈ L71 := (hx72 qa1 hmqa1).1
  have hkqa1 : kp69 qa1 = 300 := (hvqa1.1).trans hkqa1
  have hvqa6 := (hx72 qa6 hmqa6).2
  have hmqa6 : qa6 ∈ L71 := (hx72 qa6 hmqa6).1
  have hkqa6 : kp69 qa6 = 301 := (hvqa6.1).trans hkqa6
  have hvqa11 := (hx72 qa11 hmqa11).2
  have hmqa11 : qa11 ∈ L71 := (hx72 qa11 hmqa11).1
  have hkqa11 : kp69 qa11 = 302 := (hvqa11.1).trans hkqa11
  have hvqa16 := (hx72 qa16 hmqa16).2
  have hmqa16 : qa16 ∈ L71 := (hx72 qa16 hmqa16).1
  have hkqa16 : kp69 qa16 = 303 := (hvqa16.1).trans hkqa16
  have hvqa21 := (hx72 qa21 hmqa21).2
  have hmqa21 : qa21 ∈ L71 := (hx72 qa21 hmqa21).1
  have hkqa21 : kp69 qa21 = 304 := (hvqa21.1).trans hkqa21
  have hvqa26 := (hx72 qa26 hmqa26).2
  have hmqa26 : qa26 ∈ L71 := (hx72 qa26 hmqa26).1
  have hkqa26 : kp69 qa26 = 305 := (hvqa26.1).trans hkqa26
  have hvqm31 := (hx72 qm31 hmqm31).2
  have hmqm31 : qm31 ∈ L71 := (hx72 qm31 hmqm31).1
  have hkqm31 : kp69 qm31 = 310 := (hvqm31.1).trans hkqm31
  have hvqm37 := (hx72 qm37 hmqm37).2
  have hmqm37 : qm37 ∈ L71 := (hx72 qm37 hmqm37).1
  have hkqm37 : kp69 qm37 = 311 := (hvqm37.1).trans hkqm37
  have hvqm43 := (hx72 qm43 hmqm43).2
  have hmqm43 : qm43 ∈ L71 := (hx72 qm43 hmqm43).1
  have hkqm43 : kp69 qm43 = 312 := (hvqm43.1).trans hkqm43
  have hvqm49 := (hx72 qm49 hmqm49).2
  have hmqm49 : qm49 ∈ L71 := (hx72 qm49 hmqm49).1
  have hkqm49 : kp69 qm49 = 313 := (hvqm49.1).trans hkqm49
  have hvqm55 := (hx72 qm55 hmqm55).2
  have hmqm55 : qm55 ∈ L71 := (hx72 qm55 hmqm55).1
  have hkqm55 : kp69 qm55 = 316 := (hvqm55.1).trans hkqm55
  have hvqm61 := (hx72 qm61 hmqm61).2
  have hmqm61 : qm61 ∈ L71 := (hx72 qm61 hmqm61).1
  have hkqm61 : kp69 qm61 = 317 := (hvqm61.1).trans hkqm61
  have hqqm31 : E70 qm31 = gd_out (cs 4) 10 rr32 := (hvqm31.2).trans hqqm31
  have hqqm37 : E70 qm37 = gd_out (cs 4) 10 rr38 := (hvqm37.2).trans hqqm37
  have hqqm55 : E70 qm55 = gd_out (cs 5) 16 rr56 := (hvqm55.2).trans hqqm55
  have hsqm55 : ∀ j : Nat, j < 16 → rr56 j ∈ L71 ∧ E70 (rr56 j) = .inl (cs 3, (150, .inl (fun _ => 0))) := fun j hj => ⟨(hx72 _ (hsqm55 j hj).1).1, ((hx72 _ (hsqm55 j hj).1).2.2).trans (hsqm55 j hj).2⟩
  refine va_putF (D := D) (ci := 12) (v := .ref qm67) (ty := .array (.array .int)) (C := RX12) (T := TX12) (N := 64) hx hb hB cx_inX12 tyX12 tyX12_ok nmX12 hown hK hP hD hS 0 rfl rfl 18 (by decide) (hB _ cw_1211) (fun _ h9 => h9) rfl hnm rfl (by decide +kernel) rfl rfl (Nat.le_of_ble_eq_true rfl) dX12_init_142 (fun H locs hP hD hS => ?_)
  have hP : va_P D vwCl ([(o, .inr (12, [.ref qa1, .int 0, .int 0, .int 0, .int 0, .ref qa6, .ref qa11, .ref qa16, .ref qa21, .ref qa26, .ref qm31, .ref qm37, .ref qm43, .ref qm49, .int 0, .int 0, .ref qm55, .ref qm61, .ref qm67, .null, .null, .null, .null, .null, .null, .null, .int 0, .int 0, .int 0, .int 0, .null, .null, .null, .null, .null, .null, .null, .null, .null, .null, .null, .null, .null, .null, .null, .null, .null, .null, .null, .null, .int 0, .int 0, .int 0, .null, .null, .null, .null, .int 0, .int 0, .null, .null, .null, .null, .int 0]))] ++ va_pl L71 E70) H := hP
  have hD : va_D A ([(o, .inr (12, [.ref qa1, .int 0, .int 0, .int 0, .int 0, .ref qa6, .ref qa11, .ref qa16, .ref qa21, .ref qa26, .ref qm31, .ref qm37, .ref qm43, .ref qm49, .int 0, .int 0, .ref qm55, .ref qm61, .ref qm67, .null, .null, .null, .null, .null, .null, .null, .int 0, .int 0, .int 0, .int 0, .null, .null, .null, .null, .null, .null, .null, .null, .null, .null, .null, .null, .null, .null, .null, .null, .null, .null, .null, .null, .int 0, .int 0, .int 0, .null, .null, .null, .null, .int 0, .int 0, .null, .null, .null, .null, .int 0]))] ++ va_pl L71 E70) := hD
  refine lv_aload_n hx hb dX12_init_145 rfl (lv_at hl 0 rfl) ?_
  refine lv_bipush (v := 16) hx hb dX12_init_146 (by decide) ?_
  refine lv_sipush (v := 150) hx hb dX12_init_148 (by decide) ?_
  refine cx_mna (cs := cs) (ty := .int) (N := 16) (K := 150) (z := (150, .inl (fun _ => 0))) hx hb hB hown cw_1187 (by decide) cw_59 hN.2.2.1 (fun _ h => h) 0 4 rfl rfl hK hP hD hS hA (by decide) (by decide) (by decide) (by decide) (Nat.le_of_ble_eq_true rfl) (Nat.le_of_ble_eq_true rfl) (Nat.le_of_ble_eq_true rfl) rfl rfl (Nat.le_of_ble_eq_true rfl) (Nat.le_of_ble_eq_true rfl) (fun _ => rfl) (List.range 16) (fun j hj => List.mem_range.mp hj) (by decide) dX12_init_151 (fun qm73 rr74 H hP hD hS => ?_)
  obtain ⟨kp75, L77, E76, hP, hD, hT, hx78, hmqm73, hkqm73, hqqm73, hnqm73, hrqm73, hiqm73⟩ := tw_absg (ko := 319) (kr := 329) (cA := cs 4) (cy := cs 0) (z := (150, .inl (fun _ => 0))) (N := 16) (r := rr74) (q := qm73) hP hD hT (by decide) rfl rfl rfl rfl (fun _ _ => ⟨by decide, rfl, rfl, (fun _ _ => (show ((-2147483648) : Int) ≤ ((0 : Int32)).toInt ∧ ((0 : Int32)).toInt ≤ 2147483647 from by decide))⟩)
  have hnqm73 : qm73 ∉ L0 := fun z => hnqm73 (hex _ z).1
  have hex : ∀ a : Nat, a ∈ L0 → a ∈ L77 ∧ kp75 a = kp0 a ∧ E76 a = E0 a := fun a h => ⟨(hx78 a (hex a h).1).1, ((hx78 a (hex a h).1).2.1).trans (hex a h).2.1, ((hx78 a (hex a h).1).2.2).trans (hex a h).2.2⟩
  have hvqa1 := (hx78 qa1 hmqa1).2
  have hmqa1 : qa1 ∈ L77 := (hx78 qa1 hmqa1).1
  have hkqa1 : kp75 qa1 = 300 := (hvqa1.1).trans hkqa1
  have hvqa6 := (hx78 qa6 hmqa6).2
  have hmqa6 : qa6 ∈ L77 := (hx78 qa6 hmqa6).1
  have hkqa6 : kp75 qa6 = 301 := (hvqa6.1).trans hkqa6
  have hvqa11 := (hx78 qa11 hmqa11).2
  have hmqa11 : qa11 ∈ L77 := (hx78 qa11 hmqa11).1
  have hkqa11 : kp75 qa11 = 302 := (hvqa11.1).trans hkqa11
  have hvqa16 := (hx78 qa16 hmqa16).2
  have hmqa16 : qa16 ∈ L77 := (hx78 qa16 hmqa16).1
  have hkqa16 : kp75 qa16 = 303 := (hvqa16.1).trans hkqa16
  have hvqa21 := (hx78 qa21 hmqa21).2
  have hmqa21 : qa21 ∈ L77 := (hx78 qa21 hmqa21).1
  have hkqa21 : kp75 qa21 = 304 := (hvqa21.1).trans hkqa21
  have hvqa26 := (hx78 qa26 hmqa26).2
  have hmqa26 : qa26 ∈ L77 := (hx78 qa26 hmqa26).1
  have hkqa26 : kp75 qa26 = 305 := (hvqa26.1).trans hkqa26
  have hvqm31 := (hx78 qm31 hmqm31).2
  have hmqm31 : qm31 ∈ L77 := (hx78 qm31 hmqm31).1
  have hkqm31 : kp75 qm31 = 310 := (hvqm31.1).trans hkqm31
  have hvqm37 := (hx78 qm37 hmqm37).2
  have hmqm37 : qm37 ∈ L77 := (hx78 qm37 hmqm37).1
  have hkqm37 : kp75 qm37 = 311 := (hvqm37.1).trans hkqm37
  have hvqm43 := (hx78 qm43 hmqm43).2
  have hmqm43 : qm43 ∈ L77 := (hx78 qm43 hmqm43).1
  have hkqm43 : kp75 qm43 = 312 := (hvqm43.1).trans hkqm43
  have hvqm49 := (hx78 qm49 hmqm49).2
  have hmqm49 : qm49 ∈ L77 := (hx78 qm49 hmqm49).1
  have hkqm49 : kp75 qm49 = 313 := (hvqm49.1).trans hkqm49
  have hvqm55 := (hx78 qm55 hmqm55).2
  have hmqm55 : qm55 ∈ L77 := (hx78 qm55 hmqm55).1
  have hkqm55 : kp75 qm55 = 316 := (hvqm55.1).trans hkqm55
  have hvqm61 := (hx78 qm61 hmqm61).2
  have hmqm61 : qm61 ∈ L77 := (hx78 qm61 hmqm61).1
  have hkqm61 : kp75 qm61 = 317 := (hvqm61.1).trans hkqm61
  have hvqm67 := (hx78 qm67 hmqm67).2
  have hmqm67 : qm67 ∈ L77 := (hx78 qm67 hmqm67).1
  have hkqm67 : kp75 qm67 = 318 := (hvqm67.1).trans hkqm67
  have hqqm31 : E76 qm31 = gd_out (cs 4) 10 rr32 := (hvqm31.2).trans hqqm31
  have hqqm37 : E76 qm37 = gd_out (cs 4) 10 rr38 := (hvqm37.2).trans hqqm37
  have hqqm55 : E76 qm55 = gd_out (cs 5) 16 rr56 := (hvqm55.2).trans hqqm55
  have hqqm67 : E76 qm67 = gd_out (cs 4) 16 rr68 := (hvqm67.2).trans hqqm67
  have hsqm55 : ∀ j : Nat, j < 16 → rr56 j ∈ L77 ∧ E76 (rr56 j) = .inl (cs 3, (150, .inl (fun _ => 0))) := fun j hj => ⟨(hx78 _ (hsqm55 j hj).1).1, ((hx78 _ (hsqm55 j hj).1).2.2).trans (hsqm55 j hj).2⟩
  refine va_putF (D := D) (ci := 12) (v := .ref qm73) (ty := .array (.array .int)) (C := RX12) (T := TX12) (N := 64) hx hb hB cx_inX12 tyX12 tyX12_ok nmX12 hown hK hP hD hS 0 rfl rfl 19 (by decide) (hB _ cw_1212) (fun _ h9 => h9) rfl hnm rfl (by decide +kernel) rfl rfl (Nat.le_of_ble_eq_true rfl) dX12_init_155 (fun H locs hP hD hS => ?_)
  have hP : va_P D vwCl ([(o, .inr (12, [.ref qa1, .int 0, .int 0, .int 0, .int 0, .ref qa6, .ref qa11, .ref qa16, .ref qa21, .ref qa26, .ref qm31, .ref qm37, .ref qm43, .ref qm49, .int 0, .int 0, .ref qm55, .ref qm61, .ref qm67, .ref qm73, .null, .null, .null, .null, .null, .null, .int 0, .int 0, .int 0, .int 0, .null, .null, .null, .null, .null, .null, .null, .null, .null, .null, .null, .null, .null, .null, .null, .null, .null, .null, .null, .null, .int 0, .int 0, .int 0, .null, .null, .null, .null, .int 0, .int 0, .null, .null, .null, .null, .int 0]))] ++ va_pl L77 E76) H := hP
  have hD : va_D A ([(o, .inr (12, [.ref qa1, .int 0, .int 0, .int 0, .int 0, .ref qa6, .ref qa11, .ref qa16, .ref qa21, .ref qa26, .ref qm31, .ref qm37, .ref qm43, .ref qm49, .int 0, .int 0, .ref qm55, .ref qm61, .ref qm67, .ref qm73, .null, .null, .null, .null, .null, .null, .int 0, .int 0, .int 0, .int 0, .null, .null, .null, .null, .null, .null, .null, .null, .null, .null, .null, .null, .null, .null, .null, .null, .null, .null, .null, .null, .int 0, .int 0, .int 0, .null, .null, .null, .null, .int 0, .int 0, .null, .null, .null, .null, .int 0]))] ++ va_pl L77 E76) := hD
  refine lv_aload_n hx hb dX12_init_158 rfl (lv_at hl 0 rfl) ?_
  refine lv_sipush (v := 150) hx hb dX12_init_159 (by decide) ?_
  refine cx_newa (cs := cs) (atype := .int) (ty := .int) (a0 := (150, .inl (fun _ => 0))) hx hb hB cw_59 rfl cx_ra_int 0 rfl hK hP hD hS hA (fun _ => rfl) (by decide) (by decide) (Nat.le_of_ble_eq_true rfl) (Nat.le_of_ble_eq_true rfl) (Nat.le_of_ble_eq_true rfl) dX12_init_162 (fun qa79 H hP hD hS => ?_)
  obtain ⟨kp80, E81, hP, hD, hT, hx83, hkqa79, hqqa79, hnqa79⟩ := tw_abs (k := 330) hP hD hT (fun _ _ _ => ⟨by decide, rfl, rfl, (fun _ _ => (show (0 : Int) ≤ ((0 : Int32)).toInt ∧ ((0 : Int32)).toInt ≤ 9 from by decide))⟩)
  obtain ⟨L82, hL⟩ : ∃ z, z = L77 ++ [qa79] := ⟨_, rfl⟩
  have hmqa79 : qa79 ∈ L82 := by rw [hL]; simp
  rw [← hL] at hP hD hT hx83
  have hnqa79 : qa79 ∉ L0 := fun z => hnqa79 (hex _ z).1
  have hex : ∀ a : Nat, a ∈ L0 → a ∈ L82 ∧ kp80 a = kp0 a ∧ E81 a = E0 a := fun a h => ⟨(hx83 a (hex a h).1).1, ((hx83 a (hex a h).1).2.1).trans (hex a h).2.1, ((hx83 a (hex a h).1).2.2).trans (hex a h).2.2⟩
  have hvqa1 := (hx83 qa1 hmqa1).2
  have hmqa1 : qa1 ∈ L82 := (hx83 qa1 hmqa1).1
  have hkqa1 : kp80 qa1 = 300 := (hvqa1.1).trans hkqa1
  have hvqa6 := (hx83 qa6 hmqa6).2
  have hmqa6 : qa6 ∈ L82 := (hx83 qa6 hmqa6).1
  have hkqa6 : kp80 qa6 = 301 := (hvqa6.1).trans hkqa6
  have hvqa11 := (hx83 qa11 hmqa11).2
  have hmqa11 : qa11 ∈ L82 := (hx83 qa11 hmqa11).1
  have hkqa11 : kp80 qa11 = 302 := (hvqa11.1).trans hkqa11
  have hvqa16 := (hx83 qa16 hmqa16).2
  have hmqa16 : qa16 ∈ L82 := (hx83 qa16 hmqa16).1
  have hkqa16 : kp80 qa16 = 303 := (hvqa16.1).trans hkqa16
  have hvqa21 := (hx83 qa21 hmqa21).2
  have hmqa21 : qa21 ∈ L82 := (hx83 qa21 hmqa21).1
  have hkqa21 : kp80 qa21 = 304 := (hvqa21.1).trans hkqa21
  have hvqa26 := (hx83 qa26 hmqa26).2
  have hmqa26 : qa26 ∈ L82 := (hx83 qa26 hmqa26).1
  have hkqa26 : kp80 qa26 = 305 := (hvqa26.1).trans hkqa26
  have hvqm31 := (hx83 qm31 hmqm31).2
  have hmqm31 : qm31 ∈ L82 := (hx83 qm31 hmqm31).1
  have hkqm31 : kp80 qm31 = 310 := (hvqm31.1).trans hkqm31
  have hvqm37 := (hx83 qm37 hmqm37).2
  have hmqm37 : qm37 ∈ L82 := (hx83 qm37 hmqm37).1
  have hkqm37 : kp80 qm37 = 311 := (hvqm37.1).trans hkqm37
  have hvqm43 := (hx83 qm43 hmqm43).2
  have hmqm43 : qm43 ∈ L82 := (hx83 qm43 hmqm43).1
  have hkqm43 : kp80 qm43 = 312 := (hvqm43.1).trans hkqm43
  have hvqm49 := (hx83 qm49 hmqm49).2
  have hmqm49 : qm49 ∈ L82 := (hx83 qm49 hmqm49).1
  have hkqm49 : kp80 qm49 = 313 := (hvqm49.1).trans hkqm49
  have hvqm55 := (hx83 qm55 hmqm55).2
  have hmqm55 : qm55 ∈ L82 := (hx83 qm55 hmqm55).1
  have hkqm55 : kp80 qm55 = 316 := (hvqm55.1).trans hkqm55
  have hvqm61 := (hx83 qm61 hmqm61).2
  have hmqm61 : qm61 ∈ L82 := (hx83 qm61 hmqm61).1
  have hkqm61 : kp80 qm61 = 317 := (hvqm61.1).trans hkqm61
  have hvqm67 := (hx83 qm67 hmqm67).2
  have hmqm67 : qm67 ∈ L82 := (hx83 qm67 hmqm67).1
  have hkqm67 : kp80 qm67 = 318 := (hvqm67.1).trans hkqm67
  have hvqm73 := (hx83 qm73 hmqm73).2
  have hmqm73 : qm73 ∈ L82 := (hx83 qm73 hmqm73).1
  have hkqm73 : kp80 qm73 = 319 := (hvqm73.1).trans hkqm73
  have hqqm31 : E81 qm31 = gd_out (cs 4) 10 rr32 := (hvqm31.2).trans hqqm31
  have hqqm37 : E81 qm37 = gd_out (cs 4) 10 rr38 := (hvqm37.2).trans hqqm37
  have hqqm55 : E81 qm55 = gd_out (cs 5) 16 rr56 := (hvqm55.2).trans hqqm55
  have hqqm67 : E81 qm67 = gd_out (cs 4) 16 rr68 := (hvqm67.2).trans hqqm67
  have hsqm55 : ∀ j : Nat, j < 16 → rr56 j ∈ L82 ∧ E81 (rr56 j) = .inl (cs 3, (150, .inl (fun _ => 0))) := fun j hj => ⟨(hx83 _ (hsqm55 j hj).1).1, ((hx83 _ (hsqm55 j hj).1).2.2).trans (hsqm55 j hj).2⟩
  refine va_putF (D := D) (ci := 12) (v := .ref qa79) (ty := .array .int) (C := RX12) (T := TX12) (N := 64) hx hb hB cx_inX12 tyX12 tyX12_ok nmX12 hown hK hP hD hS 0 rfl rfl 20 (by decide) (hB _ cw_1213) (fun _ h9 => h9) rfl hnm rfl (by decide +kernel) rfl rfl (Nat.le_of_ble_eq_true rfl) dX12_init_164 (fun H locs hP hD hS => ?_)
  have hP : va_P D vwCl ([(o, .inr (12, [.ref qa1, .int 0, .int 0, .int 0, .int 0, .ref qa6, .ref qa11, .ref qa16, .ref qa21, .ref qa26, .ref qm31, .ref qm37, .ref qm43, .ref qm49, .int 0, .int 0, .ref qm55, .ref qm61, .ref qm67, .ref qm73, .ref qa79, .null, .null, .null, .null, .null, .int 0, .int 0, .int 0, .int 0, .null, .null, .null, .null, .null, .null, .null, .null, .null, .null, .null, .null, .null, .null, .null, .null, .null, .null, .null, .null, .int 0, .int 0, .int 0, .null, .null, .null, .null, .int 0, .int 0, .null, .null, .null, .null, .int 0]))] ++ va_pl L82 E81) H := hP
  have hD : va_D A ([(o, .inr (12, [.ref qa1, .int 0, .int 0, .int 0, .int 0, .ref qa6, .ref qa11, .ref qa16, .ref qa21, .ref qa26, .ref qm31, .ref qm37, .ref qm43, .ref qm49, .int 0, .int 0, .ref qm55, .ref qm61, .ref qm67, .ref qm73, .ref qa79, .null, .null, .null, .null, .null, .int 0, .int 0, .int 0, .int 0, .null, .null, .null, .null, .null, .null, .null, .null, .null, .null, .null, .null, .null, .null, .null, .null, .null, .null, .null, .null, .int 0, .int 0, .int 0, .null, .null, .null, .null, .int 0, .int 0, .null, .null, .null, .null, .int 0]))] ++ va_pl L82 E81) := hD
  refine lv_aload_n hx hb dX12_init_167 rfl (lv_at hl 0 rfl) ?_
  refine lv_sipush (v := 150) hx hb dX12_init_168 (by decide) ?_
  refine cx_newa (cs := cs) (atype := .int) (ty := .int) (a0 := (150, .inl (fun _ => 0))) hx hb hB cw_59 rfl cx_ra_int 0 rfl hK hP hD hS hA (fun _ => rfl) (by decide) (by decide) (Nat.le_of_ble_eq_true rfl) (Nat.le_of_ble_eq_true rfl) (Nat.le_of_ble_eq_true rfl) dX12_init_171 (fun qa84 H hP hD hS => ?_)
  obtain ⟨kp85, E86, hP, hD, hT, hx88, hkqa84, hqqa84, hnqa84⟩ := tw_abs (k := 331) hP hD hT (fun _ _ _ => ⟨by decide, rfl, rfl, (fun _ _ => (show ((-1) : Int) ≤ ((0 : Int32)).toInt ∧ ((0 : Int32)).toInt ≤ 12 from by decide))⟩)
  obtain ⟨L87, hL⟩ : ∃ z, z = L82 ++ [qa84] := ⟨_, rfl⟩
  have hmqa84 : qa84 ∈ L87 := by rw [hL]; simp
  rw [← hL] at hP hD hT hx88
  have hnqa84 : qa84 ∉ L0 := fun z => hnqa84 (hex _ z).1
  have hex : ∀ a : Nat, a ∈ L0 → a ∈ L87 ∧ kp85 a = kp0 a ∧ E86 a = E0 a := fun a h => ⟨(hx88 a (hex a h).1).1, ((hx88 a (hex a h).1).2.1).trans (hex a h).2.1, ((hx88 a (hex a h).1).2.2).trans (hex a h).2.2⟩
  have hvqa1 := (hx88 qa1 hmqa1).2
  have hmqa1 : qa1 ∈ L87 := (hx88 qa1 hmqa1).1
  have hkqa1 : kp85 qa1 = 300 := (hvqa1.1).trans hkqa1
  have hvqa6 := (hx88 qa6 hmqa6).2
  have hmqa6 : qa6 ∈ L87 := (hx88 qa6 hmqa6).1
  have hkqa6 : kp85 qa6 = 301 := (hvqa6.1).trans hkqa6
  have hvqa11 := (hx88 qa11 hmqa11).2
  have hmqa11 : qa11 ∈ L87 := (hx88 qa11 hmqa11).1
  have hkqa11 : kp85 qa11 = 302 := (hvqa11.1).trans hkqa11
  have hvqa16 := (hx88 qa16 hmqa16).2
  have hmqa16 : qa16 ∈ L87 := (hx88 qa16 hmqa16).1
  have hkqa16 : kp85 qa16 = 303 := (hvqa16.1).trans hkqa16
  have hvqa21 := (hx88 qa21 hmqa21).2
  have hmqa21 : qa21 ∈ L87 := (hx88 qa21 hmqa21).1
  have hkqa21 : kp85 qa21 = 304 := (hvqa21.1).trans hkqa21
  have hvqa26 := (hx88 qa26 hmqa26).2
  have hmqa26 : qa26 ∈ L87 := (hx88 qa26 hmqa26).1
  have hkqa26 : kp85 qa26 = 305 := (hvqa26.1).trans hkqa26
  have hvqm31 := (hx88 qm31 hmqm31).2
  have hmqm31 : qm31 ∈ L87 := (hx88 qm31 hmqm31).1
  have hkqm31 : kp85 qm31 = 310 := (hvqm31.1).trans hkqm31
  have hvqm37 := (hx88 qm37 hmqm37).2
  have hmqm37 : qm37 ∈ L87 := (hx88 qm37 hmqm37).1
  have hkqm37 : kp85 qm37 = 311 := (hvqm37.1).trans hkqm37
  have hvqm43 := (hx88 qm43 hmqm43).2
  have hmqm43 : qm43 ∈ L87 := (hx88 qm43 hmqm43).1
  have hkqm43 : kp85 qm43 = 312 := (hvqm43.1).trans hkqm43
  have hvqm49 := (hx88 qm49 hmqm49).2
  have hmqm49 : qm49 ∈ L87 := (hx88 qm49 hmqm49).1
  have hkqm49 : kp85 qm49 = 313 := (hvqm49.1).trans hkqm49
  have hvqm55 := (hx88 qm55 hmqm55).2
  have hmqm55 : qm55 ∈ L87 := (hx88 qm55 hmqm55).1
  have hkqm55 : kp85 qm55 = 316 := (hvqm55.1).trans hkqm55
  have hvqm61 := (hx88 qm61 hmqm61).2
  have hmqm61 : qm61 ∈ L87 := (hx88 qm61 hmqm61).1
  have hkqm61 : kp85 qm61 = 317 := (hvqm61.1).trans hkqm61
  have hvqm67 := (hx88 qm67 hmqm67).2
  have hmqm67 : qm67 ∈ L87 := (hx88 qm67 hmqm67).1
  have hkqm67 : kp85 qm67 = 318 := (hvqm67.1).trans hkqm67
  have hvqm73 := (hx88 qm73 hmqm73).2
  have hmqm73 : qm73 ∈ L87 := (hx88 qm73 hmqm73).1
  have hkqm73 : kp85 qm73 = 319 := (hvqm73.1).trans hkqm73
  have hvqa79 := (hx88 qa79 hmqa79).2
  have hmqa79 : qa79 ∈ L87 := (hx88 qa79 hmqa79).1
  have hkqa79 : kp85 qa79 = 330 := (hvqa79.1).trans hkqa79
  have hqqm31 : E86 qm31 = gd_out (cs 4) 10 rr32 := (hvqm31.2).trans hqqm31
  have hqqm37 : E86 qm37 = gd_out (cs 4) 10 rr38 := (hvqm37.2).trans hqqm37
  have hqqm55 : E86 qm55 = gd_out (cs 5) 16 rr56 := (hvqm55.2).trans hqqm55
  have hqqm67 : E86 qm67 = gd_out (cs 4) 16 rr68 := (hvqm67.2).trans hqqm67
  have hsqm55 : ∀ j : Nat, j < 16 → rr56 j ∈ L87 ∧ E86 (rr56 j) = .inl (cs 3, (150, .inl (fun _ => 0))) := fun j hj => ⟨(hx88 _ (hsqm55 j hj).1).1, ((hx88 _ (hsqm55 j hj).1).2.2).trans (hsqm55 j hj).2⟩
  refine va_putF (D := D) (ci := 12) (v := .ref qa84) (ty := .array .int) (C := RX12) (T := TX12) (N := 64) hx hb hB cx_inX12 tyX12 tyX12_ok nmX12 hown hK hP hD hS 0 rfl rfl 21 (by decide) (hB _ cw_1214) (fun _ h9 => h9) rfl hnm rfl (by decide +kernel) rfl rfl (Nat.le_of_ble_eq_true rfl) dX12_init_173 (fun H locs hP hD hS => ?_)
  have hP : va_P D vwCl ([(o, .inr (12, [.ref qa1, .int 0, .int 0, .int 0, .int 0, .ref qa6, .ref qa11, .ref qa16, .ref qa21, .ref qa26, .ref qm31, .ref qm37, .ref qm43, .ref qm49, .int 0, .int 0, .ref qm55, .ref qm61, .ref qm67, .ref qm73, .ref qa79, .ref qa84, .null, .null, .null, .null, .int 0, .int 0, .int 0, .int 0, .null, .null, .null, .null, .null, .null, .null, .null, .null, .null, .null, .null, .null, .null, .null, .null, .null, .null, .null, .null, .int 0, .int 0, .int 0, .null, .null, .null, .null, .int 0, .int 0, .null, .null, .null, .null, .int 0]))] ++ va_pl L87 E86) H := hP
  have hD : va_D A ([(o, .inr (12, [.ref qa1, .int 0, .int 0, .int 0, .int 0, .ref qa6, .ref qa11, .ref qa16, .ref qa21, .ref qa26, .ref qm31, .ref qm37, .ref qm43, .ref qm49, .int 0, .int 0, .ref qm55, .ref qm61, .ref qm67, .ref qm73, .ref qa79, .ref qa84, .null, .null, .null, .null, .int 0, .int 0, .int 0, .int 0, .null, .null, .null, .null, .null, .null, .null, .null, .null, .null, .null, .null, .null, .null, .null, .null, .null, .null, .null, .null, .int 0, .int 0, .int 0, .null, .null, .null, .null, .int 0, .int 0, .null, .null, .null, .null, .int 0]))] ++ va_pl L87 E86) := hD
  refine lv_aload_n hx hb dX12_init_176 rfl (lv_at hl 0 rfl) ?_
  refine lv_bipush (v := 24) hx hb dX12_init_177 (by decide) ?_
  refine cx_newa (cs := cs) (atype := .int) (ty := .int) (a0 := (24, .inl (fun _ => 0))) hx hb hB cw_59 rfl cx_ra_int 0 rfl hK hP hD hS hA (fun _ => rfl) (by decide) (by decide) (Nat.le_of_ble_eq_true rfl) (Nat.le_of_ble_eq_true rfl) (Nat.le_of_ble_eq_true rfl) dX12_init_179 (fun qa89 H hP hD hS => ?_)
  obtain ⟨kp90, E91, hP, hD, hT, hx93, hkqa89, hqqa89, hnqa89⟩ := tw_abs (k := 332) hP hD hT (fun _ _ _ => ⟨by decide, rfl, rfl, (fun _ _ => (show (0 : Int) ≤ ((0 : Int32)).toInt ∧ ((0 : Int32)).toInt ≤ 9 from by decide))⟩)
  obtain ⟨L92, hL⟩ : ∃ z, z = L87 ++ [qa89] := ⟨_, rfl⟩
  have hmqa89 : qa89 ∈ L92 := by rw [hL]; simp
  rw [← hL] at hP hD hT hx93
  have hnqa89 : qa89 ∉ L0 := fun z => hnqa89 (hex _ z).1
  have hex : ∀ a : Nat, a ∈ L0 → a ∈ L92 ∧ kp90 a = kp0 a ∧ E91 a = E0 a := fun a h => ⟨(hx93 a (hex a h).1).1, ((hx93 a (hex a h).1).2.1).trans (hex a h).2.1, ((hx93 a (hex a h).1).2.2).trans (hex a h).2.2⟩
  have hvqa1 := (hx93 qa1 hmqa1).2
  have hmqa1 : qa1 ∈ L92 := (hx93 qa1 hmqa1).1
  have hkqa1 : kp90 qa1 = 300 := (hvqa1.1).trans hkqa1
  have hvqa6 := (hx93 qa6 hmqa6).2
  have hmqa6 : qa6 ∈ L92 := (hx93 qa6 hmqa6).1
  have hkqa6 : kp90 qa6 = 301 := (hvqa6.1).trans hkqa6
  have hvqa11 := (hx93 qa11 hmqa11).2
  have hmqa11 : qa11 ∈ L92 := (hx93 qa11 hmqa11).1
  have hkqa11 : kp90 qa11 = 302 := (hvqa11.1).trans hkqa11
  have hvqa16 := (hx93 qa16 hmqa16).2
  have hmqa16 : qa16 ∈ L92 := (hx93 qa16 hmqa16).1
  have hkqa16 : kp90 qa16 = 303 := (hvqa16.1).trans hkqa16
  have hvqa21 := (hx93 qa21 hmqa21).2
  have hmqa21 : qa21 ∈ L92 := (hx93 qa21 hmqa21).1
  have hkqa21 : kp90 qa21 = 304 := (hvqa21.1).trans hkqa21
  have hvqa26 := (hx93 qa26 hmqa26).2
  have hmqa26 : qa26 ∈ L92 := (hx93 qa26 hmqa26).1
  have hkqa26 : kp90 qa26 = 305 := (hvqa26.1).trans hkqa26
  have hvqm31 := (hx93 qm31 hmqm31).2
  have hmqm31 : qm31 ∈ L92 := (hx93 qm31 hmqm31).1
  have hkqm31 : kp90 qm31 = 310 := (hvqm31.1).trans hkqm31
  have hvqm37 := (hx93 qm37 hmqm37).2
  have hmqm37 : qm37 ∈ L92 := (hx93 qm37 hmqm37).1
  have hkqm37 : kp90 qm37 = 311 := (hvqm37.1).trans hkqm37
  have hvqm43 := (hx93 qm43 hmqm43).2
  have hmqm43 : qm43 ∈ L92 := (hx93 qm43 hmqm43).1
  have hkqm43 : kp90 qm43 = 312 := (hvqm43.1).trans hkqm43
  have hvqm49 := (hx93 qm49 hmqm49).2
  have hmqm49 : qm49 ∈ L92 := (hx93 qm49 hmqm49).1
  have hkqm49 : kp90 qm49 = 313 := (hvqm49.1).trans hkqm49
  have hvqm55 := (hx93 qm55 hmqm55).2
  have hmqm55 : qm55 ∈ L92 := (hx93 qm55 hmqm55).1
  have hkqm55 : kp90 qm55 = 316 := (hvqm55.1).trans hkqm55
  have hvqm61 := (hx93 qm61 hmqm61).2
  have hmqm61 : qm61 ∈ L92 := (hx93 qm61 hmqm61).1
  have hkqm61 : kp90 qm61 = 317 := (hvqm61.1).trans hkqm61
  have hvqm67 := (hx93 qm67 hmqm67).2
  have hmqm67 : qm67 ∈ L92 := (hx93 qm67 hmqm67).1
  have hkqm67 : kp90 qm67 = 318 := (hvqm67.1).trans hkqm67
  have hvqm73 := (hx93 qm73 hmqm73).2
  have hmqm73 : qm73 ∈ L92 := (hx93 qm73 hmqm73).1
  have hkqm73 : kp90 qm73 = 319 := (hvqm73.1).trans hkqm73
  have hvqa79 := (hx93 qa79 hmqa79).2
  have hmqa79 : qa79 ∈ L92 := (hx93 qa79 hmqa79).1
  have hkqa79 : kp90 qa79 = 330 := (hvqa79.1).trans hkqa79
  have hvqa84 := (hx93 qa84 hmqa84).2
  have hmqa84 : qa84 ∈ L92 := (hx93 qa84 hmqa84).1
  have hkqa84 : kp90 qa84 = 331 := (hvqa84.1).trans hkqa84
  have hqqm31 : E91 qm31 = gd_out (cs 4) 10 rr32 := (hvqm31.2).trans hqqm31
  have hqqm37 : E91 qm37 = gd_out (cs 4) 10 rr38 := (hvqm37.2).trans hqqm37
  have hqqm55 : E91 qm55 = gd_out (cs 5) 16 rr56 := (hvqm55.2).trans hqqm55
  have hqqm67 : E91 qm67 = gd_out (cs 4) 16 rr68 := (hvqm67.2).trans hqqm67
  have hsqm55 : ∀ j : Nat, j < 16 → rr56 j ∈ L92 ∧ E91 (rr56 j) = .inl (cs 3, (150, .inl (fun _ => 0))) := fun j hj => ⟨(hx93 _ (hsqm55 j hj).1).1, ((hx93 _ (hsqm55 j hj).1).2.2).trans (hsqm55 j hj).2⟩
  refine va_putF (D := D) (ci := 12) (v := .ref qa89) (ty := .array .int) (C := RX12) (T := TX12) (N := 64) hx hb hB cx_inX12 tyX12 tyX12_ok nmX12 hown hK hP hD hS 0 rfl rfl 22 (by decide) (hB _ cw_1215) (fun _ h9 => h9) rfl hnm rfl (by decide +kernel) rfl rfl (Nat.le_of_ble_eq_true rfl) dX12_init_181 (fun H locs hP hD hS => ?_)
  have hP : va_P D vwCl ([(o, .inr (12, [.ref qa1, .int 0, .int 0, .int 0, .int 0, .ref qa6, .ref qa11, .ref qa16, .ref qa21, .ref qa26, .ref qm31, .ref qm37, .ref qm43, .ref qm49, .int 0, .int 0, .ref qm55, .ref qm61, .ref qm67, .ref qm73, .ref qa79, .ref qa84, .ref qa89, .null, .null, .null, .int 0, .int 0, .int 0, .int 0, .null, .null, .null, .null, .null, .null, .null, .null, .null, .null, .null, .null, .null, .null, .null, .null, .null, .null, .null, .null, .int 0, .int 0, .int 0, .null, .null, .null, .null, .int 0, .int 0, .null, .null, .null, .null, .int 0]))] ++ va_pl L92 E91) H := hP
  have hD : va_D A ([(o, .inr (12, [.ref qa1, .int 0, .int 0, .int 0, .int 0, .ref qa6, .ref qa11, .ref qa16, .ref qa21, .ref qa26, .ref qm31, .ref qm37, .ref qm43, .ref qm49, .int 0, .int 0, .ref qm55, .ref qm61, .ref qm67, .ref qm73, .ref qa79, .ref qa84, .ref qa89, .null, .null, .null, .int 0, .int 0, .int 0, .int 0, .null, .null, .null, .null, .null, .null, .null, .null, .null, .null, .null, .null, .null, .null, .null, .null, .null, .null, .null, .null, .int 0, .int 0, .int 0, .null, .null, .null, .null, .int 0, .int 0, .null, .null, .null, .null, .int 0]))] ++ va_pl L92 E91) := hD
  refine lv_aload_n hx hb dX12_init_184 rfl (lv_at hl 0 rfl) ?_
  refine lv_sipush (v := 150) hx hb dX12_init_185 (by decide) ?_
  refine cx_newa (cs := cs) (atype := .boolean) (ty := .boolean) (a0 := (150, .inl (fun _ => 0))) hx hb hB cw_1386 rfl cx_ra_boolean 3 rfl hK hP hD hS hA (fun _ => rfl) (by decide) (by decide) (Nat.le_of_ble_eq_true rfl) (Nat.le_of_ble_eq_true rfl) (Nat.le_of_ble_eq_true rfl) dX12_init_188 (fun qa94 H hP hD hS => ?_)
  obtain ⟨kp95, E96, hP, hD, hT, hx98, hkqa94, hqqa94, hnqa94⟩ := tw_abs (k := 333) hP hD hT (fun _ _ _ => ⟨by decide, rfl, rfl, (fun _ _ => (show (0 : Int) ≤ ((0 : Int32)).toInt ∧ ((0 : Int32)).toInt ≤ 1 from by decide))⟩)
  obtain ⟨L97, hL⟩ : ∃ z, z = L92 ++ [qa94] := ⟨_, rfl⟩
  have hmqa94 : qa94 ∈ L97 := by rw [hL]; simp
  rw [← hL] at hP hD hT hx98
  have hnqa94 : qa94 ∉ L0 := fun z => hnqa94 (hex _ z).1
  have hex : ∀ a : Nat, a ∈ L0 → a ∈ L97 ∧ kp95 a = kp0 a ∧ E96 a = E0 a := fun a h => ⟨(hx98 a (hex a h).1).1, ((hx98 a (hex a h).1).2.1).trans (hex a h).2.1, ((hx98 a (hex a h).1).2.2).trans (hex a h).2.2⟩
  have hvqa1 := (hx98 qa1 hmqa1).2
  have hmqa1 : qa1 ∈ L97 := (hx98 qa1 hmqa1).1
  have hkqa1 : kp95 qa1 = 300 := (hvqa1.1).trans hkqa1
  have hvqa6 := (hx98 qa6 hmqa6).2
  have hmqa6 : qa6 ∈ L97 := (hx98 qa6 hmqa6).1
  have hkqa6 : kp95 qa6 = 301 := (hvqa6.1).trans hkqa6
  have hvqa11 := (hx98 qa11 hmqa11).2
  have hmqa11 : qa11 ∈ L97 := (hx98 qa11 hmqa11).1
  have hkqa11 : kp95 qa11 = 302 := (hvqa11.1).trans hkqa11
  have hvqa16 := (hx98 qa16 hmqa16).2
  have hmqa16 : qa16 ∈ L97 := (hx98 qa16 hmqa16).1
  have hkqa16 : kp95 qa16 = 303 := (hvqa16.1).trans hkqa16
  have hvqa21 := (hx98 qa21 hmqa21).2
  have hmqa21 : qa21 ∈ L97 := (hx98 qa21 hmqa21).1
  have hkqa21 : kp95 qa21 = 304 := (hvqa21.1).trans hkqa21
  have hvqa26 := (hx98 qa26 hmqa26).2
  have hmqa26 : qa26 ∈ L97 := (hx98 qa26 hmqa26).1
  have hkqa26 : kp95 qa26 = 305 := (hvqa26.1).trans hkqa26
  have hvqm31 := (hx98 qm31 hmqm31).2
  have hmqm31 : qm31 ∈ L97 := (hx98 qm31 hmqm31).1
  have hkqm31 : kp95 qm31 = 310 := (hvqm31.1).trans hkqm31
  have hvqm37 := (hx98 qm37 hmqm37).2
  have hmqm37 : qm37 ∈ L97 := (hx98 qm37 hmqm37).1
  have hkqm37 : kp95 qm37 = 311 := (hvqm37.1).trans hkqm37
  have hvqm43 := (hx98 qm43 hmqm43).2
  have hmqm43 : qm43 ∈ L97 := (hx98 qm43 hmqm43).1
  have hkqm43 : kp95 qm43 = 312 := (hvqm43.1).trans hkqm43
  have hvqm49 := (hx98 qm49 hmqm49).2
  have hmqm49 : qm49 ∈ L97 := (hx98 qm49 hmqm49).1
  have hkqm49 : kp95 qm49 = 313 := (hvqm49.1).trans hkqm49
  have hvqm55 := (hx98 qm55 hmqm55).2
  have hmqm55 : qm55 ∈ L97 := (hx98 qm55 hmqm55).1
  have hkqm55 : kp95 qm55 = 316 := (hvqm55.1).trans hkqm55
  have hvqm61 := (hx98 qm61 hmqm61).2
  have hmqm61 : qm61 ∈ L97 := (hx98 qm61 hmqm61).1
  have hkqm61 : kp95 qm61 = 317 := (hvqm61.1).trans hkqm61
  have hvqm67 := (hx98 qm67 hmqm67).2
  have hmqm67 : qm67 ∈ L97 := (hx98 qm67 hmqm67).1
  have hkqm67 : kp95 qm67 = 318 := (hvqm67.1).trans hkqm67
  have hvqm73 := (hx98 qm73 hmqm73).2
  have hmqm73 : qm73 ∈ L97 := (hx98 qm73 hmqm73).1
  have hkqm73 : kp95 qm73 = 319 := (hvqm73.1).trans hkqm73
  have hvqa79 := (hx98 qa79 hmqa79).2
  have hmqa79 : qa79 ∈ L97 := (hx98 qa79 hmqa79).1
  have hkqa79 : kp95 qa79 = 330 := (hvqa79.1).trans hkqa79
  have hvqa84 := (hx98 qa84 hmqa84).2
  have hmqa84 : qa84 ∈ L97 := (hx98 qa84 hmqa84).1
  have hkqa84 : kp95 qa84 = 331 := (hvqa84.1).trans hkqa84
  have hvqa89 := (hx98 qa89 hmqa89).2
  have hmqa89 : qa89 ∈ L97 := (hx98 qa89 hmqa89).1
  have hkqa89 : kp95 qa89 = 332 := (hvqa89.1).trans hkqa89
  have hqqm31 : E96 qm31 = gd_out (cs 4) 10 rr32 := (hvqm31.2).trans hqqm31
  have hqqm37 : E96 qm37 = gd_out (cs 4) 10 rr38 := (hvqm37.2).trans hqqm37
  have hqqm55 : E96 qm55 = gd_out (cs 5) 16 rr56 := (hvqm55.2).trans hqqm55
  have hqqm67 : E96 qm67 = gd_out (cs 4) 16 rr68 := (hvqm67.2).trans hqqm67
  have hsqm55 : ∀ j : Nat, j < 16 → rr56 j ∈ L97 ∧ E96 (rr56 j) = .inl (cs 3, (150, .inl (fun _ => 0))) := fun j hj => ⟨(hx98 _ (hsqm55 j hj).1).1, ((hx98 _ (hsqm55 j hj).1).2.2).trans (hsqm55 j hj).2⟩
  refine va_putF (D := D) (ci := 12) (v := .ref qa94) (ty := .array .boolean) (C := RX12) (T := TX12) (N := 64) hx hb hB cx_inX12 tyX12 tyX12_ok nmX12 hown hK hP hD hS 0 rfl rfl 23 (by decide) (hB _ cw_1216) (fun _ h9 => h9) rfl hnm rfl (by decide +kernel) rfl rfl (Nat.le_of_ble_eq_true rfl) dX12_init_190 (fun H locs hP hD hS => ?_)
  have hP : va_P D vwCl ([(o, .inr (12, [.ref qa1, .int 0, .int 0, .int 0, .int 0, .ref qa6, .ref qa11, .ref qa16, .ref qa21, .ref qa26, .ref qm31, .ref qm37, .ref qm43, .ref qm49, .int 0, .int 0, .ref qm55, .ref qm61, .ref qm67, .ref qm73, .ref qa79, .ref qa84, .ref qa89, .ref qa94, .null, .null, .int 0, .int 0, .int 0, .int 0, .null, .null, .null, .null, .null, .null, .null, .null, .null, .null, .null, .null, .null, .null, .null, .null, .null, .null, .null, .null, .int 0, .int 0, .int 0, .null, .null, .null, .null, .int 0, .int 0, .null, .null, .null, .null, .int 0]))] ++ va_pl L97 E96) H := hP
  have hD : va_D A ([(o, .inr (12, [.ref qa1, .int 0, .int 0, .int 0, .int 0, .ref qa6, .ref qa11, .ref qa16, .ref qa21, .ref qa26, .ref qm31, .ref qm37, .ref qm43, .ref qm49, .int 0, .int 0, .ref qm55, .ref qm61, .ref qm67, .ref qm73, .ref qa79, .ref qa84, .ref qa89, .ref qa94, .null, .null, .int 0, .int 0, .int 0, .int 0, .null, .null, .null, .null, .null, .null, .null, .null, .null, .null, .null, .null, .null, .null, .null, .null, .null, .null, .null, .null, .int 0, .int 0, .int 0, .null, .null, .null, .null, .int 0, .int 0, .null, .null, .null, .null, .int 0]))] ++ va_pl L97 E96) := hD
  refine lv_aload_n hx hb dX12_init_193 rfl (lv_at hl 0 rfl) ?_
  refine lv_bipush (v := 12) hx hb dX12_init_194 (by decide) ?_
  refine cx_newa (cs := cs) (atype := .int) (ty := .int) (a0 := (12, .inl (fun _ => 0))) hx hb hB cw_59 rfl cx_ra_int 0 rfl hK hP hD hS hA (fun _ => rfl) (by decide) (by decide) (Nat.le_of_ble_eq_true rfl) (Nat.le_of_ble_eq_true rfl) (Nat.le_of_ble_eq_true rfl) dX12_init_196 (fun qa99 H hP hD hS => ?_)
  obtain ⟨kp100, E101, hP, hD, hT, hx103, hkqa99, hqqa99, hnqa99⟩ := tw_abs (k := 334) hP hD hT (fun _ _ _ => ⟨by decide, rfl, rfl, (fun _ _ => (show ((-1) : Int) ≤ ((0 : Int32)).toInt ∧ ((0 : Int32)).toInt ≤ 11 from by decide))⟩)
  obtain ⟨L102, hL⟩ : ∃ z, z = L97 ++ [qa99] := ⟨_, rfl⟩
  have hmqa99 : qa99 ∈ L102 := by rw [hL]; simp
  rw [← hL] at hP hD hT hx103
  have hnqa99 : qa99 ∉ L0 := fun z => hnqa99 (hex _ z).1
  have hex : ∀ a : Nat, a ∈ L0 → a ∈ L102 ∧ kp100 a = kp0 a ∧ E101 a = E0 a := fun a h => ⟨(hx103 a (hex a h).1).1, ((hx103 a (hex a h).1).2.1).trans (hex a h).2.1, ((hx103 a (hex a h).1).2.2).trans (hex a h).2.2⟩
  have hvqa1 := (hx103 qa1 hmqa1).2
  have hmqa1 : qa1 ∈ L102 := (hx103 qa1 hmqa1).1
  have hkqa1 : kp100 qa1 = 300 := (hvqa1.1).trans hkqa1
  have hvqa6 := (hx103 qa6 hmqa6).2
  have hmqa6 : qa6 ∈ L102 := (hx103 qa6 hmqa6).1
  have hkqa6 : kp100 qa6 = 301 := (hvqa6.1).trans hkqa6
  have hvqa11 := (hx103 qa11 hmqa11).2
  have hmqa11 : qa11 ∈ L102 := (hx103 qa11 hmqa11).1
  have hkqa11 : kp100 qa11 = 302 := (hvqa11.1).trans hkqa11
  have hvqa16 := (hx103 qa16 hmqa16).2
  have hmqa16 : qa16 ∈ L102 := (hx103 qa16 hmqa16).1
  have hkqa16 : kp100 qa16 = 303 := (hvqa16.1).trans hkqa16
  have hvqa21 := (hx103 qa21 hmqa21).2
  have hmqa21 : qa21 ∈ L102 := (hx103 qa21 hmqa21).1
  have hkqa21 : kp100 qa21 = 304 := (hvqa21.1).trans hkqa21
  have hvqa26 := (hx103 qa26 hmqa26).2
  have hmqa26 : qa26 ∈ L102 := (hx103 qa26 hmqa26).1
  have hkqa26 : kp100 qa26 = 305 := (hvqa26.1).trans hkqa26
  have hvqm31 := (hx103 qm31 hmqm31).2
  have hmqm31 : qm31 ∈ L102 := (hx103 qm31 hmqm31).1
  have hkqm31 : kp100 qm31 = 310 := (hvqm31.1).trans hkqm31
  have hvqm37 := (hx103 qm37 hmqm37).2
  have hmqm37 : qm37 ∈ L102 := (hx103 qm37 hmqm37).1
  have hkqm37 : kp100 qm37 = 311 := (hvqm37.1).trans hkqm37
  have hvqm43 := (hx103 qm43 hmqm43).2
  have hmqm43 : qm43 ∈ L102 := (hx103 qm43 hmqm43).1
  have hkqm43 : kp100 qm43 = 312 := (hvqm43.1).trans hkqm43
  have hvqm49 := (hx103 qm49 hmqm49).2
  have hmqm49 : qm49 ∈ L102 := (hx103 qm49 hmqm49).1
  have hkqm49 : kp100 qm49 = 313 := (hvqm49.1).trans hkqm49
  have hvqm55 := (hx103 qm55 hmqm55).2
  have hmqm55 : qm55 ∈ L102 := (hx103 qm55 hmqm55).1
  have hkqm55 : kp100 qm55 = 316 := (hvqm55.1).trans hkqm55
  have hvqm61 := (hx103 qm61 hmqm61).2
  have hmqm61 : qm61 ∈ L102 := (hx103 qm61 hmqm61).1
  have hkqm61 : kp100 qm61 = 317 := (hvqm61.1).trans hkqm61
  have hvqm67 := (hx103 qm67 hmqm67).2
  have hmqm67 : qm67 ∈ L102 := (hx103 qm67 hmqm67).1
  have hkqm67 : kp100 qm67 = 318 := (hvqm67.1).trans hkqm67
  have hvqm73 := (hx103 qm73 hmqm73).2
  have hmqm73 : qm73 ∈ L102 := (hx103 qm73 hmqm73).1
  have hkqm73 : kp100 qm73 = 319 := (hvqm73.1).trans hkqm73
  have hvqa79 := (hx103 qa79 hmqa79).2
  have hmqa79 : qa79 ∈ L102 := (hx103 qa79 hmqa79).1
  have hkqa79 : kp100 qa79 = 330 := (hvqa79.1).trans hkqa79
  have hvqa84 := (hx103 qa84 hmqa84).2
  have hmqa84 : qa84 ∈ L102 := (hx103 qa84 hmqa84).1
  have hkqa84 : kp100 qa84 = 331 := (hvqa84.1).trans hkqa84
  have hvqa89 := (hx103 qa89 hmqa89).2
  have hmqa89 : qa89 ∈ L102 := (hx103 qa89 hmqa89).1
  have hkqa89 : kp100 qa89 = 332 := (hvqa89.1).trans hkqa89
  have hvqa94 := (hx103 qa94 hmqa94).2
  have hmqa94 : qa94 ∈ L102 := (hx103 qa94 hmqa94).1
  have hkqa94 : kp100 qa94 = 333 := (hvqa94.1).trans hkqa94
  have hqqm31 : E101 qm31 = gd_out (cs 4) 10 rr32 := (hvqm31.2).trans hqqm31
  have hqqm37 : E101 qm37 = gd_out (cs 4) 10 rr38 := (hvqm37.2).trans hqqm37
  have hqqm55 : E101 qm55 = gd_out (cs 5) 16 rr56 := (hvqm55.2).trans hqqm55
  have hqqm67 : E101 qm67 = gd_out (cs 4) 16 rr68 := (hvqm67.2).trans hqqm67
  have hsqm55 : ∀ j : Nat, j < 16 → rr56 j ∈ L102 ∧ E101 (rr56 j) = .inl (cs 3, (150, .inl (fun _ => 0))) := fun j hj => ⟨(hx103 _ (hsqm55 j hj).1).1, ((hx103 _ (hsqm55 j hj).1).2.2).trans (hsqm55 j hj).2⟩
  refine va_putF (D := D) (ci := 12) (v := .ref qa99) (ty := .array .int) (C := RX12) (T := TX12) (N := 64) hx hb hB cx_inX12 tyX12 tyX12_ok nmX12 hown hK hP hD hS 0 rfl rfl 24 (by decide) (hB _ cw_1217) (fun _ h9 => h9) rfl hnm rfl (by decide +kernel) rfl rfl (Nat.le_of_ble_eq_true rfl) dX12_init_198 (fun H locs hP hD hS => ?_)
  have hP : va_P D vwCl ([(o, .inr (12, [.ref qa1, .int 0, .int 0, .int 0, .int 0, .ref qa6, .ref qa11, .ref qa16, .ref qa21, .ref qa26, .ref qm31, .ref qm37, .ref qm43, .ref qm49, .int 0, .int 0, .ref qm55, .ref qm61, .ref qm67, .ref qm73, .ref qa79, .ref qa84, .ref qa89, .ref qa94, .ref qa99, .null, .int 0, .int 0, .int 0, .int 0, .null, .null, .null, .null, .null, .null, .null, .null, .null, .null, .null, .null, .null, .null, .null, .null, .null, .null, .null, .null, .int 0, .int 0, .int 0, .null, .null, .null, .null, .int 0, .int 0, .null, .null, .null, .null, .int 0]))] ++ va_pl L102 E101) H := hP
  have hD : va_D A ([(o, .inr (12, [.ref qa1, .int 0, .int 0, .int 0, .int 0, .ref qa6, .ref qa11, .ref qa16, .ref qa21, .ref qa26, .ref qm31, .ref qm37, .ref qm43, .ref qm49, .int 0, .int 0, .ref qm55, .ref qm61, .ref qm67, .ref qm73, .ref qa79, .ref qa84, .ref qa89, .ref qa94, .ref qa99, .null, .int 0, .int 0, .int 0, .int 0, .null, .null, .null, .null, .null, .null, .null, .null, .null, .null, .null, .null, .null, .null, .null, .null, .null, .null, .null, .null, .int 0, .int 0, .int 0, .null, .null, .null, .null, .int 0, .int 0, .null, .null, .null, .null, .int 0]))] ++ va_pl L102 E101) := hD
  refine lv_aload_n hx hb dX12_init_201 rfl (lv_at hl 0 rfl) ?_
  refine lv_bipush (v := 12) hx hb dX12_init_202 (by decide) ?_
  refine cx_newa (cs := cs) (atype := .int) (ty := .int) (a0 := (12, .inl (fun _ => 0))) hx hb hB cw_59 rfl cx_ra_int 0 rfl hK hP hD hS hA (fun _ => rfl) (by decide) (by decide) (Nat.le_of_ble_eq_true rfl) (Nat.le_of_ble_eq_true rfl) (Nat.le_of_ble_eq_true rfl) dX12_init_204 (fun qa104 H hP hD hS => ?_)
  obtain ⟨kp105, E106, hP, hD, hT, hx108, hkqa104, hqqa104, hnqa104⟩ := tw_abs (k := 335) hP hD hT (fun _ _ _ => ⟨by decide, rfl, rfl, (fun _ _ => (show ((-1) : Int) ≤ ((0 : Int32)).toInt ∧ ((0 : Int32)).toInt ≤ 11 from by decide))⟩)
  obtain ⟨L107, hL⟩ : ∃ z, z = L102 ++ [qa104] := ⟨_, rfl⟩
  have hmqa104 : qa104 ∈ L107 := by rw [hL]; simp
  rw [← hL] at hP hD hT hx108
  have hnqa104 : qa104 ∉ L0 := fun z => hnqa104 (hex _ z).1
  have hex : ∀ a : Nat, a ∈ L0 → a ∈ L107 ∧ kp105 a = kp0 a ∧ E106 a = E0 a := fun a h => ⟨(hx108 a (hex a h).1).1, ((hx108 a (hex a h).1).2.1).trans (hex a h).2.1, ((hx108 a (hex a h).1).2.2).trans (hex a h).2.2⟩
  have hvqa1 := (hx108 qa1 hmqa1).2
  have hmqa1 : qa1 ∈ L107 := (hx108 qa1 hmqa1).1
  have hkqa1 : kp105 qa1 = 300 := (hvqa1.1).trans hkqa1
  have hvqa6 := (hx108 qa6 hmqa6).2
  have hmqa6 : qa6 ∈ L107 := (hx108 qa6 hmqa6).1
  have hkqa6 : kp105 qa6 = 301 := (hvqa6.1).trans hkqa6
  have hvqa11 := (hx108 qa11 hmqa11).2
  have hmqa11 : qa11 ∈ L107 := (hx108 qa11 hmqa11).1
  have hkqa11 : kp105 qa11 = 302 := (hvqa11.1).trans hkqa11
  have hvqa16 := (hx108 qa16 hmqa16).2
  have hmqa16 : qa16 ∈ L107 := (hx108 qa16 hmqa16).1
  have hkqa16 : kp105 qa16 = 303 := (hvqa16.1).trans hkqa16
  have hvqa21 := (hx108 qa21 hmqa21).2
  have hmqa21 : qa21 ∈ L107 := (hx108 qa21 hmqa21).1
  have hkqa21 : kp105 qa21 = 304 := (hvqa21.1).trans hkqa21
  have hvqa26 := (hx108 qa26 hmqa26).2
  have hmqa26 : qa26 ∈ L107 := (hx108 qa26 hmqa26).1
  have hkqa26 : kp105 qa26 = 305 := (hvqa26.1).trans hkqa26
  have hvqm31 := (hx108 qm31 hmqm31).2
  have hmqm31 : qm31 ∈ L107 := (hx108 qm31 hmqm31).1
  have hkqm31 : kp105 qm31 = 310 := (hvqm31.1).trans hkqm31
  have hvqm37 := (hx108 qm37 hmqm37).2
  have hmqm37 : qm37 ∈ L107 := (hx108 qm37 hmqm37).1
  have hkqm37 : kp105 qm37 = 311 := (hvqm37.1).trans hkqm37
  have hvqm43 := (hx108 qm43 hmqm43).2
  have hmqm43 : qm43 ∈ L107 := (hx108 qm43 hmqm43).1
  have hkqm43 : kp105 qm43 = 312 := (hvqm43.1).trans hkqm43
  have hvqm49 := (hx108 qm49 hmqm49).2
  have hmqm49 : qm49 ∈ L107 := (hx108 qm49 hmqm49).1
  have hkqm49 : kp105 qm49 = 313 := (hvqm49.1).trans hkqm49
  have hvqm55 := (hx108 qm55 hmqm55).2
  have hmqm55 : qm55 ∈ L107 := (hx108 qm55 hmqm55).1
  have hkqm55 : kp105 qm55 = 316 := (hvqm55.1).trans hkqm55
  have hvqm61 := (hx108 qm61 hmqm61).2
  have hmqm61 : qm61 ∈ L107 := (hx108 qm61 hmqm61).1
  have hkqm61 : kp105 qm61 = 317 := (hvqm61.1).trans hkqm61
  have hvqm67 := (hx108 qm67 hmqm67).2
  have hmqm67 : qm67 ∈ L107 := (hx108 qm67 hmqm67).1
  have hkqm67 : kp105 qm67 = 318 := (hvqm67.1).trans hkqm67
  have hvqm73 := (hx108 qm73 hmqm73).2
  have hmqm73 : qm73 ∈ L107 := (hx108 qm73 hmqm73).1
  have hkqm73 : kp105 qm73 = 319 := (hvqm73.1).trans hkqm73
  have hvqa79 := (hx108 qa79 hmqa79).2
  have hmqa79 : qa79 ∈ L107 := (hx108 qa79 hmqa79).1
  have hkqa79 : kp105 qa79 = 330 := (hvqa79.1).trans hkqa79
  have hvqa84 := (hx108 qa84 hmqa84).2
  have hmqa84 : qa84 ∈ L107 := (hx108 qa84 hmqa84).1
  have hkqa84 : kp105 qa84 = 331 := (hvqa84.1).trans hkqa84
  have hvqa89 := (hx108 qa89 hmqa89).2
  have hmqa89 : qa89 ∈ L107 := (hx108 qa89 hmqa89).1
  have hkqa89 : kp105 qa89 = 332 := (hvqa89.1).trans hkqa89
  have hvqa94 := (hx108 qa94 hmqa94).2
  have hmqa94 : qa94 ∈ L107 := (hx108 qa94 hmqa94).1
  have hkqa94 : kp105 qa94 = 333 := (hvqa94.1).trans hkqa94
  have hvqa99 := (hx108 qa99 hmqa99).2
  have hmqa99 : qa99 ∈ L107 := (hx108 qa99 hmqa99).1
  have hkqa99 : kp105 qa99 = 334 := (hvqa99.1).trans hkqa99
  have hqqm31 : E106 qm31 = gd_out (cs 4) 10 rr32 := (hvqm31.2).trans hqqm31
  have hqqm37 : E106 qm37 = gd_out (cs 4) 10 rr38 := (hvqm37.2).trans hqqm37
  have hqqm55 : E106 qm55 = gd_out (cs 5) 16 rr56 := (hvqm55.2).trans hqqm55
  have hqqm67 : E106 qm67 = gd_out (cs 4) 16 rr68 := (hvqm67.2).trans hqqm67
  have hsqm55 : ∀ j : Nat, j < 16 → rr56 j ∈ L107 ∧ E106 (rr56 j) = .inl (cs 3, (150, .inl (fun _ => 0))) := fun j hj => ⟨(hx108 _ (hsqm55 j hj).1).1, ((hx108 _ (hsqm55 j hj).1).2.2).trans (hsqm55 j hj).2⟩
  refine va_putF (D := D) (ci := 12) (v := .ref qa104) (ty := .array .int) (C := RX12) (T := TX12) (N := 64) hx hb hB cx_inX12 tyX12 tyX12_ok nmX12 hown hK hP hD hS 0 rfl rfl 25 (by decide) (hB _ cw_1218) (fun _ h9 => h9) rfl hnm rfl (by decide +kernel) rfl rfl (Nat.le_of_ble_eq_true rfl) dX12_init_206 (fun H locs hP hD hS => ?_)
  have hP : va_P D vwCl ([(o, .inr (12, [.ref qa1, .int 0, .int 0, .int 0, .int 0, .ref qa6, .ref qa11, .ref qa16, .ref qa21, .ref qa26, .ref qm31, .ref qm37, .ref qm43, .ref qm49, .int 0, .int 0, .ref qm55, .ref qm61, .ref qm67, .ref qm73, .ref qa79, .ref qa84, .ref qa89, .ref qa94, .ref qa99, .ref qa104, .int 0, .int 0, .int 0, .int 0, .null, .null, .null, .null, .null, .null, .null, .null, .null, .null, .null, .null, .null, .null, .null, .null, .null, .null, .null, .null, .int 0, .int 0, .int 0, .null, .null, .null, .null, .int 0, .int 0, .null, .null, .null, .null, .int 0]))] ++ va_pl L107 E106) H := hP
  have hD : va_D A ([(o, .inr (12, [.ref qa1, .int 0, .int 0, .int 0, .int 0, .ref qa6, .ref qa11, .ref qa16, .ref qa21, .ref qa26, .ref qm31, .ref qm37, .ref qm43, .ref qm49, .int 0, .int 0, .ref qm55, .ref qm61, .ref qm67, .ref qm73, .ref qa79, .ref qa84, .ref qa89, .ref qa94, .ref qa99, .ref qa104, .int 0, .int 0, .int 0, .int 0, .null, .null, .null, .null, .null, .null, .null, .null, .null, .null, .null, .null, .null, .null, .null, .null, .null, .null, .null, .null, .int 0, .int 0, .int 0, .null, .null, .null, .null, .int 0, .int 0, .null, .null, .null, .null, .int 0]))] ++ va_pl L107 E106) := hD
  refine lv_aload_n hx hb dX12_init_209 rfl (lv_at hl 0 rfl) ?_
  refine lv_sipush (v := 500) hx hb dX12_init_210 (by decide) ?_
  refine cx_newa (cs := cs) (atype := .byte) (ty := .byte) (a0 := (500, .inl (fun _ => 0))) hx hb hB cw_622 rfl cx_ra_byte 2 rfl hK hP hD hS hA (fun _ => rfl) (by decide) (by decide) (Nat.le_of_ble_eq_true rfl) (Nat.le_of_ble_eq_true rfl) (Nat.le_of_ble_eq_true rfl) dX12_init_213 (fun qa109 H hP hD hS => ?_)
  obtain ⟨kp110, E111, hP, hD, hT, hx113, hkqa109, hqqa109, hnqa109⟩ := tw_abs (k := 336) hP hD hT (fun _ _ _ => ⟨by decide, rfl, rfl, (fun _ _ => (show ((-128) : Int) ≤ ((0 : Int32)).toInt ∧ ((0 : Int32)).toInt ≤ 127 from by decide))⟩)
  obtain ⟨L112, hL⟩ : ∃ z, z = L107 ++ [qa109] := ⟨_, rfl⟩
  have hmqa109 : qa109 ∈ L112 := by rw [hL]; simp
  rw [← hL] at hP hD hT hx113
  have hnqa109 : qa109 ∉ L0 := fun z => hnqa109 (hex _ z).1
  have hex : ∀ a : Nat, a ∈ L0 → a ∈ L112 ∧ kp110 a = kp0 a ∧ E111 a = E0 a := fun a h => ⟨(hx113 a (hex a h).1).1, ((hx113 a (hex a h).1).2.1).trans (hex a h).2.1, ((hx113 a (hex a h).1).2.2).trans (hex a h).2.2⟩
  have hvqa1 := (hx113 qa1 hmqa1).2
  have hmqa1 : qa1 ∈ L112 := (hx113 qa1 hmqa1).1
  have hkqa1 : kp110 qa1 = 300 := (hvqa1.1).trans hkqa1
  have hvqa6 := (hx113 qa6 hmqa6).2
  have hmqa6 : qa6 ∈ L112 := (hx113 qa6 hmqa6).1
  have hkqa6 : kp110 qa6 = 301 := (hvqa6.1).trans hkqa6
  have hvqa11 := (hx113 qa11 hmqa11).2
  have hmqa11 : qa11 ∈ L112 := (hx113 qa11 hmqa11).1
  have hkqa11 : kp110 qa11 = 302 := (hvqa11.1).trans hkqa11
  have hvqa16 := (hx113 qa16 hmqa16).2
  have hmqa16 : qa16 ∈ L112 := (hx113 qa16 hmqa16).1
  have hkqa16 : kp110 qa16 = 303 := (hvqa16.1).trans hkqa16
  have hvqa21 := (hx113 qa21 hmqa21).2
  have hmqa21 : qa21 ∈ L112 := (hx113 qa21 hmqa21).1
  have hkqa21 : kp110 qa21 = 304 := (hvqa21.1).trans hkqa21
  have hvqa26 := (hx113 qa26 hmqa26).2
  have hmqa26 : qa26 ∈ L112 := (hx113 qa26 hmqa26).1
  have hkqa26 : kp110 qa26 = 305 := (hvqa26.1).trans hkqa26
  have hvqm31 := (hx113 qm31 hmqm31).2
  have hmqm31 : qm31 ∈ L112 := (hx113 qm31 hmqm31).1
  have hkqm31 : kp110 qm31 = 310 := (hvqm31.1).trans hkqm31
  have hvqm37 := (hx113 qm37 hmqm37).2
  have hmqm37 : qm37 ∈ L112 := (hx113 qm37 hmqm37).1
  have hkqm37 : kp110 qm37 = 311 := (hvqm37.1).trans hkqm37
  have hvqm43 := (hx113 qm43 hmqm43).2
  have hmqm43 : qm43 ∈ L112 := (hx113 qm43 hmqm43).1
  have hkqm43 : kp110 qm43 = 312 := (hvqm43.1).trans hkqm43
  have hvqm49 := (hx113 qm49 hmqm49).2
  have hmqm49 : qm49 ∈ L112 := (hx113 qm49 hmqm49).1
  have hkqm49 : kp110 qm49 = 313 := (hvqm49.1).trans hkqm49
  have hvqm55 := (hx113 qm55 hmqm55).2
  have hmqm55 : qm55 ∈ L112 := (hx113 qm55 hmqm55).1
  have hkqm55 : kp110 qm55 = 316 := (hvqm55.1).trans hkqm55
  have hvqm61 := (hx113 qm61 hmqm61).2
  have hmqm61 : qm61 ∈ L112 := (hx113 qm61 hmqm61).1
  have hkqm61 : kp110 qm61 = 317 := (hvqm61.1).trans hkqm61
  have hvqm67 := (hx113 qm67 hmqm67).2
  have hmqm67 : qm67 ∈ L112 := (hx113 qm67 hmqm67).1
  have hkqm67 : kp110 qm67 = 318 := (hvqm67.1).trans hkqm67
  have hvqm73 := (hx113 qm73 hmqm73).2
  have hmqm73 : qm73 ∈ L112 := (hx113 qm73 hmqm73).1
  have hkqm73 : kp110 qm73 = 319 := (hvqm73.1).trans hkqm73
  have hvqa79 := (hx113 qa79 hmqa79).2
  have hmqa79 : qa79 ∈ L112 := (hx113 qa79 hmqa79).1
  have hkqa79 : kp110 qa79 = 330 := (hvqa79.1).trans hkqa79
  have hvqa84 := (hx113 qa84 hmqa84).2
  have hmqa84 : qa84 ∈ L112 := (hx113 qa84 hmqa84).1
  have hkqa84 : kp110 qa84 = 331 := (hvqa84.1).trans hkqa84
  have hvqa89 := (hx113 qa89 hmqa89).2
  have hmqa89 : qa89 ∈ L112 := (hx113 qa89 hmqa89).1
  have hkqa89 : kp110 qa89 = 332 := (hvqa89.1).trans hkqa89
  have hvqa94 := (hx113 qa94 hmqa94).2
  have hmqa94 : qa94 ∈ L112 := (hx113 qa94 hmqa94).1
  have hkqa94 : kp110 qa94 = 333 := (hvqa94.1).trans hkqa94
  have hvqa99 := (hx113 qa99 hmqa99).2
  have hmqa99 : qa99 ∈ L112 := (hx113 qa99 hmqa99).1
  have hkqa99 : kp110 qa99 = 334 := (hvqa99.1).trans hkqa99
  have hvqa104 := (hx113 qa104 hmqa104).2
  have hmqa104 : qa104 ∈ L112 := (hx113 qa104 hmqa104).1
  have hkqa104 : kp110 qa104 = 335 := (hvqa104.1).trans hkqa104
  have hqqm31 : E111 qm31 = gd_out (cs 4) 10 rr32 := (hvqm31.2).trans hqqm31
  have hqqm37 : E111 qm37 = gd_out (cs 4) 10 rr38 := (hvqm37.2).trans hqqm37
  have hqqm55 : E111 qm55 = gd_out (cs 5) 16 rr56 := (hvqm55.2).trans hqqm55
  have hqqm67 : E111 qm67 = gd_out (cs 4) 16 rr68 := (hvqm67.2).trans hqqm67
  have hsqm55 : ∀ j : Nat, j < 16 → rr56 j ∈ L112 ∧ E111 (rr56 j) = .inl (cs 3, (150, .inl (fun _ => 0))) := fun j hj => ⟨(hx113 _ (hsqm55 j hj).1).1, ((hx113 _ (hsqm55 j hj).1).2.2).trans (hsqm55 j hj).2⟩
  refine va_putF (D := D) (ci := 12) (v := .ref qa109) (ty := .array .byte) (C := RX12) (T := TX12) (N := 64) hx hb hB cx_inX12 tyX12 tyX12_ok nmX12 hown hK hP hD hS 0 rfl rfl 30 (by decide) (hB _ cw_1223) (fun _ h9 => h9) rfl hnm rfl (by decide +kernel) rfl rfl (Nat.le_of_ble_eq_true rfl) dX12_init_215 (fun H locs hP hD hS => ?_)
  have hP : va_P D vwCl ([(o, .inr (12, [.ref qa1, .int 0, .int 0, .int 0, .int 0, .ref qa6, .ref qa11, .ref qa16, .ref qa21, .ref qa26, .ref qm31, .ref qm37, .ref qm43, .ref qm49, .int 0, .int 0, .ref qm55, .ref qm61, .ref qm67, .ref qm73, .ref qa79, .ref qa84, .ref qa89, .ref qa94, .ref qa99, .ref qa104, .int 0, .int 0, .int 0, .int 0, .ref qa109, .null, .null, .null, .null, .null, .null, .null, .null, .null, .null, .null, .null, .null, .null, .null, .null, .null, .null, .null, .int 0, .int 0, .int 0, .null, .null, .null, .null, .int 0, .int 0, .null, .null, .null, .null, .int 0]))] ++ va_pl L112 E111) H := hP
  have hD : va_D A ([(o, .inr (12, [.ref qa1, .int 0, .int 0, .int 0, .int 0, .ref qa6, .ref qa11, .ref qa16, .ref qa21, .ref qa26, .ref qm31, .ref qm37, .ref qm43, .ref qm49, .int 0, .int 0, .ref qm55, .ref qm61, .ref qm67, .ref qm73, .ref qa79, .ref qa84, .ref qa89, .ref qa94, .ref qa99, .ref qa104, .int 0, .int 0, .int 0, .int 0, .ref qa109, .null, .null, .null, .null, .null, .null, .null, .null, .null, .null, .null, .null, .null, .null, .null, .null, .null, .null, .null, .int 0, .int 0, .int 0, .null, .null, .null, .null, .int 0, .int 0, .null, .null, .null, .null, .int 0]))] ++ va_pl L112 E111) := hD
  refine lv_aload_n hx hb dX12_init_218 rfl (lv_at hl 0 rfl) ?_
  refine lv_bipush (v := 10) hx hb dX12_init_219 (by decide) ?_
  refine cx_newa (cs := cs) (atype := .int) (ty := .int) (a0 := (10, .inl (fun _ => 0))) hx hb hB cw_59 rfl cx_ra_int 0 rfl hK hP hD hS hA (fun _ => rfl) (by decide) (by decide) (Nat.le_of_ble_eq_true rfl) (Nat.le_of_ble_eq_true rfl) (Nat.le_of_ble_eq_true rfl) dX12_init_221 (fun qa114 H hP hD hS => ?_)
  obtain ⟨kp115, E116, hP, hD, hT, hx118, hkqa114, hqqa114, hnqa114⟩ := tw_abs (k := 337) hP hD hT (fun _ _ _ => ⟨by decide, rfl, rfl, (fun _ _ => (show (0 : Int) ≤ ((0 : Int32)).toInt ∧ ((0 : Int32)).toInt ≤ 500 from by decide))⟩)
  obtain ⟨L117, hL⟩ : ∃ z, z = L112 ++ [qa114] := ⟨_, rfl⟩
  have hmqa114 : qa114 ∈ L117 := by rw [hL]; simp
  rw [← hL] at hP hD hT hx118
  have hnqa114 : qa114 ∉ L0 := fun z => hnqa114 (hex _ z).1
  have hex : ∀ a : Nat, a ∈ L0 → a ∈ L117 ∧ kp115 a = kp0 a ∧ E116 a = E0 a := fun a h => ⟨(hx118 a (hex a h).1).1, ((hx118 a (hex a h).1).2.1).trans (hex a h).2.1, ((hx118 a (hex a h).1).2.2).trans (hex a h).2.2⟩
  have hvqa1 := (hx118 qa1 hmqa1).2
  have hmqa1 : qa1 ∈ L117 := (hx118 qa1 hmqa1).1
  have hkqa1 : kp115 qa1 = 300 := (hvqa1.1).trans hkqa1
  have hvqa6 := (hx118 qa6 hmqa6).2
  have hmqa6 : qa6 ∈ L117 := (hx118 qa6 hmqa6).1
  have hkqa6 : kp115 qa6 = 301 := (hvqa6.1).trans hkqa6
  have hvqa11 := (hx118 qa11 hmqa11).2
  have hmqa11 : qa11 ∈ L117 := (hx118 qa11 hmqa11).1
  have hkqa11 : kp115 qa11 = 302 := (hvqa11.1).trans hkqa11
  have hvqa16 := (hx118 qa16 hmqa16).2
  have hmqa16 : qa16 ∈ L117 := (hx118 qa16 hmqa16).1
  have hkqa16 : kp115 qa16 = 303 := (hvqa16.1).trans hkqa16
  have hvqa21 := (hx118 qa21 hmqa21).2
  have hmqa21 : qa21 ∈ L117 := (hx118 qa21 hmqa21).1
  have hkqa21 : kp115 qa21 = 304 := (hvqa21.1).trans hkqa21
  have hvqa26 := (hx118 qa26 hmqa26).2
  have hmqa26 : qa26 ∈ L117 := (hx118 qa26 hmqa26).1
  have hkqa26 : kp115 qa26 = 305 := (hvqa26.1).trans hkqa26
  have hvqm31 := (hx118 qm31 hmqm31).2
  have hmqm31 : qm31 ∈ L117 := (hx118 qm31 hmqm31).1
  have hkqm31 : kp115 qm31 = 310 := (hvqm31.1).trans hkqm31
  have hvqm37 := (hx118 qm37 hmqm37).2
  have hmqm37 : qm37 ∈ L117 := (hx118 qm37 hmqm37).1
  have hkqm37 : kp115 qm37 = 311 := (hvqm37.1).trans hkqm37
  have hvqm43 := (hx118 qm43 hmqm43).2
  have hmqm43 : qm43 ∈ L117 := (hx118 qm43 hmqm43).1
  have hkqm43 : kp115 qm43 = 312 := (hvqm43.1).trans hkqm43
  have hvqm49 := (hx118 qm49 hmqm49).2
  have hmqm49 : qm49 ∈ L117 := (hx118 qm49 hmqm49).1
  have hkqm49 : kp115 qm49 = 313 := (hvqm49.1).trans hkqm49
  have hvqm55 := (hx118 qm55 hmqm55).2
  have hmqm55 : qm55 ∈ L117 := (hx118 qm55 hmqm55).1
  have hkqm55 : kp115 qm55 = 316 := (hvqm55.1).trans hkqm55
  have hvqm61 := (hx118 qm61 hmqm61).2
  have hmqm61 : qm61 ∈ L117 := (hx118 qm61 hmqm61).1
  have hkqm61 : kp115 qm61 = 317 := (hvqm61.1).trans hkqm61
  have hvqm67 := (hx118 qm67 hmqm67).2
  have hmqm67 : qm67 ∈ L117 := (hx118 qm67 hmqm67).1
  have hkqm67 : kp115 qm67 = 318 := (hvqm67.1).trans hkqm67
  have hvqm73 := (hx118 qm73 hmqm73).2
  have hmqm73 : qm73 ∈ L117 := (hx118 qm73 hmqm73).1
  have hkqm73 : kp115 qm73 = 319 := (hvqm73.1).trans hkqm73
  have hvqa79 := (hx118 qa79 hmqa79).2
  have hmqa79 : qa79 ∈ L117 := (hx118 qa79 hmqa79).1
  have hkqa79 : kp115 qa79 = 330 := (hvqa79.1).trans hkqa79
  have hvqa84 := (hx118 qa84 hmqa84).2
  have hmqa84 : qa84 ∈ L117 := (hx118 qa84 hmqa84).1
  have hkqa84 : kp115 qa84 = 331 := (hvqa84.1).trans hkqa84
  have hvqa89 := (hx118 qa89 hmqa89).2
  have hmqa89 : qa89 ∈ L117 := (hx118 qa89 hmqa89).1
  have hkqa89 : kp115 qa89 = 332 := (hvqa89.1).trans hkqa89
  have hvqa94 := (hx118 qa94 hmqa94).2
  have hmqa94 : qa94 ∈ L117 := (hx118 qa94 hmqa94).1
  have hkqa94 : kp115 qa94 = 333 := (hvqa94.1).trans hkqa94
  have hvqa99 := (hx118 qa99 hmqa99).2
  have hmqa99 : qa99 ∈ L117 := (hx118 qa99 hmqa99).1
  have hkqa99 : kp115 qa99 = 334 := (hvqa99.1).trans hkqa99
  have hvqa104 := (hx118 qa104 hmqa104).2
  have hmqa104 : qa104 ∈ L117 := (hx118 qa104 hmqa104).1
  have hkqa104 : kp115 qa104 = 335 := (hvqa104.1).trans hkqa104
  have hvqa109 := (hx118 qa109 hmqa109).2
  have hmqa109 : qa109 ∈ L117 := (hx118 qa109 hmqa109).1
  have hkqa109 : kp115 qa109 = 336 := (hvqa109.1).trans hkqa109
  have hqqm31 : E116 qm31 = gd_out (cs 4) 10 rr32 := (hvqm31.2).trans hqqm31
  have hqqm37 : E116 qm37 = gd_out (cs 4) 10 rr38 := (hvqm37.2).trans hqqm37
  have hqqm55 : E116 qm55 = gd_out (cs 5) 16 rr56 := (hvqm55.2).trans hqqm55
  have hqqm67 : E116 qm67 = gd_out (cs 4) 16 rr68 := (hvqm67.2).trans hqqm67
  have hsqm55 : ∀ j : Nat, j < 16 → rr56 j ∈ L117 ∧ E116 (rr56 j) = .inl (cs 3, (150, .inl (fun _ => 0))) := fun j hj => ⟨(hx118 _ (hsqm55 j hj).1).1, ((hx118 _ (hsqm55 j hj).1).2.2).trans (hsqm55 j hj).2⟩
  refine va_putF (D := D) (ci := 12) (v := .ref qa114) (ty := .array .int) (C := RX12) (T := TX12) (N := 64) hx hb hB cx_inX12 tyX12 tyX12_ok nmX12 hown hK hP hD hS 0 rfl rfl 31 (by decide) (hB _ cw_1224) (fun _ h9 => h9) rfl hnm rfl (by decide +kernel) rfl rfl (Nat.le_of_ble_eq_true rfl) dX12_init_223 (fun H locs hP hD hS => ?_)
  have hP : va_P D vwCl ([(o, .inr (12, [.ref qa1, .int 0, .int 0, .int 0, .int 0, .ref qa6, .ref qa11, .ref qa16, .ref qa21, .ref qa26, .ref qm31, .ref qm37, .ref qm43, .ref qm49, .int 0, .int 0, .ref qm55, .ref qm61, .ref qm67, .ref qm73, .ref qa79, .ref qa84, .ref qa89, .ref qa94, .ref qa99, .ref qa104, .int 0, .int 0, .int 0, .int 0, .ref qa109, .ref qa114, .null, .null, .null, .null, .null, .null, .null, .null, .null, .null, .null, .null, .null, .null, .null, .null, .null, .null, .int 0, .int 0, .int 0, .null, .null, .null, .null, .int 0, .int 0, .null, .null, .null, .null, .int 0]))] ++ va_pl L117 E116) H := hP
  have hD : va_D A ([(o, .inr (12, [.ref qa1, .int 0, .int 0, .int 0, .int 0, .ref qa6, .ref qa11, .ref qa16, .ref qa21, .ref qa26, .ref qm31, .ref qm37, .ref qm43, .ref qm49, .int 0, .int 0, .ref qm55, .ref qm61, .ref qm67, .ref qm73, .ref qa79, .ref qa84, .ref qa89, .ref qa94, .ref qa99, .ref qa104, .int 0, .int 0, .int 0, .int 0, .ref qa109, .ref qa114, .null, .null, .null, .null, .null, .null, .null, .null, .null, .null, .null, .null, .null, .null, .null, .null, .null, .null, .int 0, .int 0, .int 0, .null, .null, .null, .null, .int 0, .int 0, .null, .null, .null, .null, .int 0]))] ++ va_pl L117 E116) := hD
  refine lv_aload_n hx hb dX12_init_226 rfl (lv_at hl 0 rfl) ?_
  refine lv_bipush (v := 10) hx hb dX12_init_227 (by decide) ?_
  refine cx_newa (cs := cs) (atype := .int) (ty := .int) (a0 := (10, .inl (fun _ => 0))) hx hb hB cw_59 rfl cx_ra_int 0 rfl hK hP hD hS hA (fun _ => rfl) (by decide) (by decide) (Nat.le_of_ble_eq_true rfl) (Nat.le_of_ble_eq_true rfl) (Nat.le_of_ble_eq_true rfl) dX12_init_229 (fun qa119 H hP hD hS => ?_)
  obtain ⟨kp120, E121, hP, hD, hT, hx123, hkqa119, hqqa119, hnqa119⟩ := tw_abs (k := 338) hP hD hT (fun _ _ _ => ⟨by decide, rfl, rfl, (fun _ _ => (show (0 : Int) ≤ ((0 : Int32)).toInt ∧ ((0 : Int32)).toInt ≤ 500 from by decide))⟩)
  obtain ⟨L122, hL⟩ : ∃ z, z = L117 ++ [qa119] := ⟨_, rfl⟩
  have hmqa119 : qa119 ∈ L122 := by rw [hL]; simp
  rw [← hL] at hP hD hT hx123
  have hnqa119 : qa119 ∉ L0 := fun z => hnqa119 (hex _ z).1
  have hex : ∀ a : Nat, a ∈ L0 → a ∈ L122 ∧ kp120 a = kp0 a ∧ E121 a = E0 a := fun a h => ⟨(hx123 a (hex a h).1).1, ((hx123 a (hex a h).1).2.1).trans (hex a h).2.1, ((hx123 a (hex a h).1).2.2).trans (hex a h).2.2⟩
  have hvqa1 := (hx123 qa1 hmqa1).2
  have hmqa1 : qa1 ∈ L122 := (hx123 qa1 hmqa1).1
  have hkqa1 : kp120 qa1 = 300 := (hvqa1.1).trans hkqa1
  have hvqa6 := (hx123 qa6 hmqa6).2
  have hmqa6 : qa6 ∈ L122 := (hx123 qa6 hmqa6).1
  have hkqa6 : kp120 qa6 = 301 := (hvqa6.1).trans hkqa6
  have hvqa11 := (hx123 qa11 hmqa11).2
  have hmqa11 : qa11 ∈ L122 := (hx123 qa11 hmqa11).1
  have hkqa11 : kp120 qa11 = 302 := (hvqa11.1).trans hkqa11
  have hvqa16 := (hx123 qa16 hmqa16).2
  have hmqa16 : qa16 ∈ L122 := (hx123 qa16 hmqa16).1
  have hkqa16 : kp120 qa16 = 303 := (hvqa16.1).trans hkqa16
  have hvqa21 := (hx123 qa21 hmqa21).2
  have hmqa21 : qa21 ∈ L122 := (hx123 qa21 hmqa21).1
  have hkqa21 : kp120 qa21 = 304 := (hvqa21.1).trans hkqa21
  have hvqa26 := (hx123 qa26 hmqa26).2
  have hmqa26 : qa26 ∈ L122 := (hx123 qa26 hmqa26).1
  have hkqa26 : kp120 qa26 = 305 := (hvqa26.1).trans hkqa26
  have hvqm31 := (hx123 qm31 hmqm31).2
  have hmqm31 : qm31 ∈ L122 := (hx123 qm31 hmqm31).1
  have hkqm31 : kp120 qm31 = 310 := (hvqm31.1).trans hkqm31
  have hvqm37 := (hx123 qm37 hmqm37).2
  have hmqm37 : qm37 ∈ L122 := (hx123 qm37 hmqm37).1
  have hkqm37 : kp120 qm37 = 311 := (hvqm37.1).trans hkqm37
  have hvqm43 := (hx123 qm43 hmqm43).2
  have hmqm43 : qm43 ∈ L122 := (hx123 qm43 hmqm43).1
  have hkqm43 : kp120 qm43 = 312 := (hvqm43.1).trans hkqm43
  have hvqm49 := (hx123 qm49 hmqm49).2
  have hmqm49 : qm49 ∈ L122 := (hx123 qm49 hmqm49).1
  have hkqm49 : kp120 qm49 = 313 := (hvqm49.1).trans hkqm49
  have hvqm55 := (hx123 qm55 hmqm55).2
  have hmqm55 : qm55 ∈ L122 := (hx123 qm55 hmqm55).1
  have hkqm55 : kp120 qm55 = 316 := (hvqm55.1).trans hkqm55
  have hvqm61 := (hx123 qm61 hmqm61).2
  have hmqm61 : qm61 ∈ L122 := (hx123 qm61 hmqm61).1
  have hkqm61 : kp120 qm61 = 317 := (hvqm61.1).trans hkqm61
  have hvqm67 := (hx123 qm67 hmqm67).2
  have hmqm67 : qm67 ∈ L122 := (hx123 qm67 hmqm67).1
  have hkqm67 : kp120 qm67 = 318 := (hvqm67.1).trans hkqm67
  have hvqm73 := (hx123 qm73 hmqm73).2
  have hmqm73 : qm73 ∈ L122 := (hx123 qm73 hmqm73).1
  have hkqm73 : kp120 qm73 = 319 := (hvqm73.1).trans hkqm73
  have hvqa79 := (hx123 qa79 hmqa79).2
  have hmqa79 : qa79 ∈ L122 := (hx123 qa79 hmqa79).1
  have hkqa79 : kp120 qa79 = 330 := (hvqa79.1).trans hkqa79
  have hvqa84 := (hx123 qa84 hmqa84).2
  have hmqa84 : qa84 ∈ L122 := (hx123 qa84 hmqa84).1
  have hkqa84 : kp120 qa84 = 331 := (hvqa84.1).trans hkqa84
  have hvqa89 := (hx123 qa89 hmqa89).2
  have hmqa89 : qa89 ∈ L122 := (hx123 qa89 hmqa89).1
  have hkqa89 : kp120 qa89 = 332 := (hvqa89.1).trans hkqa89
  have hvqa94 := (hx123 qa94 hmqa94).2
  have hmqa94 : qa94 ∈ L122 := (hx123 qa94 hmqa94).1
  have hkqa94 : kp120 qa94 = 333 := (hvqa94.1).trans hkqa94
  have hvqa99 := (hx123 qa99 hmqa99).2
  have hmqa99 : qa99 ∈ L122 := (hx123 qa99 hmqa99).1
  have hkqa99 : kp120 qa99 = 334 := (hvqa99.1).trans hkqa99
  have hvqa104 := (hx123 qa104 hmqa104).2
  have hmqa104 : qa104 ∈ L122 := (hx123 qa104 hmqa104).1
  have hkqa104 : kp120 qa104 = 335 := (hvqa104.1).trans hkqa104
  have hvqa109 := (hx123 qa109 hmqa109).2
  have hmqa109 : qa109 ∈ L122 := (hx123 qa109 hmqa109).1
  have hkqa109 : kp120 qa109 = 336 := (hvqa109.1).trans hkqa109
  have hvqa114 := (hx123 qa114 hmqa114).2
  have hmqa114 : qa114 ∈ L122 := (hx123 qa114 hmqa114).1
  have hkqa114 : kp120 qa114 = 337 := (hvqa114.1).trans hkqa114
  have hqqm31 : E121 qm31 = gd_out (cs 4) 10 rr32 := (hvqm31.2).trans hqqm31
  have hqqm37 : E121 qm37 = gd_out (cs 4) 10 rr38 := (hvqm37.2).trans hqqm37
  have hqqm55 : E121 qm55 = gd_out (cs 5) 16 rr56 := (hvqm55.2).trans hqqm55
  have hqqm67 : E121 qm67 = gd_out (cs 4) 16 rr68 := (hvqm67.2).trans hqqm67
  have hqqa114 : E121 qa114 = .inl (cs 0, 10, .inl (fun _ => 0)) := (hvqa114.2).trans hqqa114
  have hsqm55 : ∀ j : Nat, j < 16 → rr56 j ∈ L122 ∧ E121 (rr56 j) = .inl (cs 3, (150, .inl (fun _ => 0))) := fun j hj => ⟨(hx123 _ (hsqm55 j hj).1).1, ((hx123 _ (hsqm55 j hj).1).2.2).trans (hsqm55 j hj).2⟩
  refine va_putF (D := D) (ci := 12) (v := .ref qa119) (ty := .array .int) (C := RX12) (T := TX12) (N := 64) hx hb hB cx_inX12 tyX12 tyX12_ok nmX12 hown hK hP hD hS 0 rfl rfl 32 (by decide) (hB _ cw_1225) (fun _ h9 => h9) rfl hnm rfl (by decide +kernel) rfl rfl (Nat.le_of_ble_eq_true rfl) dX12_init_231 (fun H locs hP hD hS => ?_)
  have hP : va_P D vwCl ([(o, .inr (12, [.ref qa1, .int 0, .int 0, .int 0, .int 0, .ref qa6, .ref qa11, .ref qa16, .ref qa21, .ref qa26, .ref qm31, .ref qm37, .ref qm43, .ref qm49, .int 0, .int 0, .ref qm55, .ref qm61, .ref qm67, .ref qm73, .ref qa79, .ref qa84, .ref qa89, .ref qa94, .ref qa99, .ref qa104, .int 0, .int 0, .int 0, .int 0, .ref qa109, .ref qa114, .ref qa119, .null, .null, .null, .null, .null, .null, .null, .null, .null, .null, .null, .null, .null, .null, .null, .null, .null, .int 0, .int 0, .int 0, .null, .null, .null, .null, .int 0, .int 0, .null, .null, .null, .null, .int 0]))] ++ va_pl L122 E121) H := hP
  have hD : va_D A ([(o, .inr (12, [.ref qa1, .int 0, .int 0, .int 0, .int 0, .ref qa6, .ref qa11, .ref qa16, .ref qa21, .ref qa26, .ref qm31, .ref qm37, .ref qm43, .ref qm49, .int 0, .int 0, .ref qm55, .ref qm61, .ref qm67, .ref qm73, .ref qa79, .ref qa84, .ref qa89, .ref qa94, .ref qa99, .ref qa104, .int 0, .int 0, .int 0, .int 0, .ref qa109, .ref qa114, .ref qa119, .null, .null, .null, .null, .null, .null, .null, .null, .null, .null, .null, .null, .null, .null, .null, .null, .null, .int 0, .int 0, .int 0, .null, .null, .null, .null, .int 0, .int 0, .null, .null, .null, .null, .int 0]))] ++ va_pl L122 E121) := hD
  refine lv_aload_n hx hb dX12_init_234 rfl (lv_at hl 0 rfl) ?_
  refine lv_bipush (v := 10) hx hb dX12_init_235 (by decide) ?_
  refine cx_newa (cs := cs) (atype := .int) (ty := .int) (a0 := (10, .inl (fun _ => 0))) hx hb hB cw_59 rfl cx_ra_int 0 rfl hK hP hD hS hA (fun _ => rfl) (by decide) (by decide) (Nat.le_of_ble_eq_true rfl) (Nat.le_of_ble_eq_true rfl) (Nat.le_of_ble_eq_true rfl) dX12_init_237 (fun qa124 H hP hD hS => ?_)
  obtain ⟨kp125, E126, hP, hD, hT, hx128, hkqa124, hqqa124, hnqa124⟩ := tw_abs (k := 339) hP hD hT (fun _ _ _ => ⟨by decide, rfl, rfl, (fun _ _ => (show (0 : Int) ≤ ((0 : Int32)).toInt ∧ ((0 : Int32)).toInt ≤ 2 from by decide))⟩)
  obtain ⟨L127, hL⟩ : ∃ z, z = L122 ++ [qa124] := ⟨_, rfl⟩
  have hmqa124 : qa124 ∈ L127 := by rw [hL]; simp
  rw [← hL] at hP hD hT hx128
  have hnqa124 : qa124 ∉ L0 := fun z => hnqa124 (hex _ z).1
  have hex : ∀ a : Nat, a ∈ L0 → a ∈ L127 ∧ kp125 a = kp0 a ∧ E126 a = E0 a := fun a h => ⟨(hx128 a (hex a h).1).1, ((hx128 a (hex a h).1).2.1).trans (hex a h).2.1, ((hx128 a (hex a h).1).2.2).trans (hex a h).2.2⟩
  have hvqa1 := (hx128 qa1 hmqa1).2
  have hmqa1 : qa1 ∈ L127 := (hx128 qa1 hmqa1).1
  have hkqa1 : kp125 qa1 = 300 := (hvqa1.1).trans hkqa1
  have hvqa6 := (hx128 qa6 hmqa6).2
  have hmqa6 : qa6 ∈ L127 := (hx128 qa6 hmqa6).1
  have hkqa6 : kp125 qa6 = 301 := (hvqa6.1).trans hkqa6
  have hvqa11 := (hx128 qa11 hmqa11).2
  have hmqa11 : qa11 ∈ L127 := (hx128 qa11 hmqa11).1
  have hkqa11 : kp125 qa11 = 302 := (hvqa11.1).trans hkqa11
  have hvqa16 := (hx128 qa16 hmqa16).2
  have hmqa16 : qa16 ∈ L127 := (hx128 qa16 hmqa16).1
  have hkqa16 : kp125 qa16 = 303 := (hvqa16.1).trans hkqa16
  have hvqa21 := (hx128 qa21 hmqa21).2
  have hmqa21 : qa21 ∈ L127 := (hx128 qa21 hmqa21).1
  have hkqa21 : kp125 qa21 = 304 := (hvqa21.1).trans hkqa21
  have hvqa26 := (hx128 qa26 hmqa26).2
  have hmqa26 : qa26 ∈ L127 := (hx128 qa26 hmqa26).1
  have hkqa26 : kp125 qa26 = 305 := (hvqa26.1).trans hkqa26
  have hvqm31 := (hx128 qm31 hmqm31).2
  have hmqm31 : qm31 ∈ L127 := (hx128 qm31 hmqm31).1
  have hkqm31 : kp125 qm31 = 310 := (hvqm31.1).trans hkqm31
  have hvqm37 := (hx128 qm37 hmqm37).2
  have hmqm37 : qm37 ∈ L127 := (hx128 qm37 hmqm37).1
  have hkqm37 : kp125 qm37 = 311 := (hvqm37.1).trans hkqm37
  have hvqm43 := (hx128 qm43 hmqm43).2
  have hmqm43 : qm43 ∈ L127 := (hx128 qm43 hmqm43).1
  have hkqm43 : kp125 qm43 = 312 := (hvqm43.1).trans hkqm43
  have hvqm49 := (hx128 qm49 hmqm49).2
  have hmqm49 : qm49 ∈ L127 := (hx128 qm49 hmqm49).1
  have hkqm49 : kp125 qm49 = 313 := (hvqm49.1).trans hkqm49
  have hvqm55 := (hx128 qm55 hmqm55).2
  have hmqm55 : qm55 ∈ L127 := (hx128 qm55 hmqm55).1
  have hkqm55 : kp125 qm55 = 316 := (hvqm55.1).trans hkqm55
  have hvqm61 := (hx128 qm61 hmqm61).2
  have hmqm61 : qm61 ∈ L127 := (hx128 qm61 hmqm61).1
  have hkqm61 : kp125 qm61 = 317 := (hvqm61.1).trans hkqm61
  have hvqm67 := (hx128 qm67 hmqm67).2
  have hmqm67 : qm67 ∈ L127 := (hx128 qm67 hmqm67).1
  have hkqm67 : kp125 qm67 = 318 := (hvqm67.1).trans hkqm67
  have hvqm73 := (hx128 qm73 hmqm73).2
  have hmqm73 : qm73 ∈ L127 := (hx128 qm73 hmqm73).1
  have hkqm73 : kp125 qm73 = 319 := (hvqm73.1).trans hkqm73
  have hvqa79 := (hx128 qa79 hmqa79).2
  have hmqa79 : qa79 ∈ L127 := (hx128 qa79 hmqa79).1
  have hkqa79 : kp125 qa79 = 330 := (hvqa79.1).trans hkqa79
  have hvqa84 := (hx128 qa84 hmqa84).2
  have hmqa84 : qa84 ∈ L127 := (hx128 qa84 hmqa84).1
  have hkqa84 : kp125 qa84 = 331 := (hvqa84.1).trans hkqa84
  have hvqa89 := (hx128 qa89 hmqa89).2
  have hmqa89 : qa89 ∈ L127 := (hx128 qa89 hmqa89).1
  have hkqa89 : kp125 qa89 = 332 := (hvqa89.1).trans hkqa89
  have hvqa94 := (hx128 qa94 hmqa94).2
  have hmqa94 : qa94 ∈ L127 := (hx128 qa94 hmqa94).1
  have hkqa94 : kp125 qa94 = 333 := (hvqa94.1).trans hkqa94
  have hvqa99 := (hx128 qa99 hmqa99).2
  have hmqa99 : qa99 ∈ L127 := (hx128 qa99 hmqa99).1
  have hkqa99 : kp125 qa99 = 334 := (hvqa99.1).trans hkqa99
  have hvqa104 := (hx128 qa104 hmqa104).2
  have hmqa104 : qa104 ∈ L127 := (hx128 qa104 hmqa104).1
  have hkqa104 : kp125 qa104 = 335 := (hvqa104.1).trans hkqa104
  have hvqa109 := (hx128 qa109 hmqa109).2
  have hmqa109 : qa109 ∈ L127 := (hx128 qa109 hmqa109).1
  have hkqa109 : kp125 qa109 = 336 := (hvqa109.1).trans hkqa109
  have hvqa114 := (hx128 qa114 hmqa114).2
  have hmqa114 : qa114 ∈ L127 := (hx128 qa114 hmqa114).1
  have hkqa114 : kp125 qa114 = 337 := (hvqa114.1).trans hkqa114
  have hvqa119 := (hx128 qa119 hmqa119).2
  have hmqa119 : qa119 ∈ L127 := (hx128 qa119 hmqa119).1
  have hkqa119 : kp125 qa119 = 338 := (hvqa119.1).trans hkqa119
  have hqqm31 : E126 qm31 = gd_out (cs 4) 10 rr32 := (hvqm31.2).trans hqqm31
  have hqqm37 : E126 qm37 = gd_out (cs 4) 10 rr38 := (hvqm37.2).trans hqqm37
  have hqqm55 : E126 qm55 = gd_out (cs 5) 16 rr56 := (hvqm55.2).trans hqqm55
  have hqqm67 : E126 qm67 = gd_out (cs 4) 16 rr68 := (hvqm67.2).trans hqqm67
  have hqqa114 : E126 qa114 = .inl (cs 0, 10, .inl (fun _ => 0)) := (hvqa114.2).trans hqqa114
  have hqqa119 : E126 qa119 = .inl (cs 0, 10, .inl (fun _ => 0)) := (hvqa119.2).trans hqqa119
  have hsqm55 : ∀ j : Nat, j < 16 → rr56 j ∈ L127 ∧ E126 (rr56 j) = .inl (cs 3, (150, .inl (fun _ => 0))) := fun j hj => ⟨(hx128 _ (hsqm55 j hj).1).1, ((hx128 _ (hsqm55 j hj).1).2.2).trans (hsqm55 j hj).2⟩
  refine va_putF (D := D) (ci := 12) (v := .ref qa124) (ty := .array .int) (C := RX12) (T := TX12) (N := 64) hx hb hB cx_inX12 tyX12 tyX12_ok nmX12 hown hK hP hD hS 0 rfl rfl 33 (by decide) (hB _ cw_1226) (fun _ h9 => h9) rfl hnm rfl (by decide +kernel) rfl rfl (Nat.le_of_ble_eq_true rfl) dX12_init_239 (fun H locs hP hD hS => ?_)
  have hP : va_P D vwCl ([(o, .inr (12, [.ref qa1, .int 0, .int 0, .int 0, .int 0, .ref qa6, .ref qa11, .ref qa16, .ref qa21, .ref qa26, .ref qm31, .ref qm37, .ref qm43, .ref qm49, .int 0, .int 0, .ref qm55, .ref qm61, .ref qm67, .ref qm73, .ref qa79, .ref qa84, .ref qa89, .ref qa94, .ref qa99, .ref qa104, .int 0, .int 0, .int 0, .int 0, .ref qa109, .ref qa114, .ref qa119, .ref qa124, .null, .null, .null, .null, .null, .null, .null, .null, .null, .null, .null, .null, .null, .null, .null, .null, .int 0, .int 0, .int 0, .null, .null, .null, .null, .int 0, .int 0, .null, .null, .null, .null, .int 0]))] ++ va_pl L127 E126) H := hP
  have hD : va_D A ([(o, .inr (12, [.ref qa1, .int 0, .int 0, .int 0, .int 0, .ref qa6, .ref qa11, .ref qa16, .ref qa21, .ref qa26, .ref qm31, .ref qm37, .ref qm43, .ref qm49, .int 0, .int 0, .ref qm55, .ref qm61, .ref qm67, .ref qm73, .ref qa79, .ref qa84, .ref qa89, .ref qa94, .ref qa99, .ref qa104, .int 0, .int 0, .int 0, .int 0, .ref qa109, .ref qa114, .ref qa119, .ref qa124, .null, .null, .null, .null, .null, .null, .null, .null, .null, .null, .null, .null, .null, .null, .null, .null, .int 0, .int 0, .int 0, .null, .null, .null, .null, .int 0, .int 0, .null, .null, .null, .null, .int 0]))] ++ va_pl L127 E126) := hD
  refine lv_aload_n hx hb dX12_init_242 rfl (lv_at hl 0 rfl) ?_
  refine lv_bipush (v := 10) hx hb dX12_init_243 (by decide) ?_
  refine cx_newa (cs := cs) (atype := .int) (ty := .int) (a0 := (10, .inl (fun _ => 0))) hx hb hB cw_59 rfl cx_ra_int 0 rfl hK hP hD hS hA (fun _ => rfl) (by decide) (by decide) (Nat.le_of_ble_eq_true rfl) (Nat.le_of_ble_eq_true rfl) (Nat.le_of_ble_eq_true rfl) dX12_init_245 (fun qa129 H hP hD hS => ?_)
  obtain ⟨kp130, E131, hP, hD, hT, hx133, hkqa129, hqqa129, hnqa129⟩ := tw_abs (k := 340) hP hD hT (fun _ _ _ => ⟨by decide, rfl, rfl, (fun _ _ => (show (0 : Int) ≤ ((0 : Int32)).toInt ∧ ((0 : Int32)).toInt ≤ 252 from by decide))⟩)
  obtain ⟨L132, hL⟩ : ∃ z, z = L127 ++ [qa129] := ⟨_, rfl⟩
  have hmqa129 : qa129 ∈ L132 := by rw [hL]; simp
  rw [← hL] at hP hD hT hx133
  have hnqa129 : qa129 ∉ L0 := fun z => hnqa129 (hex _ z).1
  have hex : ∀ a : Nat, a ∈ L0 → a ∈ L132 ∧ kp130 a = kp0 a ∧ E131 a = E0 a := fun a h => ⟨(hx133 a (hex a h).1).1, ((hx133 a (hex a h).1).2.1).trans (hex a h).2.1, ((hx133 a (hex a h).1).2.2).trans (hex a h).2.2⟩
  have hvqa1 := (hx133 qa1 hmqa1).2
  have hmqa1 : qa1 ∈ L132 := (hx133 qa1 hmqa1).1
  have hkqa1 : kp130 qa1 = 300 := (hvqa1.1).trans hkqa1
  have hvqa6 := (hx133 qa6 hmqa6).2
  have hmqa6 : qa6 ∈ L132 := (hx133 qa6 hmqa6).1
  have hkqa6 : kp130 qa6 = 301 := (hvqa6.1).trans hkqa6
  have hvqa11 := (hx133 qa11 hmqa11).2
  have hmqa11 : qa11 ∈ L132 := (hx133 qa11 hmqa11).1
  have hkqa11 : kp130 qa11 = 302 := (hvqa11.1).trans hkqa11
  have hvqa16 := (hx133 qa16 hmqa16).2
  have hmqa16 : qa16 ∈ L132 := (hx133 qa16 hmqa16).1
  have hkqa16 : kp130 qa16 = 303 := (hvqa16.1).trans hkqa16
  have hvqa21 := (hx133 qa21 hmqa21).2
  have hmqa21 : qa21 ∈ L132 := (hx133 qa21 hmqa21).1
  have hkqa21 : kp130 qa21 = 304 := (hvqa21.1).trans hkqa21
  have hvqa26 := (hx133 qa26 hmqa26).2
  have hmqa26 : qa26 ∈ L132 := (hx133 qa26 hmqa26).1
  have hkqa26 : kp130 qa26 = 305 := (hvqa26.1).trans hkqa26
  have hvqm31 := (hx133 qm31 hmqm31).2
  have hmqm31 : qm31 ∈ L132 := (hx133 qm31 hmqm31).1
  have hkqm31 : kp130 qm31 = 310 := (hvqm31.1).trans hkqm31
  have hvqm37 := (hx133 qm37 hmqm37).2
  have hmqm37 : qm37 ∈ L132 := (hx133 qm37 hmqm37).1
  have hkqm37 : kp130 qm37 = 311 := (hvqm37.1).trans hkqm37
  have hvqm43 := (hx133 qm43 hmqm43).2
  have hmqm43 : qm43 ∈ L132 := (hx133 qm43 hmqm43).1
  have hkqm43 : kp130 qm43 = 312 := (hvqm43.1).trans hkqm43
  have hvqm49 := (hx133 qm49 hmqm49).2
  have hmqm49 : qm49 ∈ L132 := (hx133 qm49 hmqm49).1
  have hkqm49 : kp130 qm49 = 313 := (hvqm49.1).trans hkqm49
  have hvqm55 := (hx133 qm55 hmqm55).2
  have hmqm55 : qm55 ∈ L132 := (hx133 qm55 hmqm55).1
  have hkqm55 : kp130 qm55 = 316 := (hvqm55.1).trans hkqm55
  have hvqm61 := (hx133 qm61 hmqm61).2
  have hmqm61 : qm61 ∈ L132 := (hx133 qm61 hmqm61).1
  have hkqm61 : kp130 qm61 = 317 := (hvqm61.1).trans hkqm61
  have hvqm67 := (hx133 qm67 hmqm67).2
  have hmqm67 : qm67 ∈ L132 := (hx133 qm67 hmqm67).1
  have hkqm67 : kp130 qm67 = 318 := (hvqm67.1).trans hkqm67
  have hvqm73 := (hx133 qm73 hmqm73).2
  have hmqm73 : qm73 ∈ L132 := (hx133 qm73 hmqm73).1
  have hkqm73 : kp130 qm73 = 319 := (hvqm73.1).trans hkqm73
  have hvqa79 := (hx133 qa79 hmqa79).2
  have hmqa79 : qa79 ∈ L132 := (hx133 qa79 hmqa79).1
  have hkqa79 : kp130 qa79 = 330 := (hvqa79.1).trans hkqa79
  have hvqa84 := (hx133 qa84 hmqa84).2
  have hmqa84 : qa84 ∈ L132 := (hx133 qa84 hmqa84).1
  have hkqa84 : kp130 qa84 = 331 := (hvqa84.1).trans hkqa84
  have hvqa89 := (hx133 qa89 hmqa89).2
  have hmqa89 : qa89 ∈ L132 := (hx133 qa89 hmqa89).1
  have hkqa89 : kp130 qa89 = 332 := (hvqa89.1).trans hkqa89
  have hvqa94 := (hx133 qa94 hmqa94).2
  have hmqa94 : qa94 ∈ L132 := (hx133 qa94 hmqa94).1
  have hkqa94 : kp130 qa94 = 333 := (hvqa94.1).trans hkqa94
  have hvqa99 := (hx133 qa99 hmqa99).2
  have hmqa99 : qa99 ∈ L132 := (hx133 qa99 hmqa99).1
  have hkqa99 : kp130 qa99 = 334 := (hvqa99.1).trans hkqa99
  have hvqa104 := (hx133 qa104 hmqa104).2
  have hmqa104 : qa104 ∈ L132 := (hx133 qa104 hmqa104).1
  have hkqa104 : kp130 qa104 = 335 := (hvqa104.1).trans hkqa104
  have hvqa109 := (hx133 qa109 hmqa109).2
  have hmqa109 : qa109 ∈ L132 := (hx133 qa109 hmqa109).1
  have hkqa109 : kp130 qa109 = 336 := (hvqa109.1).trans hkqa109
  have hvqa114 := (hx133 qa114 hmqa114).2
  have hmqa114 : qa114 ∈ L132 := (hx133 qa114 hmqa114).1
  have hkqa114 : kp130 qa114 = 337 := (hvqa114.1).trans hkqa114
  have hvqa119 := (hx133 qa119 hmqa119).2
  have hmqa119 : qa119 ∈ L132 := (hx133 qa119 hmqa119).1
  have hkqa119 : kp130 qa119 = 338 := (hvqa119.1).trans hkqa119
  have hvqa124 := (hx133 qa124 hmqa124).2
  have hmqa124 : qa124 ∈ L132 := (hx133 qa124 hmqa124).1
  have hkqa124 : kp130 qa124 = 339 := (hvqa124.1).trans hkqa124
  have hqqm31 : E131 qm31 = gd_out (cs 4) 10 rr32 := (hvqm31.2).trans hqqm31
  have hqqm37 : E131 qm37 = gd_out (cs 4) 10 rr38 := (hvqm37.2).trans hqqm37
  have hqqm55 : E131 qm55 = gd_out (cs 5) 16 rr56 := (hvqm55.2).trans hqqm55
  have hqqm67 : E131 qm67 = gd_out (cs 4) 16 rr68 := (hvqm67.2).trans hqqm67
  have hqqa114 : E131 qa114 = .inl (cs 0, 10, .inl (fun _ => 0)) := (hvqa114.2).trans hqqa114
  have hqqa119 : E131 qa119 = .inl (cs 0, 10, .inl (fun _ => 0)) := (hvqa119.2).trans hqqa119
  have hsqm55 : ∀ j : Nat, j < 16 → rr56 j ∈ L132 ∧ E131 (rr56 j) = .inl (cs 3, (150, .inl (fun _ => 0))) := fun j hj => ⟨(hx133 _ (hsqm55 j hj).1).1, ((hx133 _ (hsqm55 j hj).1).2.2).trans (hsqm55 j hj).2⟩
  refine va_putF (D := D) (ci := 12) (v := .ref qa129) (ty := .array .int) (C := RX12) (T := TX12) (N := 64) hx hb hB cx_inX12 tyX12 tyX12_ok nmX12 hown hK hP hD hS 0 rfl rfl 34 (by decide) (hB _ cw_1227) (fun _ h9 => h9) rfl hnm rfl (by decide +kernel) rfl rfl (Nat.le_of_ble_eq_true rfl) dX12_init_247 (fun H locs hP hD hS => ?_)
  have hP : va_P D vwCl ([(o, .inr (12, [.ref qa1, .int 0, .int 0, .int 0, .int 0, .ref qa6, .ref qa11, .ref qa16, .ref qa21, .ref qa26, .ref qm31, .ref qm37, .ref qm43, .ref qm49, .int 0, .int 0, .ref qm55, .ref qm61, .ref qm67, .ref qm73, .ref qa79, .ref qa84, .ref qa89, .ref qa94, .ref qa99, .ref qa104, .int 0, .int 0, .int 0, .int 0, .ref qa109, .ref qa114, .ref qa119, .ref qa124, .ref qa129, .null, .null, .null, .null, .null, .null, .null, .null, .null, .null, .null, .null, .null, .null, .null, .int 0, .int 0, .int 0, .null, .null, .null, .null, .int 0, .int 0, .null, .null, .null, .null, .int 0]))] ++ va_pl L132 E131) H := hP
  have hD : va_D A ([(o, .inr (12, [.ref qa1, .int 0, .int 0, .int 0, .int 0, .ref qa6, .ref qa11, .ref qa16, .ref qa21, .ref qa26, .ref qm31, .ref qm37, .ref qm43, .ref qm49, .int 0, .int 0, .ref qm55, .ref qm61, .ref qm67, .ref qm73, .ref qa79, .ref qa84, .ref qa89, .ref qa94, .ref qa99, .ref qa104, .int 0, .int 0, .int 0, .int 0, .ref qa109, .ref qa114, .ref qa119, .ref qa124, .ref qa129, .null, .null, .null, .null, .null, .null, .null, .null, .null, .null, .null, .null, .null, .null, .null, .int 0, .int 0, .int 0, .null, .null, .null, .null, .int 0, .int 0, .null, .null, .null, .null, .int 0]))] ++ va_pl L132 E131) := hD
  refine lv_aload_n hx hb dX12_init_250 rfl (lv_at hl 0 rfl) ?_
  refine lv_bipush (v := 10) hx hb dX12_init_251 (by decide) ?_
  refine lv_sipush (v := 252) hx hb dX12_init_253 (by decide) ?_
  refine cx_mna (cs := cs) (ty := .int) (N := 10) (K := 252) (z := (252, .inl (fun _ => 0))) hx hb hB hown cw_1187 (by decide) cw_59 hN.2.2.1 (fun _ h => h) 0 4 rfl rfl hK hP hD hS hA (by decide) (by decide) (by decide) (by decide) (Nat.le_of_ble_eq_true rfl) (Nat.le_of_ble_eq_true rfl) (Nat.le_of_ble_eq_true rfl) rfl rfl (Nat.le_of_ble_eq_true rfl) (Nat.le_of_ble_eq_true rfl) (fun _ => rfl) (List.range 10) (fun j hj => List.mem_range.mp hj) (by decide) dX12_init_256 (fun qm134 rr135 H hP hD hS => ?_)
  obtain ⟨kp136, L138, E137, hP, hD, hT, hx139, hmqm134, hkqm134, hqqm134, hnqm134, hrqm134, hiqm134⟩ := tw_absg (ko := 341) (kr := 351) (cA := cs 4) (cy := cs 0) (z := (252, .inl (fun _ => 0))) (N := 10) (r := rr135) (q := qm134) hP hD hT (by decide) rfl rfl rfl rfl (fun _ _ => ⟨by decide, rfl, rfl, (fun _ _ => (show ((-128) : Int) ≤ ((0 : Int32)).toInt ∧ ((0 : Int32)).toInt ≤ 127 from by decide))⟩)
  have hnqm134 : qm134 ∉ L0 := fun z => hnqm134 (hex _ z).1
  have hex : ∀ a : Nat, a ∈ L0 → a ∈ L138 ∧ kp136 a = kp0 a ∧ E137 a = E0 a := fun a h => ⟨(hx139 a (hex a h).1).1, ((hx139 a (hex a h).1).2.1).trans (hex a h).2.1, ((hx139 a (hex a h).1).2.2).trans (hex a h).2.2⟩
  have hvqa1 := (hx139 qa1 hmqa1).2
  have hmqa1 : qa1 ∈ L138 := (hx139 qa1 hmqa1).1
  have hkqa1 : kp136 qa1 = 300 := (hvqa1.1).trans hkqa1
  have hvqa6 := (hx139 qa6 hmqa6).2
  have hmqa6 : qa6 ∈ L138 := (hx139 qa6 hmqa6).1
  have hkqa6 : kp136 qa6 = 301 := (hvqa6.1).trans hkqa6
  have hvqa11 := (hx139 qa11 hmqa11).2
  have hmqa11 : qa11 ∈ L138 := (hx139 qa11 hmqa11).1
  have hkqa11 : kp136 qa11 = 302 := (hvqa11.1).trans hkqa11
  have hvqa16 := (hx139 qa16 hmqa16).2
  have hmqa16 : qa16 ∈ L138 := (hx139 qa16 hmqa16).1
  have hkqa16 : kp136 qa16 = 303 := (hvqa16.1).trans hkqa16
  have hvqa21 := (hx139 qa21 hmqa21).2
  have hmqa21 : qa21 ∈ L138 := (hx139 qa21 hmqa21).1
  have hkqa21 : kp136 qa21 = 304 := (hvqa21.1).trans hkqa21
  have hvqa26 := (hx139 qa26 hmqa26).2
  have hmqa26 : qa26 ∈ L138 := (hx139 qa26 hmqa26).1
  have hkqa26 : kp136 qa26 = 305 := (hvqa26.1).trans hkqa26
  have hvqm31 := (hx139 qm31 hmqm31).2
  have hmqm31 : qm31 ∈ L138 := (hx139 qm31 hmqm31).1
  have hkqm31 : kp136 qm31 = 310 := (hvqm31.1).trans hkqm31
  have hvqm37 := (hx139 qm37 hmqm37).2
  have hmqm37 : qm37 ∈ L138 := (hx139 qm37 hmqm37).1
  have hkqm37 : kp136 qm37 = 311 := (hvqm37.1).trans hkqm37
  have hvqm43 := (hx139 qm43 hmqm43).2
  have hmqm43 : qm43 ∈ L138 := (hx139 qm43 hmqm43).1
  have hkqm43 : kp136 qm43 = 312 := (hvqm43.1).trans hkqm43
  have hvqm49 := (hx139 qm49 hmqm49).2
  have hmqm49 : qm49 ∈ L138 := (hx139 qm49 hmqm49).1
  have hkqm49 : kp136 qm49 = 313 := (hvqm49.1).trans hkqm49
  have hvqm55 := (hx139 qm55 hmqm55).2
  have hmqm55 : qm55 ∈ L138 := (hx139 qm55 hmqm55).1
  have hkqm55 : kp136 qm55 = 316 := (hvqm55.1).trans hkqm55
  have hvqm61 := (hx139 qm61 hmqm61).2
  have hmqm61 : qm61 ∈ L138 := (hx139 qm61 hmqm61).1
  have hkqm61 : kp136 qm61 = 317 := (hvqm61.1).trans hkqm61
  have hvqm67 := (hx139 qm67 hmqm67).2
  have hmqm67 : qm67 ∈ L138 := (hx139 qm67 hmqm67).1
  have hkqm67 : kp136 qm67 = 318 := (hvqm67.1).trans hkqm67
  have hvqm73 := (hx139 qm73 hmqm73).2
  have hmqm73 : qm73 ∈ L138 := (hx139 qm73 hmqm73).1
  have hkqm73 : kp136 qm73 = 319 := (hvqm73.1).trans hkqm73
  have hvqa79 := (hx139 qa79 hmqa79).2
  have hmqa79 : qa79 ∈ L138 := (hx139 qa79 hmqa79).1
  have hkqa79 : kp136 qa79 = 330 := (hvqa79.1).trans hkqa79
  have hvqa84 := (hx139 qa84 hmqa84).2
  have hmqa84 : qa84 ∈ L138 := (hx139 qa84 hmqa84).1
  have hkqa84 : kp136 qa84 = 331 := (hvqa84.1).trans hkqa84
  have hvqa89 := (hx139 qa89 hmqa89).2
  have hmqa89 : qa89 ∈ L138 := (hx139 qa89 hmqa89).1
  have hkqa89 : kp136 qa89 = 332 := (hvqa89.1).trans hkqa89
  have hvqa94 := (hx139 qa94 hmqa94).2
  have hmqa94 : qa94 ∈ L138 := (hx139 qa94 hmqa94).1
  have hkqa94 : kp136 qa94 = 333 := (hvqa94.1).trans hkqa94
  have hvqa99 := (hx139 qa99 hmqa99).2
  have hmqa99 : qa99 ∈ L138 := (hx139 qa99 hmqa99).1
  have hkqa99 : kp136 qa99 = 334 := (hvqa99.1).trans hkqa99
  have hvqa104 := (hx139 qa104 hmqa104).2
  have hmqa104 : qa104 ∈ L138 := (hx139 qa104 hmqa104).1
  have hkqa104 : kp136 qa104 = 335 := (hvqa104.1).trans hkqa104
  have hvqa109 := (hx139 qa109 hmqa109).2
  have hmqa109 : qa109 ∈ L138 := (hx139 qa109 hmqa109).1
  have hkqa109 : kp136 qa109 = 336 := (hvqa109.1).trans hkqa109
  have hvqa114 := (hx139 qa114 hmqa114).2
  have hmqa114 : qa114 ∈ L138 := (hx139 qa114 hmqa114).1
  have hkqa114 : kp136 qa114 = 337 := (hvqa114.1).trans hkqa114
  have hvqa119 := (hx139 qa119 hmqa119).2
  have hmqa119 : qa119 ∈ L138 := (hx139 qa119 hmqa119).1
  have hkqa119 : kp136 qa119 = 338 := (hvqa119.1).trans hkqa119
  have hvqa124 := (hx139 qa124 hmqa124).2
  have hmqa124 : qa124 ∈ L138 := (hx139 qa124 hmqa124).1
  have hkqa124 : kp136 qa124 = 339 := (hvqa124.1).trans hkqa124
  have hvqa129 := (hx139 qa129 hmqa129).2
  have hmqa129 : qa129 ∈ L138 := (hx139 qa129 hmqa129).1
  have hkqa129 : kp136 qa129 = 340 := (hvqa129.1).trans hkqa129
  have hqqm31 : E137 qm31 = gd_out (cs 4) 10 rr32 := (hvqm31.2).trans hqqm31
  have hqqm37 : E137 qm37 = gd_out (cs 4) 10 rr38 := (hvqm37.2).trans hqqm37
  have hqqm55 : E137 qm55 = gd_out (cs 5) 16 rr56 := (hvqm55.2).trans hqqm55
  have hqqm67 : E137 qm67 = gd_out (cs 4) 16 rr68 := (hvqm67.2).trans hqqm67
  have hqqa114 : E137 qa114 = .inl (cs 0, 10, .inl (fun _ => 0)) := (hvqa114.2).trans hqqa114
  have hqqa119 : E137 qa119 = .inl (cs 0, 10, .inl (fun _ => 0)) := (hvqa119.2).trans hqqa119
  have hsqm55 : ∀ j : Nat, j < 16 → rr56 j ∈ L138 ∧ E137 (rr56 j) = .inl (cs 3, (150, .inl (fun _ => 0))) := fun j hj => ⟨(hx139 _ (hsqm55 j hj).1).1, ((hx139 _ (hsqm55 j hj).1).2.2).trans (hsqm55 j hj).2⟩
  refine va_putF (D := D) (ci := 12) (v := .ref qm134) (ty := .array (.array .int)) (C := RX12) (T := TX12) (N := 64) hx hb hB cx_inX12 tyX12 tyX12_ok nmX12 hown hK hP hD hS 0 rfl rfl 35 (by decide) (hB _ cw_1228) (fun _ h9 => h9) rfl hnm rfl (by decide +kernel) rfl rfl (Nat.le_of_ble_eq_true rfl) dX12_init_260 (fun H locs hP hD hS => ?_)
  have hP : va_P D vwCl ([(o, .inr (12, [.ref qa1, .int 0, .int 0, .int 0, .int 0, .ref qa6, .ref qa11, .ref qa16, .ref qa21, .ref qa26, .ref qm31, .ref qm37, .ref qm43, .ref qm49, .int 0, .int 0, .ref qm55, .ref qm61, .ref qm67, .ref qm73, .ref qa79, .ref qa84, .ref qa89, .ref qa94, .ref qa99, .ref qa104, .int 0, .int 0, .int 0, .int 0, .ref qa109, .ref qa114, .ref qa119, .ref qa124, .ref qa129, .ref qm134, .null, .null, .null, .null, .null, .null, .null, .null, .null, .null, .null, .null, .null, .null, .int 0, .int 0, .int 0, .null, .null, .null, .null, .int 0, .int 0, .null, .null, .null, .null, .int 0]))] ++ va_pl L138 E137) H := hP
  have hD : va_D A ([(o, .inr (12, [.ref qa1, .int 0, .int 0, .int 0, .int 0, .ref qa6, .ref qa11, .ref qa16, .ref qa21, .ref qa26, .ref qm31, .ref qm37, .ref qm43, .ref qm49, .int 0, .int 0, .ref qm55, .ref qm61, .ref qm67, .ref qm73, .ref qa79, .ref qa84, .ref qa89, .ref qa94, .ref qa99, .ref qa104, .int 0, .int 0, .int 0, .int 0, .ref qa109, .ref qa114, .ref qa119, .ref qa124, .ref qa129, .ref qm134, .null, .null, .null, .null, .null, .null, .null, .null, .null, .null, .null, .null, .null, .null, .int 0, .int 0, .int 0, .null, .null, .null, .null, .int 0, .int 0, .null, .null, .null, .null, .int 0]))] ++ va_pl L138 E137) := hD
  refine lv_aload_n hx hb dX12_init_263 rfl (lv_at hl 0 rfl) ?_
  refine lv_bipush (v := 10) hx hb dX12_init_264 (by decide) ?_
  refine lv_sipush (v := 252) hx hb dX12_init_266 (by decide) ?_
  refine cx_mna (cs := cs) (ty := .int) (N := 10) (K := 252) (z := (252, .inl (fun _ => 0))) hx hb hB hown cw_1187 (by decide) cw_59 hN.2.2.1 (fun _ h => h) 0 4 rfl rfl hK hP hD hS hA (by decide) (by decide) (by decide) (by decide) (Nat.le_of_ble_eq_true rfl) (Nat.le_of_ble_eq_true rfl) (Nat.le_of_ble_eq_true rfl) rfl rfl (Nat.le_of_ble_eq_true rfl) (Nat.le_of_ble_eq_true rfl) (fun _ => rfl) (List.range 10) (fun j hj => List.mem_range.mp hj) (by decide) dX12_init_269 (fun qm140 rr141 H hP hD hS => ?_)
  obtain ⟨kp142, L144, E143, hP, hD, hT, hx145, hmqm140, hkqm140, hqqm140, hnqm140, hrqm140, hiqm140⟩ := tw_absg (ko := 342) (kr := 352) (cA := cs 4) (cy := cs 0) (z := (252, .inl (fun _ => 0))) (N := 10) (r := rr141) (q := qm140) hP hD hT (by decide) rfl rfl rfl rfl (fun _ _ => ⟨by decide, rfl, rfl, (fun _ _ => (show ((-1) : Int) ≤ ((0 : Int32)).toInt ∧ ((0 : Int32)).toInt ≤ 9 from by decide))⟩)
  have hnqm140 : qm140 ∉ L0 := fun z => hnqm140 (hex _ z).1
  have hex : ∀ a : Nat, a ∈ L0 → a ∈ L144 ∧ kp142 a = kp0 a ∧ E143 a = E0 a := fun a h => ⟨(hx145 a (hex a h).1).1, ((hx145 a (hex a h).1).2.1).trans (hex a h).2.1, ((hx145 a (hex a h).1).2.2).trans (hex a h).2.2⟩
  have hvqa1 := (hx145 qa1 hmqa1).2
  have hmqa1 : qa1 ∈ L144 := (hx145 qa1 hmqa1).1
  have hkqa1 : kp142 qa1 = 300 := (hvqa1.1).trans hkqa1
  have hvqa6 := (hx145 qa6 hmqa6).2
  have hmqa6 : qa6 ∈ L144 := (hx145 qa6 hmqa6).1
  have hkqa6 : kp142 qa6 = 301 := (hvqa6.1).trans hkqa6
  have hvqa11 := (hx145 qa11 hmqa11).2
  have hmqa11 : qa11 ∈ L144 := (hx145 qa11 hmqa11).1
  have hkqa11 : kp142 qa11 = 302 := (hvqa11.1).trans hkqa11
  have hvqa16 := (hx145 qa16 hmqa16).2
  have hmqa16 : qa16 ∈ L144 := (hx145 qa16 hmqa16).1
  have hkqa16 : kp142 qa16 = 303 := (hvqa16.1).trans hkqa16
  have hvqa21 := (hx145 qa21 hmqa21).2
  have hmqa21 : qa21 ∈ L144 := (hx145 qa21 hmqa21).1
  have hkqa21 : kp142 qa21 = 304 := (hvqa21.1).trans hkqa21
  have hvqa26 := (hx145 qa26 hmqa26).2
  have hmqa26 : qa26 ∈ L144 := (hx145 qa26 hmqa26).1
  have hkqa26 : kp142 qa26 = 305 := (hvqa26.1).trans hkqa26
  have hvqm31 := (hx145 qm31 hmqm31).2
  have hmqm31 : qm31 ∈ L144 := (hx145 qm31 hmqm31).1
  have hkqm31 : kp142 qm31 = 310 := (hvqm31.1).trans hkqm31
  have hvqm37 := (hx145 qm37 hmqm37).2
  have hmqm37 : qm37 ∈ L144 := (hx145 qm37 hmqm37).1
  have hkqm37 : kp142 qm37 = 311 := (hvqm37.1).trans hkqm37
  have hvqm43 := (hx145 qm43 hmqm43).2
  have hmqm43 : qm43 ∈ L144 := (hx145 qm43 hmqm43).1
  have hkqm43 : kp142 qm43 = 312 := (hvqm43.1).trans hkqm43
  have hvqm49 := (hx145 qm49 hmqm49).2
  have hmqm49 : qm49 ∈ L144 := (hx145 qm49 hmqm49).1
  have hkqm49 : kp142 qm49 = 313 := (hvqm49.1).trans hkqm49
  have hvqm55 := (hx145 qm55 hmqm55).2
  have hmqm55 : qm55 ∈ L144 := (hx145 qm55 hmqm55).1
  have hkqm55 : kp142 qm55 = 316 := (hvqm55.1).trans hkqm55
  have hvqm61 := (hx145 qm61 hmqm61).2
  have hmqm61 : qm61 ∈ L144 := (hx145 qm61 hmqm61).1
  have hkqm61 : kp142 qm61 = 317 := (hvqm61.1).trans hkqm61
  have hvqm67 := (hx145 qm67 hmqm67).2
  have hmqm67 : qm67 ∈ L144 := (hx145 qm67 hmqm67).1
  have hkqm67 : kp142 qm67 = 318 := (hvqm67.1).trans hkqm67
  have hvqm73 := (hx145 qm73 hmqm73).2
  have hmqm73 : qm73 ∈ L144 := (hx145 qm73 hmqm73).1
  have hkqm73 : kp142 qm73 = 319 := (hvqm73.1).trans hkqm73
  have hvqa79 := (hx145 qa79 hmqa79).2
  have hmqa79 : qa79 ∈ L144 := (hx145 qa79 hmqa79).1
  have hkqa79 : kp142 qa79 = 330 := (hvqa79.1).trans hkqa79
  have hvqa84 := (hx145 qa84 hmqa84).2
  have hmqa84 : qa84 ∈ L144 := (hx145 qa84 hmqa84).1
  have hkqa84 : kp142 qa84 = 331 := (hvqa84.1).trans hkqa84
  have hvqa89 := (hx145 qa89 hmqa89).2
  have hmqa89 : qa89 ∈ L144 := (hx145 qa89 hmqa89).1
  have hkqa89 : kp142 qa89 = 332 := (hvqa89.1).trans hkqa89
  have hvqa94 := (hx145 qa94 hmqa94).2
  have hmqa94 : qa94 ∈ L144 := (hx145 qa94 hmqa94).1
  have hkqa94 : kp142 qa94 = 333 := (hvqa94.1).trans hkqa94
  have hvqa99 := (hx145 qa99 hmqa99).2
  have hmqa99 : qa99 ∈ L144 := (hx145 qa99 hmqa99).1
  have hkqa99 : kp142 qa99 = 334 := (hvqa99.1).trans hkqa99
  have hvqa104 := (hx145 qa104 hmqa104).2
  have hmqa104 : qa104 ∈ L144 := (hx145 qa104 hmqa104).1
  have hkqa104 : kp142 qa104 = 335 := (hvqa104.1).trans hkqa104
  have hvqa109 := (hx145 qa109 hmqa109).2
  have hmqa109 : qa109 ∈ L144 := (hx145 qa109 hmqa109).1
  have hkqa109 : kp142 qa109 = 336 := (hvqa109.1).trans hkqa109
  have hvqa114 := (hx145 qa114 hmqa114).2
  have hmqa114 : qa114 ∈ L144 := (hx145 qa114 hmqa114).1
  have hkqa114 : kp142 qa114 = 337 := (hvqa114.1).trans hkqa114
  have hvqa119 := (hx145 qa119 hmqa119).2
  have hmqa119 : qa119 ∈ L144 := (hx145 qa119 hmqa119).1
  have hkqa119 : kp142 qa119 = 338 := (hvqa119.1).trans hkqa119
  have hvqa124 := (hx145 qa124 hmqa124).2
  have hmqa124 : qa124 ∈ L144 := (hx145 qa124 hmqa124).1
  have hkqa124 : kp142 qa124 = 339 := (hvqa124.1).trans hkqa124
  have hvqa129 := (hx145 qa129 hmqa129).2
  have hmqa129 : qa129 ∈ L144 := (hx145 qa129 hmqa129).1
  have hkqa129 : kp142 qa129 = 340 := (hvqa129.1).trans hkqa129
  have hvqm134 := (hx145 qm134 hmqm134).2
  have hmqm134 : qm134 ∈ L144 := (hx145 qm134 hmqm134).1
  have hkqm134 : kp142 qm134 = 341 := (hvqm134.1).trans hkqm134
  have hqqm31 : E143 qm31 = gd_out (cs 4) 10 rr32 := (hvqm31.2).trans hqqm31
  have hqqm37 : E143 qm37 = gd_out (cs 4) 10 rr38 := (hvqm37.2).trans hqqm37
  have hqqm55 : E143 qm55 = gd_out (cs 5) 16 rr56 := (hvqm55.2).trans hqqm55
  have hqqm67 : E143 qm67 = gd_out (cs 4) 16 rr68 := (hvqm67.2).trans hqqm67
  have hqqa114 : E143 qa114 = .inl (cs 0, 10, .inl (fun _ => 0)) := (hvqa114.2).trans hqqa114
  have hqqa119 : E143 qa119 = .inl (cs 0, 10, .inl (fun _ => 0)) := (hvqa119.2).trans hqqa119
  have hsqm55 : ∀ j : Nat, j < 16 → rr56 j ∈ L144 ∧ E143 (rr56 j) = .inl (cs 3, (150, .inl (fun _ => 0))) := fun j hj => ⟨(hx145 _ (hsqm55 j hj).1).1, ((hx145 _ (hsqm55 j hj).1).2.2).trans (hsqm55 j hj).2⟩
  refine va_putF (D := D) (ci := 12) (v := .ref qm140) (ty := .array (.array .int)) (C := RX12) (T := TX12) (N := 64) hx hb hB cx_inX12 tyX12 tyX12_ok nmX12 hown hK hP hD hS 0 rfl rfl 36 (by decide) (hB _ cw_1229) (fun _ h9 => h9) rfl hnm rfl (by decide +kernel) rfl rfl (Nat.le_of_ble_eq_true rfl) dX12_init_273 (fun H locs hP hD hS => ?_)
  have hP : va_P D vwCl ([(o, .inr (12, [.ref qa1, .int 0, .int 0, .int 0, .int 0, .ref qa6, .ref qa11, .ref qa16, .ref qa21, .ref qa26, .ref qm31, .ref qm37, .ref qm43, .ref qm49, .int 0, .int 0, .ref qm55, .ref qm61, .ref qm67, .ref qm73, .ref qa79, .ref qa84, .ref qa89, .ref qa94, .ref qa99, .ref qa104, .int 0, .int 0, .int 0, .int 0, .ref qa109, .ref qa114, .ref qa119, .ref qa124, .ref qa129, .ref qm134, .ref qm140, .null, .null, .null, .null, .null, .null, .null, .null, .null, .null, .null, .null, .null, .int 0, .int 0, .int 0, .null, .null, .null, .null, .int 0, .int 0, .null, .null, .null, .null, .int 0]))] ++ va_pl L144 E143) H := hP
  have hD : va_D A ([(o, .inr (12, [.ref qa1, .int 0, .int 0, .int 0, .int 0, .ref qa6, .ref qa11, .ref qa16, .ref qa21, .ref qa26, .ref qm31, .ref qm37, .ref qm43, .ref qm49, .int 0, .int 0, .ref qm55, .ref qm61, .ref qm67, .ref qm73, .ref qa79, .ref qa84, .ref qa89, .ref qa94, .ref qa99, .ref qa104, .int 0, .int 0, .int 0, .int 0, .ref qa109, .ref qa114, .ref qa119, .ref qa124, .ref qa129, .ref qm134, .ref qm140, .null, .null, .null, .null, .null, .null, .null, .null, .null, .null, .null, .null, .null, .int 0, .int 0, .int 0, .null, .null, .null, .null, .int 0, .int 0, .null, .null, .null, .null, .int 0]))] ++ va_pl L144 E143) := hD
  refine lv_aload_n hx hb dX12_init_276 rfl (lv_at hl 0 rfl) ?_
  refine lv_bipush (v := 24) hx hb dX12_init_277 (by decide) ?_
  refine cx_newa (cs := cs) (atype := .int) (ty := .int) (a0 := (24, .inl (fun _ => 0))) hx hb hB cw_59 rfl cx_ra_int 0 rfl hK hP hD hS hA (fun _ => rfl) (by decide) (by decide) (Nat.le_of_ble_eq_true rfl) (Nat.le_of_ble_eq_true rfl) (Nat.le_of_ble_eq_true rfl) dX12_init_279 (fun qa146 H hP hD hS => ?_)
  obtain ⟨kp147, E148, hP, hD, hT, hx150, hkqa146, hqqa146, hnqa146⟩ := tw_abs (k := 343) hP hD hT (fun _ _ _ => ⟨by decide, rfl, rfl, (fun _ _ => (show (0 : Int) ≤ ((0 : Int32)).toInt ∧ ((0 : Int32)).toInt ≤ 23 from by decide))⟩)
  obtain ⟨L149, hL⟩ : ∃ z, z = L144 ++ [qa146] := ⟨_, rfl⟩
  have hmqa146 : qa146 ∈ L149 := by rw [hL]; simp
  rw [← hL] at hP hD hT hx150
  have hnqa146 : qa146 ∉ L0 := fun z => hnqa146 (hex _ z).1
  have hex : ∀ a : Nat, a ∈ L0 → a ∈ L149 ∧ kp147 a = kp0 a ∧ E148 a = E0 a := fun a h => ⟨(hx150 a (hex a h).1).1, ((hx150 a (hex a h).1).2.1).trans (hex a h).2.1, ((hx150 a (hex a h).1).2.2).trans (hex a h).2.2⟩
  have hvqa1 := (hx150 qa1 hmqa1).2
  have hmqa1 : qa1 ∈ L149 := (hx150 qa1 hmqa1).1
  have hkqa1 : kp147 qa1 = 300 := (hvqa1.1).trans hkqa1
  have hvqa6 := (hx150 qa6 hmqa6).2
  have hmqa6 : qa6 ∈ L149 := (hx150 qa6 hmqa6).1
  have hkqa6 : kp147 qa6 = 301 := (hvqa6.1).trans hkqa6
  have hvqa11 := (hx150 qa11 hmqa11).2
  have hmqa11 : qa11 ∈ L149 := (hx150 qa11 hmqa11).1
  have hkqa11 : kp147 qa11 = 302 := (hvqa11.1).trans hkqa11
  have hvqa16 := (hx150 qa16 hmqa16).2
  have hmqa16 : qa16 ∈ L149 := (hx150 qa16 hmqa16).1
  have hkqa16 : kp147 qa16 = 303 := (hvqa16.1).trans hkqa16
  have hvqa21 := (hx150 qa21 hmqa21).2
  have hmqa21 : qa21 ∈ L149 := (hx150 qa21 hmqa21).1
  have hkqa21 : kp147 qa21 = 304 := (hvqa21.1).trans hkqa21
  have hvqa26 := (hx150 qa26 hmqa26).2
  have hmqa26 : qa26 ∈ L149 := (hx150 qa26 hmqa26).1
  have hkqa26 : kp147 qa26 = 305 := (hvqa26.1).trans hkqa26
  have hvqm31 := (hx150 qm31 hmqm31).2
  have hmqm31 : qm31 ∈ L149 := (hx150 qm31 hmqm31).1
  have hkqm31 : kp147 qm31 = 310 := (hvqm31.1).trans hkqm31
  have hvqm37 := (hx150 qm37 hmqm37).2
  have hmqm37 : qm37 ∈ L149 := (hx150 qm37 hmqm37).1
  have hkqm37 : kp147 qm37 = 311 := (hvqm37.1).trans hkqm37
  have hvqm43 := (hx150 qm43 hmqm43).2
  have hmqm43 : qm43 ∈ L149 := (hx150 qm43 hmqm43).1
  have hkqm43 : kp147 qm43 = 312 := (hvqm43.1).trans hkqm43
  have hvqm49 := (hx150 qm49 hmqm49).2
  have hmqm49 : qm49 ∈ L149 := (hx150 qm49 hmqm49).1
  have hkqm49 : kp147 qm49 = 313 := (hvqm49.1).trans hkqm49
  have hvqm55 := (hx150 qm55 hmqm55).2
  have hmqm55 : qm55 ∈ L149 := (hx150 qm55 hmqm55).1
  have hkqm55 : kp147 qm55 = 316 := (hvqm55.1).trans hkqm55
  have hvqm61 := (hx150 qm61 hmqm61).2
  have hmqm61 : qm61 ∈ L149 := (hx150 qm61 hmqm61).1
  have hkqm61 : kp147 qm61 = 317 := (hvqm61.1).trans hkqm61
  have hvqm67 := (hx150 qm67 hmqm67).2
  have hmqm67 : qm67 ∈ L149 := (hx150 qm67 hmqm67).1
  have hkqm67 : kp147 qm67 = 318 := (hvqm67.1).trans hkqm67
  have hvqm73 := (hx150 qm73 hmqm73).2
  have hmqm73 : qm73 ∈ L149 := (hx150 qm73 hmqm73).1
  have hkqm73 : kp147 qm73 = 319 := (hvqm73.1).trans hkqm73
  have hvqa79 := (hx150 qa79 hmqa79).2
  have hmqa79 : qa79 ∈ L149 := (hx150 qa79 hmqa79).1
  have hkqa79 : kp147 qa79 = 330 := (hvqa79.1).trans hkqa79
  have hvqa84 := (hx150 qa84 hmqa84).2
  have hmqa84 : qa84 ∈ L149 := (hx150 qa84 hmqa84).1
  have hkqa84 : kp147 qa84 = 331 := (hvqa84.1).trans hkqa84
  have hvqa89 := (hx150 qa89 hmqa89).2
  have hmqa89 : qa89 ∈ L149 := (hx150 qa89 hmqa89).1
  have hkqa89 : kp147 qa89 = 332 := (hvqa89.1).trans hkqa89
  have hvqa94 := (hx150 qa94 hmqa94).2
  have hmqa94 : qa94 ∈ L149 := (hx150 qa94 hmqa94).1
  have hkqa94 : kp147 qa94 = 333 := (hvqa94.1).trans hkqa94
  have hvqa99 := (hx150 qa99 hmqa99).2
  have hmqa99 : qa99 ∈ L149 := (hx150 qa99 hmqa99).1
  have hkqa99 : kp147 qa99 = 334 := (hvqa99.1).trans hkqa99
  have hvqa104 := (hx150 qa104 hmqa104).2
  have hmqa104 : qa104 ∈ L149 := (hx150 qa104 hmqa104).1
  have hkqa104 : kp147 qa104 = 335 := (hvqa104.1).trans hkqa104
  have hvqa109 := (hx150 qa109 hmqa109).2
  have hmqa109 : qa109 ∈ L149 := (hx150 qa109 hmqa109).1
  have hkqa109 : kp147 qa109 = 336 := (hvqa109.1).trans hkqa109
  have hvqa114 := (hx150 qa114 hmqa114).2
  have hmqa114 : qa114 ∈ L149 := (hx150 qa114 hmqa114).1
  have hkqa114 : kp147 qa114 = 337 := (hvqa114.1).trans hkqa114
  have hvqa119 := (hx150 qa119 hmqa119).2
  have hmqa119 : qa119 ∈ L149 := (hx150 qa119 hmqa119).1
  have hkqa119 : kp147 qa119 = 338 := (hvqa119.1).trans hkqa119
  have hvqa124 := (hx150 qa124 hmqa124).2
  have hmqa124 : qa124 ∈ L149 := (hx150 qa124 hmqa124).1
  have hkqa124 : kp147 qa124 = 339 := (hvqa124.1).trans hkqa124
  have hvqa129 := (hx150 qa129 hmqa129).2
  have hmqa129 : qa129 ∈ L149 := (hx150 qa129 hmqa129).1
  have hkqa129 : kp147 qa129 = 340 := (hvqa129.1).trans hkqa129
  have hvqm134 := (hx150 qm134 hmqm134).2
  have hmqm134 : qm134 ∈ L149 := (hx150 qm134 hmqm134).1
  have hkqm134 : kp147 qm134 = 341 := (hvqm134.1).trans hkqm134
  have hvqm140 := (hx150 qm140 hmqm140).2
  have hmqm140 : qm140 ∈ L149 := (hx150 qm140 hmqm140).1
  have hkqm140 : kp147 qm140 = 342 := (hvqm140.1).trans hkqm140
  have hqqm31 : E148 qm31 = gd_out (cs 4) 10 rr32 := (hvqm31.2).trans hqqm31
  have hqqm37 : E148 qm37 = gd_out (cs 4) 10 rr38 := (hvqm37.2).trans hqqm37
  have hqqm55 : E148 qm55 = gd_out (cs 5) 16 rr56 := (hvqm55.2).trans hqqm55
  have hqqm67 : E148 qm67 = gd_out (cs 4) 16 rr68 := (hvqm67.2).trans hqqm67
  have hqqa114 : E148 qa114 = .inl (cs 0, 10, .inl (fun _ => 0)) := (hvqa114.2).trans hqqa114
  have hqqa119 : E148 qa119 = .inl (cs 0, 10, .inl (fun _ => 0)) := (hvqa119.2).trans hqqa119
  have hsqm55 : ∀ j : Nat, j < 16 → rr56 j ∈ L149 ∧ E148 (rr56 j) = .inl (cs 3, (150, .inl (fun _ => 0))) := fun j hj => ⟨(hx150 _ (hsqm55 j hj).1).1, ((hx150 _ (hsqm55 j hj).1).2.2).trans (hsqm55 j hj).2⟩
  refine va_putF (D := D) (ci := 12) (v := .ref qa146) (ty := .array .int) (C := RX12) (T := TX12) (N := 64) hx hb hB cx_inX12 tyX12 tyX12_ok nmX12 hown hK hP hD hS 0 rfl rfl 37 (by decide) (hB _ cw_1230) (fun _ h9 => h9) rfl hnm rfl (by decide +kernel) rfl rfl (Nat.le_of_ble_eq_true rfl) dX12_init_281 (fun H locs hP hD hS => ?_)
  have hP : va_P D vwCl ([(o, .inr (12, [.ref qa1, .int 0, .int 0, .int 0, .int 0, .ref qa6, .ref qa11, .ref qa16, .ref qa21, .ref qa26, .ref qm31, .ref qm37, .ref qm43, .ref qm49, .int 0, .int 0, .ref qm55, .ref qm61, .ref qm67, .ref qm73, .ref qa79, .ref qa84, .ref qa89, .ref qa94, .ref qa99, .ref qa104, .int 0, .int 0, .int 0, .int 0, .ref qa109, .ref qa114, .ref qa119, .ref qa124, .ref qa129, .ref qm134, .ref qm140, .ref qa146, .null, .null, .null, .null, .null, .null, .null, .null, .null, .null, .null, .null, .int 0, .int 0, .int 0, .null, .null, .null, .null, .int 0, .int 0, .null, .null, .null, .null, .int 0]))] ++ va_pl L149 E148) H := hP
  have hD : va_D A ([(o, .inr (12, [.ref qa1, .int 0, .int 0, .int 0, .int 0, .ref qa6, .ref qa11, .ref qa16, .ref qa21, .ref qa26, .ref qm31, .ref qm37, .ref qm43, .ref qm49, .int 0, .int 0, .ref qm55, .ref qm61, .ref qm67, .ref qm73, .ref qa79, .ref qa84, .ref qa89, .ref qa94, .ref qa99, .ref qa104, .int 0, .int 0, .int 0, .int 0, .ref qa109, .ref qa114, .ref qa119, .ref qa124, .ref qa129, .ref qm134, .ref qm140, .ref qa146, .null, .null, .null, .null, .null, .null, .null, .null, .null, .null, .null, .null, .int 0, .int 0, .int 0, .null, .null, .null, .null, .int 0, .int 0, .null, .null, .null, .null, .int 0]))] ++ va_pl L149 E148) := hD
  refine lv_aload_n hx hb dX12_init_284 rfl (lv_at hl 0 rfl) ?_
  refine lv_bipush (v := 24) hx hb dX12_init_285 (by decide) ?_
  refine cx_newa (cs := cs) (atype := .int) (ty := .int) (a0 := (24, .inl (fun _ => 0))) hx hb hB cw_59 rfl cx_ra_int 0 rfl hK hP hD hS hA (fun _ => rfl) (by decide) (by decide) (Nat.le_of_ble_eq_true rfl) (Nat.le_of_ble_eq_true rfl) (Nat.le_of_ble_eq_true rfl) dX12_init_287 (fun qa151 H hP hD hS => ?_)
  obtain ⟨kp152, E153, hP, hD, hT, hx155, hkqa151, hqqa151, hnqa151⟩ := tw_abs (k := 344) hP hD hT (fun _ _ _ => ⟨by decide, rfl, rfl, (fun _ _ => (show (0 : Int) ≤ ((0 : Int32)).toInt ∧ ((0 : Int32)).toInt ≤ 9 from by decide))⟩)
  obtain ⟨L154, hL⟩ : ∃ z, z = L149 ++ [qa151] := ⟨_, rfl⟩
  have hmqa151 : qa151 ∈ L154 := by rw [hL]; simp
  rw [← hL] at hP hD hT hx155
  have hnqa151 : qa151 ∉ L0 := fun z => hnqa151 (hex _ z).1
  have hex : ∀ a : Nat, a ∈ L0 → a ∈ L154 ∧ kp152 a = kp0 a ∧ E153 a = E0 a := fun a h => ⟨(hx155 a (hex a h).1).1, ((hx155 a (hex a h).1).2.1).trans (hex a h).2.1, ((hx155 a (hex a h).1).2.2).trans (hex a h).2.2⟩
  have hvqa1 := (hx155 qa1 hmqa1).2
  have hmqa1 : qa1 ∈ L154 := (hx155 qa1 hmqa1).1
  have hkqa1 : kp152 qa1 = 300 := (hvqa1.1).trans hkqa1
  have hvqa6 := (hx155 qa6 hmqa6).2
  have hmqa6 : qa6 ∈ L154 := (hx155 qa6 hmqa6).1
  have hkqa6 : kp152 qa6 = 301 := (hvqa6.1).trans hkqa6
  have hvqa11 := (hx155 qa11 hmqa11).2
  have hmqa11 : qa11 ∈ L154 := (hx155 qa11 hmqa11).1
  have hkqa11 : kp152 qa11 = 302 := (hvqa11.1).trans hkqa11
  have hvqa16 := (hx155 qa16 hmqa16).2
  have hmqa16 : qa16 ∈ L154 := (hx155 qa16 hmqa16).1
  have hkqa16 : kp152 qa16 = 303 := (hvqa16.1).trans hkqa16
  have hvqa21 := (hx155 qa21 hmqa21).2
  have hmqa21 : qa21 ∈ L154 := (hx155 qa21 hmqa21).1
  have hkqa21 : kp152 qa21 = 304 := (hvqa21.1).trans hkqa21
  have hvqa26 := (hx155 qa26 hmqa26).2
  have hmqa26 : qa26 ∈ L154 := (hx155 qa26 hmqa26).1
  have hkqa26 : kp152 qa26 = 305 := (hvqa26.1).trans hkqa26
  have hvqm31 := (hx155 qm31 hmqm31).2
  have hmqm31 : qm31 ∈ L154 := (hx155 qm31 hmqm31).1
  have hkqm31 : kp152 qm31 = 310 := (hvqm31.1).trans hkqm31
  have hvqm37 := (hx155 qm37 hmqm37).2
  have hmqm37 : qm37 ∈ L154 := (hx155 qm37 hmqm37).1
  have hkqm37 : kp152 qm37 = 311 := (hvqm37.1).trans hkqm37
  have hvqm43 := (hx155 qm43 hmqm43).2
  have hmqm43 : qm43 ∈ L154 := (hx155 qm43 hmqm43).1
  have hkqm43 : kp152 qm43 = 312 := (hvqm43.1).trans hkqm43
  have hvqm49 := (hx155 qm49 hmqm49).2
  have hmqm49 : qm49 ∈ L154 := (hx155 qm49 hmqm49).1
  have hkqm49 : kp152 qm49 = 313 := (hvqm49.1).trans hkqm49
  have hvqm55 := (hx155 qm55 hmqm55).2
  have hmqm55 : qm55 ∈ L154 := (hx155 qm55 hmqm55).1
  have hkqm55 : kp152 qm55 = 316 := (hvqm55.1).trans hkqm55
  have hvqm61 := (hx155 qm61 hmqm61).2
  have hmqm61 : qm61 ∈ L154 := (hx155 qm61 hmqm61).1
  have hkqm61 : kp152 qm61 = 317 := (hvqm61.1).trans hkqm61
  have hvqm67 := (hx155 qm67 hmqm67).2
  have hmqm67 : qm67 ∈ L154 := (hx155 qm67 hmqm67).1
  have hkqm67 : kp152 qm67 = 318 := (hvqm67.1).trans hkqm67
  have hvqm73 := (hx155 qm73 hmqm73).2
  have hmqm73 : qm73 ∈ L154 := (hx155 qm73 hmqm73).1
  have hkqm73 : kp152 qm73 = 319 := (hvqm73.1).trans hkqm73
  have hvqa79 := (hx155 qa79 hmqa79).2
  have hmqa79 : qa79 ∈ L154 := (hx155 qa79 hmqa79).1
  have hkqa79 : kp152 qa79 = 330 := (hvqa79.1).trans hkqa79
  have hvqa84 := (hx155 qa84 hmqa84).2
  have hmqa84 : qa84 ∈ L154 := (hx155 qa84 hmqa84).1
  have hkqa84 : kp152 qa84 = 331 := (hvqa84.1).trans hkqa84
  have hvqa89 := (hx155 qa89 hmqa89).2
  have hmqa89 : qa89 ∈ L154 := (hx155 qa89 hmqa89).1
  have hkqa89 : kp152 qa89 = 332 := (hvqa89.1).trans hkqa89
  have hvqa94 := (hx155 qa94 hmqa94).2
  have hmqa94 : qa94 ∈ L154 := (hx155 qa94 hmqa94).1
  have hkqa94 : kp152 qa94 = 333 := (hvqa94.1).trans hkqa94
  have hvqa99 := (hx155 qa99 hmqa99).2
  have hmqa99 : qa99 ∈ L154 := (hx155 qa99 hmqa99).1
  have hkqa99 : kp152 qa99 = 334 := (hvqa99.1).trans hkqa99
  have hvqa104 := (hx155 qa104 hmqa104).2
  have hmqa104 : qa104 ∈ L154 := (hx155 qa104 hmqa104).1
  have hkqa104 : kp152 qa104 = 335 := (hvqa104.1).trans hkqa104
  have hvqa109 := (hx155 qa109 hmqa109).2
  have hmqa109 : qa109 ∈ L154 := (hx155 qa109 hmqa109).1
  have hkqa109 : kp152 qa109 = 336 := (hvqa109.1).trans hkqa109
  have hvqa114 := (hx155 qa114 hmqa114).2
  have hmqa114 : qa114 ∈ L154 := (hx155 qa114 hmqa114).1
  have hkqa114 : kp152 qa114 = 337 := (hvqa114.1).trans hkqa114
  have hvqa119 := (hx155 qa119 hmqa119).2
  have hmqa119 : qa119 ∈ L154 := (hx155 qa119 hmqa119).1
  have hkqa119 : kp152 qa119 = 338 := (hvqa119.1).trans hkqa119
  have hvqa124 := (hx155 qa124 hmqa124).2
  have hmqa124 : qa124 ∈ L154 := (hx155 qa124 hmqa124).1
  have hkqa124 : kp152 qa124 = 339 := (hvqa124.1).trans hkqa124
  have hvqa129 := (hx155 qa129 hmqa129).2
  have hmqa129 : qa129 ∈ L154 := (hx155 qa129 hmqa129).1
  have hkqa129 : kp152 qa129 = 340 := (hvqa129.1).trans hkqa129
  have hvqm134 := (hx155 qm134 hmqm134).2
  have hmqm134 : qm134 ∈ L154 := (hx155 qm134 hmqm134).1
  have hkqm134 : kp152 qm134 = 341 := (hvqm134.1).trans hkqm134
  have hvqm140 := (hx155 qm140 hmqm140).2
  have hmqm140 : qm140 ∈ L154 := (hx155 qm140 hmqm140).1
  have hkqm140 : kp152 qm140 = 342 := (hvqm140.1).trans hkqm140
  have hvqa146 := (hx155 qa146 hmqa146).2
  have hmqa146 : qa146 ∈ L154 := (hx155 qa146 hmqa146).1
  have hkqa146 : kp152 qa146 = 343 := (hvqa146.1).trans hkqa146
  have hqqm31 : E153 qm31 = gd_out (cs 4) 10 rr32 := (hvqm31.2).trans hqqm31
  have hqqm37 : E153 qm37 = gd_out (cs 4) 10 rr38 := (hvqm37.2).trans hqqm37
  have hqqm55 : E153 qm55 = gd_out (cs 5) 16 rr56 := (hvqm55.2).trans hqqm55
  have hqqm67 : E153 qm67 = gd_out (cs 4) 16 rr68 := (hvqm67.2).trans hqqm67
  have hqqa114 : E153 qa114 = .inl (cs 0, 10, .inl (fun _ => 0)) := (hvqa114.2).trans hqqa114
  have hqqa119 : E153 qa119 = .inl (cs 0, 10, .inl (fun _ => 0)) := (hvqa119.2).trans hqqa119
  have hsqm55 : ∀ j : Nat, j < 16 → rr56 j ∈ L154 ∧ E153 (rr56 j) = .inl (cs 3, (150, .inl (fun _ => 0))) := fun j hj => ⟨(hx155 _ (hsqm55 j hj).1).1, ((hx155 _ (hsqm55 j hj).1).2.2).trans (hsqm55 j hj).2⟩
  refine va_putF (D := D) (ci := 12) (v := .ref qa151) (ty := .array .int) (C := RX12) (T := TX12) (N := 64) hx hb hB cx_inX12 tyX12 tyX12_ok nmX12 hown hK hP hD hS 0 rfl rfl 38 (by decide) (hB _ cw_1231) (fun _ h9 => h9) rfl hnm rfl (by decide +kernel) rfl rfl (Nat.le_of_ble_eq_true rfl) dX12_init_289 (fun H locs hP hD hS => ?_)
  have hP : va_P D vwCl ([(o, .inr (12, [.ref qa1, .int 0, .int 0, .int 0, .int 0, .ref qa6, .ref qa11, .ref qa16, .ref qa21, .ref qa26, .ref qm31, .ref qm37, .ref qm43, .ref qm49, .int 0, .int 0, .ref qm55, .ref qm61, .ref qm67, .ref qm73, .ref qa79, .ref qa84, .ref qa89, .ref qa94, .ref qa99, .ref qa104, .int 0, .int 0, .int 0, .int 0, .ref qa109, .ref qa114, .ref qa119, .ref qa124, .ref qa129, .ref qm134, .ref qm140, .ref qa146, .ref qa151, .null, .null, .null, .null, .null, .null, .null, .null, .null, .null, .null, .int 0, .int 0, .int 0, .null, .null, .null, .null, .int 0, .int 0, .null, .null, .null, .null, .int 0]))] ++ va_pl L154 E153) H := hP
  have hD : va_D A ([(o, .inr (12, [.ref qa1, .int 0, .int 0, .int 0, .int 0, .ref qa6, .ref qa11, .ref qa16, .ref qa21, .ref qa26, .ref qm31, .ref qm37, .ref qm43, .ref qm49, .int 0, .int 0, .ref qm55, .ref qm61, .ref qm67, .ref qm73, .ref qa79, .ref qa84, .ref qa89, .ref qa94, .ref qa99, .ref qa104, .int 0, .int 0, .int 0, .int 0, .ref qa109, .ref qa114, .ref qa119, .ref qa124, .ref qa129, .ref qm134, .ref qm140, .ref qa146, .ref qa151, .null, .null, .null, .null, .null, .null, .null, .null, .null, .null, .null, .int 0, .int 0, .int 0, .null, .null, .null, .null, .int 0, .int 0, .null, .null, .null, .null, .int 0]))] ++ va_pl L154 E153) := hD
  refine lv_aload_n hx hb dX12_init_292 rfl (lv_at hl 0 rfl) ?_
  refine lv_bipush (v := 24) hx hb dX12_init_293 (by decide) ?_
  refine cx_newa (cs := cs) (atype := .int) (ty := .int) (a0 := (24, .inl (fun _ => 0))) hx hb hB cw_59 rfl cx_ra_int 0 rfl hK hP hD hS hA (fun _ => rfl) (by decide) (by decide) (Nat.le_of_ble_eq_true rfl) (Nat.le_of_ble_eq_true rfl) (Nat.le_of_ble_eq_true rfl) dX12_init_295 (fun qa156 H hP hD hS => ?_)
  obtain ⟨kp157, E158, hP, hD, hT, hx160, hkqa156, hqqa156, hnqa156⟩ := tw_abs (k := 345) hP hD hT (fun _ _ _ => ⟨by decide, rfl, rfl, (fun _ _ => (show ((-1) : Int) ≤ ((0 : Int32)).toInt ∧ ((0 : Int32)).toInt ≤ 23 from by decide))⟩)
  obtain ⟨L159, hL⟩ : ∃ z, z = L154 ++ [qa156] := ⟨_, rfl⟩
  have hmqa156 : qa156 ∈ L159 := by rw [hL]; simp
  rw [← hL] at hP hD hT hx160
  have hnqa156 : qa156 ∉ L0 := fun z => hnqa156 (hex _ z).1
  have hex : ∀ a : Nat, a ∈ L0 → a ∈ L159 ∧ kp157 a = kp0 a ∧ E158 a = E0 a := fun a h => ⟨(hx160 a (hex a h).1).1, ((hx160 a (hex a h).1).2.1).trans (hex a h).2.1, ((hx160 a (hex a h).1).2.2).trans (hex a h).2.2⟩
  have hvqa1 := (hx160 qa1 hmqa1).2
  have hmqa1 : qa1 ∈ L159 := (hx160 qa1 hmqa1).1
  have hkqa1 : kp157 qa1 = 300 := (hvqa1.1).trans hkqa1
  have hvqa6 := (hx160 qa6 hmqa6).2
  have hmqa6 : qa6 ∈ L159 := (hx160 qa6 hmqa6).1
  have hkqa6 : kp157 qa6 = 301 := (hvqa6.1).trans hkqa6
  have hvqa11 := (hx160 qa11 hmqa11).2
  have hmqa11 : qa11 ∈ L159 := (hx160 qa11 hmqa11).1
  have hkqa11 : kp157 qa11 = 302 := (hvqa11.1).trans hkqa11
  have hvqa16 := (hx160 qa16 hmqa16).2
  have hmqa16 : qa16 ∈ L159 := (hx160 qa16 hmqa16).1
  have hkqa16 : kp157 qa16 = 303 := (hvqa16.1).trans hkqa16
  have hvqa21 := (hx160 qa21 hmqa21).2
  have hmqa21 : qa21 ∈ L159 := (hx160 qa21 hmqa21).1
  have hkqa21 : kp157 qa21 = 304 := (hvqa21.1).trans hkqa21
  have hvqa26 := (hx160 qa26 hmqa26).2
  have hmqa26 : qa26 ∈ L159 := (hx160 qa26 hmqa26).1
  have hkqa26 : kp157 qa26 = 305 := (hvqa26.1).trans hkqa26
  have hvqm31 := (hx160 qm31 hmqm31).2
  have hmqm31 : qm31 ∈ L159 := (hx160 qm31 hmqm31).1
  have hkqm31 : kp157 qm31 = 310 := (hvqm31.1).trans hkqm31
  have hvqm37 := (hx160 qm37 hmqm37).2
  have hmqm37 : qm37 ∈ L159 := (hx160 qm37 hmqm37).1
  have hkqm37 : kp157 qm37 = 311 := (hvqm37.1).trans hkqm37
  have hvqm43 := (hx160 qm43 hmqm43).2
  have hmqm43 : qm43 ∈ L159 := (hx160 qm43 hmqm43).1
  have hkqm43 : kp157 qm43 = 312 := (hvqm43.1).trans hkqm43
  have hvqm49 := (hx160 qm49 hmqm49).2
  have hmqm49 : qm49 ∈ L159 := (hx160 qm49 hmqm49).1
  have hkqm49 : kp157 qm49 = 313 := (hvqm49.1).trans hkqm49
  have hvqm55 := (hx160 qm55 hmqm55).2
  have hmqm55 : qm55 ∈ L159 := (hx160 qm55 hmqm55).1
  have hkqm55 : kp157 qm55 = 316 := (hvqm55.1).trans hkqm55
  have hvqm61 := (hx160 qm61 hmqm61).2
  have hmqm61 : qm61 ∈ L159 := (hx160 qm61 hmqm61).1
  have hkqm61 : kp157 qm61 = 317 := (hvqm61.1).trans hkqm61
  have hvqm67 := (hx160 qm67 hmqm67).2
  have hmqm67 : qm67 ∈ L159 := (hx160 qm67 hmqm67).1
  have hkqm67 : kp157 qm67 = 318 := (hvqm67.1).trans hkqm67
  have hvqm73 := (hx160 qm73 hmqm73).2
  have hmqm73 : qm73 ∈ L159 := (hx160 qm73 hmqm73).1
  have hkqm73 : kp157 qm73 = 319 := (hvqm73.1).trans hkqm73
  have hvqa79 := (hx160 qa79 hmqa79).2
  have hmqa79 : qa79 ∈ L159 := (hx160 qa79 hmqa79).1
  have hkqa79 : kp157 qa79 = 330 := (hvqa79.1).trans hkqa79
  have hvqa84 := (hx160 qa84 hmqa84).2
  have hmqa84 : qa84 ∈ L159 := (hx160 qa84 hmqa84).1
  have hkqa84 : kp157 qa84 = 331 := (hvqa84.1).trans hkqa84
  have hvqa89 := (hx160 qa89 hmqa89).2
  have hmqa89 : qa89 ∈ L159 := (hx160 qa89 hmqa89).1
  have hkqa89 : kp157 qa89 = 332 := (hvqa89.1).trans hkqa89
  have hvqa94 := (hx160 qa94 hmqa94).2
  have hmqa94 : qa94 ∈ L159 := (hx160 qa94 hmqa94).1
  have hkqa94 : kp157 qa94 = 333 := (hvqa94.1).trans hkqa94
  have hvqa99 := (hx160 qa99 hmqa99).2
  have hmqa99 : qa99 ∈ L159 := (hx160 qa99 hmqa99).1
  have hkqa99 : kp157 qa99 = 334 := (hvqa99.1).trans hkqa99
  have hvqa104 := (hx160 qa104 hmqa104).2
  have hmqa104 : qa104 ∈ L159 := (hx160 qa104 hmqa104).1
  have hkqa104 : kp157 qa104 = 335 := (hvqa104.1).trans hkqa104
  have hvqa109 := (hx160 qa109 hmqa109).2
  have hmqa109 : qa109 ∈ L159 := (hx160 qa109 hmqa109).1
  have hkqa109 : kp157 qa109 = 336 := (hvqa109.1).trans hkqa109
  have hvqa114 := (hx160 qa114 hmqa114).2
  have hmqa114 : qa114 ∈ L159 := (hx160 qa114 hmqa114).1
  have hkqa114 : kp157 qa114 = 337 := (hvqa114.1).trans hkqa114
  have hvqa119 := (hx160 qa119 hmqa119).2
  have hmqa119 : qa119 ∈ L159 := (hx160 qa119 hmqa119).1
  have hkqa119 : kp157 qa119 = 338 := (hvqa119.1).trans hkqa119
  have hvqa124 := (hx160 qa124 hmqa124).2
  have hmqa124 : qa124 ∈ L159 := (hx160 qa124 hmqa124).1
  have hkqa124 : kp157 qa124 = 339 := (hvqa124.1).trans hkqa124
  have hvqa129 := (hx160 qa129 hmqa129).2
  have hmqa129 : qa129 ∈ L159 := (hx160 qa129 hmqa129).1
  have hkqa129 : kp157 qa129 = 340 := (hvqa129.1).trans hkqa129
  have hvqm134 := (hx160 qm134 hmqm134).2
  have hmqm134 : qm134 ∈ L159 := (hx160 qm134 hmqm134).1
  have hkqm134 : kp157 qm134 = 341 := (hvqm134.1).trans hkqm134
  have hvqm140 := (hx160 qm140 hmqm140).2
  have hmqm140 : qm140 ∈ L159 := (hx160 qm140 hmqm140).1
  have hkqm140 : kp157 qm140 = 342 := (hvqm140.1).trans hkqm140
  have hvqa146 := (hx160 qa146 hmqa146).2
  have hmqa146 : qa146 ∈ L159 := (hx160 qa146 hmqa146).1
  have hkqa146 : kp157 qa146 = 343 := (hvqa146.1).trans hkqa146
  have hvqa151 := (hx160 qa151 hmqa151).2
  have hmqa151 : qa151 ∈ L159 := (hx160 qa151 hmqa151).1
  have hkqa151 : kp157 qa151 = 344 := (hvqa151.1).trans hkqa151
  have hqqm31 : E158 qm31 = gd_out (cs 4) 10 rr32 := (hvqm31.2).trans hqqm31
  have hqqm37 : E158 qm37 = gd_out (cs 4) 10 rr38 := (hvqm37.2).trans hqqm37
  have hqqm55 : E158 qm55 = gd_out (cs 5) 16 rr56 := (hvqm55.2).trans hqqm55
  have hqqm67 : E158 qm67 = gd_out (cs 4) 16 rr68 := (hvqm67.2).trans hqqm67
  have hqqa114 : E158 qa114 = .inl (cs 0, 10, .inl (fun _ => 0)) := (hvqa114.2).trans hqqa114
  have hqqa119 : E158 qa119 = .inl (cs 0, 10, .inl (fun _ => 0)) := (hvqa119.2).trans hqqa119
  have hsqm55 : ∀ j : Nat, j < 16 → rr56 j ∈ L159 ∧ E158 (rr56 j) = .inl (cs 3, (150, .inl (fun _ => 0))) := fun j hj => ⟨(hx160 _ (hsqm55 j hj).1).1, ((hx160 _ (hsqm55 j hj).1).2.2).trans (hsqm55 j hj).2⟩
  refine va_putF (D := D) (ci := 12) (v := .ref qa156) (ty := .array .int) (C := RX12) (T := TX12) (N := 64) hx hb hB cx_inX12 tyX12 tyX12_ok nmX12 hown hK hP hD hS 0 rfl rfl 39 (by decide) (hB _ cw_1232) (fun _ h9 => h9) rfl hnm rfl (by decide +kernel) rfl rfl (Nat.le_of_ble_eq_true rfl) dX12_init_297 (fun H locs hP hD hS => ?_)
  have hP : va_P D vwCl ([(o, .inr (12, [.ref qa1, .int 0, .int 0, .int 0, .int 0, .ref qa6, .ref qa11, .ref qa16, .ref qa21, .ref qa26, .ref qm31, .ref qm37, .ref qm43, .ref qm49, .int 0, .int 0, .ref qm55, .ref qm61, .ref qm67, .ref qm73, .ref qa79, .ref qa84, .ref qa89, .ref qa94, .ref qa99, .ref qa104, .int 0, .int 0, .int 0, .int 0, .ref qa109, .ref qa114, .ref qa119, .ref qa124, .ref qa129, .ref qm134, .ref qm140, .ref qa146, .ref qa151, .ref qa156, .null, .null, .null, .null, .null, .null, .null, .null, .null, .null, .int 0, .int 0, .int 0, .null, .null, .null, .null, .int 0, .int 0, .null, .null, .null, .null, .int 0]))] ++ va_pl L159 E158) H := hP
  have hD : va_D A ([(o, .inr (12, [.ref qa1, .int 0, .int 0, .int 0, .int 0, .ref qa6, .ref qa11, .ref qa16, .ref qa21, .ref qa26, .ref qm31, .ref qm37, .ref qm43, .ref qm49, .int 0, .int 0, .ref qm55, .ref qm61, .ref qm67, .ref qm73, .ref qa79, .ref qa84, .ref qa89, .ref qa94, .ref qa99, .ref qa104, .int 0, .int 0, .int 0, .int 0, .ref qa109, .ref qa114, .ref qa119, .ref qa124, .ref qa129, .ref qm134, .ref qm140, .ref qa146, .ref qa151, .ref qa156, .null, .null, .null, .null, .null, .null, .null, .null, .null, .null, .int 0, .int 0, .int 0, .null, .null, .null, .null, .int 0, .int 0, .null, .null, .null, .null, .int 0]))] ++ va_pl L159 E158) := hD
  refine lv_aload_n hx hb dX12_init_300 rfl (lv_at hl 0 rfl) ?_
  refine lv_bipush (v := 24) hx hb dX12_init_301 (by decide) ?_
  refine cx_newa (cs := cs) (atype := .int) (ty := .int) (a0 := (24, .inl (fun _ => 0))) hx hb hB cw_59 rfl cx_ra_int 0 rfl hK hP hD hS hA (fun _ => rfl) (by decide) (by decide) (Nat.le_of_ble_eq_true rfl) (Nat.le_of_ble_eq_true rfl) (Nat.le_of_ble_eq_true rfl) dX12_init_303 (fun qa161 H hP hD hS => ?_)
  obtain ⟨kp162, E163, hP, hD, hT, hx165, hkqa161, hqqa161, hnqa161⟩ := tw_abs (k := 346) hP hD hT (fun _ _ _ => ⟨by decide, rfl, rfl, (fun _ _ => (show (0 : Int) ≤ ((0 : Int32)).toInt ∧ ((0 : Int32)).toInt ≤ 23 from by decide))⟩)
  obtain ⟨L164, hL⟩ : ∃ z, z = L159 ++ [qa161] := ⟨_, rfl⟩
  have hmqa161 : qa161 ∈ L164 := by rw [hL]; simp
  rw [← hL] at hP hD hT hx165
  have hnqa161 : qa161 ∉ L0 := fun z => hnqa161 (hex _ z).1
  have hex : ∀ a : Nat, a ∈ L0 → a ∈ L164 ∧ kp162 a = kp0 a ∧ E163 a = E0 a := fun a h => ⟨(hx165 a (hex a h).1).1, ((hx165 a (hex a h).1).2.1).trans (hex a h).2.1, ((hx165 a (hex a h).1).2.2).trans (hex a h).2.2⟩
  have hvqa1 := (hx165 qa1 hmqa1).2
  have hmqa1 : qa1 ∈ L164 := (hx165 qa1 hmqa1).1
  have hkqa1 : kp162 qa1 = 300 := (hvqa1.1).trans hkqa1
  have hvqa6 := (hx165 qa6 hmqa6).2
  have hmqa6 : qa6 ∈ L164 := (hx165 qa6 hmqa6).1
  have hkqa6 : kp162 qa6 = 301 := (hvqa6.1).trans hkqa6
  have hvqa11 := (hx165 qa11 hmqa11).2
  have hmqa11 : qa11 ∈ L164 := (hx165 qa11 hmqa11).1
  have hkqa11 : kp162 qa11 = 302 := (hvqa11.1).trans hkqa11
  have hvqa16 := (hx165 qa16 hmqa16).2
  have hmqa16 : qa16 ∈ L164 := (hx165 qa16 hmqa16).1
  have hkqa16 : kp162 qa16 = 303 := (hvqa16.1).trans hkqa16
  have hvqa21 := (hx165 qa21 hmqa21).2
  have hmqa21 : qa21 ∈ L164 := (hx165 qa21 hmqa21).1
  have hkqa21 : kp162 qa21 = 304 := (hvqa21.1).trans hkqa21
  have hvqa26 := (hx165 qa26 hmqa26).2
  have hmqa26 : qa26 ∈ L164 := (hx165 qa26 hmqa26).1
  have hkqa26 : kp162 qa26 = 305 := (hvqa26.1).trans hkqa26
  have hvqm31 := (hx165 qm31 hmqm31).2
  have hmqm31 : qm31 ∈ L164 := (hx165 qm31 hmqm31).1
  have hkqm31 : kp162 qm31 = 310 := (hvqm31.1).trans hkqm31
  have hvqm37 := (hx165 qm37 hmqm37).2
  have hmqm37 : qm37 ∈ L164 := (hx165 qm37 hmqm37).1
  have hkqm37 : kp162 qm37 = 311 := (hvqm37.1).trans hkqm37
  have hvqm43 := (hx165 qm43 hmqm43).2
  have hmqm43 : qm43 ∈ L164 := (hx165 qm43 hmqm43).1
  have hkqm43 : kp162 qm43 = 312 := (hvqm43.1).trans hkqm43
  have hvqm49 := (hx165 qm49 hmqm49).2
  have hmqm49 : qm49 ∈ L164 := (hx165 qm49 hmqm49).1
  have hkqm49 : kp162 qm49 = 313 := (hvqm49.1).trans hkqm49
  have hvqm55 := (hx165 qm55 hmqm55).2
  have hmqm55 : qm55 ∈ L164 := (hx165 qm55 hmqm55).1
  have hkqm55 : kp162 qm55 = 316 := (hvqm55.1).trans hkqm55
  have hvqm61 := (hx165 qm61 hmqm61).2
  have hmqm61 : qm61 ∈ L164 := (hx165 qm61 hmqm61).1
  have hkqm61 : kp162 qm61 = 317 := (hvqm61.1).trans hkqm61
  have hvqm67 := (hx165 qm67 hmqm67).2
  have hmqm67 : qm67 ∈ L164 := (hx165 qm67 hmqm67).1
  have hkqm67 : kp162 qm67 = 318 := (hvqm67.1).trans hkqm67
  have hvqm73 := (hx165 qm73 hmqm73).2
  have hmqm73 : qm73 ∈ L164 := (hx165 qm73 hmqm73).1
  have hkqm73 : kp162 qm73 = 319 := (hvqm73.1).trans hkqm73
  have hvqa79 := (hx165 qa79 hmqa79).2
  have hmqa79 : qa79 ∈ L164 := (hx165 qa79 hmqa79).1
  have hkqa79 : kp162 qa79 = 330 := (hvqa79.1).trans hkqa79
  have hvqa84 := (hx165 qa84 hmqa84).2
  have hmqa84 : qa84 ∈ L164 := (hx165 qa84 hmqa84).1
  have hkqa84 : kp162 qa84 = 331 := (hvqa84.1).trans hkqa84
  have hvqa89 := (hx165 qa89 hmqa89).2
  have hmqa89 : qa89 ∈ L164 := (hx165 qa89 hmqa89).1
  have hkqa89 : kp162 qa89 = 332 := (hvqa89.1).trans hkqa89
  have hvqa94 := (hx165 qa94 hmqa94).2
  have hmqa94 : qa94 ∈ L164 := (hx165 qa94 hmqa94).1
  have hkqa94 : kp162 qa94 = 333 := (hvqa94.1).trans hkqa94
  have hvqa99 := (hx165 qa99 hmqa99).2
  have hmqa99 : qa99 ∈ L164 := (hx165 qa99 hmqa99).1
  have hkqa99 : kp162 qa99 = 334 := (hvqa99.1).trans hkqa99
  have hvqa104 := (hx165 qa104 hmqa104).2
  have hmqa104 : qa104 ∈ L164 := (hx165 qa104 hmqa104).1
  have hkqa104 : kp162 qa104 = 335 := (hvqa104.1).trans hkqa104
  have hvqa109 := (hx165 qa109 hmqa109).2
  have hmqa109 : qa109 ∈ L164 := (hx165 qa109 hmqa109).1
  have hkqa109 : kp162 qa109 = 336 := (hvqa109.1).trans hkqa109
  have hvqa114 := (hx165 qa114 hmqa114).2
  have hmqa114 : qa114 ∈ L164 := (hx165 qa114 hmqa114).1
  have hkqa114 : kp162 qa114 = 337 := (hvqa114.1).trans hkqa114
  have hvqa119 := (hx165 qa119 hmqa119).2
  have hmqa119 : qa119 ∈ L164 := (hx165 qa119 hmqa119).1
  have hkqa119 : kp162 qa119 = 338 := (hvqa119.1).trans hkqa119
  have hvqa124 := (hx165 qa124 hmqa124).2
  have hmqa124 : qa124 ∈ L164 := (hx165 qa124 hmqa124).1
  have hkqa124 : kp162 qa124 = 339 := (hvqa124.1).trans hkqa124
  have hvqa129 := (hx165 qa129 hmqa129).2
  have hmqa129 : qa129 ∈ L164 := (hx165 qa129 hmqa129).1
  have hkqa129 : kp162 qa129 = 340 := (hvqa129.1).trans hkqa129
  have hvqm134 := (hx165 qm134 hmqm134).2
  have hmqm134 : qm134 ∈ L164 := (hx165 qm134 hmqm134).1
  have hkqm134 : kp162 qm134 = 341 := (hvqm134.1).trans hkqm134
  have hvqm140 := (hx165 qm140 hmqm140).2
  have hmqm140 : qm140 ∈ L164 := (hx165 qm140 hmqm140).1
  have hkqm140 : kp162 qm140 = 342 := (hvqm140.1).trans hkqm140
  have hvqa146 := (hx165 qa146 hmqa146).2
  have hmqa146 : qa146 ∈ L164 := (hx165 qa146 hmqa146).1
  have hkqa146 : kp162 qa146 = 343 := (hvqa146.1).trans hkqa146
  have hvqa151 := (hx165 qa151 hmqa151).2
  have hmqa151 : qa151 ∈ L164 := (hx165 qa151 hmqa151).1
  have hkqa151 : kp162 qa151 = 344 := (hvqa151.1).trans hkqa151
  have hvqa156 := (hx165 qa156 hmqa156).2
  have hmqa156 : qa156 ∈ L164 := (hx165 qa156 hmqa156).1
  have hkqa156 : kp162 qa156 = 345 := (hvqa156.1).trans hkqa156
  have hqqm31 : E163 qm31 = gd_out (cs 4) 10 rr32 := (hvqm31.2).trans hqqm31
  have hqqm37 : E163 qm37 = gd_out (cs 4) 10 rr38 := (hvqm37.2).trans hqqm37
  have hqqm55 : E163 qm55 = gd_out (cs 5) 16 rr56 := (hvqm55.2).trans hqqm55
  have hqqm67 : E163 qm67 = gd_out (cs 4) 16 rr68 := (hvqm67.2).trans hqqm67
  have hqqa114 : E163 qa114 = .inl (cs 0, 10, .inl (fun _ => 0)) := (hvqa114.2).trans hqqa114
  have hqqa119 : E163 qa119 = .inl (cs 0, 10, .inl (fun _ => 0)) := (hvqa119.2).trans hqqa119
  have hsqm55 : ∀ j : Nat, j < 16 → rr56 j ∈ L164 ∧ E163 (rr56 j) = .inl (cs 3, (150, .inl (fun _ => 0))) := fun j hj => ⟨(hx165 _ (hsqm55 j hj).1).1, ((hx165 _ (hsqm55 j hj).1).2.2).trans (hsqm55 j hj).2⟩
  refine va_putF (D := D) (ci := 12) (v := .ref qa161) (ty := .array .int) (C := RX12) (T := TX12) (N := 64) hx hb hB cx_inX12 tyX12 tyX12_ok nmX12 hown hK hP hD hS 0 rfl rfl 40 (by decide) (hB _ cw_1233) (fun _ h9 => h9) rfl hnm rfl (by decide +kernel) rfl rfl (Nat.le_of_ble_eq_true rfl) dX12_init_305 (fun H locs hP hD hS => ?_)
  have hP : va_P D vwCl ([(o, .inr (12, [.ref qa1, .int 0, .int 0, .int 0, .int 0, .ref qa6, .ref qa11, .ref qa16, .ref qa21, .ref qa26, .ref qm31, .ref qm37, .ref qm43, .ref qm49, .int 0, .int 0, .ref qm55, .ref qm61, .ref qm67, .ref qm73, .ref qa79, .ref qa84, .ref qa89, .ref qa94, .ref qa99, .ref qa104, .int 0, .int 0, .int 0, .int 0, .ref qa109, .ref qa114, .ref qa119, .ref qa124, .ref qa129, .ref qm134, .ref qm140, .ref qa146, .ref qa151, .ref qa156, .ref qa161, .null, .null, .null, .null, .null, .null, .null, .null, .null, .int 0, .int 0, .int 0, .null, .null, .null, .null, .int 0, .int 0, .null, .null, .null, .null, .int 0]))] ++ va_pl L164 E163) H := hP
  have hD : va_D A ([(o, .inr (12, [.ref qa1, .int 0, .int 0, .int 0, .int 0, .ref qa6, .ref qa11, .ref qa16, .ref qa21, .ref qa26, .ref qm31, .ref qm37, .ref qm43, .ref qm49, .int 0, .int 0, .ref qm55, .ref qm61, .ref qm67, .ref qm73, .ref qa79, .ref qa84, .ref qa89, .ref qa94, .ref qa99, .ref qa104, .int 0, .int 0, .int 0, .int 0, .ref qa109, .ref qa114, .ref qa119, .ref qa124, .ref qa129, .ref qm134, .ref qm140, .ref qa146, .ref qa151, .ref qa156, .ref qa161, .null, .null, .null, .null, .null, .null, .null, .null, .null, .int 0, .int 0, .int 0, .null, .null, .null, .null, .int 0, .int 0, .null, .null, .null, .null, .int 0]))] ++ va_pl L164 E163) := hD
  refine lv_aload_n hx hb dX12_init_308 rfl (lv_at hl 0 rfl) ?_
  refine lv_bipush (v := 24) hx hb dX12_init_309 (by decide) ?_
  refine cx_newa (cs := cs) (atype := .long) (ty := .long) (a0 := (24, .inr (.inl (fun _ => 0)))) hx hb hB cw_170 rfl cx_ra_long 1 rfl hK hP hD hS hA (fun _ => rfl) (by decide) (by decide) (Nat.le_of_ble_eq_true rfl) (Nat.le_of_ble_eq_true rfl) (Nat.le_of_ble_eq_true rfl) dX12_init_311 (fun qa166 H hP hD hS => ?_)
  obtain ⟨kp167, E168, hP, hD, hT, hx170, hkqa166, hqqa166, hnqa166⟩ := tw_abs (k := 347) hP hD hT (fun _ _ _ => ⟨by decide, rfl, rfl, trivial⟩)
  obtain ⟨L169, hL⟩ : ∃ z, z = L164 ++ [qa166] := ⟨_, rfl⟩
  have hmqa166 : qa166 ∈ L169 := by rw [hL]; simp
  rw [← hL] at hP hD hT hx170
  have hnqa166 : qa166 ∉ L0 := fun z => hnqa166 (hex _ z).1
  have hex : ∀ a : Nat, a ∈ L0 → a ∈ L169 ∧ kp167 a = kp0 a ∧ E168 a = E0 a := fun a h => ⟨(hx170 a (hex a h).1).1, ((hx170 a (hex a h).1).2.1).trans (hex a h).2.1, ((hx170 a (hex a h).1).2.2).trans (hex a h).2.2⟩
  have hvqa1 := (hx170 qa1 hmqa1).2
  have hmqa1 : qa1 ∈ L169 := (hx170 qa1 hmqa1).1
  have hkqa1 : kp167 qa1 = 300 := (hvqa1.1).trans hkqa1
  have hvqa6 := (hx170 qa6 hmqa6).2
  have hmqa6 : qa6 ∈ L169 := (hx170 qa6 hmqa6).1
  have hkqa6 : kp167 qa6 = 301 := (hvqa6.1).trans hkqa6
  have hvqa11 := (hx170 qa11 hmqa11).2
  have hmqa11 : qa11 ∈ L169 := (hx170 qa11 hmqa11).1
  have hkqa11 : kp167 qa11 = 302 := (hvqa11.1).trans hkqa11
  have hvqa16 := (hx170 qa16 hmqa16).2
  have hmqa16 : qa16 ∈ L169 := (hx170 qa16 hmqa16).1
  have hkqa16 : kp167 qa16 = 303 := (hvqa16.1).trans hkqa16
  have hvqa21 := (hx170 qa21 hmqa21).2
  have hmqa21 : qa21 ∈ L169 := (hx170 qa21 hmqa21).1
  have hkqa21 : kp167 qa21 = 304 := (hvqa21.1).trans hkqa21
  have hvqa26 := (hx170 qa26 hmqa26).2
  have hmqa26 : qa26 ∈ L169 := (hx170 qa26 hmqa26).1
  have hkqa26 : kp167 qa26 = 305 := (hvqa26.1).trans hkqa26
  have hvqm31 := (hx170 qm31 hmqm31).2
  have hmqm31 : qm31 ∈ L169 := (hx170 qm31 hmqm31).1
  have hkqm31 : kp167 qm31 = 310 := (hvqm31.1).trans hkqm31
  have hvqm37 := (hx170 qm37 hmqm37).2
  have hmqm37 : qm37 ∈ L169 := (hx170 qm37 hmqm37).1
  have hkqm37 : kp167 qm37 = 311 := (hvqm37.1).trans hkqm37
  have hvqm43 := (hx170 qm43 hmqm43).2
  have hmqm43 : qm43 ∈ L169 := (hx170 qm43 hmqm43).1
  have hkqm43 : kp167 qm43 = 312 := (hvqm43.1).trans hkqm43
  have hvqm49 := (hx170 qm49 hmqm49).2
  have hmqm49 : qm49 ∈ L169 := (hx170 qm49 hmqm49).1
  have hkqm49 : kp167 qm49 = 313 := (hvqm49.1).trans hkqm49
  have hvqm55 := (hx170 qm55 hmqm55).2
  have hmqm55 : qm55 ∈ L169 := (hx170 qm55 hmqm55).1
  have hkqm55 : kp167 qm55 = 316 := (hvqm55.1).trans hkqm55
  have hvqm61 := (hx170 qm61 hmqm61).2
  have hmqm61 : qm61 ∈ L169 := (hx170 qm61 hmqm61).1
  have hkqm61 : kp167 qm61 = 317 := (hvqm61.1).trans hkqm61
  have hvqm67 := (hx170 qm67 hmqm67).2
  have hmqm67 : qm67 ∈ L169 := (hx170 qm67 hmqm67).1
  have hkqm67 : kp167 qm67 = 318 := (hvqm67.1).trans hkqm67
  have hvqm73 := (hx170 qm73 hmqm73).2
  have hmqm73 : qm73 ∈ L169 := (hx170 qm73 hmqm73).1
  have hkqm73 : kp167 qm73 = 319 := (hvqm73.1).trans hkqm73
  have hvqa79 := (hx170 qa79 hmqa79).2
  have hmqa79 : qa79 ∈ L169 := (hx170 qa79 hmqa79).1
  have hkqa79 : kp167 qa79 = 330 := (hvqa79.1).trans hkqa79
  have hvqa84 := (hx170 qa84 hmqa84).2
  have hmqa84 : qa84 ∈ L169 := (hx170 qa84 hmqa84).1
  have hkqa84 : kp167 qa84 = 331 := (hvqa84.1).trans hkqa84
  have hvqa89 := (hx170 qa89 hmqa89).2
  have hmqa89 : qa89 ∈ L169 := (hx170 qa89 hmqa89).1
  have hkqa89 : kp167 qa89 = 332 := (hvqa89.1).trans hkqa89
  have hvqa94 := (hx170 qa94 hmqa94).2
  have hmqa94 : qa94 ∈ L169 := (hx170 qa94 hmqa94).1
  have hkqa94 : kp167 qa94 = 333 := (hvqa94.1).trans hkqa94
  have hvqa99 := (hx170 qa99 hmqa99).2
  have hmqa99 : qa99 ∈ L169 := (hx170 qa99 hmqa99).1
  have hkqa99 : kp167 qa99 = 334 := (hvqa99.1).trans hkqa99
  have hvqa104 := (hx170 qa104 hmqa104).2
  have hmqa104 : qa104 ∈ L169 := (hx170 qa104 hmqa104).1
  have hkqa104 : kp167 qa104 = 335 := (hvqa104.1).trans hkqa104
  have hvqa109 := (hx170 qa109 hmqa109).2
  have hmqa109 : qa109 ∈ L169 := (hx170 qa109 hmqa109).1
  have hkqa109 : kp167 qa109 = 336 := (hvqa109.1).trans hkqa109
  have hvqa114 := (hx170 qa114 hmqa114).2
  have hmqa114 : qa114 ∈ L169 := (hx170 qa114 hmqa114).1
  have hkqa114 : kp167 qa114 = 337 := (hvqa114.1).trans hkqa114
  have hvqa119 := (hx170 qa119 hmqa119).2
  have hmqa119 : qa119 ∈ L169 := (hx170 qa119 hmqa119).1
  have hkqa119 : kp167 qa119 = 338 := (hvqa119.1).trans hkqa119
  have hvqa124 := (hx170 qa124 hmqa124).2
  have hmqa124 : qa124 ∈ L169 := (hx170 qa124 hmqa124).1
  have hkqa124 : kp167 qa124 = 339 := (hvqa124.1).trans hkqa124
  have hvqa129 := (hx170 qa129 hmqa129).2
  have hmqa129 : qa129 ∈ L169 := (hx170 qa129 hmqa129).1
  have hkqa129 : kp167 qa129 = 340 := (hvqa129.1).trans hkqa129
  have hvqm134 := (hx170 qm134 hmqm134).2
  have hmqm134 : qm134 ∈ L169 := (hx170 qm134 hmqm134).1
  have hkqm134 : kp167 qm134 = 341 := (hvqm134.1).trans hkqm134
  have hvqm140 := (hx170 qm140 hmqm140).2
  have hmqm140 : qm140 ∈ L169 := (hx170 qm140 hmqm140).1
  have hkqm140 : kp167 qm140 = 342 := (hvqm140.1).trans hkqm140
  have hvqa146 := (hx170 qa146 hmqa146).2
  have hmqa146 : qa146 ∈ L169 := (hx170 qa146 hmqa146).1
  have hkqa146 : kp167 qa146 = 343 := (hvqa146.1).trans hkqa146
  have hvqa151 := (hx170 qa151 hmqa151).2
  have hmqa151 : qa151 ∈ L169 := (hx170 qa151 hmqa151).1
  have hkqa151 : kp167 qa151 = 344 := (hvqa151.1).trans hkqa151
  have hvqa156 := (hx170 qa156 hmqa156).2
  have hmqa156 : qa156 ∈ L169 := (hx170 qa156 hmqa156).1
  have hkqa156 : kp167 qa156 = 345 := (hvqa156.1).trans hkqa156
  have hvqa161 := (hx170 qa161 hmqa161).2
  have hmqa161 : qa161 ∈ L169 := (hx170 qa161 hmqa161).1
  have hkqa161 : kp167 qa161 = 346 := (hvqa161.1).trans hkqa161
  have hqqm31 : E168 qm31 = gd_out (cs 4) 10 rr32 := (hvqm31.2).trans hqqm31
  have hqqm37 : E168 qm37 = gd_out (cs 4) 10 rr38 := (hvqm37.2).trans hqqm37
  have hqqm55 : E168 qm55 = gd_out (cs 5) 16 rr56 := (hvqm55.2).trans hqqm55
  have hqqm67 : E168 qm67 = gd_out (cs 4) 16 rr68 := (hvqm67.2).trans hqqm67
  have hqqa114 : E168 qa114 = .inl (cs 0, 10, .inl (fun _ => 0)) := (hvqa114.2).trans hqqa114
  have hqqa119 : E168 qa119 = .inl (cs 0, 10, .inl (fun _ => 0)) := (hvqa119.2).trans hqqa119
  have hsqm55 : ∀ j : Nat, j < 16 → rr56 j ∈ L169 ∧ E168 (rr56 j) = .inl (cs 3, (150, .inl (fun _ => 0))) := fun j hj => ⟨(hx170 _ (hsqm55 j hj).1).1, ((hx170 _ (hsqm55 j hj).1).2.2).trans (hsqm55 j hj).2⟩
  refine va_putF (D := D) (ci := 12) (v := .ref qa166) (ty := .array .long) (C := RX12) (T := TX12) (N := 64) hx hb hB cx_inX12 tyX12 tyX12_ok nmX12 hown hK hP hD hS 0 rfl rfl 41 (by decide) (hB _ cw_1234) (fun _ h9 => h9) rfl hnm rfl (by decide +kernel) rfl rfl (Nat.le_of_ble_eq_true rfl) dX12_init_313 (fun H locs hP hD hS => ?_)
  have hP : va_P D vwCl ([(o, .inr (12, [.ref qa1, .int 0, .int 0, .int 0, .int 0, .ref qa6, .ref qa11, .ref qa16, .ref qa21, .ref qa26, .ref qm31, .ref qm37, .ref qm43, .ref qm49, .int 0, .int 0, .ref qm55, .ref qm61, .ref qm67, .ref qm73, .ref qa79, .ref qa84, .ref qa89, .ref qa94, .ref qa99, .ref qa104, .int 0, .int 0, .int 0, .int 0, .ref qa109, .ref qa114, .ref qa119, .ref qa124, .ref qa129, .ref qm134, .ref qm140, .ref qa146, .ref qa151, .ref qa156, .ref qa161, .ref qa166, .null, .null, .null, .null, .null, .null, .null, .null, .int 0, .int 0, .int 0, .null, .null, .null, .null, .int 0, .int 0, .null, .null, .null, .null, .int 0]))] ++ va_pl L169 E168) H := hP
  have hD : va_D A ([(o, .inr (12, [.ref qa1, .int 0, .int 0, .int 0, .int 0, .ref qa6, .ref qa11, .ref qa16, .ref qa21, .ref qa26, .ref qm31, .ref qm37, .ref qm43, .ref qm49, .int 0, .int 0, .ref qm55, .ref qm61, .ref qm67, .ref qm73, .ref qa79, .ref qa84, .ref qa89, .ref qa94, .ref qa99, .ref qa104, .int 0, .int 0, .int 0, .int 0, .ref qa109, .ref qa114, .ref qa119, .ref qa124, .ref qa129, .ref qm134, .ref qm140, .ref qa146, .ref qa151, .ref qa156, .ref qa161, .ref qa166, .null, .null, .null, .null, .null, .null, .null, .null, .int 0, .int 0, .int 0, .null, .null, .null, .null, .int 0, .int 0, .null, .null, .null, .null, .int 0]))] ++ va_pl L169 E168) := hD
  refine lv_aload_n hx hb dX12_init_316 rfl (lv_at hl 0 rfl) ?_
  refine lv_sipush (v := 253) hx hb dX12_init_317 (by decide) ?_
  refine cx_newa (cs := cs) (atype := .boolean) (ty := .boolean) (a0 := (253, .inl (fun _ => 0))) hx hb hB cw_1386 rfl cx_ra_boolean 3 rfl hK hP hD hS hA (fun _ => rfl) (by decide) (by decide) (Nat.le_of_ble_eq_true rfl) (Nat.le_of_ble_eq_true rfl) (Nat.le_of_ble_eq_true rfl) dX12_init_320 (fun qa171 H hP hD hS => ?_)
  obtain ⟨kp172, E173, hP, hD, hT, hx175, hkqa171, hqqa171, hnqa171⟩ := tw_abs (k := 348) hP hD hT (fun _ _ _ => ⟨by decide, rfl, rfl, (fun _ _ => (show (0 : Int) ≤ ((0 : Int32)).toInt ∧ ((0 : Int32)).toInt ≤ 1 from by decide))⟩)
  obtain ⟨L174, hL⟩ : ∃ z, z = L169 ++ [qa171] := ⟨_, rfl⟩
  have hmqa171 : qa171 ∈ L174 := by rw [hL]; simp
  rw [← hL] at hP hD hT hx175
  have hnqa171 : qa171 ∉ L0 := fun z => hnqa171 (hex _ z).1
  have hex : ∀ a : Nat, a ∈ L0 → a ∈ L174 ∧ kp172 a = kp0 a ∧ E173 a = E0 a := fun a h => ⟨(hx175 a (hex a h).1).1, ((hx175 a (hex a h).1).2.1).trans (hex a h).2.1, ((hx175 a (hex a h).1).2.2).trans (hex a h).2.2⟩
  have hvqa1 := (hx175 qa1 hmqa1).2
  have hmqa1 : qa1 ∈ L174 := (hx175 qa1 hmqa1).1
  have hkqa1 : kp172 qa1 = 300 := (hvqa1.1).trans hkqa1
  have hvqa6 := (hx175 qa6 hmqa6).2
  have hmqa6 : qa6 ∈ L174 := (hx175 qa6 hmqa6).1
  have hkqa6 : kp172 qa6 = 301 := (hvqa6.1).trans hkqa6
  have hvqa11 := (hx175 qa11 hmqa11).2
  have hmqa11 : qa11 ∈ L174 := (hx175 qa11 hmqa11).1
  have hkqa11 : kp172 qa11 = 302 := (hvqa11.1).trans hkqa11
  have hvqa16 := (hx175 qa16 hmqa16).2
  have hmqa16 : qa16 ∈ L174 := (hx175 qa16 hmqa16).1
  have hkqa16 : kp172 qa16 = 303 := (hvqa16.1).trans hkqa16
  have hvqa21 := (hx175 qa21 hmqa21).2
  have hmqa21 : qa21 ∈ L174 := (hx175 qa21 hmqa21).1
  have hkqa21 : kp172 qa21 = 304 := (hvqa21.1).trans hkqa21
  have hvqa26 := (hx175 qa26 hmqa26).2
  have hmqa26 : qa26 ∈ L174 := (hx175 qa26 hmqa26).1
  have hkqa26 : kp172 qa26 = 305 := (hvqa26.1).trans hkqa26
  have hvqm31 := (hx175 qm31 hmqm31).2
  have hmqm31 : qm31 ∈ L174 := (hx175 qm31 hmqm31).1
  have hkqm31 : kp172 qm31 = 310 := (hvqm31.1).trans hkqm31
  have hvqm37 := (hx175 qm37 hmqm37).2
  have hmqm37 : qm37 ∈ L174 := (hx175 qm37 hmqm37).1
  have hkqm37 : kp172 qm37 = 311 := (hvqm37.1).trans hkqm37
  have hvqm43 := (hx175 qm43 hmqm43).2
  have hmqm43 : qm43 ∈ L174 := (hx175 qm43 hmqm43).1
  have hkqm43 : kp172 qm43 = 312 := (hvqm43.1).trans hkqm43
  have hvqm49 := (hx175 qm49 hmqm49).2
  have hmqm49 : qm49 ∈ L174 := (hx175 qm49 hmqm49).1
  have hkqm49 : kp172 qm49 = 313 := (hvqm49.1).trans hkqm49
  have hvqm55 := (hx175 qm55 hmqm55).2
  have hmqm55 : qm55 ∈ L174 := (hx175 qm55 hmqm55).1
  have hkqm55 : kp172 qm55 = 316 := (hvqm55.1).trans hkqm55
  have hvqm61 := (hx175 qm61 hmqm61).2
  have hmqm61 : qm61 ∈ L174 := (hx175 qm61 hmqm61).1
  have hkqm61 : kp172 qm61 = 317 := (hvqm61.1).trans hkqm61
  have hvqm67 := (hx175 qm67 hmqm67).2
  have hmqm67 : qm67 ∈ L174 := (hx175 qm67 hmqm67).1
  have hkqm67 : kp172 qm67 = 318 := (hvqm67.1).trans hkqm67
  have hvqm73 := (hx175 qm73 hmqm73).2
  have hmqm73 : qm73 ∈ L174 := (hx175 qm73 hmqm73).1
  have hkqm73 : kp172 qm73 = 319 := (hvqm73.1).trans hkqm73
  have hvqa79 := (hx175 qa79 hmqa79).2
  have hmqa79 : qa79 ∈ L174 := (hx175 qa79 hmqa79).1
  have hkqa79 : kp172 qa79 = 330 := (hvqa79.1).trans hkqa79
  have hvqa84 := (hx175 qa84 hmqa84).2
  have hmqa84 : qa84 ∈ L174 := (hx175 qa84 hmqa84).1
  have hkqa84 : kp172 qa84 = 331 := (hvqa84.1).trans hkqa84
  have hvqa89 := (hx175 qa89 hmqa89).2
  have hmqa89 : qa89 ∈ L174 := (hx175 qa89 hmqa89).1
  have hkqa89 : kp172 qa89 = 332 := (hvqa89.1).trans hkqa89
  have hvqa94 := (hx175 qa94 hmqa94).2
  have hmqa94 : qa94 ∈ L174 := (hx175 qa94 hmqa94).1
  have hkqa94 : kp172 qa94 = 333 := (hvqa94.1).trans hkqa94
  have hvqa99 := (hx175 qa99 hmqa99).2
  have hmqa99 : qa99 ∈ L174 := (hx175 qa99 hmqa99).1
  have hkqa99 : kp172 qa99 = 334 := (hvqa99.1).trans hkqa99
  have hvqa104 := (hx175 qa104 hmqa104).2
  have hmqa104 : qa104 ∈ L174 := (hx175 qa104 hmqa104).1
  have hkqa104 : kp172 qa104 = 335 := (hvqa104.1).trans hkqa104
  have hvqa109 := (hx175 qa109 hmqa109).2
  have hmqa109 : qa109 ∈ L174 := (hx175 qa109 hmqa109).1
  have hkqa109 : kp172 qa109 = 336 := (hvqa109.1).trans hkqa109
  have hvqa114 := (hx175 qa114 hmqa114).2
  have hmqa114 : qa114 ∈ L174 := (hx175 qa114 hmqa114).1
  have hkqa114 : kp172 qa114 = 337 := (hvqa114.1).trans hkqa114
  have hvqa119 := (hx175 qa119 hmqa119).2
  have hmqa119 : qa119 ∈ L174 := (hx175 qa119 hmqa119).1
  have hkqa119 : kp172 qa119 = 338 := (hvqa119.1).trans hkqa119
  have hvqa124 := (hx175 qa124 hmqa124).2
  have hmqa124 : qa124 ∈ L174 := (hx175 qa124 hmqa124).1
  have hkqa124 : kp172 qa124 = 339 := (hvqa124.1).trans hkqa124
  have hvqa129 := (hx175 qa129 hmqa129).2
  have hmqa129 : qa129 ∈ L174 := (hx175 qa129 hmqa129).1
  have hkqa129 : kp172 qa129 = 340 := (hvqa129.1).trans hkqa129
  have hvqm134 := (hx175 qm134 hmqm134).2
  have hmqm134 : qm134 ∈ L174 := (hx175 qm134 hmqm134).1
  have hkqm134 : kp172 qm134 = 341 := (hvqm134.1).trans hkqm134
  have hvqm140 := (hx175 qm140 hmqm140).2
  have hmqm140 : qm140 ∈ L174 := (hx175 qm140 hmqm140).1
  have hkqm140 : kp172 qm140 = 342 := (hvqm140.1).trans hkqm140
  have hvqa146 := (hx175 qa146 hmqa146).2
  have hmqa146 : qa146 ∈ L174 := (hx175 qa146 hmqa146).1
  have hkqa146 : kp172 qa146 = 343 := (hvqa146.1).trans hkqa146
  have hvqa151 := (hx175 qa151 hmqa151).2
  have hmqa151 : qa151 ∈ L174 := (hx175 qa151 hmqa151).1
  have hkqa151 : kp172 qa151 = 344 := (hvqa151.1).trans hkqa151
  have hvqa156 := (hx175 qa156 hmqa156).2
  have hmqa156 : qa156 ∈ L174 := (hx175 qa156 hmqa156).1
  have hkqa156 : kp172 qa156 = 345 := (hvqa156.1).trans hkqa156
  have hvqa161 := (hx175 qa161 hmqa161).2
  have hmqa161 : qa161 ∈ L174 := (hx175 qa161 hmqa161).1
  have hkqa161 : kp172 qa161 = 346 := (hvqa161.1).trans hkqa161
  have hvqa166 := (hx175 qa166 hmqa166).2
  have hmqa166 : qa166 ∈ L174 := (hx175 qa166 hmqa166).1
  have hkqa166 : kp172 qa166 = 347 := (hvqa166.1).trans hkqa166
  have hqqm31 : E173 qm31 = gd_out (cs 4) 10 rr32 := (hvqm31.2).trans hqqm31
  have hqqm37 : E173 qm37 = gd_out (cs 4) 10 rr38 := (hvqm37.2).trans hqqm37
  have hqqm55 : E173 qm55 = gd_out (cs 5) 16 rr56 := (hvqm55.2).trans hqqm55
  have hqqm67 : E173 qm67 = gd_out (cs 4) 16 rr68 := (hvqm67.2).trans hqqm67
  have hqqa114 : E173 qa114 = .inl (cs 0, 10, .inl (fun _ => 0)) := (hvqa114.2).trans hqqa114
  have hqqa119 : E173 qa119 = .inl (cs 0, 10, .inl (fun _ => 0)) := (hvqa119.2).trans hqqa119
  have hsqm55 : ∀ j : Nat, j < 16 → rr56 j ∈ L174 ∧ E173 (rr56 j) = .inl (cs 3, (150, .inl (fun _ => 0))) := fun j hj => ⟨(hx175 _ (hsqm55 j hj).1).1, ((hx175 _ (hsqm55 j hj).1).2.2).trans (hsqm55 j hj).2⟩
  refine va_putF (D := D) (ci := 12) (v := .ref qa171) (ty := .array .boolean) (C := RX12) (T := TX12) (N := 64) hx hb hB cx_inX12 tyX12 tyX12_ok nmX12 hown hK hP hD hS 0 rfl rfl 42 (by decide) (hB _ cw_1235) (fun _ h9 => h9) rfl hnm rfl (by decide +kernel) rfl rfl (Nat.le_of_ble_eq_true rfl) dX12_init_322 (fun H locs hP hD hS => ?_)
  have hP : va_P D vwCl ([(o, .inr (12, [.ref qa1, .int 0, .int 0, .int 0, .int 0, .ref qa6, .ref qa11, .ref qa16, .ref qa21, .ref qa26, .ref qm31, .ref qm37, .ref qm43, .ref qm49, .int 0, .int 0, .ref qm55, .ref qm61, .ref qm67, .ref qm73, .ref qa79, .ref qa84, .ref qa89, .ref qa94, .ref qa99, .ref qa104, .int 0, .int 0, .int 0, .int 0, .ref qa109, .ref qa114, .ref qa119, .ref qa124, .ref qa129, .ref qm134, .ref qm140, .ref qa146, .ref qa151, .ref qa156, .ref qa161, .ref qa166, .ref qa171, .null, .null, .null, .null, .null, .null, .null, .int 0, .int 0, .int 0, .null, .null, .null, .null, .int 0, .int 0, .null, .null, .null, .null, .int 0]))] ++ va_pl L174 E173) H := hP
  have hD : va_D A ([(o, .inr (12, [.ref qa1, .int 0, .int 0, .int 0, .int 0, .ref qa6, .ref qa11, .ref qa16, .ref qa21, .ref qa26, .ref qm31, .ref qm37, .ref qm43, .ref qm49, .int 0, .int 0, .ref qm55, .ref qm61, .ref qm67, .ref qm73, .ref qa79, .ref qa84, .ref qa89, .ref qa94, .ref qa99, .ref qa104, .int 0, .int 0, .int 0, .int 0, .ref qa109, .ref qa114, .ref qa119, .ref qa124, .ref qa129, .ref qm134, .ref qm140, .ref qa146, .ref qa151, .ref qa156, .ref qa161, .ref qa166, .ref qa171, .null, .null, .null, .null, .null, .null, .null, .int 0, .int 0, .int 0, .null, .null, .null, .null, .int 0, .int 0, .null, .null, .null, .null, .int 0]))] ++ va_pl L174 E173) := hD
  refine lv_aload_n hx hb dX12_init_325 rfl (lv_at hl 0 rfl) ?_
  refine lv_sipush (v := 253) hx hb dX12_init_326 (by decide) ?_
  refine cx_newa (cs := cs) (atype := .boolean) (ty := .boolean) (a0 := (253, .inl (fun _ => 0))) hx hb hB cw_1386 rfl cx_ra_boolean 3 rfl hK hP hD hS hA (fun _ => rfl) (by decide) (by decide) (Nat.le_of_ble_eq_true rfl) (Nat.le_of_ble_eq_true rfl) (Nat.le_of_ble_eq_true rfl) dX12_init_329 (fun qa176 H hP hD hS => ?_)
  obtain ⟨kp177, E178, hP, hD, hT, hx180, hkqa176, hqqa176, hnqa176⟩ := tw_abs (k := 349) hP hD hT (fun _ _ _ => ⟨by decide, rfl, rfl, (fun _ _ => (show (0 : Int) ≤ ((0 : Int32)).toInt ∧ ((0 : Int32)).toInt ≤ 1 from by decide))⟩)
  obtain ⟨L179, hL⟩ : ∃ z, z = L174 ++ [qa176] := ⟨_, rfl⟩
  have hmqa176 : qa176 ∈ L179 := by rw [hL]; simp
  rw [← hL] at hP hD hT hx180
  have hnqa176 : qa176 ∉ L0 := fun z => hnqa176 (hex _ z).1
  have hex : ∀ a : Nat, a ∈ L0 → a ∈ L179 ∧ kp177 a = kp0 a ∧ E178 a = E0 a := fun a h => ⟨(hx180 a (hex a h).1).1, ((hx180 a (hex a h).1).2.1).trans (hex a h).2.1, ((hx180 a (hex a h).1).2.2).trans (hex a h).2.2⟩
  have hvqa1 := (hx180 qa1 hmqa1).2
  have hmqa1 : qa1 ∈ L179 := (hx180 qa1 hmqa1).1
  have hkqa1 : kp177 qa1 = 300 := (hvqa1.1).trans hkqa1
  have hvqa6 := (hx180 qa6 hmqa6).2
  have hmqa6 : qa6 ∈ L179 := (hx180 qa6 hmqa6).1
  have hkqa6 : kp177 qa6 = 301 := (hvqa6.1).trans hkqa6
  have hvqa11 := (hx180 qa11 hmqa11).2
  have hmqa11 : qa11 ∈ L179 := (hx180 qa11 hmqa11).1
  have hkqa11 : kp177 qa11 = 302 := (hvqa11.1).trans hkqa11
  have hvqa16 := (hx180 qa16 hmqa16).2
  have hmqa16 : qa16 ∈ L179 := (hx180 qa16 hmqa16).1
  have hkqa16 : kp177 qa16 = 303 := (hvqa16.1).trans hkqa16
  have hvqa21 := (hx180 qa21 hmqa21).2
  have hmqa21 : qa21 ∈ L179 := (hx180 qa21 hmqa21).1
  have hkqa21 : kp177 qa21 = 304 := (hvqa21.1).trans hkqa21
  have hvqa26 := (hx180 qa26 hmqa26).2
  have hmqa26 : qa26 ∈ L179 := (hx180 qa26 hmqa26).1
  have hkqa26 : kp177 qa26 = 305 := (hvqa26.1).trans hkqa26
  have hvqm31 := (hx180 qm31 hmqm31).2
  have hmqm31 : qm31 ∈ L179 := (hx180 qm31 hmqm31).1
  have hkqm31 : kp177 qm31 = 310 := (hvqm31.1).trans hkqm31
  have hvqm37 := (hx180 qm37 hmqm37).2
  have hmqm37 : qm37 ∈ L179 := (hx180 qm37 hmqm37).1
  have hkqm37 : kp177 qm37 = 311 := (hvqm37.1).trans hkqm37
  have hvqm43 := (hx180 qm43 hmqm43).2
  have hmqm43 : qm43 ∈ L179 := (hx180 qm43 hmqm43).1
  have hkqm43 : kp177 qm43 = 312 := (hvqm43.1).trans hkqm43
  have hvqm49 := (hx180 qm49 hmqm49).2
  have hmqm49 : qm49 ∈ L179 := (hx180 qm49 hmqm49).1
  have hkqm49 : kp177 qm49 = 313 := (hvqm49.1).trans hkqm49
  have hvqm55 := (hx180 qm55 hmqm55).2
  have hmqm55 : qm55 ∈ L179 := (hx180 qm55 hmqm55).1
  have hkqm55 : kp177 qm55 = 316 := (hvqm55.1).trans hkqm55
  have hvqm61 := (hx180 qm61 hmqm61).2
  have hmqm61 : qm61 ∈ L179 := (hx180 qm61 hmqm61).1
  have hkqm61 : kp177 qm61 = 317 := (hvqm61.1).trans hkqm61
  have hvqm67 := (hx180 qm67 hmqm67).2
  have hmqm67 : qm67 ∈ L179 := (hx180 qm67 hmqm67).1
  have hkqm67 : kp177 qm67 = 318 := (hvqm67.1).trans hkqm67
  have hvqm73 := (hx180 qm73 hmqm73).2
  have hmqm73 : qm73 ∈ L179 := (hx180 qm73 hmqm73).1
  have hkqm73 : kp177 qm73 = 319 := (hvqm73.1).trans hkqm73
  have hvqa79 := (hx180 qa79 hmqa79).2
  have hmqa79 : qa79 ∈ L179 := (hx180 qa79 hmqa79).1
  have hkqa79 : kp177 qa79 = 330 := (hvqa79.1).trans hkqa79
  have hvqa84 := (hx180 qa84 hmqa84).2
  have hmqa84 : qa84 ∈ L179 := (hx180 qa84 hmqa84).1
  have hkqa84 : kp177 qa84 = 331 := (hvqa84.1).trans hkqa84
  have hvqa89 := (hx180 qa89 hmqa89).2
  have hmqa89 : qa89 ∈ L179 := (hx180 qa89 hmqa89).1
  have hkqa89 : kp177 qa89 = 332 := (hvqa89.1).trans hkqa89
  have hvqa94 := (hx180 qa94 hmqa94).2
  have hmqa94 : qa94 ∈ L179 := (hx180 qa94 hmqa94).1
  have hkqa94 : kp177 qa94 = 333 := (hvqa94.1).trans hkqa94
  have hvqa99 := (hx180 qa99 hmqa99).2
  have hmqa99 : qa99 ∈ L179 := (hx180 qa99 hmqa99).1
  have hkqa99 : kp177 qa99 = 334 := (hvqa99.1).trans hkqa99
  have hvqa104 := (hx180 qa104 hmqa104).2
  have hmqa104 : qa104 ∈ L179 := (hx180 qa104 hmqa104).1
  have hkqa104 : kp177 qa104 = 335 := (hvqa104.1).trans hkqa104
  have hvqa109 := (hx180 qa109 hmqa109).2
  have hmqa109 : qa109 ∈ L179 := (hx180 qa109 hmqa109).1
  have hkqa109 : kp177 qa109 = 336 := (hvqa109.1).trans hkqa109
  have hvqa114 := (hx180 qa114 hmqa114).2
  have hmqa114 : qa114 ∈ L179 := (hx180 qa114 hmqa114).1
  have hkqa114 : kp177 qa114 = 337 := (hvqa114.1).trans hkqa114
  have hvqa119 := (hx180 qa119 hmqa119).2
  have hmqa119 : qa119 ∈ L179 := (hx180 qa119 hmqa119).1
  have hkqa119 : kp177 qa119 = 338 := (hvqa119.1).trans hkqa119
  have hvqa124 := (hx180 qa124 hmqa124).2
  have hmqa124 : qa124 ∈ L179 := (hx180 qa124 hmqa124).1
  have hkqa124 : kp177 qa124 = 339 := (hvqa124.1).trans hkqa124
  have hvqa129 := (hx180 qa129 hmqa129).2
  have hmqa129 : qa129 ∈ L179 := (hx180 qa129 hmqa129).1
  have hkqa129 : kp177 qa129 = 340 := (hvqa129.1).trans hkqa129
  have hvqm134 := (hx180 qm134 hmqm134).2
  have hmqm134 : qm134 ∈ L179 := (hx180 qm134 hmqm134).1
  have hkqm134 : kp177 qm134 = 341 := (hvqm134.1).trans hkqm134
  have hvqm140 := (hx180 qm140 hmqm140).2
  have hmqm140 : qm140 ∈ L179 := (hx180 qm140 hmqm140).1
  have hkqm140 : kp177 qm140 = 342 := (hvqm140.1).trans hkqm140
  have hvqa146 := (hx180 qa146 hmqa146).2
  have hmqa146 : qa146 ∈ L179 := (hx180 qa146 hmqa146).1
  have hkqa146 : kp177 qa146 = 343 := (hvqa146.1).trans hkqa146
  have hvqa151 := (hx180 qa151 hmqa151).2
  have hmqa151 : qa151 ∈ L179 := (hx180 qa151 hmqa151).1
  have hkqa151 : kp177 qa151 = 344 := (hvqa151.1).trans hkqa151
  have hvqa156 := (hx180 qa156 hmqa156).2
  have hmqa156 : qa156 ∈ L179 := (hx180 qa156 hmqa156).1
  have hkqa156 : kp177 qa156 = 345 := (hvqa156.1).trans hkqa156
  have hvqa161 := (hx180 qa161 hmqa161).2
  have hmqa161 : qa161 ∈ L179 := (hx180 qa161 hmqa161).1
  have hkqa161 : kp177 qa161 = 346 := (hvqa161.1).trans hkqa161
  have hvqa166 := (hx180 qa166 hmqa166).2
  have hmqa166 : qa166 ∈ L179 := (hx180 qa166 hmqa166).1
  have hkqa166 : kp177 qa166 = 347 := (hvqa166.1).trans hkqa166
  have hvqa171 := (hx180 qa171 hmqa171).2
  have hmqa171 : qa171 ∈ L179 := (hx180 qa171 hmqa171).1
  have hkqa171 : kp177 qa171 = 348 := (hvqa171.1).trans hkqa171
  have hqqm31 : E178 qm31 = gd_out (cs 4) 10 rr32 := (hvqm31.2).trans hqqm31
  have hqqm37 : E178 qm37 = gd_out (cs 4) 10 rr38 := (hvqm37.2).trans hqqm37
  have hqqm55 : E178 qm55 = gd_out (cs 5) 16 rr56 := (hvqm55.2).trans hqqm55
  have hqqm67 : E178 qm67 = gd_out (cs 4) 16 rr68 := (hvqm67.2).trans hqqm67
  have hqqa114 : E178 qa114 = .inl (cs 0, 10, .inl (fun _ => 0)) := (hvqa114.2).trans hqqa114
  have hqqa119 : E178 qa119 = .inl (cs 0, 10, .inl (fun _ => 0)) := (hvqa119.2).trans hqqa119
  have hsqm55 : ∀ j : Nat, j < 16 → rr56 j ∈ L179 ∧ E178 (rr56 j) = .inl (cs 3, (150, .inl (fun _ => 0))) := fun j hj => ⟨(hx180 _ (hsqm55 j hj).1).1, ((hx180 _ (hsqm55 j hj).1).2.2).trans (hsqm55 j hj).2⟩
  refine va_putF (D := D) (ci := 12) (v := .ref qa176) (ty := .array .boolean) (C := RX12) (T := TX12) (N := 64) hx hb hB cx_inX12 tyX12 tyX12_ok nmX12 hown hK hP hD hS 0 rfl rfl 43 (by decide) (hB _ cw_1236) (fun _ h9 => h9) rfl hnm rfl (by decide +kernel) rfl rfl (Nat.le_of_ble_eq_true rfl) dX12_init_331 (fun H locs hP hD hS => ?_)
  have hP : va_P D vwCl ([(o, .inr (12, [.ref qa1, .int 0, .int 0, .int 0, .int 0, .ref qa6, .ref qa11, .ref qa16, .ref qa21, .ref qa26, .ref qm31, .ref qm37, .ref qm43, .ref qm49, .int 0, .int 0, .ref qm55, .ref qm61, .ref qm67, .ref qm73, .ref qa79, .ref qa84, .ref qa89, .ref qa94, .ref qa99, .ref qa104, .int 0, .int 0, .int 0, .int 0, .ref qa109, .ref qa114, .ref qa119, .ref qa124, .ref qa129, .ref qm134, .ref qm140, .ref qa146, .ref qa151, .ref qa156, .ref qa161, .ref qa166, .ref qa171, .ref qa176, .null, .null, .null, .null, .null, .null, .int 0, .int 0, .int 0, .null, .null, .null, .null, .int 0, .int 0, .null, .null, .null, .null, .int 0]))] ++ va_pl L179 E178) H := hP
  have hD : va_D A ([(o, .inr (12, [.ref qa1, .int 0, .int 0, .int 0, .int 0, .ref qa6, .ref qa11, .ref qa16, .ref qa21, .ref qa26, .ref qm31, .ref qm37, .ref qm43, .ref qm49, .int 0, .int 0, .ref qm55, .ref qm61, .ref qm67, .ref qm73, .ref qa79, .ref qa84, .ref qa89, .ref qa94, .ref qa99, .ref qa104, .int 0, .int 0, .int 0, .int 0, .ref qa109, .ref qa114, .ref qa119, .ref qa124, .ref qa129, .ref qm134, .ref qm140, .ref qa146, .ref qa151, .ref qa156, .ref qa161, .ref qa166, .ref qa171, .ref qa176, .null, .null, .null, .null, .null, .null, .int 0, .int 0, .int 0, .null, .null, .null, .null, .int 0, .int 0, .null, .null, .null, .null, .int 0]))] ++ va_pl L179 E178) := hD
  refine lv_aload_n hx hb dX12_init_334 rfl (lv_at hl 0 rfl) ?_
  refine lv_bipush (v := 24) hx hb dX12_init_335 (by decide) ?_
  refine cx_newa (cs := cs) (atype := .int) (ty := .int) (a0 := (24, .inl (fun _ => 0))) hx hb hB cw_59 rfl cx_ra_int 0 rfl hK hP hD hS hA (fun _ => rfl) (by decide) (by decide) (Nat.le_of_ble_eq_true rfl) (Nat.le_of_ble_eq_true rfl) (Nat.le_of_ble_eq_true rfl) dX12_init_337 (fun qa181 H hP hD hS => ?_)
  obtain ⟨kp182, E183, hP, hD, hT, hx185, hkqa181, hqqa181, hnqa181⟩ := tw_abs (k := 353) hP hD hT (fun _ _ _ => ⟨by decide, rfl, rfl, (fun _ _ => (show ((-1) : Int) ≤ ((0 : Int32)).toInt ∧ ((0 : Int32)).toInt ≤ 149 from by decide))⟩)
  obtain ⟨L184, hL⟩ : ∃ z, z = L179 ++ [qa181] := ⟨_, rfl⟩
  have hmqa181 : qa181 ∈ L184 := by rw [hL]; simp
  rw [← hL] at hP hD hT hx185
  have hnqa181 : qa181 ∉ L0 := fun z => hnqa181 (hex _ z).1
  have hex : ∀ a : Nat, a ∈ L0 → a ∈ L184 ∧ kp182 a = kp0 a ∧ E183 a = E0 a := fun a h => ⟨(hx185 a (hex a h).1).1, ((hx185 a (hex a h).1).2.1).trans (hex a h).2.1, ((hx185 a (hex a h).1).2.2).trans (hex a h).2.2⟩
  have hvqa1 := (hx185 qa1 hmqa1).2
  have hmqa1 : qa1 ∈ L184 := (hx185 qa1 hmqa1).1
  have hkqa1 : kp182 qa1 = 300 := (hvqa1.1).trans hkqa1
  have hvqa6 := (hx185 qa6 hmqa6).2
  have hmqa6 : qa6 ∈ L184 := (hx185 qa6 hmqa6).1
  have hkqa6 : kp182 qa6 = 301 := (hvqa6.1).trans hkqa6
  have hvqa11 := (hx185 qa11 hmqa11).2
  have hmqa11 : qa11 ∈ L184 := (hx185 qa11 hmqa11).1
  have hkqa11 : kp182 qa11 = 302 := (hvqa11.1).trans hkqa11
  have hvqa16 := (hx185 qa16 hmqa16).2
  have hmqa16 : qa16 ∈ L184 := (hx185 qa16 hmqa16).1
  have hkqa16 : kp182 qa16 = 303 := (hvqa16.1).trans hkqa16
  have hvqa21 := (hx185 qa21 hmqa21).2
  have hmqa21 : qa21 ∈ L184 := (hx185 qa21 hmqa21).1
  have hkqa21 : kp182 qa21 = 304 := (hvqa21.1).trans hkqa21
  have hvqa26 := (hx185 qa26 hmqa26).2
  have hmqa26 : qa26 ∈ L184 := (hx185 qa26 hmqa26).1
  have hkqa26 : kp182 qa26 = 305 := (hvqa26.1).trans hkqa26
  have hvqm31 := (hx185 qm31 hmqm31).2
  have hmqm31 : qm31 ∈ L184 := (hx185 qm31 hmqm31).1
  have hkqm31 : kp182 qm31 = 310 := (hvqm31.1).trans hkqm31
  have hvqm37 := (hx185 qm37 hmqm37).2
  have hmqm37 : qm37 ∈ L184 := (hx185 qm37 hmqm37).1
  have hkqm37 : kp182 qm37 = 311 := (hvqm37.1).trans hkqm37
  have hvqm43 := (hx185 qm43 hmqm43).2
  have hmqm43 : qm43 ∈ L184 := (hx185 qm43 hmqm43).1
  have hkqm43 : kp182 qm43 = 312 := (hvqm43.1).trans hkqm43
  have hvqm49 := (hx185 qm49 hmqm49).2
  have hmqm49 : qm49 ∈ L184 := (hx185 qm49 hmqm49).1
  have hkqm49 : kp182 qm49 = 313 := (hvqm49.1).trans hkqm49
  have hvqm55 := (hx185 qm55 hmqm55).2
  have hmqm55 : qm55 ∈ L184 := (hx185 qm55 hmqm55).1
  have hkqm55 : kp182 qm55 = 316 := (hvqm55.1).trans hkqm55
  have hvqm61 := (hx185 qm61 hmqm61).2
  have hmqm61 : qm61 ∈ L184 := (hx185 qm61 hmqm61).1
  have hkqm61 : kp182 qm61 = 317 := (hvqm61.1).trans hkqm61
  have hvqm67 := (hx185 qm67 hmqm67).2
  have hmqm67 : qm67 ∈ L184 := (hx185 qm67 hmqm67).1
  have hkqm67 : kp182 qm67 = 318 := (hvqm67.1).trans hkqm67
  have hvqm73 := (hx185 qm73 hmqm73).2
  have hmqm73 : qm73 ∈ L184 := (hx185 qm73 hmqm73).1
  have hkqm73 : kp182 qm73 = 319 := (hvqm73.1).trans hkqm73
  have hvqa79 := (hx185 qa79 hmqa79).2
  have hmqa79 : qa79 ∈ L184 := (hx185 qa79 hmqa79).1
  have hkqa79 : kp182 qa79 = 330 := (hvqa79.1).trans hkqa79
  have hvqa84 := (hx185 qa84 hmqa84).2
  have hmqa84 : qa84 ∈ L184 := (hx185 qa84 hmqa84).1
  have hkqa84 : kp182 qa84 = 331 := (hvqa84.1).trans hkqa84
  have hvqa89 := (hx185 qa89 hmqa89).2
  have hmqa89 : qa89 ∈ L184 := (hx185 qa89 hmqa89).1
  have hkqa89 : kp182 qa89 = 332 := (hvqa89.1).trans hkqa89
  have hvqa94 := (hx185 qa94 hmqa94).2
  have hmqa94 : qa94 ∈ L184 := (hx185 qa94 hmqa94).1
  have hkqa94 : kp182 qa94 = 333 := (hvqa94.1).trans hkqa94
  have hvqa99 := (hx185 qa99 hmqa99).2
  have hmqa99 : qa99 ∈ L184 := (hx185 qa99 hmqa99).1
  have hkqa99 : kp182 qa99 = 334 := (hvqa99.1).trans hkqa99
  have hvqa104 := (hx185 qa104 hmqa104).2
  have hmqa104 : qa104 ∈ L184 := (hx185 qa104 hmqa104).1
  have hkqa104 : kp182 qa104 = 335 := (hvqa104.1).trans hkqa104
  have hvqa109 := (hx185 qa109 hmqa109).2
  have hmqa109 : qa109 ∈ L184 := (hx185 qa109 hmqa109).1
  have hkqa109 : kp182 qa109 = 336 := (hvqa109.1).trans hkqa109
  have hvqa114 := (hx185 qa114 hmqa114).2
  have hmqa114 : qa114 ∈ L184 := (hx185 qa114 hmqa114).1
  have hkqa114 : kp182 qa114 = 337 := (hvqa114.1).trans hkqa114
  have hvqa119 := (hx185 qa119 hmqa119).2
  have hmqa119 : qa119 ∈ L184 := (hx185 qa119 hmqa119).1
  have hkqa119 : kp182 qa119 = 338 := (hvqa119.1).trans hkqa119
  have hvqa124 := (hx185 qa124 hmqa124).2
  have hmqa124 : qa124 ∈ L184 := (hx185 qa124 hmqa124).1
  have hkqa124 : kp182 qa124 = 339 := (hvqa124.1).trans hkqa124
  have hvqa129 := (hx185 qa129 hmqa129).2
  have hmqa129 : qa129 ∈ L184 := (hx185 qa129 hmqa129).1
  have hkqa129 : kp182 qa129 = 340 := (hvqa129.1).trans hkqa129
  have hvqm134 := (hx185 qm134 hmqm134).2
  have hmqm134 : qm134 ∈ L184 := (hx185 qm134 hmqm134).1
  have hkqm134 : kp182 qm134 = 341 := (hvqm134.1).trans hkqm134
  have hvqm140 := (hx185 qm140 hmqm140).2
  have hmqm140 : qm140 ∈ L184 := (hx185 qm140 hmqm140).1
  have hkqm140 : kp182 qm140 = 342 := (hvqm140.1).trans hkqm140
  have hvqa146 := (hx185 qa146 hmqa146).2
  have hmqa146 : qa146 ∈ L184 := (hx185 qa146 hmqa146).1
  have hkqa146 : kp182 qa146 = 343 := (hvqa146.1).trans hkqa146
  have hvqa151 := (hx185 qa151 hmqa151).2
  have hmqa151 : qa151 ∈ L184 := (hx185 qa151 hmqa151).1
  have hkqa151 : kp182 qa151 = 344 := (hvqa151.1).trans hkqa151
  have hvqa156 := (hx185 qa156 hmqa156).2
  have hmqa156 : qa156 ∈ L184 := (hx185 qa156 hmqa156).1
  have hkqa156 : kp182 qa156 = 345 := (hvqa156.1).trans hkqa156
  have hvqa161 := (hx185 qa161 hmqa161).2
  have hmqa161 : qa161 ∈ L184 := (hx185 qa161 hmqa161).1
  have hkqa161 : kp182 qa161 = 346 := (hvqa161.1).trans hkqa161
  have hvqa166 := (hx185 qa166 hmqa166).2
  have hmqa166 : qa166 ∈ L184 := (hx185 qa166 hmqa166).1
  have hkqa166 : kp182 qa166 = 347 := (hvqa166.1).trans hkqa166
  have hvqa171 := (hx185 qa171 hmqa171).2
  have hmqa171 : qa171 ∈ L184 := (hx185 qa171 hmqa171).1
  have hkqa171 : kp182 qa171 = 348 := (hvqa171.1).trans hkqa171
  have hvqa176 := (hx185 qa176 hmqa176).2
  have hmqa176 : qa176 ∈ L184 := (hx185 qa176 hmqa176).1
  have hkqa176 : kp182 qa176 = 349 := (hvqa176.1).trans hkqa176
  have hqqm31 : E183 qm31 = gd_out (cs 4) 10 rr32 := (hvqm31.2).trans hqqm31
  have hqqm37 : E183 qm37 = gd_out (cs 4) 10 rr38 := (hvqm37.2).trans hqqm37
  have hqqm55 : E183 qm55 = gd_out (cs 5) 16 rr56 := (hvqm55.2).trans hqqm55
  have hqqm67 : E183 qm67 = gd_out (cs 4) 16 rr68 := (hvqm67.2).trans hqqm67
  have hqqa114 : E183 qa114 = .inl (cs 0, 10, .inl (fun _ => 0)) := (hvqa114.2).trans hqqa114
  have hqqa119 : E183 qa119 = .inl (cs 0, 10, .inl (fun _ => 0)) := (hvqa119.2).trans hqqa119
  have hsqm55 : ∀ j : Nat, j < 16 → rr56 j ∈ L184 ∧ E183 (rr56 j) = .inl (cs 3, (150, .inl (fun _ => 0))) := fun j hj => ⟨(hx185 _ (hsqm55 j hj).1).1, ((hx185 _ (hsqm55 j hj).1).2.2).trans (hsqm55 j hj).2⟩
  refine va_putF (D := D) (ci := 12) (v := .ref qa181) (ty := .array .int) (C := RX12) (T := TX12) (N := 64) hx hb hB cx_inX12 tyX12 tyX12_ok nmX12 hown hK hP hD hS 0 rfl rfl 44 (by decide) (hB _ cw_1237) (fun _ h9 => h9) rfl hnm rfl (by decide +kernel) rfl rfl (Nat.le_of_ble_eq_true rfl) dX12_init_339 (fun H locs hP hD hS => ?_)
  have hP : va_P D vwCl ([(o, .inr (12, [.ref qa1, .int 0, .int 0, .int 0, .int 0, .ref qa6, .ref qa11, .ref qa16, .ref qa21, .ref qa26, .ref qm31, .ref qm37, .ref qm43, .ref qm49, .int 0, .int 0, .ref qm55, .ref qm61, .ref qm67, .ref qm73, .ref qa79, .ref qa84, .ref qa89, .ref qa94, .ref qa99, .ref qa104, .int 0, .int 0, .int 0, .int 0, .ref qa109, .ref qa114, .ref qa119, .ref qa124, .ref qa129, .ref qm134, .ref qm140, .ref qa146, .ref qa151, .ref qa156, .ref qa161, .ref qa166, .ref qa171, .ref qa176, .ref qa181, .null, .null, .null, .null, .null, .int 0, .int 0, .int 0, .null, .null, .null, .null, .int 0, .int 0, .null, .null, .null, .null, .int 0]))] ++ va_pl L184 E183) H := hP
  have hD : va_D A ([(o, .inr (12, [.ref qa1, .int 0, .int 0, .int 0, .int 0, .ref qa6, .ref qa11, .ref qa16, .ref qa21, .ref qa26, .ref qm31, .ref qm37, .ref qm43, .ref qm49, .int 0, .int 0, .ref qm55, .ref qm61, .ref qm67, .ref qm73, .ref qa79, .ref qa84, .ref qa89, .ref qa94, .ref qa99, .ref qa104, .int 0, .int 0, .int 0, .int 0, .ref qa109, .ref qa114, .ref qa119, .ref qa124, .ref qa129, .ref qm134, .ref qm140, .ref qa146, .ref qa151, .ref qa156, .ref qa161, .ref qa166, .ref qa171, .ref qa176, .ref qa181, .null, .null, .null, .null, .null, .int 0, .int 0, .int 0, .null, .null, .null, .null, .int 0, .int 0, .null, .null, .null, .null, .int 0]))] ++ va_pl L184 E183) := hD
  refine lv_aload_n hx hb dX12_init_342 rfl (lv_at hl 0 rfl) ?_
  refine lv_bipush (v := 40) hx hb dX12_init_343 (by decide) ?_
  refine cx_newa (cs := cs) (atype := .int) (ty := .int) (a0 := (40, .inl (fun _ => 0))) hx hb hB cw_59 rfl cx_ra_int 0 rfl hK hP hD hS hA (fun _ => rfl) (by decide) (by decide) (Nat.le_of_ble_eq_true rfl) (Nat.le_of_ble_eq_true rfl) (Nat.le_of_ble_eq_true rfl) dX12_init_345 (fun qa186 H hP hD hS => ?_)
  obtain ⟨kp187, E188, hP, hD, hT, hx190, hkqa186, hqqa186, hnqa186⟩ := tw_abs (k := 354) hP hD hT (fun _ _ _ => ⟨by decide, rfl, rfl, (fun _ _ => (show (0 : Int) ≤ ((0 : Int32)).toInt ∧ ((0 : Int32)).toInt ≤ 149 from by decide))⟩)
  obtain ⟨L189, hL⟩ : ∃ z, z = L184 ++ [qa186] := ⟨_, rfl⟩
  have hmqa186 : qa186 ∈ L189 := by rw [hL]; simp
  rw [← hL] at hP hD hT hx190
  have hnqa186 : qa186 ∉ L0 := fun z => hnqa186 (hex _ z).1
  have hex : ∀ a : Nat, a ∈ L0 → a ∈ L189 ∧ kp187 a = kp0 a ∧ E188 a = E0 a := fun a h => ⟨(hx190 a (hex a h).1).1, ((hx190 a (hex a h).1).2.1).trans (hex a h).2.1, ((hx190 a (hex a h).1).2.2).trans (hex a h).2.2⟩
  have hvqa1 := (hx190 qa1 hmqa1).2
  have hmqa1 : qa1 ∈ L189 := (hx190 qa1 hmqa1).1
  have hkqa1 : kp187 qa1 = 300 := (hvqa1.1).trans hkqa1
  have hvqa6 := (hx190 qa6 hmqa6).2
  have hmqa6 : qa6 ∈ L189 := (hx190 qa6 hmqa6).1
  have hkqa6 : kp187 qa6 = 301 := (hvqa6.1).trans hkqa6
  have hvqa11 := (hx190 qa11 hmqa11).2
  have hmqa11 : qa11 ∈ L189 := (hx190 qa11 hmqa11).1
  have hkqa11 : kp187 qa11 = 302 := (hvqa11.1).trans hkqa11
  have hvqa16 := (hx190 qa16 hmqa16).2
  have hmqa16 : qa16 ∈ L189 := (hx190 qa16 hmqa16).1
  have hkqa16 : kp187 qa16 = 303 := (hvqa16.1).trans hkqa16
  have hvqa21 := (hx190 qa21 hmqa21).2
  have hmqa21 : qa21 ∈ L189 := (hx190 qa21 hmqa21).1
  have hkqa21 : kp187 qa21 = 304 := (hvqa21.1).trans hkqa21
  have hvqa26 := (hx190 qa26 hmqa26).2
  have hmqa26 : qa26 ∈ L189 := (hx190 qa26 hmqa26).1
  have hkqa26 : kp187 qa26 = 305 := (hvqa26.1).trans hkqa26
  have hvqm31 := (hx190 qm31 hmqm31).2
  have hmqm31 : qm31 ∈ L189 := (hx190 qm31 hmqm31).1
  have hkqm31 : kp187 qm31 = 310 := (hvqm31.1).trans hkqm31
  have hvqm37 := (hx190 qm37 hmqm37).2
  have hmqm37 : qm37 ∈ L189 := (hx190 qm37 hmqm37).1
  have hkqm37 : kp187 qm37 = 311 := (hvqm37.1).trans hkqm37
  have hvqm43 := (hx190 qm43 hmqm43).2
  have hmqm43 : qm43 ∈ L189 := (hx190 qm43 hmqm43).1
  have hkqm43 : kp187 qm43 = 312 := (hvqm43.1).trans hkqm43
  have hvqm49 := (hx190 qm49 hmqm49).2
  have hmqm49 : qm49 ∈ L189 := (hx190 qm49 hmqm49).1
  have hkqm49 : kp187 qm49 = 313 := (hvqm49.1).trans hkqm49
  have hvqm55 := (hx190 qm55 hmqm55).2
  have hmqm55 : qm55 ∈ L189 := (hx190 qm55 hmqm55).1
  have hkqm55 : kp187 qm55 = 316 := (hvqm55.1).trans hkqm55
  have hvqm61 := (hx190 qm61 hmqm61).2
  have hmqm61 : qm61 ∈ L189 := (hx190 qm61 hmqm61).1
  have hkqm61 : kp187 qm61 = 317 := (hvqm61.1).trans hkqm61
  have hvqm67 := (hx190 qm67 hmqm67).2
  have hmqm67 : qm67 ∈ L189 := (hx190 qm67 hmqm67).1
  have hkqm67 : kp187 qm67 = 318 := (hvqm67.1).trans hkqm67
  have hvqm73 := (hx190 qm73 hmqm73).2
  have hmqm73 : qm73 ∈ L189 := (hx190 qm73 hmqm73).1
  have hkqm73 : kp187 qm73 = 319 := (hvqm73.1).trans hkqm73
  have hvqa79 := (hx190 qa79 hmqa79).2
  have hmqa79 : qa79 ∈ L189 := (hx190 qa79 hmqa79).1
  have hkqa79 : kp187 qa79 = 330 := (hvqa79.1).trans hkqa79
  have hvqa84 := (hx190 qa84 hmqa84).2
  have hmqa84 : qa84 ∈ L189 := (hx190 qa84 hmqa84).1
  have hkqa84 : kp187 qa84 = 331 := (hvqa84.1).trans hkqa84
  have hvqa89 := (hx190 qa89 hmqa89).2
  have hmqa89 : qa89 ∈ L189 := (hx190 qa89 hmqa89).1
  have hkqa89 : kp187 qa89 = 332 := (hvqa89.1).trans hkqa89
  have hvqa94 := (hx190 qa94 hmqa94).2
  have hmqa94 : qa94 ∈ L189 := (hx190 qa94 hmqa94).1
  have hkqa94 : kp187 qa94 = 333 := (hvqa94.1).trans hkqa94
  have hvqa99 := (hx190 qa99 hmqa99).2
  have hmqa99 : qa99 ∈ L189 := (hx190 qa99 hmqa99).1
  have hkqa99 : kp187 qa99 = 334 := (hvqa99.1).trans hkqa99
  have hvqa104 := (hx190 qa104 hmqa104).2
  have hmqa104 : qa104 ∈ L189 := (hx190 qa104 hmqa104).1
  have hkqa104 : kp187 qa104 = 335 := (hvqa104.1).trans hkqa104
  have hvqa109 := (hx190 qa109 hmqa109).2
  have hmqa109 : qa109 ∈ L189 := (hx190 qa109 hmqa109).1
  have hkqa109 : kp187 qa109 = 336 := (hvqa109.1).trans hkqa109
  have hvqa114 := (hx190 qa114 hmqa114).2
  have hmqa114 : qa114 ∈ L189 := (hx190 qa114 hmqa114).1
  have hkqa114 : kp187 qa114 = 337 := (hvqa114.1).trans hkqa114
  have hvqa119 := (hx190 qa119 hmqa119).2
  have hmqa119 : qa119 ∈ L189 := (hx190 qa119 hmqa119).1
  have hkqa119 : kp187 qa119 = 338 := (hvqa119.1).trans hkqa119
  have hvqa124 := (hx190 qa124 hmqa124).2
  have hmqa124 : qa124 ∈ L189 := (hx190 qa124 hmqa124).1
  have hkqa124 : kp187 qa124 = 339 := (hvqa124.1).trans hkqa124
  have hvqa129 := (hx190 qa129 hmqa129).2
  have hmqa129 : qa129 ∈ L189 := (hx190 qa129 hmqa129).1
  have hkqa129 : kp187 qa129 = 340 := (hvqa129.1).trans hkqa129
  have hvqm134 := (hx190 qm134 hmqm134).2
  have hmqm134 : qm134 ∈ L189 := (hx190 qm134 hmqm134).1
  have hkqm134 : kp187 qm134 = 341 := (hvqm134.1).trans hkqm134
  have hvqm140 := (hx190 qm140 hmqm140).2
  have hmqm140 : qm140 ∈ L189 := (hx190 qm140 hmqm140).1
  have hkqm140 : kp187 qm140 = 342 := (hvqm140.1).trans hkqm140
  have hvqa146 := (hx190 qa146 hmqa146).2
  have hmqa146 : qa146 ∈ L189 := (hx190 qa146 hmqa146).1
  have hkqa146 : kp187 qa146 = 343 := (hvqa146.1).trans hkqa146
  have hvqa151 := (hx190 qa151 hmqa151).2
  have hmqa151 : qa151 ∈ L189 := (hx190 qa151 hmqa151).1
  have hkqa151 : kp187 qa151 = 344 := (hvqa151.1).trans hkqa151
  have hvqa156 := (hx190 qa156 hmqa156).2
  have hmqa156 : qa156 ∈ L189 := (hx190 qa156 hmqa156).1
  have hkqa156 : kp187 qa156 = 345 := (hvqa156.1).trans hkqa156
  have hvqa161 := (hx190 qa161 hmqa161).2
  have hmqa161 : qa161 ∈ L189 := (hx190 qa161 hmqa161).1
  have hkqa161 : kp187 qa161 = 346 := (hvqa161.1).trans hkqa161
  have hvqa166 := (hx190 qa166 hmqa166).2
  have hmqa166 : qa166 ∈ L189 := (hx190 qa166 hmqa166).1
  have hkqa166 : kp187 qa166 = 347 := (hvqa166.1).trans hkqa166
  have hvqa171 := (hx190 qa171 hmqa171).2
  have hmqa171 : qa171 ∈ L189 := (hx190 qa171 hmqa171).1
  have hkqa171 : kp187 qa171 = 348 := (hvqa171.1).trans hkqa171
  have hvqa176 := (hx190 qa176 hmqa176).2
  have hmqa176 : qa176 ∈ L189 := (hx190 qa176 hmqa176).1
  have hkqa176 : kp187 qa176 = 349 := (hvqa176.1).trans hkqa176
  have hvqa181 := (hx190 qa181 hmqa181).2
  have hmqa181 : qa181 ∈ L189 := (hx190 qa181 hmqa181).1
  have hkqa181 : kp187 qa181 = 353 := (hvqa181.1).trans hkqa181
  have hqqm31 : E188 qm31 = gd_out (cs 4) 10 rr32 := (hvqm31.2).trans hqqm31
  have hqqm37 : E188 qm37 = gd_out (cs 4) 10 rr38 := (hvqm37.2).trans hqqm37
  have hqqm55 : E188 qm55 = gd_out (cs 5) 16 rr56 := (hvqm55.2).trans hqqm55
  have hqqm67 : E188 qm67 = gd_out (cs 4) 16 rr68 := (hvqm67.2).trans hqqm67
  have hqqa114 : E188 qa114 = .inl (cs 0, 10, .inl (fun _ => 0)) := (hvqa114.2).trans hqqa114
  have hqqa119 : E188 qa119 = .inl (cs 0, 10, .inl (fun _ => 0)) := (hvqa119.2).trans hqqa119
  have hsqm55 : ∀ j : Nat, j < 16 → rr56 j ∈ L189 ∧ E188 (rr56 j) = .inl (cs 3, (150, .inl (fun _ => 0))) := fun j hj => ⟨(hx190 _ (hsqm55 j hj).1).1, ((hx190 _ (hsqm55 j hj).1).2.2).trans (hsqm55 j hj).2⟩
  refine va_putF (D := D) (ci := 12) (v := .ref qa186) (ty := .array .int) (C := RX12) (T := TX12) (N := 64) hx hb hB cx_inX12 tyX12 tyX12_ok nmX12 hown hK hP hD hS 0 rfl rfl 45 (by decide) (hB _ cw_1238) (fun _ h9 => h9) rfl hnm rfl (by decide +kernel) rfl rfl (Nat.le_of_ble_eq_true rfl) dX12_init_347 (fun H locs hP hD hS => ?_)
  have hP : va_P D vwCl ([(o, .inr (12, [.ref qa1, .int 0, .int 0, .int 0, .int 0, .ref qa6, .ref qa11, .ref qa16, .ref qa21, .ref qa26, .ref qm31, .ref qm37, .ref qm43, .ref qm49, .int 0, .int 0, .ref qm55, .ref qm61, .ref qm67, .ref qm73, .ref qa79, .ref qa84, .ref qa89, .ref qa94, .ref qa99, .ref qa104, .int 0, .int 0, .int 0, .int 0, .ref qa109, .ref qa114, .ref qa119, .ref qa124, .ref qa129, .ref qm134, .ref qm140, .ref qa146, .ref qa151, .ref qa156, .ref qa161, .ref qa166, .ref qa171, .ref qa176, .ref qa181, .ref qa186, .null, .null, .null, .null, .int 0, .int 0, .int 0, .null, .null, .null, .null, .int 0, .int 0, .null, .null, .null, .null, .int 0]))] ++ va_pl L189 E188) H := hP
  have hD : va_D A ([(o, .inr (12, [.ref qa1, .int 0, .int 0, .int 0, .int 0, .ref qa6, .ref qa11, .ref qa16, .ref qa21, .ref qa26, .ref qm31, .ref qm37, .ref qm43, .ref qm49, .int 0, .int 0, .ref qm55, .ref qm61, .ref qm67, .ref qm73, .ref qa79, .ref qa84, .ref qa89, .ref qa94, .ref qa99, .ref qa104, .int 0, .int 0, .int 0, .int 0, .ref qa109, .ref qa114, .ref qa119, .ref qa124, .ref qa129, .ref qm134, .ref qm140, .ref qa146, .ref qa151, .ref qa156, .ref qa161, .ref qa166, .ref qa171, .ref qa176, .ref qa181, .ref qa186, .null, .null, .null, .null, .int 0, .int 0, .int 0, .null, .null, .null, .null, .int 0, .int 0, .null, .null, .null, .null, .int 0]))] ++ va_pl L189 E188) := hD
  refine lv_aload_n hx hb dX12_init_350 rfl (lv_at hl 0 rfl) ?_
  refine lv_bipush (v := 40) hx hb dX12_init_351 (by decide) ?_
  refine cx_newa (cs := cs) (atype := .int) (ty := .int) (a0 := (40, .inl (fun _ => 0))) hx hb hB cw_59 rfl cx_ra_int 0 rfl hK hP hD hS hA (fun _ => rfl) (by decide) (by decide) (Nat.le_of_ble_eq_true rfl) (Nat.le_of_ble_eq_true rfl) (Nat.le_of_ble_eq_true rfl) dX12_init_353 (fun qa191 H hP hD hS => ?_)
  obtain ⟨kp192, E193, hP, hD, hT, hx195, hkqa191, hqqa191, hnqa191⟩ := tw_abs (k := 355) hP hD hT (fun _ _ _ => ⟨by decide, rfl, rfl, (fun _ _ => (show ((-1) : Int) ≤ ((0 : Int32)).toInt ∧ ((0 : Int32)).toInt ≤ 23 from by decide))⟩)
  obtain ⟨L194, hL⟩ : ∃ z, z = L189 ++ [qa191] := ⟨_, rfl⟩
  have hmqa191 : qa191 ∈ L194 := by rw [hL]; simp
  rw [← hL] at hP hD hT hx195
  have hnqa191 : qa191 ∉ L0 := fun z => hnqa191 (hex _ z).1
  have hex : ∀ a : Nat, a ∈ L0 → a ∈ L194 ∧ kp192 a = kp0 a ∧ E193 a = E0 a := fun a h => ⟨(hx195 a (hex a h).1).1, ((hx195 a (hex a h).1).2.1).trans (hex a h).2.1, ((hx195 a (hex a h).1).2.2).trans (hex a h).2.2⟩
  have hvqa1 := (hx195 qa1 hmqa1).2
  have hmqa1 : qa1 ∈ L194 := (hx195 qa1 hmqa1).1
  have hkqa1 : kp192 qa1 = 300 := (hvqa1.1).trans hkqa1
  have hvqa6 := (hx195 qa6 hmqa6).2
  have hmqa6 : qa6 ∈ L194 := (hx195 qa6 hmqa6).1
  have hkqa6 : kp192 qa6 = 301 := (hvqa6.1).trans hkqa6
  have hvqa11 := (hx195 qa11 hmqa11).2
  have hmqa11 : qa11 ∈ L194 := (hx195 qa11 hmqa11).1
  have hkqa11 : kp192 qa11 = 302 := (hvqa11.1).trans hkqa11
  have hvqa16 := (hx195 qa16 hmqa16).2
  have hmqa16 : qa16 ∈ L194 := (hx195 qa16 hmqa16).1
  have hkqa16 : kp192 qa16 = 303 := (hvqa16.1).trans hkqa16
  have hvqa21 := (hx195 qa21 hmqa21).2
  have hmqa21 : qa21 ∈ L194 := (hx195 qa21 hmqa21).1
  have hkqa21 : kp192 qa21 = 304 := (hvqa21.1).trans hkqa21
  have hvqa26 := (hx195 qa26 hmqa26).2
  have hmqa26 : qa26 ∈ L194 := (hx195 qa26 hmqa26).1
  have hkqa26 : kp192 qa26 = 305 := (hvqa26.1).trans hkqa26
  have hvqm31 := (hx195 qm31 hmqm31).2
  have hmqm31 : qm31 ∈ L194 := (hx195 qm31 hmqm31).1
  have hkqm31 : kp192 qm31 = 310 := (hvqm31.1).trans hkqm31
  have hvqm37 := (hx195 qm37 hmqm37).2
  have hmqm37 : qm37 ∈ L194 := (hx195 qm37 hmqm37).1
  have hkqm37 : kp192 qm37 = 311 := (hvqm37.1).trans hkqm37
  have hvqm43 := (hx195 qm43 hmqm43).2
  have hmqm43 : qm43 ∈ L194 := (hx195 qm43 hmqm43).1
  have hkqm43 : kp192 qm43 = 312 := (hvqm43.1).trans hkqm43
  have hvqm49 := (hx195 qm49 hmqm49).2
  have hmqm49 : qm49 ∈ L194 := (hx195 qm49 hmqm49).1
  have hkqm49 : kp192 qm49 = 313 := (hvqm49.1).trans hkqm49
  have hvqm55 := (hx195 qm55 hmqm55).2
  have hmqm55 : qm55 ∈ L194 := (hx195 qm55 hmqm55).1
  have hkqm55 : kp192 qm55 = 316 := (hvqm55.1).trans hkqm55
  have hvqm61 := (hx195 qm61 hmqm61).2
  have hmqm61 : qm61 ∈ L194 := (hx195 qm61 hmqm61).1
  have hkqm61 : kp192 qm61 = 317 := (hvqm61.1).trans hkqm61
  have hvqm67 := (hx195 qm67 hmqm67).2
  have hmqm67 : qm67 ∈ L194 := (hx195 qm67 hmqm67).1
  have hkqm67 : kp192 qm67 = 318 := (hvqm67.1).trans hkqm67
  have hvqm73 := (hx195 qm73 hmqm73).2
  have hmqm73 : qm73 ∈ L194 := (hx195 qm73 hmqm73).1
  have hkqm73 : kp192 qm73 = 319 := (hvqm73.1).trans hkqm73
  have hvqa79 := (hx195 qa79 hmqa79).2
  have hmqa79 : qa79 ∈ L194 := (hx195 qa79 hmqa79).1
  have hkqa79 : kp192 qa79 = 330 := (hvqa79.1).trans hkqa79
  have hvqa84 := (hx195 qa84 hmqa84).2
  have hmqa84 : qa84 ∈ L194 := (hx195 qa84 hmqa84).1
  have hkqa84 : kp192 qa84 = 331 := (hvqa84.1).trans hkqa84
  have hvqa89 := (hx195 qa89 hmqa89).2
  have hmqa89 : qa89 ∈ L194 := (hx195 qa89 hmqa89).1
  have hkqa89 : kp192 qa89 = 332 := (hvqa89.1).trans hkqa89
  have hvqa94 := (hx195 qa94 hmqa94).2
  have hmqa94 : qa94 ∈ L194 := (hx195 qa94 hmqa94).1
  have hkqa94 : kp192 qa94 = 333 := (hvqa94.1).trans hkqa94
  have hvqa99 := (hx195 qa99 hmqa99).2
  have hmqa99 : qa99 ∈ L194 := (hx195 qa99 hmqa99).1
  have hkqa99 : kp192 qa99 = 334 := (hvqa99.1).trans hkqa99
  have hvqa104 := (hx195 qa104 hmqa104).2
  have hmqa104 : qa104 ∈ L194 := (hx195 qa104 hmqa104).1
  have hkqa104 : kp192 qa104 = 335 := (hvqa104.1).trans hkqa104
  have hvqa109 := (hx195 qa109 hmqa109).2
  have hmqa109 : qa109 ∈ L194 := (hx195 qa109 hmqa109).1
  have hkqa109 : kp192 qa109 = 336 := (hvqa109.1).trans hkqa109
  have hvqa114 := (hx195 qa114 hmqa114).2
  have hmqa114 : qa114 ∈ L194 := (hx195 qa114 hmqa114).1
  have hkqa114 : kp192 qa114 = 337 := (hvqa114.1).trans hkqa114
  have hvqa119 := (hx195 qa119 hmqa119).2
  have hmqa119 : qa119 ∈ L194 := (hx195 qa119 hmqa119).1
  have hkqa119 : kp192 qa119 = 338 := (hvqa119.1).trans hkqa119
  have hvqa124 := (hx195 qa124 hmqa124).2
  have hmqa124 : qa124 ∈ L194 := (hx195 qa124 hmqa124).1
  have hkqa124 : kp192 qa124 = 339 := (hvqa124.1).trans hkqa124
  have hvqa129 := (hx195 qa129 hmqa129).2
  have hmqa129 : qa129 ∈ L194 := (hx195 qa129 hmqa129).1
  have hkqa129 : kp192 qa129 = 340 := (hvqa129.1).trans hkqa129
  have hvqm134 := (hx195 qm134 hmqm134).2
  have hmqm134 : qm134 ∈ L194 := (hx195 qm134 hmqm134).1
  have hkqm134 : kp192 qm134 = 341 := (hvqm134.1).trans hkqm134
  have hvqm140 := (hx195 qm140 hmqm140).2
  have hmqm140 : qm140 ∈ L194 := (hx195 qm140 hmqm140).1
  have hkqm140 : kp192 qm140 = 342 := (hvqm140.1).trans hkqm140
  have hvqa146 := (hx195 qa146 hmqa146).2
  have hmqa146 : qa146 ∈ L194 := (hx195 qa146 hmqa146).1
  have hkqa146 : kp192 qa146 = 343 := (hvqa146.1).trans hkqa146
  have hvqa151 := (hx195 qa151 hmqa151).2
  have hmqa151 : qa151 ∈ L194 := (hx195 qa151 hmqa151).1
  have hkqa151 : kp192 qa151 = 344 := (hvqa151.1).trans hkqa151
  have hvqa156 := (hx195 qa156 hmqa156).2
  have hmqa156 : qa156 ∈ L194 := (hx195 qa156 hmqa156).1
  have hkqa156 : kp192 qa156 = 345 := (hvqa156.1).trans hkqa156
  have hvqa161 := (hx195 qa161 hmqa161).2
  have hmqa161 : qa161 ∈ L194 := (hx195 qa161 hmqa161).1
  have hkqa161 : kp192 qa161 = 346 := (hvqa161.1).trans hkqa161
  have hvqa166 := (hx195 qa166 hmqa166).2
  have hmqa166 : qa166 ∈ L194 := (hx195 qa166 hmqa166).1
  have hkqa166 : kp192 qa166 = 347 := (hvqa166.1).trans hkqa166
  have hvqa171 := (hx195 qa171 hmqa171).2
  have hmqa171 : qa171 ∈ L194 := (hx195 qa171 hmqa171).1
  have hkqa171 : kp192 qa171 = 348 := (hvqa171.1).trans hkqa171
  have hvqa176 := (hx195 qa176 hmqa176).2
  have hmqa176 : qa176 ∈ L194 := (hx195 qa176 hmqa176).1
  have hkqa176 : kp192 qa176 = 349 := (hvqa176.1).trans hkqa176
  have hvqa181 := (hx195 qa181 hmqa181).2
  have hmqa181 : qa181 ∈ L194 := (hx195 qa181 hmqa181).1
  have hkqa181 : kp192 qa181 = 353 := (hvqa181.1).trans hkqa181
  have hvqa186 := (hx195 qa186 hmqa186).2
  have hmqa186 : qa186 ∈ L194 := (hx195 qa186 hmqa186).1
  have hkqa186 : kp192 qa186 = 354 := (hvqa186.1).trans hkqa186
  have hqqm31 : E193 qm31 = gd_out (cs 4) 10 rr32 := (hvqm31.2).trans hqqm31
  have hqqm37 : E193 qm37 = gd_out (cs 4) 10 rr38 := (hvqm37.2).trans hqqm37
  have hqqm55 : E193 qm55 = gd_out (cs 5) 16 rr56 := (hvqm55.2).trans hqqm55
  have hqqm67 : E193 qm67 = gd_out (cs 4) 16 rr68 := (hvqm67.2).trans hqqm67
  have hqqa114 : E193 qa114 = .inl (cs 0, 10, .inl (fun _ => 0)) := (hvqa114.2).trans hqqa114
  have hqqa119 : E193 qa119 = .inl (cs 0, 10, .inl (fun _ => 0)) := (hvqa119.2).trans hqqa119
  have hsqm55 : ∀ j : Nat, j < 16 → rr56 j ∈ L194 ∧ E193 (rr56 j) = .inl (cs 3, (150, .inl (fun _ => 0))) := fun j hj => ⟨(hx195 _ (hsqm55 j hj).1).1, ((hx195 _ (hsqm55 j hj).1).2.2).trans (hsqm55 j hj).2⟩
  refine va_putF (D := D) (ci := 12) (v := .ref qa191) (ty := .array .int) (C := RX12) (T := TX12) (N := 64) hx hb hB cx_inX12 tyX12 tyX12_ok nmX12 hown hK hP hD hS 0 rfl rfl 46 (by decide) (hB _ cw_1239) (fun _ h9 => h9) rfl hnm rfl (by decide +kernel) rfl rfl (Nat.le_of_ble_eq_true rfl) dX12_init_355 (fun H locs hP hD hS => ?_)
  have hP : va_P D vwCl ([(o, .inr (12, [.ref qa1, .int 0, .int 0, .int 0, .int 0, .ref qa6, .ref qa11, .ref qa16, .ref qa21, .ref qa26, .ref qm31, .ref qm37, .ref qm43, .ref qm49, .int 0, .int 0, .ref qm55, .ref qm61, .ref qm67, .ref qm73, .ref qa79, .ref qa84, .ref qa89, .ref qa94, .ref qa99, .ref qa104, .int 0, .int 0, .int 0, .int 0, .ref qa109, .ref qa114, .ref qa119, .ref qa124, .ref qa129, .ref qm134, .ref qm140, .ref qa146, .ref qa151, .ref qa156, .ref qa161, .ref qa166, .ref qa171, .ref qa176, .ref qa181, .ref qa186, .ref qa191, .null, .null, .null, .int 0, .int 0, .int 0, .null, .null, .null, .null, .int 0, .int 0, .null, .null, .null, .null, .int 0]))] ++ va_pl L194 E193) H := hP
  have hD : va_D A ([(o, .inr (12, [.ref qa1, .int 0, .int 0, .int 0, .int 0, .ref qa6, .ref qa11, .ref qa16, .ref qa21, .ref qa26, .ref qm31, .ref qm37, .ref qm43, .ref qm49, .int 0, .int 0, .ref qm55, .ref qm61, .ref qm67, .ref qm73, .ref qa79, .ref qa84, .ref qa89, .ref qa94, .ref qa99, .ref qa104, .int 0, .int 0, .int 0, .int 0, .ref qa109, .ref qa114, .ref qa119, .ref qa124, .ref qa129, .ref qm134, .ref qm140, .ref qa146, .ref qa151, .ref qa156, .ref qa161, .ref qa166, .ref qa171, .ref qa176, .ref qa181, .ref qa186, .ref qa191, .null, .null, .null, .int 0, .int 0, .int 0, .null, .null, .null, .null, .int 0, .int 0, .null, .null, .null, .null, .int 0]))] ++ va_pl L194 E193) := hD
  refine lv_aload_n hx hb dX12_init_358 rfl (lv_at hl 0 rfl) ?_
  refine lv_bipush (v := 24) hx hb dX12_init_359 (by decide) ?_
  refine cx_newa (cs := cs) (atype := .int) (ty := .int) (a0 := (24, .inl (fun _ => 0))) hx hb hB cw_59 rfl cx_ra_int 0 rfl hK hP hD hS hA (fun _ => rfl) (by decide) (by decide) (Nat.le_of_ble_eq_true rfl) (Nat.le_of_ble_eq_true rfl) (Nat.le_of_ble_eq_true rfl) dX12_init_361 (fun qa196 H hP hD hS => ?_)
  obtain ⟨kp197, E198, hP, hD, hT, hx200, hkqa196, hqqa196, hnqa196⟩ := tw_abs (k := 356) hP hD hT (fun _ _ _ => ⟨by decide, rfl, rfl, (fun _ _ => (show ((-1) : Int) ≤ ((0 : Int32)).toInt ∧ ((0 : Int32)).toInt ≤ 39 from by decide))⟩)
  obtain ⟨L199, hL⟩ : ∃ z, z = L194 ++ [qa196] := ⟨_, rfl⟩
  have hmqa196 : qa196 ∈ L199 := by rw [hL]; simp
  rw [← hL] at hP hD hT hx200
  have hnqa196 : qa196 ∉ L0 := fun z => hnqa196 (hex _ z).1
  have hex : ∀ a : Nat, a ∈ L0 → a ∈ L199 ∧ kp197 a = kp0 a ∧ E198 a = E0 a := fun a h => ⟨(hx200 a (hex a h).1).1, ((hx200 a (hex a h).1).2.1).trans (hex a h).2.1, ((hx200 a (hex a h).1).2.2).trans (hex a h).2.2⟩
  have hvqa1 := (hx200 qa1 hmqa1).2
  have hmqa1 : qa1 ∈ L199 := (hx200 qa1 hmqa1).1
  have hkqa1 : kp197 qa1 = 300 := (hvqa1.1).trans hkqa1
  have hvqa6 := (hx200 qa6 hmqa6).2
  have hmqa6 : qa6 ∈ L199 := (hx200 qa6 hmqa6).1
  have hkqa6 : kp197 qa6 = 301 := (hvqa6.1).trans hkqa6
  have hvqa11 := (hx200 qa11 hmqa11).2
  have hmqa11 : qa11 ∈ L199 := (hx200 qa11 hmqa11).1
  have hkqa11 : kp197 qa11 = 302 := (hvqa11.1).trans hkqa11
  have hvqa16 := (hx200 qa16 hmqa16).2
  have hmqa16 : qa16 ∈ L199 := (hx200 qa16 hmqa16).1
  have hkqa16 : kp197 qa16 = 303 := (hvqa16.1).trans hkqa16
  have hvqa21 := (hx200 qa21 hmqa21).2
  have hmqa21 : qa21 ∈ L199 := (hx200 qa21 hmqa21).1
  have hkqa21 : kp197 qa21 = 304 := (hvqa21.1).trans hkqa21
  have hvqa26 := (hx200 qa26 hmqa26).2
  have hmqa26 : qa26 ∈ L199 := (hx200 qa26 hmqa26).1
  have hkqa26 : kp197 qa26 = 305 := (hvqa26.1).trans hkqa26
  have hvqm31 := (hx200 qm31 hmqm31).2
  have hmqm31 : qm31 ∈ L199 := (hx200 qm31 hmqm31).1
  have hkqm31 : kp197 qm31 = 310 := (hvqm31.1).trans hkqm31
  have hvqm37 := (hx200 qm37 hmqm37).2
  have hmqm37 : qm37 ∈ L199 := (hx200 qm37 hmqm37).1
  have hkqm37 : kp197 qm37 = 311 := (hvqm37.1).trans hkqm37
  have hvqm43 := (hx200 qm43 hmqm43).2
  have hmqm43 : qm43 ∈ L199 := (hx200 qm43 hmqm43).1
  have hkqm43 : kp197 qm43 = 312 := (hvqm43.1).trans hkqm43
  have hvqm49 := (hx200 qm49 hmqm49).2
  have hmqm49 : qm49 ∈ L199 := (hx200 qm49 hmqm49).1
  have hkqm49 : kp197 qm49 = 313 := (hvqm49.1).trans hkqm49
  have hvqm55 := (hx200 qm55 hmqm55).2
  have hmqm55 : qm55 ∈ L199 := (hx200 qm55 hmqm55).1
  have hkqm55 : kp197 qm55 = 316 := (hvqm55.1).trans hkqm55
  have hvqm61 := (hx200 qm61 hmqm61).2
  have hmqm61 : qm61 ∈ L199 := (hx200 qm61 hmqm61).1
  have hkqm61 : kp197 qm61 = 317 := (hvqm61.1).trans hkqm61
  have hvqm67 := (hx200 qm67 hmqm67).2
  have hmqm67 : qm67 ∈ L199 := (hx200 qm67 hmqm67).1
  have hkqm67 : kp197 qm67 = 318 := (hvqm67.1).trans hkqm67
  have hvqm73 := (hx200 qm73 hmqm73).2
  have hmqm73 : qm73 ∈ L199 := (hx200 qm73 hmqm73).1
  have hkqm73 : kp197 qm73 = 319 := (hvqm73.1).trans hkqm73
  have hvqa79 := (hx200 qa79 hmqa79).2
  have hmqa79 : qa79 ∈ L199 := (hx200 qa79 hmqa79).1
  have hkqa79 : kp197 qa79 = 330 := (hvqa79.1).trans hkqa79
  have hvqa84 := (hx200 qa84 hmqa84).2
  have hmqa84 : qa84 ∈ L199 := (hx200 qa84 hmqa84).1
  have hkqa84 : kp197 qa84 = 331 := (hvqa84.1).trans hkqa84
  have hvqa89 := (hx200 qa89 hmqa89).2
  have hmqa89 : qa89 ∈ L199 := (hx200 qa89 hmqa89).1
  have hkqa89 : kp197 qa89 = 332 := (hvqa89.1).trans hkqa89
  have hvqa94 := (hx200 qa94 hmqa94).2
  have hmqa94 : qa94 ∈ L199 := (hx200 qa94 hmqa94).1
  have hkqa94 : kp197 qa94 = 333 := (hvqa94.1).trans hkqa94
  have hvqa99 := (hx200 qa99 hmqa99).2
  have hmqa99 : qa99 ∈ L199 := (hx200 qa99 hmqa99).1
  have hkqa99 : kp197 qa99 = 334 := (hvqa99.1).trans hkqa99
  have hvqa104 := (hx200 qa104 hmqa104).2
  have hmqa104 : qa104 ∈ L199 := (hx200 qa104 hmqa104).1
  have hkqa104 : kp197 qa104 = 335 := (hvqa104.1).trans hkqa104
  have hvqa109 := (hx200 qa109 hmqa109).2
  have hmqa109 : qa109 ∈ L199 := (hx200 qa109 hmqa109).1
  have hkqa109 : kp197 qa109 = 336 := (hvqa109.1).trans hkqa109
  have hvqa114 := (hx200 qa114 hmqa114).2
  have hmqa114 : qa114 ∈ L199 := (hx200 qa114 hmqa114).1
  have hkqa114 : kp197 qa114 = 337 := (hvqa114.1).trans hkqa114
  have hvqa119 := (hx200 qa119 hmqa119).2
  have hmqa119 : qa119 ∈ L199 := (hx200 qa119 hmqa119).1
  have hkqa119 : kp197 qa119 = 338 := (hvqa119.1).trans hkqa119
  have hvqa124 := (hx200 qa124 hmqa124).2
  have hmqa124 : qa124 ∈ L199 := (hx200 qa124 hmqa124).1
  have hkqa124 : kp197 qa124 = 339 := (hvqa124.1).trans hkqa124
  have hvqa129 := (hx200 qa129 hmqa129).2
  have hmqa129 : qa129 ∈ L199 := (hx200 qa129 hmqa129).1
  have hkqa129 : kp197 qa129 = 340 := (hvqa129.1).trans hkqa129
  have hvqm134 := (hx200 qm134 hmqm134).2
  have hmqm134 : qm134 ∈ L199 := (hx200 qm134 hmqm134).1
  have hkqm134 : kp197 qm134 = 341 := (hvqm134.1).trans hkqm134
  have hvqm140 := (hx200 qm140 hmqm140).2
  have hmqm140 : qm140 ∈ L199 := (hx200 qm140 hmqm140).1
  have hkqm140 : kp197 qm140 = 342 := (hvqm140.1).trans hkqm140
  have hvqa146 := (hx200 qa146 hmqa146).2
  have hmqa146 : qa146 ∈ L199 := (hx200 qa146 hmqa146).1
  have hkqa146 : kp197 qa146 = 343 := (hvqa146.1).trans hkqa146
  have hvqa151 := (hx200 qa151 hmqa151).2
  have hmqa151 : qa151 ∈ L199 := (hx200 qa151 hmqa151).1
  have hkqa151 : kp197 qa151 = 344 := (hvqa151.1).trans hkqa151
  have hvqa156 := (hx200 qa156 hmqa156).2
  have hmqa156 : qa156 ∈ L199 := (hx200 qa156 hmqa156).1
  have hkqa156 : kp197 qa156 = 345 := (hvqa156.1).trans hkqa156
  have hvqa161 := (hx200 qa161 hmqa161).2
  have hmqa161 : qa161 ∈ L199 := (hx200 qa161 hmqa161).1
  have hkqa161 : kp197 qa161 = 346 := (hvqa161.1).trans hkqa161
  have hvqa166 := (hx200 qa166 hmqa166).2
  have hmqa166 : qa166 ∈ L199 := (hx200 qa166 hmqa166).1
  have hkqa166 : kp197 qa166 = 347 := (hvqa166.1).trans hkqa166
  have hvqa171 := (hx200 qa171 hmqa171).2
  have hmqa171 : qa171 ∈ L199 := (hx200 qa171 hmqa171).1
  have hkqa171 : kp197 qa171 = 348 := (hvqa171.1).trans hkqa171
  have hvqa176 := (hx200 qa176 hmqa176).2
  have hmqa176 : qa176 ∈ L199 := (hx200 qa176 hmqa176).1
  have hkqa176 : kp197 qa176 = 349 := (hvqa176.1).trans hkqa176
  have hvqa181 := (hx200 qa181 hmqa181).2
  have hmqa181 : qa181 ∈ L199 := (hx200 qa181 hmqa181).1
  have hkqa181 : kp197 qa181 = 353 := (hvqa181.1).trans hkqa181
  have hvqa186 := (hx200 qa186 hmqa186).2
  have hmqa186 : qa186 ∈ L199 := (hx200 qa186 hmqa186).1
  have hkqa186 : kp197 qa186 = 354 := (hvqa186.1).trans hkqa186
  have hvqa191 := (hx200 qa191 hmqa191).2
  have hmqa191 : qa191 ∈ L199 := (hx200 qa191 hmqa191).1
  have hkqa191 : kp197 qa191 = 355 := (hvqa191.1).trans hkqa191
  have hqqm31 : E198 qm31 = gd_out (cs 4) 10 rr32 := (hvqm31.2).trans hqqm31
  have hqqm37 : E198 qm37 = gd_out (cs 4) 10 rr38 := (hvqm37.2).trans hqqm37
  have hqqm55 : E198 qm55 = gd_out (cs 5) 16 rr56 := (hvqm55.2).trans hqqm55
  have hqqm67 : E198 qm67 = gd_out (cs 4) 16 rr68 := (hvqm67.2).trans hqqm67
  have hqqa114 : E198 qa114 = .inl (cs 0, 10, .inl (fun _ => 0)) := (hvqa114.2).trans hqqa114
  have hqqa119 : E198 qa119 = .inl (cs 0, 10, .inl (fun _ => 0)) := (hvqa119.2).trans hqqa119
  have hsqm55 : ∀ j : Nat, j < 16 → rr56 j ∈ L199 ∧ E198 (rr56 j) = .inl (cs 3, (150, .inl (fun _ => 0))) := fun j hj => ⟨(hx200 _ (hsqm55 j hj).1).1, ((hx200 _ (hsqm55 j hj).1).2.2).trans (hsqm55 j hj).2⟩
  refine va_putF (D := D) (ci := 12) (v := .ref qa196) (ty := .array .int) (C := RX12) (T := TX12) (N := 64) hx hb hB cx_inX12 tyX12 tyX12_ok nmX12 hown hK hP hD hS 0 rfl rfl 47 (by decide) (hB _ cw_1240) (fun _ h9 => h9) rfl hnm rfl (by decide +kernel) rfl rfl (Nat.le_of_ble_eq_true rfl) dX12_init_363 (fun H locs hP hD hS => ?_)
  have hP : va_P D vwCl ([(o, .inr (12, [.ref qa1, .int 0, .int 0, .int 0, .int 0, .ref qa6, .ref qa11, .ref qa16, .ref qa21, .ref qa26, .ref qm31, .ref qm37, .ref qm43, .ref qm49, .int 0, .int 0, .ref qm55, .ref qm61, .ref qm67, .ref qm73, .ref qa79, .ref qa84, .ref qa89, .ref qa94, .ref qa99, .ref qa104, .int 0, .int 0, .int 0, .int 0, .ref qa109, .ref qa114, .ref qa119, .ref qa124, .ref qa129, .ref qm134, .ref qm140, .ref qa146, .ref qa151, .ref qa156, .ref qa161, .ref qa166, .ref qa171, .ref qa176, .ref qa181, .ref qa186, .ref qa191, .ref qa196, .null, .null, .int 0, .int 0, .int 0, .null, .null, .null, .null, .int 0, .int 0, .null, .null, .null, .null, .int 0]))] ++ va_pl L199 E198) H := hP
  have hD : va_D A ([(o, .inr (12, [.ref qa1, .int 0, .int 0, .int 0, .int 0, .ref qa6, .ref qa11, .ref qa16, .ref qa21, .ref qa26, .ref qm31, .ref qm37, .ref qm43, .ref qm49, .int 0, .int 0, .ref qm55, .ref qm61, .ref qm67, .ref qm73, .ref qa79, .ref qa84, .ref qa89, .ref qa94, .ref qa99, .ref qa104, .int 0, .int 0, .int 0, .int 0, .ref qa109, .ref qa114, .ref qa119, .ref qa124, .ref qa129, .ref qm134, .ref qm140, .ref qa146, .ref qa151, .ref qa156, .ref qa161, .ref qa166, .ref qa171, .ref qa176, .ref qa181, .ref qa186, .ref qa191, .ref qa196, .null, .null, .int 0, .int 0, .int 0, .null, .null, .null, .null, .int 0, .int 0, .null, .null, .null, .null, .int 0]))] ++ va_pl L199 E198) := hD
  refine lv_aload_n hx hb dX12_init_366 rfl (lv_at hl 0 rfl) ?_
  refine lv_bipush (v := 40) hx hb dX12_init_367 (by decide) ?_
  refine cx_newa (cs := cs) (atype := .int) (ty := .int) (a0 := (40, .inl (fun _ => 0))) hx hb hB cw_59 rfl cx_ra_int 0 rfl hK hP hD hS hA (fun _ => rfl) (by decide) (by decide) (Nat.le_of_ble_eq_true rfl) (Nat.le_of_ble_eq_true rfl) (Nat.le_of_ble_eq_true rfl) dX12_init_369 (fun qa201 H hP hD hS => ?_)
  obtain ⟨kp202, E203, hP, hD, hT, hx205, hkqa201, hqqa201, hnqa201⟩ := tw_abs (k := 357) hP hD hT (fun _ _ _ => ⟨by decide, rfl, rfl, (fun _ _ => (show ((-1) : Int) ≤ ((0 : Int32)).toInt ∧ ((0 : Int32)).toInt ≤ 23 from by decide))⟩)
  obtain ⟨L204, hL⟩ : ∃ z, z = L199 ++ [qa201] := ⟨_, rfl⟩
  have hmqa201 : qa201 ∈ L204 := by rw [hL]; simp
  rw [← hL] at hP hD hT hx205
  have hnqa201 : qa201 ∉ L0 := fun z => hnqa201 (hex _ z).1
  have hex : ∀ a : Nat, a ∈ L0 → a ∈ L204 ∧ kp202 a = kp0 a ∧ E203 a = E0 a := fun a h => ⟨(hx205 a (hex a h).1).1, ((hx205 a (hex a h).1).2.1).trans (hex a h).2.1, ((hx205 a (hex a h).1).2.2).trans (hex a h).2.2⟩
  have hvqa1 := (hx205 qa1 hmqa1).2
  have hmqa1 : qa1 ∈ L204 := (hx205 qa1 hmqa1).1
  have hkqa1 : kp202 qa1 = 300 := (hvqa1.1).trans hkqa1
  have hvqa6 := (hx205 qa6 hmqa6).2
  have hmqa6 : qa6 ∈ L204 := (hx205 qa6 hmqa6).1
  have hkqa6 : kp202 qa6 = 301 := (hvqa6.1).trans hkqa6
  have hvqa11 := (hx205 qa11 hmqa11).2
  have hmqa11 : qa11 ∈ L204 := (hx205 qa11 hmqa11).1
  have hkqa11 : kp202 qa11 = 302 := (hvqa11.1).trans hkqa11
  have hvqa16 := (hx205 qa16 hmqa16).2
  have hmqa16 : qa16 ∈ L204 := (hx205 qa16 hmqa16).1
  have hkqa16 : kp202 qa16 = 303 := (hvqa16.1).trans hkqa16
  have hvqa21 := (hx205 qa21 hmqa21).2
  have hmqa21 : qa21 ∈ L204 := (hx205 qa21 hmqa21).1
  have hkqa21 : kp202 qa21 = 304 := (hvqa21.1).trans hkqa21
  have hvqa26 := (hx205 qa26 hmqa26).2
  have hmqa26 : qa26 ∈ L204 := (hx205 qa26 hmqa26).1
  have hkqa26 : kp202 qa26 = 305 := (hvqa26.1).trans hkqa26
  have hvqm31 := (hx205 qm31 hmqm31).2
  have hmqm31 : qm31 ∈ L204 := (hx205 qm31 hmqm31).1
  have hkqm31 : kp202 qm31 = 310 := (hvqm31.1).trans hkqm31
  have hvqm37 := (hx205 qm37 hmqm37).2
  have hmqm37 : qm37 ∈ L204 := (hx205 qm37 hmqm37).1
  have hkqm37 : kp202 qm37 = 311 := (hvqm37.1).trans hkqm37
  have hvqm43 := (hx205 qm43 hmqm43).2
  have hmqm43 : qm43 ∈ L204 := (hx205 qm43 hmqm43).1
  have hkqm43 : kp202 qm43 = 312 := (hvqm43.1).trans hkqm43
  have hvqm49 := (hx205 qm49 hmqm49).2
  have hmqm49 : qm49 ∈ L204 := (hx205 qm49 hmqm49).1
  have hkqm49 : kp202 qm49 = 313 := (hvqm49.1).trans hkqm49
  have hvqm55 := (hx205 qm55 hmqm55).2
  have hmqm55 : qm55 ∈ L204 := (hx205 qm55 hmqm55).1
  have hkqm55 : kp202 qm55 = 316 := (hvqm55.1).trans hkqm55
  have hvqm61 := (hx205 qm61 hmqm61).2
  have hmqm61 : qm61 ∈ L204 := (hx205 qm61 hmqm61).1
  have hkqm61 : kp202 qm61 = 317 := (hvqm61.1).trans hkqm61
  have hvqm67 := (hx205 qm67 hmqm67).2
  have hmqm67 : qm67 ∈ L204 := (hx205 qm67 hmqm67).1
  have hkqm67 : kp202 qm67 = 318 := (hvqm67.1).trans hkqm67
  have hvqm73 := (hx205 qm73 hmqm73).2
  have hmqm73 : qm73 ∈ L204 := (hx205 qm73 hmqm73).1
  have hkqm73 : kp202 qm73 = 319 := (hvqm73.1).trans hkqm73
  have hvqa79 := (hx205 qa79 hmqa79).2
  have hmqa79 : qa79 ∈ L204 := (hx205 qa79 hmqa79).1
  have hkqa79 : kp202 qa79 = 330 := (hvqa79.1).trans hkqa79
  have hvqa84 := (hx205 qa84 hmqa84).2
  have hmqa84 : qa84 ∈ L204 := (hx205 qa84 hmqa84).1
  have hkqa84 : kp202 qa84 = 331 := (hvqa84.1).trans hkqa84
  have hvqa89 := (hx205 qa89 hmqa89).2
  have hmqa89 : qa89 ∈ L204 := (hx205 qa89 hmqa89).1
  have hkqa89 : kp202 qa89 = 332 := (hvqa89.1).trans hkqa89
  have hvqa94 := (hx205 qa94 hmqa94).2
  have hmqa94 : qa94 ∈ L204 := (hx205 qa94 hmqa94).1
  have hkqa94 : kp202 qa94 = 333 := (hvqa94.1).trans hkqa94
  have hvqa99 := (hx205 qa99 hmqa99).2
  have hmqa99 : qa99 ∈ L204 := (hx205 qa99 hmqa99).1
  have hkqa99 : kp202 qa99 = 334 := (hvqa99.1).trans hkqa99
  have hvqa104 := (hx205 qa104 hmqa104).2
  have hmqa104 : qa104 ∈ L204 := (hx205 qa104 hmqa104).1
  have hkqa104 : kp202 qa104 = 335 := (hvqa104.1).trans hkqa104
  have hvqa109 := (hx205 qa109 hmqa109).2
  have hmqa109 : qa109 ∈ L204 := (hx205 qa109 hmqa109).1
  have hkqa109 : kp202 qa109 = 336 := (hvqa109.1).trans hkqa109
  have hvqa114 := (hx205 qa114 hmqa114).2
  have hmqa114 : qa114 ∈ L204 := (hx205 qa114 hmqa114).1
  have hkqa114 : kp202 qa114 = 337 := (hvqa114.1).trans hkqa114
  have hvqa119 := (hx205 qa119 hmqa119).2
  have hmqa119 : qa119 ∈ L204 := (hx205 qa119 hmqa119).1
  have hkqa119 : kp202 qa119 = 338 := (hvqa119.1).trans hkqa119
  have hvqa124 := (hx205 qa124 hmqa124).2
  have hmqa124 : qa124 ∈ L204 := (hx205 qa124 hmqa124).1
  have hkqa124 : kp202 qa124 = 339 := (hvqa124.1).trans hkqa124
  have hvqa129 := (hx205 qa129 hmqa129).2
  have hmqa129 : qa129 ∈ L204 := (hx205 qa129 hmqa129).1
  have hkqa129 : kp202 qa129 = 340 := (hvqa129.1).trans hkqa129
  have hvqm134 := (hx205 qm134 hmqm134).2
  have hmqm134 : qm134 ∈ L204 := (hx205 qm134 hmqm134).1
  have hkqm134 : kp202 qm134 = 341 := (hvqm134.1).trans hkqm134
  have hvqm140 := (hx205 qm140 hmqm140).2
  have hmqm140 : qm140 ∈ L204 := (hx205 qm140 hmqm140).1
  have hkqm140 : kp202 qm140 = 342 := (hvqm140.1).trans hkqm140
  have hvqa146 := (hx205 qa146 hmqa146).2
  have hmqa146 : qa146 ∈ L204 := (hx205 qa146 hmqa146).1
  have hkqa146 : kp202 qa146 = 343 := (hvqa146.1).trans hkqa146
  have hvqa151 := (hx205 qa151 hmqa151).2
  have hmqa151 : qa151 ∈ L204 := (hx205 qa151 hmqa151).1
  have hkqa151 : kp202 qa151 = 344 := (hvqa151.1).trans hkqa151
  have hvqa156 := (hx205 qa156 hmqa156).2
  have hmqa156 : qa156 ∈ L204 := (hx205 qa156 hmqa156).1
  have hkqa156 : kp202 qa156 = 345 := (hvqa156.1).trans hkqa156
  have hvqa161 := (hx205 qa161 hmqa161).2
  have hmqa161 : qa161 ∈ L204 := (hx205 qa161 hmqa161).1
  have hkqa161 : kp202 qa161 = 346 := (hvqa161.1).trans hkqa161
  have hvqa166 := (hx205 qa166 hmqa166).2
  have hmqa166 : qa166 ∈ L204 := (hx205 qa166 hmqa166).1
  have hkqa166 : kp202 qa166 = 347 := (hvqa166.1).trans hkqa166
  have hvqa171 := (hx205 qa171 hmqa171).2
  have hmqa171 : qa171 ∈ L204 := (hx205 qa171 hmqa171).1
  have hkqa171 : kp202 qa171 = 348 := (hvqa171.1).trans hkqa171
  have hvqa176 := (hx205 qa176 hmqa176).2
  have hmqa176 : qa176 ∈ L204 := (hx205 qa176 hmqa176).1
  have hkqa176 : kp202 qa176 = 349 := (hvqa176.1).trans hkqa176
  have hvqa181 := (hx205 qa181 hmqa181).2
  have hmqa181 : qa181 ∈ L204 := (hx205 qa181 hmqa181).1
  have hkqa181 : kp202 qa181 = 353 := (hvqa181.1).trans hkqa181
  have hvqa186 := (hx205 qa186 hmqa186).2
  have hmqa186 : qa186 ∈ L204 := (hx205 qa186 hmqa186).1
  have hkqa186 : kp202 qa186 = 354 := (hvqa186.1).trans hkqa186
  have hvqa191 := (hx205 qa191 hmqa191).2
  have hmqa191 : qa191 ∈ L204 := (hx205 qa191 hmqa191).1
  have hkqa191 : kp202 qa191 = 355 := (hvqa191.1).trans hkqa191
  have hvqa196 := (hx205 qa196 hmqa196).2
  have hmqa196 : qa196 ∈ L204 := (hx205 qa196 hmqa196).1
  have hkqa196 : kp202 qa196 = 356 := (hvqa196.1).trans hkqa196
  have hqqm31 : E203 qm31 = gd_out (cs 4) 10 rr32 := (hvqm31.2).trans hqqm31
  have hqqm37 : E203 qm37 = gd_out (cs 4) 10 rr38 := (hvqm37.2).trans hqqm37
  have hqqm55 : E203 qm55 = gd_out (cs 5) 16 rr56 := (hvqm55.2).trans hqqm55
  have hqqm67 : E203 qm67 = gd_out (cs 4) 16 rr68 := (hvqm67.2).trans hqqm67
  have hqqa114 : E203 qa114 = .inl (cs 0, 10, .inl (fun _ => 0)) := (hvqa114.2).trans hqqa114
  have hqqa119 : E203 qa119 = .inl (cs 0, 10, .inl (fun _ => 0)) := (hvqa119.2).trans hqqa119
  have hsqm55 : ∀ j : Nat, j < 16 → rr56 j ∈ L204 ∧ E203 (rr56 j) = .inl (cs 3, (150, .inl (fun _ => 0))) := fun j hj => ⟨(hx205 _ (hsqm55 j hj).1).1, ((hx205 _ (hsqm55 j hj).1).2.2).trans (hsqm55 j hj).2⟩
  refine va_putF (D := D) (ci := 12) (v := .ref qa201) (ty := .array .int) (C := RX12) (T := TX12) (N := 64) hx hb hB cx_inX12 tyX12 tyX12_ok nmX12 hown hK hP hD hS 0 rfl rfl 48 (by decide) (hB _ cw_1241) (fun _ h9 => h9) rfl hnm rfl (by decide +kernel) rfl rfl (Nat.le_of_ble_eq_true rfl) dX12_init_371 (fun H locs hP hD hS => ?_)
  have hP : va_P D vwCl ([(o, .inr (12, [.ref qa1, .int 0, .int 0, .int 0, .int 0, .ref qa6, .ref qa11, .ref qa16, .ref qa21, .ref qa26, .ref qm31, .ref qm37, .ref qm43, .ref qm49, .int 0, .int 0, .ref qm55, .ref qm61, .ref qm67, .ref qm73, .ref qa79, .ref qa84, .ref qa89, .ref qa94, .ref qa99, .ref qa104, .int 0, .int 0, .int 0, .int 0, .ref qa109, .ref qa114, .ref qa119, .ref qa124, .ref qa129, .ref qm134, .ref qm140, .ref qa146, .ref qa151, .ref qa156, .ref qa161, .ref qa166, .ref qa171, .ref qa176, .ref qa181, .ref qa186, .ref qa191, .ref qa196, .ref qa201, .null, .int 0, .int 0, .int 0, .null, .null, .null, .null, .int 0, .int 0, .null, .null, .null, .null, .int 0]))] ++ va_pl L204 E203) H := hP
  have hD : va_D A ([(o, .inr (12, [.ref qa1, .int 0, .int 0, .int 0, .int 0, .ref qa6, .ref qa11, .ref qa16, .ref qa21, .ref qa26, .ref qm31, .ref qm37, .ref qm43, .ref qm49, .int 0, .int 0, .ref qm55, .ref qm61, .ref qm67, .ref qm73, .ref qa79, .ref qa84, .ref qa89, .ref qa94, .ref qa99, .ref qa104, .int 0, .int 0, .int 0, .int 0, .ref qa109, .ref qa114, .ref qa119, .ref qa124, .ref qa129, .ref qm134, .ref qm140, .ref qa146, .ref qa151, .ref qa156, .ref qa161, .ref qa166, .ref qa171, .ref qa176, .ref qa181, .ref qa186, .ref qa191, .ref qa196, .ref qa201, .null, .int 0, .int 0, .int 0, .null, .null, .null, .null, .int 0, .int 0, .null, .null, .null, .null, .int 0]))] ++ va_pl L204 E203) := hD
  refine lv_aload_n hx hb dX12_init_374 rfl (lv_at hl 0 rfl) ?_
  refine lv_sipush (v := 150) hx hb dX12_init_375 (by decide) ?_
  refine cx_newa (cs := cs) (atype := .int) (ty := .int) (a0 := (150, .inl (fun _ => 0))) hx hb hB cw_59 rfl cx_ra_int 0 rfl hK hP hD hS hA (fun _ => rfl) (by decide) (by decide) (Nat.le_of_ble_eq_true rfl) (Nat.le_of_ble_eq_true rfl) (Nat.le_of_ble_eq_true rfl) dX12_init_378 (fun qa206 H hP hD hS => ?_)
  obtain ⟨kp207, E208, hP, hD, hT, hx210, hkqa206, hqqa206, hnqa206⟩ := tw_abs (k := 358) hP hD hT (fun _ _ _ => ⟨by decide, rfl, rfl, (fun _ _ => (show (0 : Int) ≤ ((0 : Int32)).toInt ∧ ((0 : Int32)).toInt ≤ 39 from by decide))⟩)
  obtain ⟨L209, hL⟩ : ∃ z, z = L204 ++ [qa206] := ⟨_, rfl⟩
  have hmqa206 : qa206 ∈ L209 := by rw [hL]; simp
  rw [← hL] at hP hD hT hx210
  have hnqa206 : qa206 ∉ L0 := fun z => hnqa206 (hex _ z).1
  have hex : ∀ a : Nat, a ∈ L0 → a ∈ L209 ∧ kp207 a = kp0 a ∧ E208 a = E0 a := fun a h => ⟨(hx210 a (hex a h).1).1, ((hx210 a (hex a h).1).2.1).trans (hex a h).2.1, ((hx210 a (hex a h).1).2.2).trans (hex a h).2.2⟩
  have hvqa1 := (hx210 qa1 hmqa1).2
  have hmqa1 : qa1 ∈ L209 := (hx210 qa1 hmqa1).1
  have hkqa1 : kp207 qa1 = 300 := (hvqa1.1).trans hkqa1
  have hvqa6 := (hx210 qa6 hmqa6).2
  have hmqa6 : qa6 ∈ L209 := (hx210 qa6 hmqa6).1
  have hkqa6 : kp207 qa6 = 301 := (hvqa6.1).trans hkqa6
  have hvqa11 := (hx210 qa11 hmqa11).2
  have hmqa11 : qa11 ∈ L209 := (hx210 qa11 hmqa11).1
  have hkqa11 : kp207 qa11 = 302 := (hvqa11.1).trans hkqa11
  have hvqa16 := (hx210 qa16 hmqa16).2
  have hmqa16 : qa16 ∈ L209 := (hx210 qa16 hmqa16).1
  have hkqa16 : kp207 qa16 = 303 := (hvqa16.1).trans hkqa16
  have hvqa21 := (hx210 qa21 hmqa21).2
  have hmqa21 : qa21 ∈ L209 := (hx210 qa21 hmqa21).1
  have hkqa21 : kp207 qa21 = 304 := (hvqa21.1).trans hkqa21
  have hvqa26 := (hx210 qa26 hmqa26).2
  have hmqa26 : qa26 ∈ L209 := (hx210 qa26 hmqa26).1
  have hkqa26 : kp207 qa26 = 305 := (hvqa26.1).trans hkqa26
  have hvqm31 := (hx210 qm31 hmqm31).2
  have hmqm31 : qm31 ∈ L209 := (hx210 qm31 hmqm31).1
  have hkqm31 : kp207 qm31 = 310 := (hvqm31.1).trans hkqm31
  have hvqm37 := (hx210 qm37 hmqm37).2
  have hmqm37 : qm37 ∈ L209 := (hx210 qm37 hmqm37).1
  have hkqm37 : kp207 qm37 = 311 := (hvqm37.1).trans hkqm37
  have hvqm43 := (hx210 qm43 hmqm43).2
  have hmqm43 : qm43 ∈ L209 := (hx210 qm43 hmqm43).1
  have hkqm43 : kp207 qm43 = 312 := (hvqm43.1).trans hkqm43
  have hvqm49 := (hx210 qm49 hmqm49).2
  have hmqm49 : qm49 ∈ L209 := (hx210 qm49 hmqm49).1
  have hkqm49 : kp207 qm49 = 313 := (hvqm49.1).trans hkqm49
  have hvqm55 := (hx210 qm55 hmqm55).2
  have hmqm55 : qm55 ∈ L209 := (hx210 qm55 hmqm55).1
  have hkqm55 : kp207 qm55 = 316 := (hvqm55.1).trans hkqm55
  have hvqm61 := (hx210 qm61 hmqm61).2
  have hmqm61 : qm61 ∈ L209 := (hx210 qm61 hmqm61).1
  have hkqm61 : kp207 qm61 = 317 := (hvqm61.1).trans hkqm61
  have hvqm67 := (hx210 qm67 hmqm67).2
  have hmqm67 : qm67 ∈ L209 := (hx210 qm67 hmqm67).1
  have hkqm67 : kp207 qm67 = 318 := (hvqm67.1).trans hkqm67
  have hvqm73 := (hx210 qm73 hmqm73).2
  have hmqm73 : qm73 ∈ L209 := (hx210 qm73 hmqm73).1
  have hkqm73 : kp207 qm73 = 319 := (hvqm73.1).trans hkqm73
  have hvqa79 := (hx210 qa79 hmqa79).2
  have hmqa79 : qa79 ∈ L209 := (hx210 qa79 hmqa79).1
  have hkqa79 : kp207 qa79 = 330 := (hvqa79.1).trans hkqa79
  have hvqa84 := (hx210 qa84 hmqa84).2
  have hmqa84 : qa84 ∈ L209 := (hx210 qa84 hmqa84).1
  have hkqa84 : kp207 qa84 = 331 := (hvqa84.1).trans hkqa84
  have hvqa89 := (hx210 qa89 hmqa89).2
  have hmqa89 : qa89 ∈ L209 := (hx210 qa89 hmqa89).1
  have hkqa89 : kp207 qa89 = 332 := (hvqa89.1).trans hkqa89
  have hvqa94 := (hx210 qa94 hmqa94).2
  have hmqa94 : qa94 ∈ L209 := (hx210 qa94 hmqa94).1
  have hkqa94 : kp207 qa94 = 333 := (hvqa94.1).trans hkqa94
  have hvqa99 := (hx210 qa99 hmqa99).2
  have hmqa99 : qa99 ∈ L209 := (hx210 qa99 hmqa99).1
  have hkqa99 : kp207 qa99 = 334 := (hvqa99.1).trans hkqa99
  have hvqa104 := (hx210 qa104 hmqa104).2
  have hmqa104 : qa104 ∈ L209 := (hx210 qa104 hmqa104).1
  have hkqa104 : kp207 qa104 = 335 := (hvqa104.1).trans hkqa104
  have hvqa109 := (hx210 qa109 hmqa109).2
  have hmqa109 : qa109 ∈ L209 := (hx210 qa109 hmqa109).1
  have hkqa109 : kp207 qa109 = 336 := (hvqa109.1).trans hkqa109
  have hvqa114 := (hx210 qa114 hmqa114).2
  have hmqa114 : qa114 ∈ L209 := (hx210 qa114 hmqa114).1
  have hkqa114 : kp207 qa114 = 337 := (hvqa114.1).trans hkqa114
  have hvqa119 := (hx210 qa119 hmqa119).2
  have hmqa119 : qa119 ∈ L209 := (hx210 qa119 hmqa119).1
  have hkqa119 : kp207 qa119 = 338 := (hvqa119.1).trans hkqa119
  have hvqa124 := (hx210 qa124 hmqa124).2
  have hmqa124 : qa124 ∈ L209 := (hx210 qa124 hmqa124).1
  have hkqa124 : kp207 qa124 = 339 := (hvqa124.1).trans hkqa124
  have hvqa129 := (hx210 qa129 hmqa129).2
  have hmqa129 : qa129 ∈ L209 := (hx210 qa129 hmqa129).1
  have hkqa129 : kp207 qa129 = 340 := (hvqa129.1).trans hkqa129
  have hvqm134 := (hx210 qm134 hmqm134).2
  have hmqm134 : qm134 ∈ L209 := (hx210 qm134 hmqm134).1
  have hkqm134 : kp207 qm134 = 341 := (hvqm134.1).trans hkqm134
  have hvqm140 := (hx210 qm140 hmqm140).2
  have hmqm140 : qm140 ∈ L209 := (hx210 qm140 hmqm140).1
  have hkqm140 : kp207 qm140 = 342 := (hvqm140.1).trans hkqm140
  have hvqa146 := (hx210 qa146 hmqa146).2
  have hmqa146 : qa146 ∈ L209 := (hx210 qa146 hmqa146).1
  have hkqa146 : kp207 qa146 = 343 := (hvqa146.1).trans hkqa146
  have hvqa151 := (hx210 qa151 hmqa151).2
  have hmqa151 : qa151 ∈ L209 := (hx210 qa151 hmqa151).1
  have hkqa151 : kp207 qa151 = 344 := (hvqa151.1).trans hkqa151
  have hvqa156 := (hx210 qa156 hmqa156).2
  have hmqa156 : qa156 ∈ L209 := (hx210 qa156 hmqa156).1
  have hkqa156 : kp207 qa156 = 345 := (hvqa156.1).trans hkqa156
  have hvqa161 := (hx210 qa161 hmqa161).2
  have hmqa161 : qa161 ∈ L209 := (hx210 qa161 hmqa161).1
  have hkqa161 : kp207 qa161 = 346 := (hvqa161.1).trans hkqa161
  have hvqa166 := (hx210 qa166 hmqa166).2
  have hmqa166 : qa166 ∈ L209 := (hx210 qa166 hmqa166).1
  have hkqa166 : kp207 qa166 = 347 := (hvqa166.1).trans hkqa166
  have hvqa171 := (hx210 qa171 hmqa171).2
  have hmqa171 : qa171 ∈ L209 := (hx210 qa171 hmqa171).1
  have hkqa171 : kp207 qa171 = 348 := (hvqa171.1).trans hkqa171
  have hvqa176 := (hx210 qa176 hmqa176).2
  have hmqa176 : qa176 ∈ L209 := (hx210 qa176 hmqa176).1
  have hkqa176 : kp207 qa176 = 349 := (hvqa176.1).trans hkqa176
  have hvqa181 := (hx210 qa181 hmqa181).2
  have hmqa181 : qa181 ∈ L209 := (hx210 qa181 hmqa181).1
  have hkqa181 : kp207 qa181 = 353 := (hvqa181.1).trans hkqa181
  have hvqa186 := (hx210 qa186 hmqa186).2
  have hmqa186 : qa186 ∈ L209 := (hx210 qa186 hmqa186).1
  have hkqa186 : kp207 qa186 = 354 := (hvqa186.1).trans hkqa186
  have hvqa191 := (hx210 qa191 hmqa191).2
  have hmqa191 : qa191 ∈ L209 := (hx210 qa191 hmqa191).1
  have hkqa191 : kp207 qa191 = 355 := (hvqa191.1).trans hkqa191
  have hvqa196 := (hx210 qa196 hmqa196).2
  have hmqa196 : qa196 ∈ L209 := (hx210 qa196 hmqa196).1
  have hkqa196 : kp207 qa196 = 356 := (hvqa196.1).trans hkqa196
  have hvqa201 := (hx210 qa201 hmqa201).2
  have hmqa201 : qa201 ∈ L209 := (hx210 qa201 hmqa201).1
  have hkqa201 : kp207 qa201 = 357 := (hvqa201.1).trans hkqa201
  have hqqm31 : E208 qm31 = gd_out (cs 4) 10 rr32 := (hvqm31.2).trans hqqm31
  have hqqm37 : E208 qm37 = gd_out (cs 4) 10 rr38 := (hvqm37.2).trans hqqm37
  have hqqm55 : E208 qm55 = gd_out (cs 5) 16 rr56 := (hvqm55.2).trans hqqm55
  have hqqm67 : E208 qm67 = gd_out (cs 4) 16 rr68 := (hvqm67.2).trans hqqm67
  have hqqa114 : E208 qa114 = .inl (cs 0, 10, .inl (fun _ => 0)) := (hvqa114.2).trans hqqa114
  have hqqa119 : E208 qa119 = .inl (cs 0, 10, .inl (fun _ => 0)) := (hvqa119.2).trans hqqa119
  have hsqm55 : ∀ j : Nat, j < 16 → rr56 j ∈ L209 ∧ E208 (rr56 j) = .inl (cs 3, (150, .inl (fun _ => 0))) := fun j hj => ⟨(hx210 _ (hsqm55 j hj).1).1, ((hx210 _ (hsqm55 j hj).1).2.2).trans (hsqm55 j hj).2⟩
  refine va_putF (D := D) (ci := 12) (v := .ref qa206) (ty := .array .int) (C := RX12) (T := TX12) (N := 64) hx hb hB cx_inX12 tyX12 tyX12_ok nmX12 hown hK hP hD hS 0 rfl rfl 49 (by decide) (hB _ cw_1242) (fun _ h9 => h9) rfl hnm rfl (by decide +kernel) rfl rfl (Nat.le_of_ble_eq_true rfl) dX12_init_380 (fun H locs hP hD hS => ?_)
  have hP : va_P D vwCl ([(o, .inr (12, [.ref qa1, .int 0, .int 0, .int 0, .int 0, .ref qa6, .ref qa11, .ref qa16, .ref qa21, .ref qa26, .ref qm31, .ref qm37, .ref qm43, .ref qm49, .int 0, .int 0, .ref qm55, .ref qm61, .ref qm67, .ref qm73, .ref qa79, .ref qa84, .ref qa89, .ref qa94, .ref qa99, .ref qa104, .int 0, .int 0, .int 0, .int 0, .ref qa109, .ref qa114, .ref qa119, .ref qa124, .ref qa129, .ref qm134, .ref qm140, .ref qa146, .ref qa151, .ref qa156, .ref qa161, .ref qa166, .ref qa171, .ref qa176, .ref qa181, .ref qa186, .ref qa191, .ref qa196, .ref qa201, .ref qa206, .int 0, .int 0, .int 0, .null, .null, .null, .null, .int 0, .int 0, .null, .null, .null, .null, .int 0]))] ++ va_pl L209 E208) H := hP
  have hD : va_D A ([(o, .inr (12, [.ref qa1, .int 0, .int 0, .int 0, .int 0, .ref qa6, .ref qa11, .ref qa16, .ref qa21, .ref qa26, .ref qm31, .ref qm37, .ref qm43, .ref qm49, .int 0, .int 0, .ref qm55, .ref qm61, .ref qm67, .ref qm73, .ref qa79, .ref qa84, .ref qa89, .ref qa94, .ref qa99, .ref qa104, .int 0, .int 0, .int 0, .int 0, .ref qa109, .ref qa114, .ref qa119, .ref qa124, .ref qa129, .ref qm134, .ref qm140, .ref qa146, .ref qa151, .ref qa156, .ref qa161, .ref qa166, .ref qa171, .ref qa176, .ref qa181, .ref qa186, .ref qa191, .ref qa196, .ref qa201, .ref qa206, .int 0, .int 0, .int 0, .null, .null, .null, .null, .int 0, .int 0, .null, .null, .null, .null, .int 0]))] ++ va_pl L209 E208) := hD
  refine lv_aload_n hx hb dX12_init_383 rfl (lv_at hl 0 rfl) ?_
  refine lv_sipush (v := 1200) hx hb dX12_init_384 (by decide) ?_
  refine cx_newa (cs := cs) (atype := .int) (ty := .int) (a0 := (1200, .inl (fun _ => 0))) hx hb hB cw_59 rfl cx_ra_int 0 rfl hK hP hD hS hA (fun _ => rfl) (by decide) (by decide) (Nat.le_of_ble_eq_true rfl) (Nat.le_of_ble_eq_true rfl) (Nat.le_of_ble_eq_true rfl) dX12_init_387 (fun qa211 H hP hD hS => ?_)
  obtain ⟨kp212, E213, hP, hD, hT, hx215, hkqa211, hqqa211, hnqa211⟩ := tw_abs (k := 359) hP hD hT (fun _ _ _ => ⟨by decide, rfl, rfl, (fun _ _ => (show ((-2147483648) : Int) ≤ ((0 : Int32)).toInt ∧ ((0 : Int32)).toInt ≤ 2147483647 from by decide))⟩)
  obtain ⟨L214, hL⟩ : ∃ z, z = L209 ++ [qa211] := ⟨_, rfl⟩
  have hmqa211 : qa211 ∈ L214 := by rw [hL]; simp
  rw [← hL] at hP hD hT hx215
  have hnqa211 : qa211 ∉ L0 := fun z => hnqa211 (hex _ z).1
  have hex : ∀ a : Nat, a ∈ L0 → a ∈ L214 ∧ kp212 a = kp0 a ∧ E213 a = E0 a := fun a h => ⟨(hx215 a (hex a h).1).1, ((hx215 a (hex a h).1).2.1).trans (hex a h).2.1, ((hx215 a (hex a h).1).2.2).trans (hex a h).2.2⟩
  have hvqa1 := (hx215 qa1 hmqa1).2
  have hmqa1 : qa1 ∈ L214 := (hx215 qa1 hmqa1).1
  have hkqa1 : kp212 qa1 = 300 := (hvqa1.1).trans hkqa1
  have hvqa6 := (hx215 qa6 hmqa6).2
  have hmqa6 : qa6 ∈ L214 := (hx215 qa6 hmqa6).1
  have hkqa6 : kp212 qa6 = 301 := (hvqa6.1).trans hkqa6
  have hvqa11 := (hx215 qa11 hmqa11).2
  have hmqa11 : qa11 ∈ L214 := (hx215 qa11 hmqa11).1
  have hkqa11 : kp212 qa11 = 302 := (hvqa11.1).trans hkqa11
  have hvqa16 := (hx215 qa16 hmqa16).2
  have hmqa16 : qa16 ∈ L214 := (hx215 qa16 hmqa16).1
  have hkqa16 : kp212 qa16 = 303 := (hvqa16.1).trans hkqa16
  have hvqa21 := (hx215 qa21 hmqa21).2
  have hmqa21 : qa21 ∈ L214 := (hx215 qa21 hmqa21).1
  have hkqa21 : kp212 qa21 = 304 := (hvqa21.1).trans hkqa21
  have hvqa26 := (hx215 qa26 hmqa26).2
  have hmqa26 : qa26 ∈ L214 := (hx215 qa26 hmqa26).1
  have hkqa26 : kp212 qa26 = 305 := (hvqa26.1).trans hkqa26
  have hvqm31 := (hx215 qm31 hmqm31).2
  have hmqm31 : qm31 ∈ L214 := (hx215 qm31 hmqm31).1
  have hkqm31 : kp212 qm31 = 310 := (hvqm31.1).trans hkqm31
  have hvqm37 := (hx215 qm37 hmqm37).2
  have hmqm37 : qm37 ∈ L214 := (hx215 qm37 hmqm37).1
  have hkqm37 : kp212 qm37 = 311 := (hvqm37.1).trans hkqm37
  have hvqm43 := (hx215 qm43 hmqm43).2
  have hmqm43 : qm43 ∈ L214 := (hx215 qm43 hmqm43).1
  have hkqm43 : kp212 qm43 = 312 := (hvqm43.1).trans hkqm43
  have hvqm49 := (hx215 qm49 hmqm49).2
  have hmqm49 : qm49 ∈ L214 := (hx215 qm49 hmqm49).1
  have hkqm49 : kp212 qm49 = 313 := (hvqm49.1).trans hkqm49
  have hvqm55 := (hx215 qm55 hmqm55).2
  have hmqm55 : qm55 ∈ L214 := (hx215 qm55 hmqm55).1
  have hkqm55 : kp212 qm55 = 316 := (hvqm55.1).trans hkqm55
  have hvqm61 := (hx215 qm61 hmqm61).2
  have hmqm61 : qm61 ∈ L214 := (hx215 qm61 hmqm61).1
  have hkqm61 : kp212 qm61 = 317 := (hvqm61.1).trans hkqm61
  have hvqm67 := (hx215 qm67 hmqm67).2
  have hmqm67 : qm67 ∈ L214 := (hx215 qm67 hmqm67).1
  have hkqm67 : kp212 qm67 = 318 := (hvqm67.1).trans hkqm67
  have hvqm73 := (hx215 qm73 hmqm73).2
  have hmqm73 : qm73 ∈ L214 := (hx215 qm73 hmqm73).1
  have hkqm73 : kp212 qm73 = 319 := (hvqm73.1).trans hkqm73
  have hvqa79 := (hx215 qa79 hmqa79).2
  have hmqa79 : qa79 ∈ L214 := (hx215 qa79 hmqa79).1
  have hkqa79 : kp212 qa79 = 330 := (hvqa79.1).trans hkqa79
  have hvqa84 := (hx215 qa84 hmqa84).2
  have hmqa84 : qa84 ∈ L214 := (hx215 qa84 hmqa84).1
  have hkqa84 : kp212 qa84 = 331 := (hvqa84.1).trans hkqa84
  have hvqa89 := (hx215 qa89 hmqa89).2
  have hmqa89 : qa89 ∈ L214 := (hx215 qa89 hmqa89).1
  have hkqa89 : kp212 qa89 = 332 := (hvqa89.1).trans hkqa89
  have hvqa94 := (hx215 qa94 hmqa94).2
  have hmqa94 : qa94 ∈ L214 := (hx215 qa94 hmqa94).1
  have hkqa94 : kp212 qa94 = 333 := (hvqa94.1).trans hkqa94
  have hvqa99 := (hx215 qa99 hmqa99).2
  have hmqa99 : qa99 ∈ L214 := (hx215 qa99 hmqa99).1
  have hkqa99 : kp212 qa99 = 334 := (hvqa99.1).trans hkqa99
  have hvqa104 := (hx215 qa104 hmqa104).2
  have hmqa104 : qa104 ∈ L214 := (hx215 qa104 hmqa104).1
  have hkqa104 : kp212 qa104 = 335 := (hvqa104.1).trans hkqa104
  have hvqa109 := (hx215 qa109 hmqa109).2
  have hmqa109 : qa109 ∈ L214 := (hx215 qa109 hmqa109).1
  have hkqa109 : kp212 qa109 = 336 := (hvqa109.1).trans hkqa109
  have hvqa114 := (hx215 qa114 hmqa114).2
  have hmqa114 : qa114 ∈ L214 := (hx215 qa114 hmqa114).1
  have hkqa114 : kp212 qa114 = 337 := (hvqa114.1).trans hkqa114
  have hvqa119 := (hx215 qa119 hmqa119).2
  have hmqa119 : qa119 ∈ L214 := (hx215 qa119 hmqa119).1
  have hkqa119 : kp212 qa119 = 338 := (hvqa119.1).trans hkqa119
  have hvqa124 := (hx215 qa124 hmqa124).2
  have hmqa124 : qa124 ∈ L214 := (hx215 qa124 hmqa124).1
  have hkqa124 : kp212 qa124 = 339 := (hvqa124.1).trans hkqa124
  have hvqa129 := (hx215 qa129 hmqa129).2
  have hmqa129 : qa129 ∈ L214 := (hx215 qa129 hmqa129).1
  have hkqa129 : kp212 qa129 = 340 := (hvqa129.1).trans hkqa129
  have hvqm134 := (hx215 qm134 hmqm134).2
  have hmqm134 : qm134 ∈ L214 := (hx215 qm134 hmqm134).1
  have hkqm134 : kp212 qm134 = 341 := (hvqm134.1).trans hkqm134
  have hvqm140 := (hx215 qm140 hmqm140).2
  have hmqm140 : qm140 ∈ L214 := (hx215 qm140 hmqm140).1
  have hkqm140 : kp212 qm140 = 342 := (hvqm140.1).trans hkqm140
  have hvqa146 := (hx215 qa146 hmqa146).2
  have hmqa146 : qa146 ∈ L214 := (hx215 qa146 hmqa146).1
  have hkqa146 : kp212 qa146 = 343 := (hvqa146.1).trans hkqa146
  have hvqa151 := (hx215 qa151 hmqa151).2
  have hmqa151 : qa151 ∈ L214 := (hx215 qa151 hmqa151).1
  have hkqa151 : kp212 qa151 = 344 := (hvqa151.1).trans hkqa151
  have hvqa156 := (hx215 qa156 hmqa156).2
  have hmqa156 : qa156 ∈ L214 := (hx215 qa156 hmqa156).1
  have hkqa156 : kp212 qa156 = 345 := (hvqa156.1).trans hkqa156
  have hvqa161 := (hx215 qa161 hmqa161).2
  have hmqa161 : qa161 ∈ L214 := (hx215 qa161 hmqa161).1
  have hkqa161 : kp212 qa161 = 346 := (hvqa161.1).trans hkqa161
  have hvqa166 := (hx215 qa166 hmqa166).2
  have hmqa166 : qa166 ∈ L214 := (hx215 qa166 hmqa166).1
  have hkqa166 : kp212 qa166 = 347 := (hvqa166.1).trans hkqa166
  have hvqa171 := (hx215 qa171 hmqa171).2
  have hmqa171 : qa171 ∈ L214 := (hx215 qa171 hmqa171).1
  have hkqa171 : kp212 qa171 = 348 := (hvqa171.1).trans hkqa171
  have hvqa176 := (hx215 qa176 hmqa176).2
  have hmqa176 : qa176 ∈ L214 := (hx215 qa176 hmqa176).1
  have hkqa176 : kp212 qa176 = 349 := (hvqa176.1).trans hkqa176
  have hvqa181 := (hx215 qa181 hmqa181).2
  have hmqa181 : qa181 ∈ L214 := (hx215 qa181 hmqa181).1
  have hkqa181 : kp212 qa181 = 353 := (hvqa181.1).trans hkqa181
  have hvqa186 := (hx215 qa186 hmqa186).2
  have hmqa186 : qa186 ∈ L214 := (hx215 qa186 hmqa186).1
  have hkqa186 : kp212 qa186 = 354 := (hvqa186.1).trans hkqa186
  have hvqa191 := (hx215 qa191 hmqa191).2
  have hmqa191 : qa191 ∈ L214 := (hx215 qa191 hmqa191).1
  have hkqa191 : kp212 qa191 = 355 := (hvqa191.1).trans hkqa191
  have hvqa196 := (hx215 qa196 hmqa196).2
  have hmqa196 : qa196 ∈ L214 := (hx215 qa196 hmqa196).1
  have hkqa196 : kp212 qa196 = 356 := (hvqa196.1).trans hkqa196
  have hvqa201 := (hx215 qa201 hmqa201).2
  have hmqa201 : qa201 ∈ L214 := (hx215 qa201 hmqa201).1
  have hkqa201 : kp212 qa201 = 357 := (hvqa201.1).trans hkqa201
  have hvqa206 := (hx215 qa206 hmqa206).2
  have hmqa206 : qa206 ∈ L214 := (hx215 qa206 hmqa206).1
  have hkqa206 : kp212 qa206 = 358 := (hvqa206.1).trans hkqa206
  have hqqm31 : E213 qm31 = gd_out (cs 4) 10 rr32 := (hvqm31.2).trans hqqm31
  have hqqm37 : E213 qm37 = gd_out (cs 4) 10 rr38 := (hvqm37.2).trans hqqm37
  have hqqm55 : E213 qm55 = gd_out (cs 5) 16 rr56 := (hvqm55.2).trans hqqm55
  have hqqm67 : E213 qm67 = gd_out (cs 4) 16 rr68 := (hvqm67.2).trans hqqm67
  have hqqa114 : E213 qa114 = .inl (cs 0, 10, .inl (fun _ => 0)) := (hvqa114.2).trans hqqa114
  have hqqa119 : E213 qa119 = .inl (cs 0, 10, .inl (fun _ => 0)) := (hvqa119.2).trans hqqa119
  have hsqm55 : ∀ j : Nat, j < 16 → rr56 j ∈ L214 ∧ E213 (rr56 j) = .inl (cs 3, (150, .inl (fun _ => 0))) := fun j hj => ⟨(hx215 _ (hsqm55 j hj).1).1, ((hx215 _ (hsqm55 j hj).1).2.2).trans (hsqm55 j hj).2⟩
  refine va_putF (D := D) (ci := 12) (v := .ref qa211) (ty := .array .int) (C := RX12) (T := TX12) (N := 64) hx hb hB cx_inX12 tyX12 tyX12_ok nmX12 hown hK hP hD hS 0 rfl rfl 53 (by decide) (hB _ cw_1246) (fun _ h9 => h9) rfl hnm rfl (by decide +kernel) rfl rfl (Nat.le_of_ble_eq_true rfl) dX12_init_389 (fun H locs hP hD hS => ?_)
  have hP : va_P D vwCl ([(o, .inr (12, [.ref qa1, .int 0, .int 0, .int 0, .int 0, .ref qa6, .ref qa11, .ref qa16, .ref qa21, .ref qa26, .ref qm31, .ref qm37, .ref qm43, .ref qm49, .int 0, .int 0, .ref qm55, .ref qm61, .ref qm67, .ref qm73, .ref qa79, .ref qa84, .ref qa89, .ref qa94, .ref qa99, .ref qa104, .int 0, .int 0, .int 0, .int 0, .ref qa109, .ref qa114, .ref qa119, .ref qa124, .ref qa129, .ref qm134, .ref qm140, .ref qa146, .ref qa151, .ref qa156, .ref qa161, .ref qa166, .ref qa171, .ref qa176, .ref qa181, .ref qa186, .ref qa191, .ref qa196, .ref qa201, .ref qa206, .int 0, .int 0, .int 0, .ref qa211, .null, .null, .null, .int 0, .int 0, .null, .null, .null, .null, .int 0]))] ++ va_pl L214 E213) H := hP
  have hD : va_D A ([(o, .inr (12, [.ref qa1, .int 0, .int 0, .int 0, .int 0, .ref qa6, .ref qa11, .ref qa16, .ref qa21, .ref qa26, .ref qm31, .ref qm37, .ref qm43, .ref qm49, .int 0, .int 0, .ref qm55, .ref qm61, .ref qm67, .ref qm73, .ref qa79, .ref qa84, .ref qa89, .ref qa94, .ref qa99, .ref qa104, .int 0, .int 0, .int 0, .int 0, .ref qa109, .ref qa114, .ref qa119, .ref qa124, .ref qa129, .ref qm134, .ref qm140, .ref qa146, .ref qa151, .ref qa156, .ref qa161, .ref qa166, .ref qa171, .ref qa176, .ref qa181, .ref qa186, .ref qa191, .ref qa196, .ref qa201, .ref qa206, .int 0, .int 0, .int 0, .ref qa211, .null, .null, .null, .int 0, .int 0, .null, .null, .null, .null, .int 0]))] ++ va_pl L214 E213) := hD
  refine lv_aload_n hx hb dX12_init_392 rfl (lv_at hl 0 rfl) ?_
  refine lv_sipush (v := 450) hx hb dX12_init_393 (by decide) ?_
  refine cx_newa (cs := cs) (atype := .int) (ty := .int) (a0 := (450, .inl (fun _ => 0))) hx hb hB cw_59 rfl cx_ra_int 0 rfl hK hP hD hS hA (fun _ => rfl) (by decide) (by decide) (Nat.le_of_ble_eq_true rfl) (Nat.le_of_ble_eq_true rfl) (Nat.le_of_ble_eq_true rfl) dX12_init_396 (fun qa216 H hP hD hS => ?_)
  obtain ⟨kp217, E218, hP, hD, hT, hx220, hkqa216, hqqa216, hnqa216⟩ := tw_abs (k := 360) hP hD hT (fun _ _ _ => ⟨by decide, rfl, rfl, (fun _ _ => (show (0 : Int) ≤ ((0 : Int32)).toInt ∧ ((0 : Int32)).toInt ≤ 149 from by decide))⟩)
  obtain ⟨L219, hL⟩ : ∃ z, z = L214 ++ [qa216] := ⟨_, rfl⟩
  have hmqa216 : qa216 ∈ L219 := by rw [hL]; simp
  rw [← hL] at hP hD hT hx220
  have hnqa216 : qa216 ∉ L0 := fun z => hnqa216 (hex _ z).1
  have hex : ∀ a : Nat, a ∈ L0 → a ∈ L219 ∧ kp217 a = kp0 a ∧ E218 a = E0 a := fun a h => ⟨(hx220 a (hex a h).1).1, ((hx220 a (hex a h).1).2.1).trans (hex a h).2.1, ((hx220 a (hex a h).1).2.2).trans (hex a h).2.2⟩
  have hvqa1 := (hx220 qa1 hmqa1).2
  have hmqa1 : qa1 ∈ L219 := (hx220 qa1 hmqa1).1
  have hkqa1 : kp217 qa1 = 300 := (hvqa1.1).trans hkqa1
  have hvqa6 := (hx220 qa6 hmqa6).2
  have hmqa6 : qa6 ∈ L219 := (hx220 qa6 hmqa6).1
  have hkqa6 : kp217 qa6 = 301 := (hvqa6.1).trans hkqa6
  have hvqa11 := (hx220 qa11 hmqa11).2
  have hmqa11 : qa11 ∈ L219 := (hx220 qa11 hmqa11).1
  have hkqa11 : kp217 qa11 = 302 := (hvqa11.1).trans hkqa11
  have hvqa16 := (hx220 qa16 hmqa16).2
  have hmqa16 : qa16 ∈ L219 := (hx220 qa16 hmqa16).1
  have hkqa16 : kp217 qa16 = 303 := (hvqa16.1).trans hkqa16
  have hvqa21 := (hx220 qa21 hmqa21).2
  have hmqa21 : qa21 ∈ L219 := (hx220 qa21 hmqa21).1
  have hkqa21 : kp217 qa21 = 304 := (hvqa21.1).trans hkqa21
  have hvqa26 := (hx220 qa26 hmqa26).2
  have hmqa26 : qa26 ∈ L219 := (hx220 qa26 hmqa26).1
  have hkqa26 : kp217 qa26 = 305 := (hvqa26.1).trans hkqa26
  have hvqm31 := (hx220 qm31 hmqm31).2
  have hmqm31 : qm31 ∈ L219 := (hx220 qm31 hmqm31).1
  have hkqm31 : kp217 qm31 = 310 := (hvqm31.1).trans hkqm31
  have hvqm37 := (hx220 qm37 hmqm37).2
  have hmqm37 : qm37 ∈ L219 := (hx220 qm37 hmqm37).1
  have hkqm37 : kp217 qm37 = 311 := (hvqm37.1).trans hkqm37
  have hvqm43 := (hx220 qm43 hmqm43).2
  have hmqm43 : qm43 ∈ L219 := (hx220 qm43 hmqm43).1
  have hkqm43 : kp217 qm43 = 312 := (hvqm43.1).trans hkqm43
  have hvqm49 := (hx220 qm49 hmqm49).2
  have hmqm49 : qm49 ∈ L219 := (hx220 qm49 hmqm49).1
  have hkqm49 : kp217 qm49 = 313 := (hvqm49.1).trans hkqm49
  have hvqm55 := (hx220 qm55 hmqm55).2
  have hmqm55 : qm55 ∈ L219 := (hx220 qm55 hmqm55).1
  have hkqm55 : kp217 qm55 = 316 := (hvqm55.1).trans hkqm55
  have hvqm61 := (hx220 qm61 hmqm61).2
  have hmqm61 : qm61 ∈ L219 := (hx220 qm61 hmqm61).1
  have hkqm61 : kp217 qm61 = 317 := (hvqm61.1).trans hkqm61
  have hvqm67 := (hx220 qm67 hmqm67).2
  have hmqm67 : qm67 ∈ L219 := (hx220 qm67 hmqm67).1
  have hkqm67 : kp217 qm67 = 318 := (hvqm67.1).trans hkqm67
  have hvqm73 := (hx220 qm73 hmqm73).2
  have hmqm73 : qm73 ∈ L219 := (hx220 qm73 hmqm73).1
  have hkqm73 : kp217 qm73 = 319 := (hvqm73.1).trans hkqm73
  have hvqa79 := (hx220 qa79 hmqa79).2
  have hmqa79 : qa79 ∈ L219 := (hx220 qa79 hmqa79).1
  have hkqa79 : kp217 qa79 = 330 := (hvqa79.1).trans hkqa79
  have hvqa84 := (hx220 qa84 hmqa84).2
  have hmqa84 : qa84 ∈ L219 := (hx220 qa84 hmqa84).1
  have hkqa84 : kp217 qa84 = 331 := (hvqa84.1).trans hkqa84
  have hvqa89 := (hx220 qa89 hmqa89).2
  have hmqa89 : qa89 ∈ L219 := (hx220 qa89 hmqa89).1
  have hkqa89 : kp217 qa89 = 332 := (hvqa89.1).trans hkqa89
  have hvqa94 := (hx220 qa94 hmqa94).2
  have hmqa94 : qa94 ∈ L219 := (hx220 qa94 hmqa94).1
  have hkqa94 : kp217 qa94 = 333 := (hvqa94.1).trans hkqa94
  have hvqa99 := (hx220 qa99 hmqa99).2
  have hmqa99 : qa99 ∈ L219 := (hx220 qa99 hmqa99).1
  have hkqa99 : kp217 qa99 = 334 := (hvqa99.1).trans hkqa99
  have hvqa104 := (hx220 qa104 hmqa104).2
  have hmqa104 : qa104 ∈ L219 := (hx220 qa104 hmqa104).1
  have hkqa104 : kp217 qa104 = 335 := (hvqa104.1).trans hkqa104
  have hvqa109 := (hx220 qa109 hmqa109).2
  have hmqa109 : qa109 ∈ L219 := (hx220 qa109 hmqa109).1
  have hkqa109 : kp217 qa109 = 336 := (hvqa109.1).trans hkqa109
  have hvqa114 := (hx220 qa114 hmqa114).2
  have hmqa114 : qa114 ∈ L219 := (hx220 qa114 hmqa114).1
  have hkqa114 : kp217 qa114 = 337 := (hvqa114.1).trans hkqa114
  have hvqa119 := (hx220 qa119 hmqa119).2
  have hmqa119 : qa119 ∈ L219 := (hx220 qa119 hmqa119).1
  have hkqa119 : kp217 qa119 = 338 := (hvqa119.1).trans hkqa119
  have hvqa124 := (hx220 qa124 hmqa124).2
  have hmqa124 : qa124 ∈ L219 := (hx220 qa124 hmqa124).1
  have hkqa124 : kp217 qa124 = 339 := (hvqa124.1).trans hkqa124
  have hvqa129 := (hx220 qa129 hmqa129).2
  have hmqa129 : qa129 ∈ L219 := (hx220 qa129 hmqa129).1
  have hkqa129 : kp217 qa129 = 340 := (hvqa129.1).trans hkqa129
  have hvqm134 := (hx220 qm134 hmqm134).2
  have hmqm134 : qm134 ∈ L219 := (hx220 qm134 hmqm134).1
  have hkqm134 : kp217 qm134 = 341 := (hvqm134.1).trans hkqm134
  have hvqm140 := (hx220 qm140 hmqm140).2
  have hmqm140 : qm140 ∈ L219 := (hx220 qm140 hmqm140).1
  have hkqm140 : kp217 qm140 = 342 := (hvqm140.1).trans hkqm140
  have hvqa146 := (hx220 qa146 hmqa146).2
  have hmqa146 : qa146 ∈ L219 := (hx220 qa146 hmqa146).1
  have hkqa146 : kp217 qa146 = 343 := (hvqa146.1).trans hkqa146
  have hvqa151 := (hx220 qa151 hmqa151).2
  have hmqa151 : qa151 ∈ L219 := (hx220 qa151 hmqa151).1
  have hkqa151 : kp217 qa151 = 344 := (hvqa151.1).trans hkqa151
  have hvqa156 := (hx220 qa156 hmqa156).2
  have hmqa156 : qa156 ∈ L219 := (hx220 qa156 hmqa156).1
  have hkqa156 : kp217 qa156 = 345 := (hvqa156.1).trans hkqa156
  have hvqa161 := (hx220 qa161 hmqa161).2
  have hmqa161 : qa161 ∈ L219 := (hx220 qa161 hmqa161).1
  have hkqa161 : kp217 qa161 = 346 := (hvqa161.1).trans hkqa161
  have hvqa166 := (hx220 qa166 hmqa166).2
  have hmqa166 : qa166 ∈ L219 := (hx220 qa166 hmqa166).1
  have hkqa166 : kp217 qa166 = 347 := (hvqa166.1).trans hkqa166
  have hvqa171 := (hx220 qa171 hmqa171).2
  have hmqa171 : qa171 ∈ L219 := (hx220 qa171 hmqa171).1
  have hkqa171 : kp217 qa171 = 348 := (hvqa171.1).trans hkqa171
  have hvqa176 := (hx220 qa176 hmqa176).2
  have hmqa176 : qa176 ∈ L219 := (hx220 qa176 hmqa176).1
  have hkqa176 : kp217 qa176 = 349 := (hvqa176.1).trans hkqa176
  have hvqa181 := (hx220 qa181 hmqa181).2
  have hmqa181 : qa181 ∈ L219 := (hx220 qa181 hmqa181).1
  have hkqa181 : kp217 qa181 = 353 := (hvqa181.1).trans hkqa181
  have hvqa186 := (hx220 qa186 hmqa186).2
  have hmqa186 : qa186 ∈ L219 := (hx220 qa186 hmqa186).1
  have hkqa186 : kp217 qa186 = 354 := (hvqa186.1).trans hkqa186
  have hvqa191 := (hx220 qa191 hmqa191).2
  have hmqa191 : qa191 ∈ L219 := (hx220 qa191 hmqa191).1
  have hkqa191 : kp217 qa191 = 355 := (hvqa191.1).trans hkqa191
  have hvqa196 := (hx220 qa196 hmqa196).2
  have hmqa196 : qa196 ∈ L219 := (hx220 qa196 hmqa196).1
  have hkqa196 : kp217 qa196 = 356 := (hvqa196.1).trans hkqa196
  have hvqa201 := (hx220 qa201 hmqa201).2
  have hmqa201 : qa201 ∈ L219 := (hx220 qa201 hmqa201).1
  have hkqa201 : kp217 qa201 = 357 := (hvqa201.1).trans hkqa201
  have hvqa206 := (hx220 qa206 hmqa206).2
  have hmqa206 : qa206 ∈ L219 := (hx220 qa206 hmqa206).1
  have hkqa206 : kp217 qa206 = 358 := (hvqa206.1).trans hkqa206
  have hvqa211 := (hx220 qa211 hmqa211).2
  have hmqa211 : qa211 ∈ L219 := (hx220 qa211 hmqa211).1
  have hkqa211 : kp217 qa211 = 359 := (hvqa211.1).trans hkqa211
  have hqqm31 : E218 qm31 = gd_out (cs 4) 10 rr32 := (hvqm31.2).trans hqqm31
  have hqqm37 : E218 qm37 = gd_out (cs 4) 10 rr38 := (hvqm37.2).trans hqqm37
  have hqqm55 : E218 qm55 = gd_out (cs 5) 16 rr56 := (hvqm55.2).trans hqqm55
  have hqqm67 : E218 qm67 = gd_out (cs 4) 16 rr68 := (hvqm67.2).trans hqqm67
  have hqqa114 : E218 qa114 = .inl (cs 0, 10, .inl (fun _ => 0)) := (hvqa114.2).trans hqqa114
  have hqqa119 : E218 qa119 = .inl (cs 0, 10, .inl (fun _ => 0)) := (hvqa119.2).trans hqqa119
  have hsqm55 : ∀ j : Nat, j < 16 → rr56 j ∈ L219 ∧ E218 (rr56 j) = .inl (cs 3, (150, .inl (fun _ => 0))) := fun j hj => ⟨(hx220 _ (hsqm55 j hj).1).1, ((hx220 _ (hsqm55 j hj).1).2.2).trans (hsqm55 j hj).2⟩
  refine va_putF (D := D) (ci := 12) (v := .ref qa216) (ty := .array .int) (C := RX12) (T := TX12) (N := 64) hx hb hB cx_inX12 tyX12 tyX12_ok nmX12 hown hK hP hD hS 0 rfl rfl 54 (by decide) (hB _ cw_1247) (fun _ h9 => h9) rfl hnm rfl (by decide +kernel) rfl rfl (Nat.le_of_ble_eq_true rfl) dX12_init_398 (fun H locs hP hD hS => ?_)
  have hP : va_P D vwCl ([(o, .inr (12, [.ref qa1, .int 0, .int 0, .int 0, .int 0, .ref qa6, .ref qa11, .ref qa16, .ref qa21, .ref qa26, .ref qm31, .ref qm37, .ref qm43, .ref qm49, .int 0, .int 0, .ref qm55, .ref qm61, .ref qm67, .ref qm73, .ref qa79, .ref qa84, .ref qa89, .ref qa94, .ref qa99, .ref qa104, .int 0, .int 0, .int 0, .int 0, .ref qa109, .ref qa114, .ref qa119, .ref qa124, .ref qa129, .ref qm134, .ref qm140, .ref qa146, .ref qa151, .ref qa156, .ref qa161, .ref qa166, .ref qa171, .ref qa176, .ref qa181, .ref qa186, .ref qa191, .ref qa196, .ref qa201, .ref qa206, .int 0, .int 0, .int 0, .ref qa211, .ref qa216, .null, .null, .int 0, .int 0, .null, .null, .null, .null, .int 0]))] ++ va_pl L219 E218) H := hP
  have hD : va_D A ([(o, .inr (12, [.ref qa1, .int 0, .int 0, .int 0, .int 0, .ref qa6, .ref qa11, .ref qa16, .ref qa21, .ref qa26, .ref qm31, .ref qm37, .ref qm43, .ref qm49, .int 0, .int 0, .ref qm55, .ref qm61, .ref qm67, .ref qm73, .ref qa79, .ref qa84, .ref qa89, .ref qa94, .ref qa99, .ref qa104, .int 0, .int 0, .int 0, .int 0, .ref qa109, .ref qa114, .ref qa119, .ref qa124, .ref qa129, .ref qm134, .ref qm140, .ref qa146, .ref qa151, .ref qa156, .ref qa161, .ref qa166, .ref qa171, .ref qa176, .ref qa181, .ref qa186, .ref qa191, .ref qa196, .ref qa201, .ref qa206, .int 0, .int 0, .int 0, .ref qa211, .ref qa216, .null, .null, .int 0, .int 0, .null, .null, .null, .null, .int 0]))] ++ va_pl L219 E218) := hD
  refine lv_aload_n hx hb dX12_init_401 rfl (lv_at hl 0 rfl) ?_
  refine lv_sipush (v := 450) hx hb dX12_init_402 (by decide) ?_
  refine cx_newa (cs := cs) (atype := .int) (ty := .int) (a0 := (450, .inl (fun _ => 0))) hx hb hB cw_59 rfl cx_ra_int 0 rfl hK hP hD hS hA (fun _ => rfl) (by decide) (by decide) (Nat.le_of_ble_eq_true rfl) (Nat.le_of_ble_eq_true rfl) (Nat.le_of_ble_eq_true rfl) dX12_init_405 (fun qa221 H hP hD hS => ?_)
  obtain ⟨kp222, E223, hP, hD, hT, hx225, hkqa221, hqqa221, hnqa221⟩ := tw_abs (k := 361) hP hD hT (fun _ _ _ => ⟨by decide, rfl, rfl, (fun _ _ => (show (0 : Int) ≤ ((0 : Int32)).toInt ∧ ((0 : Int32)).toInt ≤ 3 from by decide))⟩)
  obtain ⟨L224, hL⟩ : ∃ z, z = L219 ++ [qa221] := ⟨_, rfl⟩
  have hmqa221 : qa221 ∈ L224 := by rw [hL]; simp
  rw [← hL] at hP hD hT hx225
  have hnqa221 : qa221 ∉ L0 := fun z => hnqa221 (hex _ z).1
  have hex : ∀ a : Nat, a ∈ L0 → a ∈ L224 ∧ kp222 a = kp0 a ∧ E223 a = E0 a := fun a h => ⟨(hx225 a (hex a h).1).1, ((hx225 a (hex a h).1).2.1).trans (hex a h).2.1, ((hx225 a (hex a h).1).2.2).trans (hex a h).2.2⟩
  have hvqa1 := (hx225 qa1 hmqa1).2
  have hmqa1 : qa1 ∈ L224 := (hx225 qa1 hmqa1).1
  have hkqa1 : kp222 qa1 = 300 := (hvqa1.1).trans hkqa1
  have hvqa6 := (hx225 qa6 hmqa6).2
  have hmqa6 : qa6 ∈ L224 := (hx225 qa6 hmqa6).1
  have hkqa6 : kp222 qa6 = 301 := (hvqa6.1).trans hkqa6
  have hvqa11 := (hx225 qa11 hmqa11).2
  have hmqa11 : qa11 ∈ L224 := (hx225 qa11 hmqa11).1
  have hkqa11 : kp222 qa11 = 302 := (hvqa11.1).trans hkqa11
  have hvqa16 := (hx225 qa16 hmqa16).2
  have hmqa16 : qa16 ∈ L224 := (hx225 qa16 hmqa16).1
  have hkqa16 : kp222 qa16 = 303 := (hvqa16.1).trans hkqa16
  have hvqa21 := (hx225 qa21 hmqa21).2
  have hmqa21 : qa21 ∈ L224 := (hx225 qa21 hmqa21).1
  have hkqa21 : kp222 qa21 = 304 := (hvqa21.1).trans hkqa21
  have hvqa26 := (hx225 qa26 hmqa26).2
  have hmqa26 : qa26 ∈ L224 := (hx225 qa26 hmqa26).1
  have hkqa26 : kp222 qa26 = 305 := (hvqa26.1).trans hkqa26
  have hvqm31 := (hx225 qm31 hmqm31).2
  have hmqm31 : qm31 ∈ L224 := (hx225 qm31 hmqm31).1
  have hkqm31 : kp222 qm31 = 310 := (hvqm31.1).trans hkqm31
  have hvqm37 := (hx225 qm37 hmqm37).2
  have hmqm37 : qm37 ∈ L224 := (hx225 qm37 hmqm37).1
  have hkqm37 : kp222 qm37 = 311 := (hvqm37.1).trans hkqm37
  have hvqm43 := (hx225 qm43 hmqm43).2
  have hmqm43 : qm43 ∈ L224 := (hx225 qm43 hmqm43).1
  have hkqm43 : kp222 qm43 = 312 := (hvqm43.1).trans hkqm43
  have hvqm49 := (hx225 qm49 hmqm49).2
  have hmqm49 : qm49 ∈ L224 := (hx225 qm49 hmqm49).1
  have hkqm49 : kp222 qm49 = 313 := (hvqm49.1).trans hkqm49
  have hvqm55 := (hx225 qm55 hmqm55).2
  have hmqm55 : qm55 ∈ L224 := (hx225 qm55 hmqm55).1
  have hkqm55 : kp222 qm55 = 316 := (hvqm55.1).trans hkqm55
  have hvqm61 := (hx225 qm61 hmqm61).2
  have hmqm61 : qm61 ∈ L224 := (hx225 qm61 hmqm61).1
  have hkqm61 : kp222 qm61 = 317 := (hvqm61.1).trans hkqm61
  have hvqm67 := (hx225 qm67 hmqm67).2
  have hmqm67 : qm67 ∈ L224 := (hx225 qm67 hmqm67).1
  have hkqm67 : kp222 qm67 = 318 := (hvqm67.1).trans hkqm67
  have hvqm73 := (hx225 qm73 hmqm73).2
  have hmqm73 : qm73 ∈ L224 := (hx225 qm73 hmqm73).1
  have hkqm73 : kp222 qm73 = 319 := (hvqm73.1).trans hkqm73
  have hvqa79 := (hx225 qa79 hmqa79).2
  have hmqa79 : qa79 ∈ L224 := (hx225 qa79 hmqa79).1
  have hkqa79 : kp222 qa79 = 330 := (hvqa79.1).trans hkqa79
  have hvqa84 := (hx225 qa84 hmqa84).2
  have hmqa84 : qa84 ∈ L224 := (hx225 qa84 hmqa84).1
  have hkqa84 : kp222 qa84 = 331 := (hvqa84.1).trans hkqa84
  have hvqa89 := (hx225 qa89 hmqa89).2
  have hmqa89 : qa89 ∈ L224 := (hx225 qa89 hmqa89).1
  have hkqa89 : kp222 qa89 = 332 := (hvqa89.1).trans hkqa89
  have hvqa94 := (hx225 qa94 hmqa94).2
  have hmqa94 : qa94 ∈ L224 := (hx225 qa94 hmqa94).1
  have hkqa94 : kp222 qa94 = 333 := (hvqa94.1).trans hkqa94
  have hvqa99 := (hx225 qa99 hmqa99).2
  have hmqa99 : qa99 ∈ L224 := (hx225 qa99 hmqa99).1
  have hkqa99 : kp222 qa99 = 334 := (hvqa99.1).trans hkqa99
  have hvqa104 := (hx225 qa104 hmqa104).2
  have hmqa104 : qa104 ∈ L224 := (hx225 qa104 hmqa104).1
  have hkqa104 : kp222 qa104 = 335 := (hvqa104.1).trans hkqa104
  have hvqa109 := (hx225 qa109 hmqa109).2
  have hmqa109 : qa109 ∈ L224 := (hx225 qa109 hmqa109).1
  have hkqa109 : kp222 qa109 = 336 := (hvqa109.1).trans hkqa109
  have hvqa114 := (hx225 qa114 hmqa114).2
  have hmqa114 : qa114 ∈ L224 := (hx225 qa114 hmqa114).1
  have hkqa114 : kp222 qa114 = 337 := (hvqa114.1).trans hkqa114
  have hvqa119 := (hx225 qa119 hmqa119).2
  have hmqa119 : qa119 ∈ L224 := (hx225 qa119 hmqa119).1
  have hkqa119 : kp222 qa119 = 338 := (hvqa119.1).trans hkqa119
  have hvqa124 := (hx225 qa124 hmqa124).2
  have hmqa124 : qa124 ∈ L224 := (hx225 qa124 hmqa124).1
  have hkqa124 : kp222 qa124 = 339 := (hvqa124.1).trans hkqa124
  have hvqa129 := (hx225 qa129 hmqa129).2
  have hmqa129 : qa129 ∈ L224 := (hx225 qa129 hmqa129).1
  have hkqa129 : kp222 qa129 = 340 := (hvqa129.1).trans hkqa129
  have hvqm134 := (hx225 qm134 hmqm134).2
  have hmqm134 : qm134 ∈ L224 := (hx225 qm134 hmqm134).1
  have hkqm134 : kp222 qm134 = 341 := (hvqm134.1).trans hkqm134
  have hvqm140 := (hx225 qm140 hmqm140).2
  have hmqm140 : qm140 ∈ L224 := (hx225 qm140 hmqm140).1
  have hkqm140 : kp222 qm140 = 342 := (hvqm140.1).trans hkqm140
  have hvqa146 := (hx225 qa146 hmqa146).2
  have hmqa146 : qa146 ∈ L224 := (hx225 qa146 hmqa146).1
  have hkqa146 : kp222 qa146 = 343 := (hvqa146.1).trans hkqa146
  have hvqa151 := (hx225 qa151 hmqa151).2
  have hmqa151 : qa151 ∈ L224 := (hx225 qa151 hmqa151).1
  have hkqa151 : kp222 qa151 = 344 := (hvqa151.1).trans hkqa151
  have hvqa156 := (hx225 qa156 hmqa156).2
  have hmqa156 : qa156 ∈ L224 := (hx225 qa156 hmqa156).1
  have hkqa156 : kp222 qa156 = 345 := (hvqa156.1).trans hkqa156
  have hvqa161 := (hx225 qa161 hmqa161).2
  have hmqa161 : qa161 ∈ L224 := (hx225 qa161 hmqa161).1
  have hkqa161 : kp222 qa161 = 346 := (hvqa161.1).trans hkqa161
  have hvqa166 := (hx225 qa166 hmqa166).2
  have hmqa166 : qa166 ∈ L224 := (hx225 qa166 hmqa166).1
  have hkqa166 : kp222 qa166 = 347 := (hvqa166.1).trans hkqa166
  have hvqa171 := (hx225 qa171 hmqa171).2
  have hmqa171 : qa171 ∈ L224 := (hx225 qa171 hmqa171).1
  have hkqa171 : kp222 qa171 = 348 := (hvqa171.1).trans hkqa171
  have hvqa176 := (hx225 qa176 hmqa176).2
  have hmqa176 : qa176 ∈ L224 := (hx225 qa176 hmqa176).1
  have hkqa176 : kp222 qa176 = 349 := (hvqa176.1).trans hkqa176
  have hvqa181 := (hx225 qa181 hmqa181).2
  have hmqa181 : qa181 ∈ L224 := (hx225 qa181 hmqa181).1
  have hkqa181 : kp222 qa181 = 353 := (hvqa181.1).trans hkqa181
  have hvqa186 := (hx225 qa186 hmqa186).2
  have hmqa186 : qa186 ∈ L224 := (hx225 qa186 hmqa186).1
  have hkqa186 : kp222 qa186 = 354 := (hvqa186.1).trans hkqa186
  have hvqa191 := (hx225 qa191 hmqa191).2
  have hmqa191 : qa191 ∈ L224 := (hx225 qa191 hmqa191).1
  have hkqa191 : kp222 qa191 = 355 := (hvqa191.1).trans hkqa191
  have hvqa196 := (hx225 qa196 hmqa196).2
  have hmqa196 : qa196 ∈ L224 := (hx225 qa196 hmqa196).1
  have hkqa196 : kp222 qa196 = 356 := (hvqa196.1).trans hkqa196
  have hvqa201 := (hx225 qa201 hmqa201).2
  have hmqa201 : qa201 ∈ L224 := (hx225 qa201 hmqa201).1
  have hkqa201 : kp222 qa201 = 357 := (hvqa201.1).trans hkqa201
  have hvqa206 := (hx225 qa206 hmqa206).2
  have hmqa206 : qa206 ∈ L224 := (hx225 qa206 hmqa206).1
  have hkqa206 : kp222 qa206 = 358 := (hvqa206.1).trans hkqa206
  have hvqa211 := (hx225 qa211 hmqa211).2
  have hmqa211 : qa211 ∈ L224 := (hx225 qa211 hmqa211).1
  have hkqa211 : kp222 qa211 = 359 := (hvqa211.1).trans hkqa211
  have hvqa216 := (hx225 qa216 hmqa216).2
  have hmqa216 : qa216 ∈ L224 := (hx225 qa216 hmqa216).1
  have hkqa216 : kp222 qa216 = 360 := (hvqa216.1).trans hkqa216
  have hqqm31 : E223 qm31 = gd_out (cs 4) 10 rr32 := (hvqm31.2).trans hqqm31
  have hqqm37 : E223 qm37 = gd_out (cs 4) 10 rr38 := (hvqm37.2).trans hqqm37
  have hqqm55 : E223 qm55 = gd_out (cs 5) 16 rr56 := (hvqm55.2).trans hqqm55
  have hqqm67 : E223 qm67 = gd_out (cs 4) 16 rr68 := (hvqm67.2).trans hqqm67
  have hqqa114 : E223 qa114 = .inl (cs 0, 10, .inl (fun _ => 0)) := (hvqa114.2).trans hqqa114
  have hqqa119 : E223 qa119 = .inl (cs 0, 10, .inl (fun _ => 0)) := (hvqa119.2).trans hqqa119
  have hsqm55 : ∀ j : Nat, j < 16 → rr56 j ∈ L224 ∧ E223 (rr56 j) = .inl (cs 3, (150, .inl (fun _ => 0))) := fun j hj => ⟨(hx225 _ (hsqm55 j hj).1).1, ((hx225 _ (hsqm55 j hj).1).2.2).trans (hsqm55 j hj).2⟩
  refine va_putF (D := D) (ci := 12) (v := .ref qa221) (ty := .array .int) (C := RX12) (T := TX12) (N := 64) hx hb hB cx_inX12 tyX12 tyX12_ok nmX12 hown hK hP hD hS 0 rfl rfl 55 (by decide) (hB _ cw_1248) (fun _ h9 => h9) rfl hnm rfl (by decide +kernel) rfl rfl (Nat.le_of_ble_eq_true rfl) dX12_init_407 (fun H locs hP hD hS => ?_)
  have hP : va_P D vwCl ([(o, .inr (12, [.ref qa1, .int 0, .int 0, .int 0, .int 0, .ref qa6, .ref qa11, .ref qa16, .ref qa21, .ref qa26, .ref qm31, .ref qm37, .ref qm43, .ref qm49, .int 0, .int 0, .ref qm55, .ref qm61, .ref qm67, .ref qm73, .ref qa79, .ref qa84, .ref qa89, .ref qa94, .ref qa99, .ref qa104, .int 0, .int 0, .int 0, .int 0, .ref qa109, .ref qa114, .ref qa119, .ref qa124, .ref qa129, .ref qm134, .ref qm140, .ref qa146, .ref qa151, .ref qa156, .ref qa161, .ref qa166, .ref qa171, .ref qa176, .ref qa181, .ref qa186, .ref qa191, .ref qa196, .ref qa201, .ref qa206, .int 0, .int 0, .int 0, .ref qa211, .ref qa216, .ref qa221, .null, .int 0, .int 0, .null, .null, .null, .null, .int 0]))] ++ va_pl L224 E223) H := hP
  have hD : va_D A ([(o, .inr (12, [.ref qa1, .int 0, .int 0, .int 0, .int 0, .ref qa6, .ref qa11, .ref qa16, .ref qa21, .ref qa26, .ref qm31, .ref qm37, .ref qm43, .ref qm49, .int 0, .int 0, .ref qm55, .ref qm61, .ref qm67, .ref qm73, .ref qa79, .ref qa84, .ref qa89, .ref qa94, .ref qa99, .ref qa104, .int 0, .int 0, .int 0, .int 0, .ref qa109, .ref qa114, .ref qa119, .ref qa124, .ref qa129, .ref qm134, .ref qm140, .ref qa146, .ref qa151, .ref qa156, .ref qa161, .ref qa166, .ref qa171, .ref qa176, .ref qa181, .ref qa186, .ref qa191, .ref qa196, .ref qa201, .ref qa206, .int 0, .int 0, .int 0, .ref qa211, .ref qa216, .ref qa221, .null, .int 0, .int 0, .null, .null, .null, .null, .int 0]))] ++ va_pl L224 E223) := hD
  refine lv_aload_n hx hb dX12_init_410 rfl (lv_at hl 0 rfl) ?_
  refine lv_sipush (v := 450) hx hb dX12_init_411 (by decide) ?_
  refine cx_newa (cs := cs) (atype := .int) (ty := .int) (a0 := (450, .inl (fun _ => 0))) hx hb hB cw_59 rfl cx_ra_int 0 rfl hK hP hD hS hA (fun _ => rfl) (by decide) (by decide) (Nat.le_of_ble_eq_true rfl) (Nat.le_of_ble_eq_true rfl) (Nat.le_of_ble_eq_true rfl) dX12_init_414 (fun qa226 H hP hD hS => ?_)
  obtain ⟨kp227, E228, hP, hD, hT, hx230, hkqa226, hqqa226, hnqa226⟩ := tw_abs (k := 362) hP hD hT (fun _ _ _ => ⟨by decide, rfl, rfl, (fun _ _ => (show (0 : Int) ≤ ((0 : Int32)).toInt ∧ ((0 : Int32)).toInt ≤ 11 from by decide))⟩)
  obtain ⟨L229, hL⟩ : ∃ z, z = L224 ++ [qa226] := ⟨_, rfl⟩
  have hmqa226 : qa226 ∈ L229 := by rw [hL]; simp
  rw [← hL] at hP hD hT hx230
  have hnqa226 : qa226 ∉ L0 := fun z => hnqa226 (hex _ z).1
  have hex : ∀ a : Nat, a ∈ L0 → a ∈ L229 ∧ kp227 a = kp0 a ∧ E228 a = E0 a := fun a h => ⟨(hx230 a (hex a h).1).1, ((hx230 a (hex a h).1).2.1).trans (hex a h).2.1, ((hx230 a (hex a h).1).2.2).trans (hex a h).2.2⟩
  have hvqa1 := (hx230 qa1 hmqa1).2
  have hmqa1 : qa1 ∈ L229 := (hx230 qa1 hmqa1).1
  have hkqa1 : kp227 qa1 = 300 := (hvqa1.1).trans hkqa1
  have hvqa6 := (hx230 qa6 hmqa6).2
  have hmqa6 : qa6 ∈ L229 := (hx230 qa6 hmqa6).1
  have hkqa6 : kp227 qa6 = 301 := (hvqa6.1).trans hkqa6
  have hvqa11 := (hx230 qa11 hmqa11).2
  have hmqa11 : qa11 ∈ L229 := (hx230 qa11 hmqa11).1
  have hkqa11 : kp227 qa11 = 302 := (hvqa11.1).trans hkqa11
  have hvqa16 := (hx230 qa16 hmqa16).2
  have hmqa16 : qa16 ∈ L229 := (hx230 qa16 hmqa16).1
  have hkqa16 : kp227 qa16 = 303 := (hvqa16.1).trans hkqa16
  have hvqa21 := (hx230 qa21 hmqa21).2
  have hmqa21 : qa21 ∈ L229 := (hx230 qa21 hmqa21).1
  have hkqa21 : kp227 qa21 = 304 := (hvqa21.1).trans hkqa21
  have hvqa26 := (hx230 qa26 hmqa26).2
  have hmqa26 : qa26 ∈ L229 := (hx230 qa26 hmqa26).1
  have hkqa26 : kp227 qa26 = 305 := (hvqa26.1).trans hkqa26
  have hvqm31 := (hx230 qm31 hmqm31).2
  have hmqm31 : qm31 ∈ L229 := (hx230 qm31 hmqm31).1
  have hkqm31 : kp227 qm31 = 310 := (hvqm31.1).trans hkqm31
  have hvqm37 := (hx230 qm37 hmqm37).2
  have hmqm37 : qm37 ∈ L229 := (hx230 qm37 hmqm37).1
  have hkqm37 : kp227 qm37 = 311 := (hvqm37.1).trans hkqm37
  have hvqm43 := (hx230 qm43 hmqm43).2
  have hmqm43 : qm43 ∈ L229 := (hx230 qm43 hmqm43).1
  have hkqm43 : kp227 qm43 = 312 := (hvqm43.1).trans hkqm43
  have hvqm49 := (hx230 qm49 hmqm49).2
  have hmqm49 : qm49 ∈ L229 := (hx230 qm49 hmqm49).1
  have hkqm49 : kp227 qm49 = 313 := (hvqm49.1).trans hkqm49
  have hvqm55 := (hx230 qm55 hmqm55).2
  have hmqm55 : qm55 ∈ L229 := (hx230 qm55 hmqm55).1
  have hkqm55 : kp227 qm55 = 316 := (hvqm55.1).trans hkqm55
  have hvqm61 := (hx230 qm61 hmqm61).2
  have hmqm61 : qm61 ∈ L229 := (hx230 qm61 hmqm61).1
  have hkqm61 : kp227 qm61 = 317 := (hvqm61.1).trans hkqm61
  have hvqm67 := (hx230 qm67 hmqm67).2
  have hmqm67 : qm67 ∈ L229 := (hx230 qm67 hmqm67).1
  have hkqm67 : kp227 qm67 = 318 := (hvqm67.1).trans hkqm67
  have hvqm73 := (hx230 qm73 hmqm73).2
  have hmqm73 : qm73 ∈ L229 := (hx230 qm73 hmqm73).1
  have hkqm73 : kp227 qm73 = 319 := (hvqm73.1).trans hkqm73
  have hvqa79 := (hx230 qa79 hmqa79).2
  have hmqa79 : qa79 ∈ L229 := (hx230 qa79 hmqa79).1
  have hkqa79 : kp227 qa79 = 330 := (hvqa79.1).trans hkqa79
  have hvqa84 := (hx230 qa84 hmqa84).2
  have hmqa84 : qa84 ∈ L229 := (hx230 qa84 hmqa84).1
  have hkqa84 : kp227 qa84 = 331 := (hvqa84.1).trans hkqa84
  have hvqa89 := (hx230 qa89 hmqa89).2
  have hmqa89 : qa89 ∈ L229 := (hx230 qa89 hmqa89).1
  have hkqa89 : kp227 qa89 = 332 := (hvqa89.1).trans hkqa89
  have hvqa94 := (hx230 qa94 hmqa94).2
  have hmqa94 : qa94 ∈ L229 := (hx230 qa94 hmqa94).1
  have hkqa94 : kp227 qa94 = 333 := (hvqa94.1).trans hkqa94
  have hvqa99 := (hx230 qa99 hmqa99).2
  have hmqa99 : qa99 ∈ L229 := (hx230 qa99 hmqa99).1
  have hkqa99 : kp227 qa99 = 334 := (hvqa99.1).trans hkqa99
  have hvqa104 := (hx230 qa104 hmqa104).2
  have hmqa104 : qa104 ∈ L229 := (hx230 qa104 hmqa104).1
  have hkqa104 : kp227 qa104 = 335 := (hvqa104.1).trans hkqa104
  have hvqa109 := (hx230 qa109 hmqa109).2
  have hmqa109 : qa109 ∈ L229 := (hx230 qa109 hmqa109).1
  have hkqa109 : kp227 qa109 = 336 := (hvqa109.1).trans hkqa109
  have hvqa114 := (hx230 qa114 hmqa114).2
  have hmqa114 : qa114 ∈ L229 := (hx230 qa114 hmqa114).1
  have hkqa114 : kp227 qa114 = 337 := (hvqa114.1).trans hkqa114
  have hvqa119 := (hx230 qa119 hmqa119).2
  have hmqa119 : qa119 ∈ L229 := (hx230 qa119 hmqa119).1
  have hkqa119 : kp227 qa119 = 338 := (hvqa119.1).trans hkqa119
  have hvqa124 := (hx230 qa124 hmqa124).2
  have hmqa124 : qa124 ∈ L229 := (hx230 qa124 hmqa124).1
  have hkqa124 : kp227 qa124 = 339 := (hvqa124.1).trans hkqa124
  have hvqa129 := (hx230 qa129 hmqa129).2
  have hmqa129 : qa129 ∈ L229 := (hx230 qa129 hmqa129).1
  have hkqa129 : kp227 qa129 = 340 := (hvqa129.1).trans hkqa129
  have hvqm134 := (hx230 qm134 hmqm134).2
  have hmqm134 : qm134 ∈ L229 := (hx230 qm134 hmqm134).1
  have hkqm134 : kp227 qm134 = 341 := (hvqm134.1).trans hkqm134
  have hvqm140 := (hx230 qm140 hmqm140).2
  have hmqm140 : qm140 ∈ L229 := (hx230 qm140 hmqm140).1
  have hkqm140 : kp227 qm140 = 342 := (hvqm140.1).trans hkqm140
  have hvqa146 := (hx230 qa146 hmqa146).2
  have hmqa146 : qa146 ∈ L229 := (hx230 qa146 hmqa146).1
  have hkqa146 : kp227 qa146 = 343 := (hvqa146.1).trans hkqa146
  have hvqa151 := (hx230 qa151 hmqa151).2
  have hmqa151 : qa151 ∈ L229 := (hx230 qa151 hmqa151).1
  have hkqa151 : kp227 qa151 = 344 := (hvqa151.1).trans hkqa151
  have hvqa156 := (hx230 qa156 hmqa156).2
  have hmqa156 : qa156 ∈ L229 := (hx230 qa156 hmqa156).1
  have hkqa156 : kp227 qa156 = 345 := (hvqa156.1).trans hkqa156
  have hvqa161 := (hx230 qa161 hmqa161).2
  have hmqa161 : qa161 ∈ L229 := (hx230 qa161 hmqa161).1
  have hkqa161 : kp227 qa161 = 346 := (hvqa161.1).trans hkqa161
  have hvqa166 := (hx230 qa166 hmqa166).2
  have hmqa166 : qa166 ∈ L229 := (hx230 qa166 hmqa166).1
  have hkqa166 : kp227 qa166 = 347 := (hvqa166.1).trans hkqa166
  have hvqa171 := (hx230 qa171 hmqa171).2
  have hmqa171 : qa171 ∈ L229 := (hx230 qa171 hmqa171).1
  have hkqa171 : kp227 qa171 = 348 := (hvqa171.1).trans hkqa171
  have hvqa176 := (hx230 qa176 hmqa176).2
  have hmqa176 : qa176 ∈ L229 := (hx230 qa176 hmqa176).1
  have hkqa176 : kp227 qa176 = 349 := (hvqa176.1).trans hkqa176
  have hvqa181 := (hx230 qa181 hmqa181).2
  have hmqa181 : qa181 ∈ L229 := (hx230 qa181 hmqa181).1
  have hkqa181 : kp227 qa181 = 353 := (hvqa181.1).trans hkqa181
  have hvqa186 := (hx230 qa186 hmqa186).2
  have hmqa186 : qa186 ∈ L229 := (hx230 qa186 hmqa186).1
  have hkqa186 : kp227 qa186 = 354 := (hvqa186.1).trans hkqa186
  have hvqa191 := (hx230 qa191 hmqa191).2
  have hmqa191 : qa191 ∈ L229 := (hx230 qa191 hmqa191).1
  have hkqa191 : kp227 qa191 = 355 := (hvqa191.1).trans hkqa191
  have hvqa196 := (hx230 qa196 hmqa196).2
  have hmqa196 : qa196 ∈ L229 := (hx230 qa196 hmqa196).1
  have hkqa196 : kp227 qa196 = 356 := (hvqa196.1).trans hkqa196
  have hvqa201 := (hx230 qa201 hmqa201).2
  have hmqa201 : qa201 ∈ L229 := (hx230 qa201 hmqa201).1
  have hkqa201 : kp227 qa201 = 357 := (hvqa201.1).trans hkqa201
  have hvqa206 := (hx230 qa206 hmqa206).2
  have hmqa206 : qa206 ∈ L229 := (hx230 qa206 hmqa206).1
  have hkqa206 : kp227 qa206 = 358 := (hvqa206.1).trans hkqa206
  have hvqa211 := (hx230 qa211 hmqa211).2
  have hmqa211 : qa211 ∈ L229 := (hx230 qa211 hmqa211).1
  have hkqa211 : kp227 qa211 = 359 := (hvqa211.1).trans hkqa211
  have hvqa216 := (hx230 qa216 hmqa216).2
  have hmqa216 : qa216 ∈ L229 := (hx230 qa216 hmqa216).1
  have hkqa216 : kp227 qa216 = 360 := (hvqa216.1).trans hkqa216
  have hvqa221 := (hx230 qa221 hmqa221).2
  have hmqa221 : qa221 ∈ L229 := (hx230 qa221 hmqa221).1
  have hkqa221 : kp227 qa221 = 361 := (hvqa221.1).trans hkqa221
  have hqqm31 : E228 qm31 = gd_out (cs 4) 10 rr32 := (hvqm31.2).trans hqqm31
  have hqqm37 : E228 qm37 = gd_out (cs 4) 10 rr38 := (hvqm37.2).trans hqqm37
  have hqqm55 : E228 qm55 = gd_out (cs 5) 16 rr56 := (hvqm55.2).trans hqqm55
  have hqqm67 : E228 qm67 = gd_out (cs 4) 16 rr68 := (hvqm67.2).trans hqqm67
  have hqqa114 : E228 qa114 = .inl (cs 0, 10, .inl (fun _ => 0)) := (hvqa114.2).trans hqqa114
  have hqqa119 : E228 qa119 = .inl (cs 0, 10, .inl (fun _ => 0)) := (hvqa119.2).trans hqqa119
  have hsqm55 : ∀ j : Nat, j < 16 → rr56 j ∈ L229 ∧ E228 (rr56 j) = .inl (cs 3, (150, .inl (fun _ => 0))) := fun j hj => ⟨(hx230 _ (hsqm55 j hj).1).1, ((hx230 _ (hsqm55 j hj).1).2.2).trans (hsqm55 j hj).2⟩
  refine va_putF (D := D) (ci := 12) (v := .ref qa226) (ty := .array .int) (C := RX12) (T := TX12) (N := 64) hx hb hB cx_inX12 tyX12 tyX12_ok nmX12 hown hK hP hD hS 0 rfl rfl 56 (by decide) (hB _ cw_1249) (fun _ h9 => h9) rfl hnm rfl (by decide +kernel) rfl rfl (Nat.le_of_ble_eq_true rfl) dX12_init_416 (fun H locs hP hD hS => ?_)
  have hP : va_P D vwCl ([(o, .inr (12, [.ref qa1, .int 0, .int 0, .int 0, .int 0, .ref qa6, .ref qa11, .ref qa16, .ref qa21, .ref qa26, .ref qm31, .ref qm37, .ref qm43, .ref qm49, .int 0, .int 0, .ref qm55, .ref qm61, .ref qm67, .ref qm73, .ref qa79, .ref qa84, .ref qa89, .ref qa94, .ref qa99, .ref qa104, .int 0, .int 0, .int 0, .int 0, .ref qa109, .ref qa114, .ref qa119, .ref qa124, .ref qa129, .ref qm134, .ref qm140, .ref qa146, .ref qa151, .ref qa156, .ref qa161, .ref qa166, .ref qa171, .ref qa176, .ref qa181, .ref qa186, .ref qa191, .ref qa196, .ref qa201, .ref qa206, .int 0, .int 0, .int 0, .ref qa211, .ref qa216, .ref qa221, .ref qa226, .int 0, .int 0, .null, .null, .null, .null, .int 0]))] ++ va_pl L229 E228) H := hP
  have hD : va_D A ([(o, .inr (12, [.ref qa1, .int 0, .int 0, .int 0, .int 0, .ref qa6, .ref qa11, .ref qa16, .ref qa21, .ref qa26, .ref qm31, .ref qm37, .ref qm43, .ref qm49, .int 0, .int 0, .ref qm55, .ref qm61, .ref qm67, .ref qm73, .ref qa79, .ref qa84, .ref qa89, .ref qa94, .ref qa99, .ref qa104, .int 0, .int 0, .int 0, .int 0, .ref qa109, .ref qa114, .ref qa119, .ref qa124, .ref qa129, .ref qm134, .ref qm140, .ref qa146, .ref qa151, .ref qa156, .ref qa161, .ref qa166, .ref qa171, .ref qa176, .ref qa181, .ref qa186, .ref qa191, .ref qa196, .ref qa201, .ref qa206, .int 0, .int 0, .int 0, .ref qa211, .ref qa216, .ref qa221, .ref qa226, .int 0, .int 0, .null, .null, .null, .null, .int 0]))] ++ va_pl L229 E228) := hD
  refine lv_aload_n hx hb dX12_init_419 rfl (lv_at hl 0 rfl) ?_
  refine lv_sipush (v := 150) hx hb dX12_init_420 (by decide) ?_
  refine cx_newa (cs := cs) (atype := .boolean) (ty := .boolean) (a0 := (150, .inl (fun _ => 0))) hx hb hB cw_1386 rfl cx_ra_boolean 3 rfl hK hP hD hS hA (fun _ => rfl) (by decide) (by decide) (Nat.le_of_ble_eq_true rfl) (Nat.le_of_ble_eq_true rfl) (Nat.le_of_ble_eq_true rfl) dX12_init_423 (fun qa231 H hP hD hS => ?_)
  obtain ⟨kp232, E233, hP, hD, hT, hx235, hkqa231, hqqa231, hnqa231⟩ := tw_abs (k := 363) hP hD hT (fun _ _ _ => ⟨by decide, rfl, rfl, (fun _ _ => (show (0 : Int) ≤ ((0 : Int32)).toInt ∧ ((0 : Int32)).toInt ≤ 1 from by decide))⟩)
  obtain ⟨L234, hL⟩ : ∃ z, z = L229 ++ [qa231] := ⟨_, rfl⟩
  have hmqa231 : qa231 ∈ L234 := by rw [hL]; simp
  rw [← hL] at hP hD hT hx235
  have hnqa231 : qa231 ∉ L0 := fun z => hnqa231 (hex _ z).1
  have hex : ∀ a : Nat, a ∈ L0 → a ∈ L234 ∧ kp232 a = kp0 a ∧ E233 a = E0 a := fun a h => ⟨(hx235 a (hex a h).1).1, ((hx235 a (hex a h).1).2.1).trans (hex a h).2.1, ((hx235 a (hex a h).1).2.2).trans (hex a h).2.2⟩
  have hvqa1 := (hx235 qa1 hmqa1).2
  have hmqa1 : qa1 ∈ L234 := (hx235 qa1 hmqa1).1
  have hkqa1 : kp232 qa1 = 300 := (hvqa1.1).trans hkqa1
  have hvqa6 := (hx235 qa6 hmqa6).2
  have hmqa6 : qa6 ∈ L234 := (hx235 qa6 hmqa6).1
  have hkqa6 : kp232 qa6 = 301 := (hvqa6.1).trans hkqa6
  have hvqa11 := (hx235 qa11 hmqa11).2
  have hmqa11 : qa11 ∈ L234 := (hx235 qa11 hmqa11).1
  have hkqa11 : kp232 qa11 = 302 := (hvqa11.1).trans hkqa11
  have hvqa16 := (hx235 qa16 hmqa16).2
  have hmqa16 : qa16 ∈ L234 := (hx235 qa16 hmqa16).1
  have hkqa16 : kp232 qa16 = 303 := (hvqa16.1).trans hkqa16
  have hvqa21 := (hx235 qa21 hmqa21).2
  have hmqa21 : qa21 ∈ L234 := (hx235 qa21 hmqa21).1
  have hkqa21 : kp232 qa21 = 304 := (hvqa21.1).trans hkqa21
  have hvqa26 := (hx235 qa26 hmqa26).2
  have hmqa26 : qa26 ∈ L234 := (hx235 qa26 hmqa26).1
  have hkqa26 : kp232 qa26 = 305 := (hvqa26.1).trans hkqa26
  have hvqm31 := (hx235 qm31 hmqm31).2
  have hmqm31 : qm31 ∈ L234 := (hx235 qm31 hmqm31).1
  have hkqm31 : kp232 qm31 = 310 := (hvqm31.1).trans hkqm31
  have hvqm37 := (hx235 qm37 hmqm37).2
  have hmqm37 : qm37 ∈ L234 := (hx235 qm37 hmqm37).1
  have hkqm37 : kp232 qm37 = 311 := (hvqm37.1).trans hkqm37
  have hvqm43 := (hx235 qm43 hmqm43).2
  have hmqm43 : qm43 ∈ L234 := (hx235 qm43 hmqm43).1
  have hkqm43 : kp232 qm43 = 312 := (hvqm43.1).trans hkqm43
  have hvqm49 := (hx235 qm49 hmqm49).2
  have hmqm49 : qm49 ∈ L234 := (hx235 qm49 hmqm49).1
  have hkqm49 : kp232 qm49 = 313 := (hvqm49.1).trans hkqm49
  have hvqm55 := (hx235 qm55 hmqm55).2
  have hmqm55 : qm55 ∈ L234 := (hx235 qm55 hmqm55).1
  have hkqm55 : kp232 qm55 = 316 := (hvqm55.1).trans hkqm55
  have hvqm61 := (hx235 qm61 hmqm61).2
  have hmqm61 : qm61 ∈ L234 := (hx235 qm61 hmqm61).1
  have hkqm61 : kp232 qm61 = 317 := (hvqm61.1).trans hkqm61
  have hvqm67 := (hx235 qm67 hmqm67).2
  have hmqm67 : qm67 ∈ L234 := (hx235 qm67 hmqm67).1
  have hkqm67 : kp232 qm67 = 318 := (hvqm67.1).trans hkqm67
  have hvqm73 := (hx235 qm73 hmqm73).2
  have hmqm73 : qm73 ∈ L234 := (hx235 qm73 hmqm73).1
  have hkqm73 : kp232 qm73 = 319 := (hvqm73.1).trans hkqm73
  have hvqa79 := (hx235 qa79 hmqa79).2
  have hmqa79 : qa79 ∈ L234 := (hx235 qa79 hmqa79).1
  have hkqa79 : kp232 qa79 = 330 := (hvqa79.1).trans hkqa79
  have hvqa84 := (hx235 qa84 hmqa84).2
  have hmqa84 : qa84 ∈ L234 := (hx235 qa84 hmqa84).1
  have hkqa84 : kp232 qa84 = 331 := (hvqa84.1).trans hkqa84
  have hvqa89 := (hx235 qa89 hmqa89).2
  have hmqa89 : qa89 ∈ L234 := (hx235 qa89 hmqa89).1
  have hkqa89 : kp232 qa89 = 332 := (hvqa89.1).trans hkqa89
  have hvqa94 := (hx235 qa94 hmqa94).2
  have hmqa94 : qa94 ∈ L234 := (hx235 qa94 hmqa94).1
  have hkqa94 : kp232 qa94 = 333 := (hvqa94.1).trans hkqa94
  have hvqa99 := (hx235 qa99 hmqa99).2
  have hmqa99 : qa99 ∈ L234 := (hx235 qa99 hmqa99).1
  have hkqa99 : kp232 qa99 = 334 := (hvqa99.1).trans hkqa99
  have hvqa104 := (hx235 qa104 hmqa104).2
  have hmqa104 : qa104 ∈ L234 := (hx235 qa104 hmqa104).1
  have hkqa104 : kp232 qa104 = 335 := (hvqa104.1).trans hkqa104
  have hvqa109 := (hx235 qa109 hmqa109).2
  have hmqa109 : qa109 ∈ L234 := (hx235 qa109 hmqa109).1
  have hkqa109 : kp232 qa109 = 336 := (hvqa109.1).trans hkqa109
  have hvqa114 := (hx235 qa114 hmqa114).2
  have hmqa114 : qa114 ∈ L234 := (hx235 qa114 hmqa114).1
  have hkqa114 : kp232 qa114 = 337 := (hvqa114.1).trans hkqa114
  have hvqa119 := (hx235 qa119 hmqa119).2
  have hmqa119 : qa119 ∈ L234 := (hx235 qa119 hmqa119).1
  have hkqa119 : kp232 qa119 = 338 := (hvqa119.1).trans hkqa119
  have hvqa124 := (hx235 qa124 hmqa124).2
  have hmqa124 : qa124 ∈ L234 := (hx235 qa124 hmqa124).1
  have hkqa124 : kp232 qa124 = 339 := (hvqa124.1).trans hkqa124
  have hvqa129 := (hx235 qa129 hmqa129).2
  have hmqa129 : qa129 ∈ L234 := (hx235 qa129 hmqa129).1
  have hkqa129 : kp232 qa129 = 340 := (hvqa129.1).trans hkqa129
  have hvqm134 := (hx235 qm134 hmqm134).2
  have hmqm134 : qm134 ∈ L234 := (hx235 qm134 hmqm134).1
  have hkqm134 : kp232 qm134 = 341 := (hvqm134.1).trans hkqm134
  have hvqm140 := (hx235 qm140 hmqm140).2
  have hmqm140 : qm140 ∈ L234 := (hx235 qm140 hmqm140).1
  have hkqm140 : kp232 qm140 = 342 := (hvqm140.1).trans hkqm140
  have hvqa146 := (hx235 qa146 hmqa146).2
  have hmqa146 : qa146 ∈ L234 := (hx235 qa146 hmqa146).1
  have hkqa146 : kp232 qa146 = 343 := (hvqa146.1).trans hkqa146
  have hvqa151 := (hx235 qa151 hmqa151).2
  have hmqa151 : qa151 ∈ L234 := (hx235 qa151 hmqa151).1
  have hkqa151 : kp232 qa151 = 344 := (hvqa151.1).trans hkqa151
  have hvqa156 := (hx235 qa156 hmqa156).2
  have hmqa156 : qa156 ∈ L234 := (hx235 qa156 hmqa156).1
  have hkqa156 : kp232 qa156 = 345 := (hvqa156.1).trans hkqa156
  have hvqa161 := (hx235 qa161 hmqa161).2
  have hmqa161 : qa161 ∈ L234 := (hx235 qa161 hmqa161).1
  have hkqa161 : kp232 qa161 = 346 := (hvqa161.1).trans hkqa161
  have hvqa166 := (hx235 qa166 hmqa166).2
  have hmqa166 : qa166 ∈ L234 := (hx235 qa166 hmqa166).1
  have hkqa166 : kp232 qa166 = 347 := (hvqa166.1).trans hkqa166
  have hvqa171 := (hx235 qa171 hmqa171).2
  have hmqa171 : qa171 ∈ L234 := (hx235 qa171 hmqa171).1
  have hkqa171 : kp232 qa171 = 348 := (hvqa171.1).trans hkqa171
  have hvqa176 := (hx235 qa176 hmqa176).2
  have hmqa176 : qa176 ∈ L234 := (hx235 qa176 hmqa176).1
  have hkqa176 : kp232 qa176 = 349 := (hvqa176.1).trans hkqa176
  have hvqa181 := (hx235 qa181 hmqa181).2
  have hmqa181 : qa181 ∈ L234 := (hx235 qa181 hmqa181).1
  have hkqa181 : kp232 qa181 = 353 := (hvqa181.1).trans hkqa181
  have hvqa186 := (hx235 qa186 hmqa186).2
  have hmqa186 : qa186 ∈ L234 := (hx235 qa186 hmqa186).1
  have hkqa186 : kp232 qa186 = 354 := (hvqa186.1).trans hkqa186
  have hvqa191 := (hx235 qa191 hmqa191).2
  have hmqa191 : qa191 ∈ L234 := (hx235 qa191 hmqa191).1
  have hkqa191 : kp232 qa191 = 355 := (hvqa191.1).trans hkqa191
  have hvqa196 := (hx235 qa196 hmqa196).2
  have hmqa196 : qa196 ∈ L234 := (hx235 qa196 hmqa196).1
  have hkqa196 : kp232 qa196 = 356 := (hvqa196.1).trans hkqa196
  have hvqa201 := (hx235 qa201 hmqa201).2
  have hmqa201 : qa201 ∈ L234 := (hx235 qa201 hmqa201).1
  have hkqa201 : kp232 qa201 = 357 := (hvqa201.1).trans hkqa201
  have hvqa206 := (hx235 qa206 hmqa206).2
  have hmqa206 : qa206 ∈ L234 := (hx235 qa206 hmqa206).1
  have hkqa206 : kp232 qa206 = 358 := (hvqa206.1).trans hkqa206
  have hvqa211 := (hx235 qa211 hmqa211).2
  have hmqa211 : qa211 ∈ L234 := (hx235 qa211 hmqa211).1
  have hkqa211 : kp232 qa211 = 359 := (hvqa211.1).trans hkqa211
  have hvqa216 := (hx235 qa216 hmqa216).2
  have hmqa216 : qa216 ∈ L234 := (hx235 qa216 hmqa216).1
  have hkqa216 : kp232 qa216 = 360 := (hvqa216.1).trans hkqa216
  have hvqa221 := (hx235 qa221 hmqa221).2
  have hmqa221 : qa221 ∈ L234 := (hx235 qa221 hmqa221).1
  have hkqa221 : kp232 qa221 = 361 := (hvqa221.1).trans hkqa221
  have hvqa226 := (hx235 qa226 hmqa226).2
  have hmqa226 : qa226 ∈ L234 := (hx235 qa226 hmqa226).1
  have hkqa226 : kp232 qa226 = 362 := (hvqa226.1).trans hkqa226
  have hqqm31 : E233 qm31 = gd_out (cs 4) 10 rr32 := (hvqm31.2).trans hqqm31
  have hqqm37 : E233 qm37 = gd_out (cs 4) 10 rr38 := (hvqm37.2).trans hqqm37
  have hqqm55 : E233 qm55 = gd_out (cs 5) 16 rr56 := (hvqm55.2).trans hqqm55
  have hqqm67 : E233 qm67 = gd_out (cs 4) 16 rr68 := (hvqm67.2).trans hqqm67
  have hqqa114 : E233 qa114 = .inl (cs 0, 10, .inl (fun _ => 0)) := (hvqa114.2).trans hqqa114
  have hqqa119 : E233 qa119 = .inl (cs 0, 10, .inl (fun _ => 0)) := (hvqa119.2).trans hqqa119
  have hsqm55 : ∀ j : Nat, j < 16 → rr56 j ∈ L234 ∧ E233 (rr56 j) = .inl (cs 3, (150, .inl (fun _ => 0))) := fun j hj => ⟨(hx235 _ (hsqm55 j hj).1).1, ((hx235 _ (hsqm55 j hj).1).2.2).trans (hsqm55 j hj).2⟩
  refine va_putF (D := D) (ci := 12) (v := .ref qa231) (ty := .array .boolean) (C := RX12) (T := TX12) (N := 64) hx hb hB cx_inX12 tyX12 tyX12_ok nmX12 hown hK hP hD hS 0 rfl rfl 59 (by decide) (hB _ cw_1252) (fun _ h9 => h9) rfl hnm rfl (by decide +kernel) rfl rfl (Nat.le_of_ble_eq_true rfl) dX12_init_425 (fun H locs hP hD hS => ?_)
  have hP : va_P D vwCl ([(o, .inr (12, [.ref qa1, .int 0, .int 0, .int 0, .int 0, .ref qa6, .ref qa11, .ref qa16, .ref qa21, .ref qa26, .ref qm31, .ref qm37, .ref qm43, .ref qm49, .int 0, .int 0, .ref qm55, .ref qm61, .ref qm67, .ref qm73, .ref qa79, .ref qa84, .ref qa89, .ref qa94, .ref qa99, .ref qa104, .int 0, .int 0, .int 0, .int 0, .ref qa109, .ref qa114, .ref qa119, .ref qa124, .ref qa129, .ref qm134, .ref qm140, .ref qa146, .ref qa151, .ref qa156, .ref qa161, .ref qa166, .ref qa171, .ref qa176, .ref qa181, .ref qa186, .ref qa191, .ref qa196, .ref qa201, .ref qa206, .int 0, .int 0, .int 0, .ref qa211, .ref qa216, .ref qa221, .ref qa226, .int 0, .int 0, .ref qa231, .null, .null, .null, .int 0]))] ++ va_pl L234 E233) H := hP
  have hD : va_D A ([(o, .inr (12, [.ref qa1, .int 0, .int 0, .int 0, .int 0, .ref qa6, .ref qa11, .ref qa16, .ref qa21, .ref qa26, .ref qm31, .ref qm37, .ref qm43, .ref qm49, .int 0, .int 0, .ref qm55, .ref qm61, .ref qm67, .ref qm73, .ref qa79, .ref qa84, .ref qa89, .ref qa94, .ref qa99, .ref qa104, .int 0, .int 0, .int 0, .int 0, .ref qa109, .ref qa114, .ref qa119, .ref qa124, .ref qa129, .ref qm134, .ref qm140, .ref qa146, .ref qa151, .ref qa156, .ref qa161, .ref qa166, .ref qa171, .ref qa176, .ref qa181, .ref qa186, .ref qa191, .ref qa196, .ref qa201, .ref qa206, .int 0, .int 0, .int 0, .ref qa211, .ref qa216, .ref qa221, .ref qa226, .int 0, .int 0, .ref qa231, .null, .null, .null, .int 0]))] ++ va_pl L234 E233) := hD
  refine lv_aload_n hx hb dX12_init_428 rfl (lv_at hl 0 rfl) ?_
  refine lv_sipush (v := 150) hx hb dX12_init_429 (by decide) ?_
  refine cx_newa (cs := cs) (atype := .boolean) (ty := .boolean) (a0 := (150, .inl (fun _ => 0))) hx hb hB cw_1386 rfl cx_ra_boolean 3 rfl hK hP hD hS hA (fun _ => rfl) (by decide) (by decide) (Nat.le_of_ble_eq_true rfl) (Nat.le_of_ble_eq_true rfl) (Nat.le_of_ble_eq_true rfl) dX12_init_432 (fun qa236 H hP hD hS => ?_)
  obtain ⟨kp237, E238, hP, hD, hT, hx240, hkqa236, hqqa236, hnqa236⟩ := tw_abs (k := 364) hP hD hT (fun _ _ _ => ⟨by decide, rfl, rfl, (fun _ _ => (show (0 : Int) ≤ ((0 : Int32)).toInt ∧ ((0 : Int32)).toInt ≤ 1 from by decide))⟩)
  obtain ⟨L239, hL⟩ : ∃ z, z = L234 ++ [qa236] := ⟨_, rfl⟩
  have hmqa236 : qa236 ∈ L239 := by rw [hL]; simp
  rw [← hL] at hP hD hT hx240
  have hnqa236 : qa236 ∉ L0 := fun z => hnqa236 (hex _ z).1
  have hex : ∀ a : Nat, a ∈ L0 → a ∈ L239 ∧ kp237 a = kp0 a ∧ E238 a = E0 a := fun a h => ⟨(hx240 a (hex a h).1).1, ((hx240 a (hex a h).1).2.1).trans (hex a h).2.1, ((hx240 a (hex a h).1).2.2).trans (hex a h).2.2⟩
  have hvqa1 := (hx240 qa1 hmqa1).2
  have hmqa1 : qa1 ∈ L239 := (hx240 qa1 hmqa1).1
  have hkqa1 : kp237 qa1 = 300 := (hvqa1.1).trans hkqa1
  have hvqa6 := (hx240 qa6 hmqa6).2
  have hmqa6 : qa6 ∈ L239 := (hx240 qa6 hmqa6).1
  have hkqa6 : kp237 qa6 = 301 := (hvqa6.1).trans hkqa6
  have hvqa11 := (hx240 qa11 hmqa11).2
  have hmqa11 : qa11 ∈ L239 := (hx240 qa11 hmqa11).1
  have hkqa11 : kp237 qa11 = 302 := (hvqa11.1).trans hkqa11
  have hvqa16 := (hx240 qa16 hmqa16).2
  have hmqa16 : qa16 ∈ L239 := (hx240 qa16 hmqa16).1
  have hkqa16 : kp237 qa16 = 303 := (hvqa16.1).trans hkqa16
  have hvqa21 := (hx240 qa21 hmqa21).2
  have hmqa21 : qa21 ∈ L239 := (hx240 qa21 hmqa21).1
  have hkqa21 : kp237 qa21 = 304 := (hvqa21.1).trans hkqa21
  have hvqa26 := (hx240 qa26 hmqa26).2
  have hmqa26 : qa26 ∈ L239 := (hx240 qa26 hmqa26).1
  have hkqa26 : kp237 qa26 = 305 := (hvqa26.1).trans hkqa26
  have hvqm31 := (hx240 qm31 hmqm31).2
  have hmqm31 : qm31 ∈ L239 := (hx240 qm31 hmqm31).1
  have hkqm31 : kp237 qm31 = 310 := (hvqm31.1).trans hkqm31
  have hvqm37 := (hx240 qm37 hmqm37).2
  have hmqm37 : qm37 ∈ L239 := (hx240 qm37 hmqm37).1
  have hkqm37 : kp237 qm37 = 311 := (hvqm37.1).trans hkqm37
  have hvqm43 := (hx240 qm43 hmqm43).2
  have hmqm43 : qm43 ∈ L239 := (hx240 qm43 hmqm43).1
  have hkqm43 : kp237 qm43 = 312 := (hvqm43.1).trans hkqm43
  have hvqm49 := (hx240 qm49 hmqm49).2
  have hmqm49 : qm49 ∈ L239 := (hx240 qm49 hmqm49).1
  have hkqm49 : kp237 qm49 = 313 := (hvqm49.1).trans hkqm49
  have hvqm55 := (hx240 qm55 hmqm55).2
  have hmqm55 : qm55 ∈ L239 := (hx240 qm55 hmqm55).1
  have hkqm55 : kp237 qm55 = 316 := (hvqm55.1).trans hkqm55
  have hvqm61 := (hx240 qm61 hmqm61).2
  have hmqm61 : qm61 ∈ L239 := (hx240 qm61 hmqm61).1
  have hkqm61 : kp237 qm61 = 317 := (hvqm61.1).trans hkqm61
  have hvqm67 := (hx240 qm67 hmqm67).2
  have hmqm67 : qm67 ∈ L239 := (hx240 qm67 hmqm67).1
  have hkqm67 : kp237 qm67 = 318 := (hvqm67.1).trans hkqm67
  have hvqm73 := (hx240 qm73 hmqm73).2
  have hmqm73 : qm73 ∈ L239 := (hx240 qm73 hmqm73).1
  have hkqm73 : kp237 qm73 = 319 := (hvqm73.1).trans hkqm73
  have hvqa79 := (hx240 qa79 hmqa79).2
  have hmqa79 : qa79 ∈ L239 := (hx240 qa79 hmqa79).1
  have hkqa79 : kp237 qa79 = 330 := (hvqa79.1).trans hkqa79
  have hvqa84 := (hx240 qa84 hmqa84).2
  have hmqa84 : qa84 ∈ L239 := (hx240 qa84 hmqa84).1
  have hkqa84 : kp237 qa84 = 331 := (hvqa84.1).trans hkqa84
  have hvqa89 := (hx240 qa89 hmqa89).2
  have hmqa89 : qa89 ∈ L239 := (hx240 qa89 hmqa89).1
  have hkqa89 : kp237 qa89 = 332 := (hvqa89.1).trans hkqa89
  have hvqa94 := (hx240 qa94 hmqa94).2
  have hmqa94 : qa94 ∈ L239 := (hx240 qa94 hmqa94).1
  have hkqa94 : kp237 qa94 = 333 := (hvqa94.1).trans hkqa94
  have hvqa99 := (hx240 qa99 hmqa99).2
  have hmqa99 : qa99 ∈ L239 := (hx240 qa99 hmqa99).1
  have hkqa99 : kp237 qa99 = 334 := (hvqa99.1).trans hkqa99
  have hvqa104 := (hx240 qa104 hmqa104).2
  have hmqa104 : qa104 ∈ L239 := (hx240 qa104 hmqa104).1
  have hkqa104 : kp237 qa104 = 335 := (hvqa104.1).trans hkqa104
  have hvqa109 := (hx240 qa109 hmqa109).2
  have hmqa109 : qa109 ∈ L239 := (hx240 qa109 hmqa109).1
  have hkqa109 : kp237 qa109 = 336 := (hvqa109.1).trans hkqa109
  have hvqa114 := (hx240 qa114 hmqa114).2
  have hmqa114 : qa114 ∈ L239 := (hx240 qa114 hmqa114).1
  have hkqa114 : kp237 qa114 = 337 := (hvqa114.1).trans hkqa114
  have hvqa119 := (hx240 qa119 hmqa119).2
  have hmqa119 : qa119 ∈ L239 := (hx240 qa119 hmqa119).1
  have hkqa119 : kp237 qa119 = 338 := (hvqa119.1).trans hkqa119
  have hvqa124 := (hx240 qa124 hmqa124).2
  have hmqa124 : qa124 ∈ L239 := (hx240 qa124 hmqa124).1
  have hkqa124 : kp237 qa124 = 339 := (hvqa124.1).trans hkqa124
  have hvqa129 := (hx240 qa129 hmqa129).2
  have hmqa129 : qa129 ∈ L239 := (hx240 qa129 hmqa129).1
  have hkqa129 : kp237 qa129 = 340 := (hvqa129.1).trans hkqa129
  have hvqm134 := (hx240 qm134 hmqm134).2
  have hmqm134 : qm134 ∈ L239 := (hx240 qm134 hmqm134).1
  have hkqm134 : kp237 qm134 = 341 := (hvqm134.1).trans hkqm134
  have hvqm140 := (hx240 qm140 hmqm140).2
  have hmqm140 : qm140 ∈ L239 := (hx240 qm140 hmqm140).1
  have hkqm140 : kp237 qm140 = 342 := (hvqm140.1).trans hkqm140
  have hvqa146 := (hx240 qa146 hmqa146).2
  have hmqa146 : qa146 ∈ L239 := (hx240 qa146 hmqa146).1
  have hkqa146 : kp237 qa146 = 343 := (hvqa146.1).trans hkqa146
  have hvqa151 := (hx240 qa151 hmqa151).2
  have hmqa151 : qa151 ∈ L239 := (hx240 qa151 hmqa151).1
  have hkqa151 : kp237 qa151 = 344 := (hvqa151.1).trans hkqa151
  have hvqa156 := (hx240 qa156 hmqa156).2
  have hmqa156 : qa156 ∈ L239 := (hx240 qa156 hmqa156).1
  have hkqa156 : kp237 qa156 = 345 := (hvqa156.1).trans hkqa156
  have hvqa161 := (hx240 qa161 hmqa161).2
  have hmqa161 : qa161 ∈ L239 := (hx240 qa161 hmqa161).1
  have hkqa161 : kp237 qa161 = 346 := (hvqa161.1).trans hkqa161
  have hvqa166 := (hx240 qa166 hmqa166).2
  have hmqa166 : qa166 ∈ L239 := (hx240 qa166 hmqa166).1
  have hkqa166 : kp237 qa166 = 347 := (hvqa166.1).trans hkqa166
  have hvqa171 := (hx240 qa171 hmqa171).2
  have hmqa171 : qa171 ∈ L239 := (hx240 qa171 hmqa171).1
  have hkqa171 : kp237 qa171 = 348 := (hvqa171.1).trans hkqa171
  have hvqa176 := (hx240 qa176 hmqa176).2
  have hmqa176 : qa176 ∈ L239 := (hx240 qa176 hmqa176).1
  have hkqa176 : kp237 qa176 = 349 := (hvqa176.1).trans hkqa176
  have hvqa181 := (hx240 qa181 hmqa181).2
  have hmqa181 : qa181 ∈ L239 := (hx240 qa181 hmqa181).1
  have hkqa181 : kp237 qa181 = 353 := (hvqa181.1).trans hkqa181
  have hvqa186 := (hx240 qa186 hmqa186).2
  have hmqa186 : qa186 ∈ L239 := (hx240 qa186 hmqa186).1
  have hkqa186 : kp237 qa186 = 354 := (hvqa186.1).trans hkqa186
  have hvqa191 := (hx240 qa191 hmqa191).2
  have hmqa191 : qa191 ∈ L239 := (hx240 qa191 hmqa191).1
  have hkqa191 : kp237 qa191 = 355 := (hvqa191.1).trans hkqa191
  have hvqa196 := (hx240 qa196 hmqa196).2
  have hmqa196 : qa196 ∈ L239 := (hx240 qa196 hmqa196).1
  have hkqa196 : kp237 qa196 = 356 := (hvqa196.1).trans hkqa196
  have hvqa201 := (hx240 qa201 hmqa201).2
  have hmqa201 : qa201 ∈ L239 := (hx240 qa201 hmqa201).1
  have hkqa201 : kp237 qa201 = 357 := (hvqa201.1).trans hkqa201
  have hvqa206 := (hx240 qa206 hmqa206).2
  have hmqa206 : qa206 ∈ L239 := (hx240 qa206 hmqa206).1
  have hkqa206 : kp237 qa206 = 358 := (hvqa206.1).trans hkqa206
  have hvqa211 := (hx240 qa211 hmqa211).2
  have hmqa211 : qa211 ∈ L239 := (hx240 qa211 hmqa211).1
  have hkqa211 : kp237 qa211 = 359 := (hvqa211.1).trans hkqa211
  have hvqa216 := (hx240 qa216 hmqa216).2
  have hmqa216 : qa216 ∈ L239 := (hx240 qa216 hmqa216).1
  have hkqa216 : kp237 qa216 = 360 := (hvqa216.1).trans hkqa216
  have hvqa221 := (hx240 qa221 hmqa221).2
  have hmqa221 : qa221 ∈ L239 := (hx240 qa221 hmqa221).1
  have hkqa221 : kp237 qa221 = 361 := (hvqa221.1).trans hkqa221
  have hvqa226 := (hx240 qa226 hmqa226).2
  have hmqa226 : qa226 ∈ L239 := (hx240 qa226 hmqa226).1
  have hkqa226 : kp237 qa226 = 362 := (hvqa226.1).trans hkqa226
  have hvqa231 := (hx240 qa231 hmqa231).2
  have hmqa231 : qa231 ∈ L239 := (hx240 qa231 hmqa231).1
  have hkqa231 : kp237 qa231 = 363 := (hvqa231.1).trans hkqa231
  have hqqm31 : E238 qm31 = gd_out (cs 4) 10 rr32 := (hvqm31.2).trans hqqm31
  have hqqm37 : E238 qm37 = gd_out (cs 4) 10 rr38 := (hvqm37.2).trans hqqm37
  have hqqm55 : E238 qm55 = gd_out (cs 5) 16 rr56 := (hvqm55.2).trans hqqm55
  have hqqm67 : E238 qm67 = gd_out (cs 4) 16 rr68 := (hvqm67.2).trans hqqm67
  have hqqa114 : E238 qa114 = .inl (cs 0, 10, .inl (fun _ => 0)) := (hvqa114.2).trans hqqa114
  have hqqa119 : E238 qa119 = .inl (cs 0, 10, .inl (fun _ => 0)) := (hvqa119.2).trans hqqa119
  have hsqm55 : ∀ j : Nat, j < 16 → rr56 j ∈ L239 ∧ E238 (rr56 j) = .inl (cs 3, (150, .inl (fun _ => 0))) := fun j hj => ⟨(hx240 _ (hsqm55 j hj).1).1, ((hx240 _ (hsqm55 j hj).1).2.2).trans (hsqm55 j hj).2⟩
  refine va_putF (D := D) (ci := 12) (v := .ref qa236) (ty := .array .boolean) (C := RX12) (T := TX12) (N := 64) hx hb hB cx_inX12 tyX12 tyX12_ok nmX12 hown hK hP hD hS 0 rfl rfl 60 (by decide) (hB _ cw_1253) (fun _ h9 => h9) rfl hnm rfl (by decide +kernel) rfl rfl (Nat.le_of_ble_eq_true rfl) dX12_init_434 (fun H locs hP hD hS => ?_)
  have hP : va_P D vwCl ([(o, .inr (12, [.ref qa1, .int 0, .int 0, .int 0, .int 0, .ref qa6, .ref qa11, .ref qa16, .ref qa21, .ref qa26, .ref qm31, .ref qm37, .ref qm43, .ref qm49, .int 0, .int 0, .ref qm55, .ref qm61, .ref qm67, .ref qm73, .ref qa79, .ref qa84, .ref qa89, .ref qa94, .ref qa99, .ref qa104, .int 0, .int 0, .int 0, .int 0, .ref qa109, .ref qa114, .ref qa119, .ref qa124, .ref qa129, .ref qm134, .ref qm140, .ref qa146, .ref qa151, .ref qa156, .ref qa161, .ref qa166, .ref qa171, .ref qa176, .ref qa181, .ref qa186, .ref qa191, .ref qa196, .ref qa201, .ref qa206, .int 0, .int 0, .int 0, .ref qa211, .ref qa216, .ref qa221, .ref qa226, .int 0, .int 0, .ref qa231, .ref qa236, .null, .null, .int 0]))] ++ va_pl L239 E238) H := hP
  have hD : va_D A ([(o, .inr (12, [.ref qa1, .int 0, .int 0, .int 0, .int 0, .ref qa6, .ref qa11, .ref qa16, .ref qa21, .ref qa26, .ref qm31, .ref qm37, .ref qm43, .ref qm49, .int 0, .int 0, .ref qm55, .ref qm61, .ref qm67, .ref qm73, .ref qa79, .ref qa84, .ref qa89, .ref qa94, .ref qa99, .ref qa104, .int 0, .int 0, .int 0, .int 0, .ref qa109, .ref qa114, .ref qa119, .ref qa124, .ref qa129, .ref qm134, .ref qm140, .ref qa146, .ref qa151, .ref qa156, .ref qa161, .ref qa166, .ref qa171, .ref qa176, .ref qa181, .ref qa186, .ref qa191, .ref qa196, .ref qa201, .ref qa206, .int 0, .int 0, .int 0, .ref qa211, .ref qa216, .ref qa221, .ref qa226, .int 0, .int 0, .ref qa231, .ref qa236, .null, .null, .int 0]))] ++ va_pl L239 E238) := hD
  refine lv_aload_n hx hb dX12_init_437 rfl (lv_at hl 0 rfl) ?_
  refine lv_sipush (v := 1200) hx hb dX12_init_438 (by decide) ?_
  refine cx_newa (cs := cs) (atype := .int) (ty := .int) (a0 := (1200, .inl (fun _ => 0))) hx hb hB cw_59 rfl cx_ra_int 0 rfl hK hP hD hS hA (fun _ => rfl) (by decide) (by decide) (Nat.le_of_ble_eq_true rfl) (Nat.le_of_ble_eq_true rfl) (Nat.le_of_ble_eq_true rfl) dX12_init_441 (fun qa241 H hP hD hS => ?_)
  obtain ⟨kp242, E243, hP, hD, hT, hx245, hkqa241, hqqa241, hnqa241⟩ := tw_abs (k := 365) hP hD hT (fun _ _ _ => ⟨by decide, rfl, rfl, (fun _ _ => (show ((-2147483648) : Int) ≤ ((0 : Int32)).toInt ∧ ((0 : Int32)).toInt ≤ 2147483647 from by decide))⟩)
  obtain ⟨L244, hL⟩ : ∃ z, z = L239 ++ [qa241] := ⟨_, rfl⟩
  have hmqa241 : qa241 ∈ L244 := by rw [hL]; simp
  rw [← hL] at hP hD hT hx245
  have hnqa241 : qa241 ∉ L0 := fun z => hnqa241 (hex _ z).1
  have hex : ∀ a : Nat, a ∈ L0 → a ∈ L244 ∧ kp242 a = kp0 a ∧ E243 a = E0 a := fun a h => ⟨(hx245 a (hex a h).1).1, ((hx245 a (hex a h).1).2.1).trans (hex a h).2.1, ((hx245 a (hex a h).1).2.2).trans (hex a h).2.2⟩
  have hvqa1 := (hx245 qa1 hmqa1).2
  have hmqa1 : qa1 ∈ L244 := (hx245 qa1 hmqa1).1
  have hkqa1 : kp242 qa1 = 300 := (hvqa1.1).trans hkqa1
  have hvqa6 := (hx245 qa6 hmqa6).2
  have hmqa6 : qa6 ∈ L244 := (hx245 qa6 hmqa6).1
  have hkqa6 : kp242 qa6 = 301 := (hvqa6.1).trans hkqa6
  have hvqa11 := (hx245 qa11 hmqa11).2
  have hmqa11 : qa11 ∈ L244 := (hx245 qa11 hmqa11).1
  have hkqa11 : kp242 qa11 = 302 := (hvqa11.1).trans hkqa11
  have hvqa16 := (hx245 qa16 hmqa16).2
  have hmqa16 : qa16 ∈ L244 := (hx245 qa16 hmqa16).1
  have hkqa16 : kp242 qa16 = 303 := (hvqa16.1).trans hkqa16
  have hvqa21 := (hx245 qa21 hmqa21).2
  have hmqa21 : qa21 ∈ L244 := (hx245 qa21 hmqa21).1
  have hkqa21 : kp242 qa21 = 304 := (hvqa21.1).trans hkqa21
  have hvqa26 := (hx245 qa26 hmqa26).2
  have hmqa26 : qa26 ∈ L244 := (hx245 qa26 hmqa26).1
  have hkqa26 : kp242 qa26 = 305 := (hvqa26.1).trans hkqa26
  have hvqm31 := (hx245 qm31 hmqm31).2
  have hmqm31 : qm31 ∈ L244 := (hx245 qm31 hmqm31).1
  have hkqm31 : kp242 qm31 = 310 := (hvqm31.1).trans hkqm31
  have hvqm37 := (hx245 qm37 hmqm37).2
  have hmqm37 : qm37 ∈ L244 := (hx245 qm37 hmqm37).1
  have hkqm37 : kp242 qm37 = 311 := (hvqm37.1).trans hkqm37
  have hvqm43 := (hx245 qm43 hmqm43).2
  have hmqm43 : qm43 ∈ L244 := (hx245 qm43 hmqm43).1
  have hkqm43 : kp242 qm43 = 312 := (hvqm43.1).trans hkqm43
  have hvqm49 := (hx245 qm49 hmqm49).2
  have hmqm49 : qm49 ∈ L244 := (hx245 qm49 hmqm49).1
  have hkqm49 : kp242 qm49 = 313 := (hvqm49.1).trans hkqm49
  have hvqm55 := (hx245 qm55 hmqm55).2
  have hmqm55 : qm55 ∈ L244 := (hx245 qm55 hmqm55).1
  have hkqm55 : kp242 qm55 = 316 := (hvqm55.1).trans hkqm55
  have hvqm61 := (hx245 qm61 hmqm61).2
  have hmqm61 : qm61 ∈ L244 := (hx245 qm61 hmqm61).1
  have hkqm61 : kp242 qm61 = 317 := (hvqm61.1).trans hkqm61
  have hvqm67 := (hx245 qm67 hmqm67).2
  have hmqm67 : qm67 ∈ L244 := (hx245 qm67 hmqm67).1
  have hkqm67 : kp242 qm67 = 318 := (hvqm67.1).trans hkqm67
  have hvqm73 := (hx245 qm73 hmqm73).2
  have hmqm73 : qm73 ∈ L244 := (hx245 qm73 hmqm73).1
  have hkqm73 : kp242 qm73 = 319 := (hvqm73.1).trans hkqm73
  have hvqa79 := (hx245 qa79 hmqa79).2
  have hmqa79 : qa79 ∈ L244 := (hx245 qa79 hmqa79).1
  have hkqa79 : kp242 qa79 = 330 := (hvqa79.1).trans hkqa79
  have hvqa84 := (hx245 qa84 hmqa84).2
  have hmqa84 : qa84 ∈ L244 := (hx245 qa84 hmqa84).1
  have hkqa84 : kp242 qa84 = 331 := (hvqa84.1).trans hkqa84
  have hvqa89 := (hx245 qa89 hmqa89).2
  have hmqa89 : qa89 ∈ L244 := (hx245 qa89 hmqa89).1
  have hkqa89 : kp242 qa89 = 332 := (hvqa89.1).trans hkqa89
  have hvqa94 := (hx245 qa94 hmqa94).2
  have hmqa94 : qa94 ∈ L244 := (hx245 qa94 hmqa94).1
  have hkqa94 : kp242 qa94 = 333 := (hvqa94.1).trans hkqa94
  have hvqa99 := (hx245 qa99 hmqa99).2
  have hmqa99 : qa99 ∈ L244 := (hx245 qa99 hmqa99).1
  have hkqa99 : kp242 qa99 = 334 := (hvqa99.1).trans hkqa99
  have hvqa104 := (hx245 qa104 hmqa104).2
  have hmqa104 : qa104 ∈ L244 := (hx245 qa104 hmqa104).1
  have hkqa104 : kp242 qa104 = 335 := (hvqa104.1).trans hkqa104
  have hvqa109 := (hx245 qa109 hmqa109).2
  have hmqa109 : qa109 ∈ L244 := (hx245 qa109 hmqa109).1
  have hkqa109 : kp242 qa109 = 336 := (hvqa109.1).trans hkqa109
  have hvqa114 := (hx245 qa114 hmqa114).2
  have hmqa114 : qa114 ∈ L244 := (hx245 qa114 hmqa114).1
  have hkqa114 : kp242 qa114 = 337 := (hvqa114.1).trans hkqa114
  have hvqa119 := (hx245 qa119 hmqa119).2
  have hmqa119 : qa119 ∈ L244 := (hx245 qa119 hmqa119).1
  have hkqa119 : kp242 qa119 = 338 := (hvqa119.1).trans hkqa119
  have hvqa124 := (hx245 qa124 hmqa124).2
  have hmqa124 : qa124 ∈ L244 := (hx245 qa124 hmqa124).1
  have hkqa124 : kp242 qa124 = 339 := (hvqa124.1).trans hkqa124
  have hvqa129 := (hx245 qa129 hmqa129).2
  have hmqa129 : qa129 ∈ L244 := (hx245 qa129 hmqa129).1
  have hkqa129 : kp242 qa129 = 340 := (hvqa129.1).trans hkqa129
  have hvqm134 := (hx245 qm134 hmqm134).2
  have hmqm134 : qm134 ∈ L244 := (hx245 qm134 hmqm134).1
  have hkqm134 : kp242 qm134 = 341 := (hvqm134.1).trans hkqm134
  have hvqm140 := (hx245 qm140 hmqm140).2
  have hmqm140 : qm140 ∈ L244 := (hx245 qm140 hmqm140).1
  have hkqm140 : kp242 qm140 = 342 := (hvqm140.1).trans hkqm140
  have hvqa146 := (hx245 qa146 hmqa146).2
  have hmqa146 : qa146 ∈ L244 := (hx245 qa146 hmqa146).1
  have hkqa146 : kp242 qa146 = 343 := (hvqa146.1).trans hkqa146
  have hvqa151 := (hx245 qa151 hmqa151).2
  have hmqa151 : qa151 ∈ L244 := (hx245 qa151 hmqa151).1
  have hkqa151 : kp242 qa151 = 344 := (hvqa151.1).trans hkqa151
  have hvqa156 := (hx245 qa156 hmqa156).2
  have hmqa156 : qa156 ∈ L244 := (hx245 qa156 hmqa156).1
  have hkqa156 : kp242 qa156 = 345 := (hvqa156.1).trans hkqa156
  have hvqa161 := (hx245 qa161 hmqa161).2
  have hmqa161 : qa161 ∈ L244 := (hx245 qa161 hmqa161).1
  have hkqa161 : kp242 qa161 = 346 := (hvqa161.1).trans hkqa161
  have hvqa166 := (hx245 qa166 hmqa166).2
  have hmqa166 : qa166 ∈ L244 := (hx245 qa166 hmqa166).1
  have hkqa166 : kp242 qa166 = 347 := (hvqa166.1).trans hkqa166
  have hvqa171 := (hx245 qa171 hmqa171).2
  have hmqa171 : qa171 ∈ L244 := (hx245 qa171 hmqa171).1
  have hkqa171 : kp242 qa171 = 348 := (hvqa171.1).trans hkqa171
  have hvqa176 := (hx245 qa176 hmqa176).2
  have hmqa176 : qa176 ∈ L244 := (hx245 qa176 hmqa176).1
  have hkqa176 : kp242 qa176 = 349 := (hvqa176.1).trans hkqa176
  have hvqa181 := (hx245 qa181 hmqa181).2
  have hmqa181 : qa181 ∈ L244 := (hx245 qa181 hmqa181).1
  have hkqa181 : kp242 qa181 = 353 := (hvqa181.1).trans hkqa181
  have hvqa186 := (hx245 qa186 hmqa186).2
  have hmqa186 : qa186 ∈ L244 := (hx245 qa186 hmqa186).1
  have hkqa186 : kp242 qa186 = 354 := (hvqa186.1).trans hkqa186
  have hvqa191 := (hx245 qa191 hmqa191).2
  have hmqa191 : qa191 ∈ L244 := (hx245 qa191 hmqa191).1
  have hkqa191 : kp242 qa191 = 355 := (hvqa191.1).trans hkqa191
  have hvqa196 := (hx245 qa196 hmqa196).2
  have hmqa196 : qa196 ∈ L244 := (hx245 qa196 hmqa196).1
  have hkqa196 : kp242 qa196 = 356 := (hvqa196.1).trans hkqa196
  have hvqa201 := (hx245 qa201 hmqa201).2
  have hmqa201 : qa201 ∈ L244 := (hx245 qa201 hmqa201).1
  have hkqa201 : kp242 qa201 = 357 := (hvqa201.1).trans hkqa201
  have hvqa206 := (hx245 qa206 hmqa206).2
  have hmqa206 : qa206 ∈ L244 := (hx245 qa206 hmqa206).1
  have hkqa206 : kp242 qa206 = 358 := (hvqa206.1).trans hkqa206
  have hvqa211 := (hx245 qa211 hmqa211).2
  have hmqa211 : qa211 ∈ L244 := (hx245 qa211 hmqa211).1
  have hkqa211 : kp242 qa211 = 359 := (hvqa211.1).trans hkqa211
  have hvqa216 := (hx245 qa216 hmqa216).2
  have hmqa216 : qa216 ∈ L244 := (hx245 qa216 hmqa216).1
  have hkqa216 : kp242 qa216 = 360 := (hvqa216.1).trans hkqa216
  have hvqa221 := (hx245 qa221 hmqa221).2
  have hmqa221 : qa221 ∈ L244 := (hx245 qa221 hmqa221).1
  have hkqa221 : kp242 qa221 = 361 := (hvqa221.1).trans hkqa221
  have hvqa226 := (hx245 qa226 hmqa226).2
  have hmqa226 : qa226 ∈ L244 := (hx245 qa226 hmqa226).1
  have hkqa226 : kp242 qa226 = 362 := (hvqa226.1).trans hkqa226
  have hvqa231 := (hx245 qa231 hmqa231).2
  have hmqa231 : qa231 ∈ L244 := (hx245 qa231 hmqa231).1
  have hkqa231 : kp242 qa231 = 363 := (hvqa231.1).trans hkqa231
  have hvqa236 := (hx245 qa236 hmqa236).2
  have hmqa236 : qa236 ∈ L244 := (hx245 qa236 hmqa236).1
  have hkqa236 : kp242 qa236 = 364 := (hvqa236.1).trans hkqa236
  have hqqm31 : E243 qm31 = gd_out (cs 4) 10 rr32 := (hvqm31.2).trans hqqm31
  have hqqm37 : E243 qm37 = gd_out (cs 4) 10 rr38 := (hvqm37.2).trans hqqm37
  have hqqm55 : E243 qm55 = gd_out (cs 5) 16 rr56 := (hvqm55.2).trans hqqm55
  have hqqm67 : E243 qm67 = gd_out (cs 4) 16 rr68 := (hvqm67.2).trans hqqm67
  have hqqa114 : E243 qa114 = .inl (cs 0, 10, .inl (fun _ => 0)) := (hvqa114.2).trans hqqa114
  have hqqa119 : E243 qa119 = .inl (cs 0, 10, .inl (fun _ => 0)) := (hvqa119.2).trans hqqa119
  have hsqm55 : ∀ j : Nat, j < 16 → rr56 j ∈ L244 ∧ E243 (rr56 j) = .inl (cs 3, (150, .inl (fun _ => 0))) := fun j hj => ⟨(hx245 _ (hsqm55 j hj).1).1, ((hx245 _ (hsqm55 j hj).1).2.2).trans (hsqm55 j hj).2⟩
  refine va_putF (D := D) (ci := 12) (v := .ref qa241) (ty := .array .int) (C := RX12) (T := TX12) (N := 64) hx hb hB cx_inX12 tyX12 tyX12_ok nmX12 hown hK hP hD hS 0 rfl rfl 61 (by decide) (hB _ cw_1254) (fun _ h9 => h9) rfl hnm rfl (by decide +kernel) rfl rfl (Nat.le_of_ble_eq_true rfl) dX12_init_443 (fun H locs hP hD hS => ?_)
  have hP : va_P D vwCl ([(o, .inr (12, [.ref qa1, .int 0, .int 0, .int 0, .int 0, .ref qa6, .ref qa11, .ref qa16, .ref qa21, .ref qa26, .ref qm31, .ref qm37, .ref qm43, .ref qm49, .int 0, .int 0, .ref qm55, .ref qm61, .ref qm67, .ref qm73, .ref qa79, .ref qa84, .ref qa89, .ref qa94, .ref qa99, .ref qa104, .int 0, .int 0, .int 0, .int 0, .ref qa109, .ref qa114, .ref qa119, .ref qa124, .ref qa129, .ref qm134, .ref qm140, .ref qa146, .ref qa151, .ref qa156, .ref qa161, .ref qa166, .ref qa171, .ref qa176, .ref qa181, .ref qa186, .ref qa191, .ref qa196, .ref qa201, .ref qa206, .int 0, .int 0, .int 0, .ref qa211, .ref qa216, .ref qa221, .ref qa226, .int 0, .int 0, .ref qa231, .ref qa236, .ref qa241, .null, .int 0]))] ++ va_pl L244 E243) H := hP
  have hD : va_D A ([(o, .inr (12, [.ref qa1, .int 0, .int 0, .int 0, .int 0, .ref qa6, .ref qa11, .ref qa16, .ref qa21, .ref qa26, .ref qm31, .ref qm37, .ref qm43, .ref qm49, .int 0, .int 0, .ref qm55, .ref qm61, .ref qm67, .ref qm73, .ref qa79, .ref qa84, .ref qa89, .ref qa94, .ref qa99, .ref qa104, .int 0, .int 0, .int 0, .int 0, .ref qa109, .ref qa114, .ref qa119, .ref qa124, .ref qa129, .ref qm134, .ref qm140, .ref qa146, .ref qa151, .ref qa156, .ref qa161, .ref qa166, .ref qa171, .ref qa176, .ref qa181, .ref qa186, .ref qa191, .ref qa196, .ref qa201, .ref qa206, .int 0, .int 0, .int 0, .ref qa211, .ref qa216, .ref qa221, .ref qa226, .int 0, .int 0, .ref qa231, .ref qa236, .ref qa241, .null, .int 0]))] ++ va_pl L244 E243) := hD
  refine lv_aload_n hx hb dX12_init_446 rfl (lv_at hl 0 rfl) ?_
  refine lv_sipush (v := 20560) hx hb dX12_init_447 (by decide) ?_
  refine cx_newa (cs := cs) (atype := .byte) (ty := .byte) (a0 := (20560, .inl (fun _ => 0))) hx hb hB cw_622 rfl cx_ra_byte 2 rfl hK hP hD hS hA (fun _ => rfl) (by decide) (by decide) (Nat.le_of_ble_eq_true rfl) (Nat.le_of_ble_eq_true rfl) (Nat.le_of_ble_eq_true rfl) dX12_init_450 (fun qa246 H hP hD hS => ?_)
  obtain ⟨kp247, E248, hP, hD, hT, hx250, hkqa246, hqqa246, hnqa246⟩ := tw_abs (k := 366) hP hD hT (fun _ _ _ => ⟨by decide, rfl, rfl, (fun _ _ => (show ((-128) : Int) ≤ ((0 : Int32)).toInt ∧ ((0 : Int32)).toInt ≤ 127 from by decide))⟩)
  obtain ⟨L249, hL⟩ : ∃ z, z = L244 ++ [qa246] := ⟨_, rfl⟩
  have hmqa246 : qa246 ∈ L249 := by rw [hL]; simp
  rw [← hL] at hP hD hT hx250
  have hnqa246 : qa246 ∉ L0 := fun z => hnqa246 (hex _ z).1
  have hex : ∀ a : Nat, a ∈ L0 → a ∈ L249 ∧ kp247 a = kp0 a ∧ E248 a = E0 a := fun a h => ⟨(hx250 a (hex a h).1).1, ((hx250 a (hex a h).1).2.1).trans (hex a h).2.1, ((hx250 a (hex a h).1).2.2).trans (hex a h).2.2⟩
  have hvqa1 := (hx250 qa1 hmqa1).2
  have hmqa1 : qa1 ∈ L249 := (hx250 qa1 hmqa1).1
  have hkqa1 : kp247 qa1 = 300 := (hvqa1.1).trans hkqa1
  have hvqa6 := (hx250 qa6 hmqa6).2
  have hmqa6 : qa6 ∈ L249 := (hx250 qa6 hmqa6).1
  have hkqa6 : kp247 qa6 = 301 := (hvqa6.1).trans hkqa6
  have hvqa11 := (hx250 qa11 hmqa11).2
  have hmqa11 : qa11 ∈ L249 := (hx250 qa11 hmqa11).1
  have hkqa11 : kp247 qa11 = 302 := (hvqa11.1).trans hkqa11
  have hvqa16 := (hx250 qa16 hmqa16).2
  have hmqa16 : qa16 ∈ L249 := (hx250 qa16 hmqa16).1
  have hkqa16 : kp247 qa16 = 303 := (hvqa16.1).trans hkqa16
  have hvqa21 := (hx250 qa21 hmqa21).2
  have hmqa21 : qa21 ∈ L249 := (hx250 qa21 hmqa21).1
  have hkqa21 : kp247 qa21 = 304 := (hvqa21.1).trans hkqa21
  have hvqa26 := (hx250 qa26 hmqa26).2
  have hmqa26 : qa26 ∈ L249 := (hx250 qa26 hmqa26).1
  have hkqa26 : kp247 qa26 = 305 := (hvqa26.1).trans hkqa26
  have hvqm31 := (hx250 qm31 hmqm31).2
  have hmqm31 : qm31 ∈ L249 := (hx250 qm31 hmqm31).1
  have hkqm31 : kp247 qm31 = 310 := (hvqm31.1).trans hkqm31
  have hvqm37 := (hx250 qm37 hmqm37).2
  have hmqm37 : qm37 ∈ L249 := (hx250 qm37 hmqm37).1
  have hkqm37 : kp247 qm37 = 311 := (hvqm37.1).trans hkqm37
  have hvqm43 := (hx250 qm43 hmqm43).2
  have hmqm43 : qm43 ∈ L249 := (hx250 qm43 hmqm43).1
  have hkqm43 : kp247 qm43 = 312 := (hvqm43.1).trans hkqm43
  have hvqm49 := (hx250 qm49 hmqm49).2
  have hmqm49 : qm49 ∈ L249 := (hx250 qm49 hmqm49).1
  have hkqm49 : kp247 qm49 = 313 := (hvqm49.1).trans hkqm49
  have hvqm55 := (hx250 qm55 hmqm55).2
  have hmqm55 : qm55 ∈ L249 := (hx250 qm55 hmqm55).1
  have hkqm55 : kp247 qm55 = 316 := (hvqm55.1).trans hkqm55
  have hvqm61 := (hx250 qm61 hmqm61).2
  have hmqm61 : qm61 ∈ L249 := (hx250 qm61 hmqm61).1
  have hkqm61 : kp247 qm61 = 317 := (hvqm61.1).trans hkqm61
  have hvqm67 := (hx250 qm67 hmqm67).2
  have hmqm67 : qm67 ∈ L249 := (hx250 qm67 hmqm67).1
  have hkqm67 : kp247 qm67 = 318 := (hvqm67.1).trans hkqm67
  have hvqm73 := (hx250 qm73 hmqm73).2
  have hmqm73 : qm73 ∈ L249 := (hx250 qm73 hmqm73).1
  have hkqm73 : kp247 qm73 = 319 := (hvqm73.1).trans hkqm73
  have hvqa79 := (hx250 qa79 hmqa79).2
  have hmqa79 : qa79 ∈ L249 := (hx250 qa79 hmqa79).1
  have hkqa79 : kp247 qa79 = 330 := (hvqa79.1).trans hkqa79
  have hvqa84 := (hx250 qa84 hmqa84).2
  have hmqa84 : qa84 ∈ L249 := (hx250 qa84 hmqa84).1
  have hkqa84 : kp247 qa84 = 331 := (hvqa84.1).trans hkqa84
  have hvqa89 := (hx250 qa89 hmqa89).2
  have hmqa89 : qa89 ∈ L249 := (hx250 qa89 hmqa89).1
  have hkqa89 : kp247 qa89 = 332 := (hvqa89.1).trans hkqa89
  have hvqa94 := (hx250 qa94 hmqa94).2
  have hmqa94 : qa94 ∈ L249 := (hx250 qa94 hmqa94).1
  have hkqa94 : kp247 qa94 = 333 := (hvqa94.1).trans hkqa94
  have hvqa99 := (hx250 qa99 hmqa99).2
  have hmqa99 : qa99 ∈ L249 := (hx250 qa99 hmqa99).1
  have hkqa99 : kp247 qa99 = 334 := (hvqa99.1).trans hkqa99
  have hvqa104 := (hx250 qa104 hmqa104).2
  have hmqa104 : qa104 ∈ L249 := (hx250 qa104 hmqa104).1
  have hkqa104 : kp247 qa104 = 335 := (hvqa104.1).trans hkqa104
  have hvqa109 := (hx250 qa109 hmqa109).2
  have hmqa109 : qa109 ∈ L249 := (hx250 qa109 hmqa109).1
  have hkqa109 : kp247 qa109 = 336 := (hvqa109.1).trans hkqa109
  have hvqa114 := (hx250 qa114 hmqa114).2
  have hmqa114 : qa114 ∈ L249 := (hx250 qa114 hmqa114).1
  have hkqa114 : kp247 qa114 = 337 := (hvqa114.1).trans hkqa114
  have hvqa119 := (hx250 qa119 hmqa119).2
  have hmqa119 : qa119 ∈ L249 := (hx250 qa119 hmqa119).1
  have hkqa119 : kp247 qa119 = 338 := (hvqa119.1).trans hkqa119
  have hvqa124 := (hx250 qa124 hmqa124).2
  have hmqa124 : qa124 ∈ L249 := (hx250 qa124 hmqa124).1
  have hkqa124 : kp247 qa124 = 339 := (hvqa124.1).trans hkqa124
  have hvqa129 := (hx250 qa129 hmqa129).2
  have hmqa129 : qa129 ∈ L249 := (hx250 qa129 hmqa129).1
  have hkqa129 : kp247 qa129 = 340 := (hvqa129.1).trans hkqa129
  have hvqm134 := (hx250 qm134 hmqm134).2
  have hmqm134 : qm134 ∈ L249 := (hx250 qm134 hmqm134).1
  have hkqm134 : kp247 qm134 = 341 := (hvqm134.1).trans hkqm134
  have hvqm140 := (hx250 qm140 hmqm140).2
  have hmqm140 : qm140 ∈ L249 := (hx250 qm140 hmqm140).1
  have hkqm140 : kp247 qm140 = 342 := (hvqm140.1).trans hkqm140
  have hvqa146 := (hx250 qa146 hmqa146).2
  have hmqa146 : qa146 ∈ L249 := (hx250 qa146 hmqa146).1
  have hkqa146 : kp247 qa146 = 343 := (hvqa146.1).trans hkqa146
  have hvqa151 := (hx250 qa151 hmqa151).2
  have hmqa151 : qa151 ∈ L249 := (hx250 qa151 hmqa151).1
  have hkqa151 : kp247 qa151 = 344 := (hvqa151.1).trans hkqa151
  have hvqa156 := (hx250 qa156 hmqa156).2
  have hmqa156 : qa156 ∈ L249 := (hx250 qa156 hmqa156).1
  have hkqa156 : kp247 qa156 = 345 := (hvqa156.1).trans hkqa156
  have hvqa161 := (hx250 qa161 hmqa161).2
  have hmqa161 : qa161 ∈ L249 := (hx250 qa161 hmqa161).1
  have hkqa161 : kp247 qa161 = 346 := (hvqa161.1).trans hkqa161
  have hvqa166 := (hx250 qa166 hmqa166).2
  have hmqa166 : qa166 ∈ L249 := (hx250 qa166 hmqa166).1
  have hkqa166 : kp247 qa166 = 347 := (hvqa166.1).trans hkqa166
  have hvqa171 := (hx250 qa171 hmqa171).2
  have hmqa171 : qa171 ∈ L249 := (hx250 qa171 hmqa171).1
  have hkqa171 : kp247 qa171 = 348 := (hvqa171.1).trans hkqa171
  have hvqa176 := (hx250 qa176 hmqa176).2
  have hmqa176 : qa176 ∈ L249 := (hx250 qa176 hmqa176).1
  have hkqa176 : kp247 qa176 = 349 := (hvqa176.1).trans hkqa176
  have hvqa181 := (hx250 qa181 hmqa181).2
  have hmqa181 : qa181 ∈ L249 := (hx250 qa181 hmqa181).1
  have hkqa181 : kp247 qa181 = 353 := (hvqa181.1).trans hkqa181
  have hvqa186 := (hx250 qa186 hmqa186).2
  have hmqa186 : qa186 ∈ L249 := (hx250 qa186 hmqa186).1
  have hkqa186 : kp247 qa186 = 354 := (hvqa186.1).trans hkqa186
  have hvqa191 := (hx250 qa191 hmqa191).2
  have hmqa191 : qa191 ∈ L249 := (hx250 qa191 hmqa191).1
  have hkqa191 : kp247 qa191 = 355 := (hvqa191.1).trans hkqa191
  have hvqa196 := (hx250 qa196 hmqa196).2
  have hmqa196 : qa196 ∈ L249 := (hx250 qa196 hmqa196).1
  have hkqa196 : kp247 qa196 = 356 := (hvqa196.1).trans hkqa196
  have hvqa201 := (hx250 qa201 hmqa201).2
  have hmqa201 : qa201 ∈ L249 := (hx250 qa201 hmqa201).1
  have hkqa201 : kp247 qa201 = 357 := (hvqa201.1).trans hkqa201
  have hvqa206 := (hx250 qa206 hmqa206).2
  have hmqa206 : qa206 ∈ L249 := (hx250 qa206 hmqa206).1
  have hkqa206 : kp247 qa206 = 358 := (hvqa206.1).trans hkqa206
  have hvqa211 := (hx250 qa211 hmqa211).2
  have hmqa211 : qa211 ∈ L249 := (hx250 qa211 hmqa211).1
  have hkqa211 : kp247 qa211 = 359 := (hvqa211.1).trans hkqa211
  have hvqa216 := (hx250 qa216 hmqa216).2
  have hmqa216 : qa216 ∈ L249 := (hx250 qa216 hmqa216).1
  have hkqa216 : kp247 qa216 = 360 := (hvqa216.1).trans hkqa216
  have hvqa221 := (hx250 qa221 hmqa221).2
  have hmqa221 : qa221 ∈ L249 := (hx250 qa221 hmqa221).1
  have hkqa221 : kp247 qa221 = 361 := (hvqa221.1).trans hkqa221
  have hvqa226 := (hx250 qa226 hmqa226).2
  have hmqa226 : qa226 ∈ L249 := (hx250 qa226 hmqa226).1
  have hkqa226 : kp247 qa226 = 362 := (hvqa226.1).trans hkqa226
  have hvqa231 := (hx250 qa231 hmqa231).2
  have hmqa231 : qa231 ∈ L249 := (hx250 qa231 hmqa231).1
  have hkqa231 : kp247 qa231 = 363 := (hvqa231.1).trans hkqa231
  have hvqa236 := (hx250 qa236 hmqa236).2
  have hmqa236 : qa236 ∈ L249 := (hx250 qa236 hmqa236).1
  have hkqa236 : kp247 qa236 = 364 := (hvqa236.1).trans hkqa236
  have hvqa241 := (hx250 qa241 hmqa241).2
  have hmqa241 : qa241 ∈ L249 := (hx250 qa241 hmqa241).1
  have hkqa241 : kp247 qa241 = 365 := (hvqa241.1).trans hkqa241
  have hqqm31 : E248 qm31 = gd_out (cs 4) 10 rr32 := (hvqm31.2).trans hqqm31
  have hqqm37 : E248 qm37 = gd_out (cs 4) 10 rr38 := (hvqm37.2).trans hqqm37
  have hqqm55 : E248 qm55 = gd_out (cs 5) 16 rr56 := (hvqm55.2).trans hqqm55
  have hqqm67 : E248 qm67 = gd_out (cs 4) 16 rr68 := (hvqm67.2).trans hqqm67
  have hqqa114 : E248 qa114 = .inl (cs 0, 10, .inl (fun _ => 0)) := (hvqa114.2).trans hqqa114
  have hqqa119 : E248 qa119 = .inl (cs 0, 10, .inl (fun _ => 0)) := (hvqa119.2).trans hqqa119
  have hsqm55 : ∀ j : Nat, j < 16 → rr56 j ∈ L249 ∧ E248 (rr56 j) = .inl (cs 3, (150, .inl (fun _ => 0))) := fun j hj => ⟨(hx250 _ (hsqm55 j hj).1).1, ((hx250 _ (hsqm55 j hj).1).2.2).trans (hsqm55 j hj).2⟩
  refine va_putF (D := D) (ci := 12) (v := .ref qa246) (ty := .array .byte) (C := RX12) (T := TX12) (N := 64) hx hb hB cx_inX12 tyX12 tyX12_ok nmX12 hown hK hP hD hS 0 rfl rfl 62 (by decide) (hB _ cw_1255) (fun _ h9 => h9) rfl hnm rfl (by decide +kernel) rfl rfl (Nat.le_of_ble_eq_true rfl) dX12_init_452 (fun H locs hP hD hS => ?_)
  have hP : va_P D vwCl ([(o, .inr (12, [.ref qa1, .int 0, .int 0, .int 0, .int 0, .ref qa6, .ref qa11, .ref qa16, .ref qa21, .ref qa26, .ref qm31, .ref qm37, .ref qm43, .ref qm49, .int 0, .int 0, .ref qm55, .ref qm61, .ref qm67, .ref qm73, .ref qa79, .ref qa84, .ref qa89, .ref qa94, .ref qa99, .ref qa104, .int 0, .int 0, .int 0, .int 0, .ref qa109, .ref qa114, .ref qa119, .ref qa124, .ref qa129, .ref qm134, .ref qm140, .ref qa146, .ref qa151, .ref qa156, .ref qa161, .ref qa166, .ref qa171, .ref qa176, .ref qa181, .ref qa186, .ref qa191, .ref qa196, .ref qa201, .ref qa206, .int 0, .int 0, .int 0, .ref qa211, .ref qa216, .ref qa221, .ref qa226, .int 0, .int 0, .ref qa231, .ref qa236, .ref qa241, .ref qa246, .int 0]))] ++ va_pl L249 E248) H := hP
  have hD : va_D A ([(o, .inr (12, [.ref qa1, .int 0, .int 0, .int 0, .int 0, .ref qa6, .ref qa11, .ref qa16, .ref qa21, .ref qa26, .ref qm31, .ref qm37, .ref qm43, .ref qm49, .int 0, .int 0, .ref qm55, .ref qm61, .ref qm67, .ref qm73, .ref qa79, .ref qa84, .ref qa89, .ref qa94, .ref qa99, .ref qa104, .int 0, .int 0, .int 0, .int 0, .ref qa109, .ref qa114, .ref qa119, .ref qa124, .ref qa129, .ref qm134, .ref qm140, .ref qa146, .ref qa151, .ref qa156, .ref qa161, .ref qa166, .ref qa171, .ref qa176, .ref qa181, .ref qa186, .ref qa191, .ref qa196, .ref qa201, .ref qa206, .int 0, .int 0, .int 0, .ref qa211, .ref qa216, .ref qa221, .ref qa226, .int 0, .int 0, .ref qa231, .ref qa236, .ref qa241, .ref qa246, .int 0]))] ++ va_pl L249 E248) := hD
  have hf : ∀ (j : Nat) (v : Value), [(.ref qa1 : Value), (.int 0 : Value), (.int 0 : Value), (.int 0 : Value), (.int 0 : Value), (.ref qa6 : Value), (.ref qa11 : Value), (.ref qa16 : Value), (.ref qa21 : Value), (.ref qa26 : Value), (.ref qm31 : Value), (.ref qm37 : Value), (.ref qm43 : Value), (.ref qm49 : Value), (.int 0 : Value), (.int 0 : Value), (.ref qm55 : Value), (.ref qm61 : Value), (.ref qm67 : Value), (.ref qm73 : Value), (.ref qa79 : Value), (.ref qa84 : Value), (.ref qa89 : Value), (.ref qa94 : Value), (.ref qa99 : Value), (.ref qa104 : Value), (.int 0 : Value), (.int 0 : Value), (.int 0 : Value), (.int 0 : Value), (.ref qa109 : Value), (.ref qa114 : Value), (.ref qa119 : Value), (.ref qa124 : Value), (.ref qa129 : Value), (.ref qm134 : Value), (.ref qm140 : Value), (.ref qa146 : Value), (.ref qa151 : Value), (.ref qa156 : Value), (.ref qa161 : Value), (.ref qa166 : Value), (.ref qa171 : Value), (.ref qa176 : Value), (.ref qa181 : Value), (.ref qa186 : Value), (.ref qa191 : Value), (.ref qa196 : Value), (.ref qa201 : Value), (.ref qa206 : Value), (.int 0 : Value), (.int 0 : Value), (.int 0 : Value), (.ref qa211 : Value), (.ref qa216 : Value), (.ref qa221 : Value), (.ref qa226 : Value), (.int 0 : Value), (.int 0 : Value), (.ref qa231 : Value), (.ref qa236 : Value), (.ref qa241 : Value), (.ref qa246 : Value), (.int 0 : Value)][j]? = some v → tw_V kp247 L249 (tw_FT 12 j) v := by
    intro j v hj
    match j, hj with
    | 0, hj => cases hj; exact ⟨qa1, rfl, hmqa1, hkqa1⟩
    | 1, hj => cases hj; exact ⟨0, rfl, (show (0 : Int) ≤ ((0 : Int32)).toInt from by decide), (show ((0 : Int32)).toInt ≤ (500 : Int) from by decide)⟩
    | 2, hj => cases hj; exact ⟨0, rfl, (show (0 : Int) ≤ ((0 : Int32)).toInt from by decide), (show ((0 : Int32)).toInt ≤ (500 : Int) from by decide)⟩
    | 3, hj => cases hj; exact ⟨0, rfl, (show (0 : Int) ≤ ((0 : Int32)).toInt from by decide), (show ((0 : Int32)).toInt ≤ (500 : Int) from by decide)⟩
    | 4, hj => cases hj; exact ⟨0, rfl, (show ((-1) : Int) ≤ ((0 : Int32)).toInt from by decide), (show ((0 : Int32)).toInt ≤ (500 : Int) from by decide)⟩
    | 5, hj => cases hj; exact ⟨qa6, rfl, hmqa6, hkqa6⟩
    | 6, hj => cases hj; exact ⟨qa11, rfl, hmqa11, hkqa11⟩
    | 7, hj => cases hj; exact ⟨qa16, rfl, hmqa16, hkqa16⟩
    | 8, hj => cases hj; exact ⟨qa21, rfl, hmqa21, hkqa21⟩
    | 9, hj => cases hj; exact ⟨qa26, rfl, hmqa26, hkqa26⟩
    | 10, hj => cases hj; exact ⟨qm31, rfl, hmqm31, hkqm31⟩
    | 11, hj => cases hj; exact ⟨qm37, rfl, hmqm37, hkqm37⟩
    | 12, hj => cases hj; exact ⟨qm43, rfl, hmqm43, hkqm43⟩
    | 13, hj => cases hj; exact ⟨qm49, rfl, hmqm49, hkqm49⟩
    | 14, hj => cases hj; exact ⟨0, rfl, (show (0 : Int) ≤ ((0 : Int32)).toInt from by decide), (show ((0 : Int32)).toInt ≤ (10 : Int) from by decide)⟩
    | 15, hj => cases hj; exact ⟨0, rfl, (show (0 : Int) ≤ ((0 : Int32)).toInt from by decide), (show ((0 : Int32)).toInt ≤ (10 : Int) from by decide)⟩
    | 16, hj => cases hj; exact ⟨qm55, rfl, hmqm55, hkqm55⟩
    | 17, hj => cases hj; exact ⟨qm61, rfl, hmqm61, hkqm61⟩
    | 18, hj => cases hj; exact ⟨qm67, rfl, hmqm67, hkqm67⟩
    | 19, hj => cases hj; exact ⟨qm73, rfl, hmqm73, hkqm73⟩
    | 20, hj => cases hj; exact ⟨qa79, rfl, hmqa79, hkqa79⟩
    | 21, hj => cases hj; exact ⟨qa84, rfl, hmqa84, hkqa84⟩
    | 22, hj => cases hj; exact ⟨qa89, rfl, hmqa89, hkqa89⟩
    | 23, hj => cases hj; exact ⟨qa94, rfl, hmqa94, hkqa94⟩
    | 24, hj => cases hj; exact ⟨qa99, rfl, hmqa99, hkqa99⟩
    | 25, hj => cases hj; exact ⟨qa104, rfl, hmqa104, hkqa104⟩
    | 26, hj => cases hj; exact ⟨0, rfl, (show (0 : Int) ≤ ((0 : Int32)).toInt from by decide), (show ((0 : Int32)).toInt ≤ (150 : Int) from by decide)⟩
    | 27, hj => cases hj; exact ⟨0, rfl, (show (0 : Int) ≤ ((0 : Int32)).toInt from by decide), (show ((0 : Int32)).toInt ≤ (12 : Int) from by decide)⟩
    | 28, hj => cases hj; exact ⟨0, rfl, (show (0 : Int) ≤ ((0 : Int32)).toInt from by decide), (show ((0 : Int32)).toInt ≤ (24 : Int) from by decide)⟩
    | 29, hj => cases hj; exact ⟨0, rfl, (show (0 : Int) ≤ ((0 : Int32)).toInt from by decide), (show ((0 : Int32)).toInt ≤ (1 : Int) from by decide)⟩
    | 30, hj => cases hj; exact ⟨qa109, rfl, hmqa109, hkqa109⟩
    | 31, hj => cases hj; exact ⟨qa114, rfl, hmqa114, hkqa114⟩
    | 32, hj => cases hj; exact ⟨qa119, rfl, hmqa119, hkqa119⟩
    | 33, hj => cases hj; exact ⟨qa124, rfl, hmqa124, hkqa124⟩
    | 34, hj => cases hj; exact ⟨qa129, rfl, hmqa129, hkqa129⟩
    | 35, hj => cases hj; exact ⟨qm134, rfl, hmqm134, hkqm134⟩
    | 36, hj => cases hj; exact ⟨qm140, rfl, hmqm140, hkqm140⟩
    | 37, hj => cases hj; exact ⟨qa146, rfl, hmqa146, hkqa146⟩
    | 38, hj => cases hj; exact ⟨qa151, rfl, hmqa151, hkqa151⟩
    | 39, hj => cases hj; exact ⟨qa156, rfl, hmqa156, hkqa156⟩
    | 40, hj => cases hj; exact ⟨qa161, rfl, hmqa161, hkqa161⟩
    | 41, hj => cases hj; exact ⟨qa166, rfl, hmqa166, hkqa166⟩
    | 42, hj => cases hj; exact ⟨qa171, rfl, hmqa171, hkqa171⟩
    | 43, hj => cases hj; exact ⟨qa176, rfl, hmqa176, hkqa176⟩
    | 44, hj => cases hj; exact ⟨qa181, rfl, hmqa181, hkqa181⟩
    | 45, hj => cases hj; exact ⟨qa186, rfl, hmqa186, hkqa186⟩
    | 46, hj => cases hj; exact ⟨qa191, rfl, hmqa191, hkqa191⟩
    | 47, hj => cases hj; exact ⟨qa196, rfl, hmqa196, hkqa196⟩
    | 48, hj => cases hj; exact ⟨qa201, rfl, hmqa201, hkqa201⟩
    | 49, hj => cases hj; exact ⟨qa206, rfl, hmqa206, hkqa206⟩
    | 50, hj => cases hj; exact ⟨0, rfl, (show (0 : Int) ≤ ((0 : Int32)).toInt from by decide), (show ((0 : Int32)).toInt ≤ (40 : Int) from by decide)⟩
    | 51, hj => cases hj; exact ⟨0, rfl, (show ((-2147483648) : Int) ≤ ((0 : Int32)).toInt from by decide), (show ((0 : Int32)).toInt ≤ (2147483647 : Int) from by decide)⟩
    | 52, hj => cases hj; exact ⟨0, rfl, (show (0 : Int) ≤ ((0 : Int32)).toInt from by decide), (show ((0 : Int32)).toInt ≤ (11 : Int) from by decide)⟩
    | 53, hj => cases hj; exact ⟨qa211, rfl, hmqa211, hkqa211⟩
    | 54, hj => cases hj; exact ⟨qa216, rfl, hmqa216, hkqa216⟩
    | 55, hj => cases hj; exact ⟨qa221, rfl, hmqa221, hkqa221⟩
    | 56, hj => cases hj; exact ⟨qa226, rfl, hmqa226, hkqa226⟩
    | 57, hj => cases hj; exact ⟨0, rfl, (show (0 : Int) ≤ ((0 : Int32)).toInt from by decide), (show ((0 : Int32)).toInt ≤ (1200 : Int) from by decide)⟩
    | 58, hj => cases hj; exact ⟨0, rfl, (show (0 : Int) ≤ ((0 : Int32)).toInt from by decide), (show ((0 : Int32)).toInt ≤ (450 : Int) from by decide)⟩
    | 59, hj => cases hj; exact ⟨qa231, rfl, hmqa231, hkqa231⟩
    | 60, hj => cases hj; exact ⟨qa236, rfl, hmqa236, hkqa236⟩
    | 61, hj => cases hj; exact ⟨qa241, rfl, hmqa241, hkqa241⟩
    | 62, hj => cases hj; exact ⟨qa246, rfl, hmqa246, hkqa246⟩
    | 63, hj => cases hj; exact ⟨0, rfl, (show (0 : Int) ≤ ((0 : Int32)).toInt from by decide), (show ((0 : Int32)).toInt ≤ (20560 : Int) from by decide)⟩
    | k + 64, hj => simp at hj
  exact tw_Iret hx hb hr hlocks hP hD hT hS hex (by decide) rfl hf (fun hno E1 he1 hes => ⟨rz_of (by unfold tw_fv; rw [he1]; rfl) (by unfold tw_fv; rw [he1]; rfl) (by unfold tw_fv; rw [he1]; rfl) (by unfold tw_fv; rw [he1]; rfl) (by unfold tw_fv; rw [he1]; rfl) (by unfold tw_fv; rw [he1]; rfl) (by unfold tw_fv; rw [he1]; rfl) (by unfold tw_fv; rw [he1]; rfl) (by unfold tw_fv; rw [he1]; rfl) ((hes _ hmqm31).trans hqqm31) hiqm31 ((hes _ hmqm37).trans hqqm37) hiqm37 ((hes _ hmqm55).trans hqqm55) hiqm55 (fun j hj => (hes _ (hsqm55 j hj).1).trans (hsqm55 j hj).2) ((hes _ hmqm67).trans hqqm67) hiqm67 ((hes _ hmqa114).trans hqqa114) ((hes _ hmqa119).trans hqqa119), (by unfold tw_fv; rw [he1]; rfl), (by unfold tw_fv; rw [he1]; rfl)⟩) (Nat.le_of_ble_eq_true rfl) (Nat.le_of_ble_eq_true rfl) dX12_init_455
