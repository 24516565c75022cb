set_option maxHeartbeats 4000000 in
set_option maxRecDepth 100000 in
theorem tX6_start (l : Launch) (D : va_G) (cs : Nat → ClassId) {kp : Nat → Nat} {L : List Nat} {E : Nat → va_E} (a0 : Nat) (x1 : Int32) (hm0 : a0 ∈ L) (hk0 : kp a0 = 6) (sz : Nat) : Met l yX6_start (.code yX6_start cX6_start 2 none :: cx_big) { frames := 0, cells := 0, slots := 0, locals := 0 } (tw_P D cs kp L E [.ref a0, .int x1] sz) (tw_Q D cs kp L (fun v kq Lq Eq => v = none ∧ kp = kq ∧ L = Lq ∧ tw_fr kp L [(6, 0), (6, 1), (6, 2)] [] E Eq ∧ (∃ z0 : Int32, tw_fv Eq a0 1 = .int z0 ∧ (z0.toInt = 0))) (va_A (va_pl L E) sz)) 0 0 (va_A (va_pl L E) sz) := by
  refine tw_ofW (by decide) (Nat.le_of_ble_eq_true rfl) ?_
  intro p e s m below meth c A ls hx hb hr hml hB hown hlocks hK hN hA TH hS hl
  have hown : s.vm.findClass "TreeMerge$Printer" = some m.cls := hown
  have hl : lv_has ls 2 [(0, .ref a0), (1, .int x1)] := hl
  obtain ⟨kp0, ekp⟩ : ∃ z, z = kp := ⟨_, rfl⟩
  obtain ⟨L0, eL⟩ : ∃ z, z = L := ⟨_, rfl⟩
  rw [show tw_Q D cs kp L = tw_Q D cs kp0 L0 by rw [ekp, eL]]
  have hex : ∀ a : Nat, a ∈ L0 → a ∈ L ∧ kp a = kp0 a := fun a h => ⟨by rw [← eL]; exact h, by rw [ekp]⟩
  have hF : tw_fr kp L [(6, 0), (6, 1), (6, 2)] [] E E := tw_fr.rf
  refine lv_aload_n hx hb dX6_start_0 rfl (lv_at hl 0 rfl) ?_
  refine lv_iload_n hx hb dX6_start_1 rfl (lv_at hl 1 rfl) ?_
  refine tw_put (ci := 6) (v := .int x1) (ty := .int) (C := RX6) (T := TX6) (N := 3) hx hb hB cx_inX6 tyX6 tyX6_ok nmX6 hown hK TH hS hm0 hk0 rfl ⟨by decide, rfl⟩ 0 (by decide) cw_371 (fun _ h9 => h9) rfl (by decide +kernel) rfl rfl ⟨_, rfl, (ia_lo _), (ia_hi _)⟩ dX6_start_2 (fun H locs E1 TH hS hmf5 hp2 hp3 => ?_)
  have hst4 : tw_fr kp L [(6, 0)] [] E E1 := tw_fr.put tw_fr.rf (fun _ => hk0) (by decide) hp2 hp3 (by decide)
  have hF := hF.tr hst4 (fun _ h => ⟨h, rfl⟩) (by decide) (by decide)
  refine lv_aload_n hx hb dX6_start_5 rfl (lv_at hl 0 rfl) ?_
  refine lv_iconst (v := 0) hx hb dX6_start_6 (by decide) ?_
  refine tw_put (ci := 6) (v := .int 0) (ty := .int) (C := RX6) (T := TX6) (N := 3) hx hb hB cx_inX6 tyX6 tyX6_ok nmX6 hown hK TH hS hm0 hk0 rfl ⟨by decide, rfl⟩ 1 (by decide) cw_372 (fun _ h9 => h9) rfl (by decide +kernel) rfl rfl ⟨_, rfl, (show 0 ≤ Int32.toInt 0 from by have : ((0 : Int32).toInt) = 0 := (by decide); omega), (show Int32.toInt 0 ≤ 1000000 from by have : ((0 : Int32).toInt) = 0 := (by decide); omega)⟩ dX6_start_7 (fun H locs E6 TH hS hmf10 hp7 hp8 => ?_)
  have hst9 : tw_fr kp L [(6, 1)] [] E1 E6 := tw_fr.put tw_fr.rf (fun _ => hk0) (by decide) hp7 hp8 (by decide)
  have hF := hF.tr hst9 (fun _ h => ⟨h, rfl⟩) (by decide) (by decide)
  have hmf11 : tw_fv E6 a0 0 = .int x1 := (hst9.1 a0 0 hm0 (by rw [hk0]; decide)).trans hmf5
  refine lv_aload_n hx hb dX6_start_10 rfl (lv_at hl 0 rfl) ?_
  refine lv_iconst (v := (-1)) hx hb dX6_start_11 (by decide) ?_
  refine tw_put (ci := 6) (v := .int (-1)) (ty := .int) (C := RX6) (T := TX6) (N := 3) hx hb hB cx_inX6 tyX6 tyX6_ok nmX6 hown hK TH hS hm0 hk0 rfl ⟨by decide, rfl⟩ 2 (by decide) cw_374 (fun _ h9 => h9) rfl (by decide +kernel) rfl rfl ⟨_, rfl, (ia_lo _), (ia_hi _)⟩ dX6_start_12 (fun H locs E12 TH hS hmf16 hp13 hp14 => ?_)
  have hst15 : tw_fr kp L [(6, 2)] [] E6 E12 := tw_fr.put tw_fr.rf (fun _ => hk0) (by decide) hp13 hp14 (by decide)
  have hF := hF.tr hst15 (fun _ h => ⟨h, rfl⟩) (by decide) (by decide)
  have hmf17 : tw_fv E12 a0 0 = .int x1 := (hst15.1 a0 0 hm0 (by rw [hk0]; decide)).trans hmf11
  have hmf18 : tw_fv E12 a0 1 = .int 0 := (hst15.1 a0 1 hm0 (by rw [hk0]; decide)).trans hmf10
  exact tw_vret hx hb hr hlocks TH hS hex ⟨rfl, rfl, rfl, hF, ⟨(0 : Int32), hmf18, by have : (((-1) : Int32).toInt) = (-1) := (by decide); have : ((0 : Int32).toInt) = 0 := (by decide); omega⟩⟩ (Nat.le_of_ble_eq_true rfl) (Nat.le_of_ble_eq_true rfl) dX6_start_15
set_option maxHeartbeats 4000000 in
set_option maxRecDepth 100000 in
theorem tX6_addSign (l : Launch) (D : va_G) (cs : Nat → ClassId) {kp : Nat → Nat} {L : List Nat} {E : Nat → va_E} (a0 : Nat) (x1 : Int32) (fv0_1 : Int32) (hm0 : a0 ∈ L) (hk0 : kp a0 = 6) (hfv0_1 : tw_fv E a0 1 = .int fv0_1) (hpre0 : fv0_1.toInt ≤ 999999) (sz : Nat) : Met l yX6_addSign (.code yX6_addSign cX6_addSign 2 none :: cx_big) { frames := 0, cells := 0, slots := 0, locals := 0 } (tw_P D cs kp L E [.ref a0, .int x1] sz) (tw_Q D cs kp L (fun v kq Lq Eq => v = none ∧ kp = kq ∧ L = Lq ∧ tw_fr kp L [(6, 1), (6, 2)] [] E Eq ∧ (∃ z0 : Int32, tw_fv Eq a0 1 = .int z0 ∧ (z0.toInt = fv0_1.toInt + 1))) (va_A (va_pl L E) sz)) 0 0 (va_A (va_pl L E) sz) := by
  refine tw_ofW (by decide) (Nat.le_of_ble_eq_true rfl) ?_
  intro p e s m below meth c A ls hx hb hr hml hB hown hlocks hK hN hA TH hS hl
  have hown : s.vm.findClass "TreeMerge$Printer" = some m.cls := hown
  have hl : lv_has ls 2 [(0, .ref a0), (1, .int x1)] := hl
  obtain ⟨kp0, ekp⟩ : ∃ z, z = kp := ⟨_, rfl⟩
  obtain ⟨L0, eL⟩ : ∃ z, z = L := ⟨_, rfl⟩
  rw [show tw_Q D cs kp L = tw_Q D cs kp0 L0 by rw [ekp, eL]]
  have hex : ∀ a : Nat, a ∈ L0 → a ∈ L ∧ kp a = kp0 a := fun a h => ⟨by rw [← eL]; exact h, by rw [ekp]⟩
  have hF : tw_fr kp L [(6, 1), (6, 2)] [] E E := tw_fr.rf
  obtain ⟨qfv0_1, hqfv0_1, hqfv0_1a, hqfv0_1b⟩ := tw_rd TH hm0 hk0 (by decide) (by decide) (k := 1) rfl
  have eqfv0_1 : qfv0_1 = fv0_1 := by have q := hqfv0_1.symm.trans hfv0_1; injection q
  rw [eqfv0_1] at hqfv0_1a hqfv0_1b
  refine lv_aload_n hx hb dX6_addSign_0 rfl (lv_at hl 0 rfl) ?_
  refine tw_get (ci := 6) (C := RX6) (T := TX6) (N := 3) hx hb hB cx_inX6 hown hK TH hm0 hk0 rfl ⟨by decide, rfl⟩ 1 (by decide) cw_372 (fun _ h9 => h9) dX6_addSign_1 (fun hv => ?_)
  rw [hfv0_1]
  refine lv_aload_n hx hb dX6_addSign_4 rfl (lv_at hl 0 rfl) ?_
  refine tw_get (ci := 6) (C := RX6) (T := TX6) (N := 3) hx hb hB cx_inX6 hown hK TH hm0 hk0 rfl ⟨by decide, rfl⟩ 0 (by decide) cw_371 (fun _ h9 => h9) dX6_addSign_5 (fun hv => ?_)
  obtain ⟨xi1, hxi1, hxi1a, hxi1b⟩ : ∃ x : Int32, tw_fv E a0 0 = .int x ∧ (-2147483648) ≤ x.toInt ∧ x.toInt ≤ 2147483647 := hv
  rw [hxi1]
  refine lv_icmp_ne (tgt := 16) hx hb dX6_addSign_8 (by decide) (fun hc2 => ?_) (fun hc2 => ?_)
  · have hf3 : ¬ (fv0_1.toInt = xi1.toInt) := fun q => hc2 ((fa_eq _ _).mpr (by  omega))
    refine lv_aload_n hx hb dX6_addSign_16 rfl (lv_at hl 0 rfl) ?_
    refine lv_dup hx hb dX6_addSign_17 rfl ?_
    refine tw_get (ci := 6) (C := RX6) (T := TX6) (N := 3) hx hb hB cx_inX6 hown hK TH hm0 hk0 rfl ⟨by decide, rfl⟩ 1 (by decide) cw_372 (fun _ h9 => h9) dX6_addSign_18 (fun hv => ?_)
    rw [hfv0_1]
    refine lv_iconst (v := 1) hx hb dX6_addSign_21 (by decide) ?_
    refine lv_iadd hx hb dX6_addSign_22 ?_
    refine lv_topi (fun zi4 ezi4 => ?_)
    have hzi4 : zi4.toInt = fv0_1.toInt + 1 := by rw [ezi4]; have : ((1 : Int32).toInt) = 1 := (by decide); have := ia_lo fv0_1; have := ia_hi fv0_1; exact (ia_add (by omega) (by omega)).trans (by omega)
    refine tw_put (ci := 6) (v := .int zi4) (ty := .int) (C := RX6) (T := TX6) (N := 3) hx hb hB cx_inX6 tyX6 tyX6_ok nmX6 hown hK TH hS hm0 hk0 rfl ⟨by decide, rfl⟩ 1 (by decide) cw_372 (fun _ h9 => h9) rfl (by decide +kernel) rfl rfl ⟨_, rfl, (show 0 ≤ Int32.toInt zi4 from by  omega), (show Int32.toInt zi4 ≤ 1000000 from by  omega)⟩ dX6_addSign_23 (fun H locs E5 TH hS hmf9 hp6 hp7 => ?_)
    have hst8 : tw_fr kp L [(6, 1)] [] E E5 := tw_fr.put tw_fr.rf (fun _ => hk0) (by decide) hp6 hp7 (by decide)
    have hF := hF.tr hst8 (fun _ h => ⟨h, rfl⟩) (by decide) (by decide)
    have hmf10 : tw_fv E5 a0 0 = .int xi1 := (hst8.1 a0 0 hm0 (by rw [hk0]; decide)).trans hxi1
    exact tw_vret hx hb hr hlocks TH hS hex ⟨rfl, rfl, rfl, hF, ⟨zi4, hmf9, by  omega⟩⟩ (Nat.le_of_ble_eq_true rfl) (Nat.le_of_ble_eq_true rfl) dX6_addSign_26
  · have hf11 : fv0_1.toInt = xi1.toInt := by have z := (fa_eq _ _).mp hc2;  omega
    refine lv_aload_n hx hb dX6_addSign_11 rfl (lv_at hl 0 rfl) ?_
    refine lv_iload_n hx hb dX6_addSign_12 rfl (lv_at hl 1 rfl) ?_
    refine tw_put (ci := 6) (v := .int x1) (ty := .int) (C := RX6) (T := TX6) (N := 3) hx hb hB cx_inX6 tyX6 tyX6_ok nmX6 hown hK TH hS hm0 hk0 rfl ⟨by decide, rfl⟩ 2 (by decide) cw_374 (fun _ h9 => h9) rfl (by decide +kernel) rfl rfl ⟨_, rfl, (ia_lo _), (ia_hi _)⟩ dX6_addSign_13 (fun H locs E12 TH hS hmf16 hp13 hp14 => ?_)
    have hst15 : tw_fr kp L [(6, 2)] [] E E12 := tw_fr.put tw_fr.rf (fun _ => hk0) (by decide) hp13 hp14 (by decide)
    have hF := hF.tr hst15 (fun _ h => ⟨h, rfl⟩) (by decide) (by decide)
    have hmf17 : tw_fv E12 a0 1 = .int fv0_1 := (hst15.1 a0 1 hm0 (by rw [hk0]; decide)).trans hfv0_1
    have hmf18 : tw_fv E12 a0 0 = .int xi1 := (hst15.1 a0 0 hm0 (by rw [hk0]; decide)).trans hxi1
    refine lv_aload_n hx hb dX6_addSign_16 rfl (lv_at hl 0 rfl) ?_
    refine lv_dup hx hb dX6_addSign_17 rfl ?_
    refine tw_get (ci := 6) (C := RX6) (T := TX6) (N := 3) hx hb hB cx_inX6 hown hK TH hm0 hk0 rfl ⟨by decide, rfl⟩ 1 (by decide) cw_372 (fun _ h9 => h9) dX6_addSign_18 (fun hv => ?_)
    rw [hmf17]
    refine lv_iconst (v := 1) hx hb dX6_addSign_21 (by decide) ?_
    refine lv_iadd hx hb dX6_addSign_22 ?_
    refine lv_topi (fun zi19 ezi19 => ?_)
    have hzi19 : zi19.toInt = fv0_1.toInt + 1 := by rw [ezi19]; have : ((1 : Int32).toInt) = 1 := (by decide); have := ia_lo fv0_1; have := ia_hi fv0_1; exact (ia_add (by omega) (by omega)).trans (by omega)
    refine tw_put (ci := 6) (v := .int zi19) (ty := .int) (C := RX6) (T := TX6) (N := 3) hx hb hB cx_inX6 tyX6 tyX6_ok nmX6 hown hK TH hS hm0 hk0 rfl ⟨by decide, rfl⟩ 1 (by decide) cw_372 (fun _ h9 => h9) rfl (by decide +kernel) rfl rfl ⟨_, rfl, (show 0 ≤ Int32.toInt zi19 from by  omega), (show Int32.toInt zi19 ≤ 1000000 from by  omega)⟩ dX6_addSign_23 (fun H locs E20 TH hS hmf24 hp21 hp22 => ?_)
    have hst23 : tw_fr kp L [(6, 1)] [] E12 E20 := tw_fr.put tw_fr.rf (fun _ => hk0) (by decide) hp21 hp22 (by decide)
    have hF := hF.tr hst23 (fun _ h => ⟨h, rfl⟩) (by decide) (by decide)
    have hmf25 : tw_fv E20 a0 0 = .int xi1 := (hst23.1 a0 0 hm0 (by rw [hk0]; decide)).trans hmf18
    have hmf26 : tw_fv E20 a0 2 = .int x1 := (hst23.1 a0 2 hm0 (by rw [hk0]; decide)).trans hmf16
    exact tw_vret hx hb hr hlocks TH hS hex ⟨rfl, rfl, rfl, hF, ⟨zi19, hmf24, by  omega⟩⟩ (Nat.le_of_ble_eq_true rfl) (Nat.le_of_ble_eq_true rfl) dX6_addSign_26
set_option maxHeartbeats 4000000 in
set_option maxRecDepth 100000 in
theorem tX6_addSigns (l : Launch) (D : va_G) (cs : Nat → ClassId) {kp : Nat → Nat} {L : List Nat} {E : Nat → va_E} (a0 : Nat) (x1 : Int32) (x2 : Int32) (fv0_1 : Int32) (hm0 : a0 ∈ L) (hk0 : kp a0 = 6) (hp2a : (-41) ≤ x2.toInt) (hp2b : x2.toInt ≤ 41) (hfv0_1 : tw_fv E a0 1 = .int fv0_1) (hpre0 : fv0_1.toInt ≤ 900000) (sz : Nat) : Met l yX6_addSigns (.code yX6_addSigns cX6_addSigns 4 none :: cx_big) { frames := 1, cells := 0, slots := 0, locals := 21 } (tw_P D cs kp L E [.ref a0, .int x1, .int x2] sz) (tw_Q D cs kp L (fun v kq Lq Eq => v = none ∧ kp = kq ∧ L = Lq ∧ tw_fr kp L [(6, 1), (6, 2)] [] E Eq ∧ (∃ z0 : Int32, tw_fv Eq a0 1 = .int z0 ∧ (fv0_1.toInt ≤ z0.toInt ∧ z0.toInt ≤ fv0_1.toInt + 41))) (va_A (va_pl L E) sz)) 0 0 (va_A (va_pl L E) sz) := by
  refine tw_ofW (by decide) (Nat.le_of_ble_eq_true rfl) ?_
  intro p e s m below meth c A ls hx hb hr hml hB hown hlocks hK hN hA TH hS hl
  have hown : s.vm.findClass "TreeMerge$Printer" = some m.cls := hown
  have hl : lv_has ls 4 [(0, .ref a0), (1, .int x1), (2, .int x2)] := hl
  obtain ⟨kp0, ekp⟩ : ∃ z, z = kp := ⟨_, rfl⟩
  obtain ⟨L0, eL⟩ : ∃ z, z = L := ⟨_, rfl⟩
  rw [show tw_Q D cs kp L = tw_Q D cs kp0 L0 by rw [ekp, eL]]
  have hex : ∀ a : Nat, a ∈ L0 → a ∈ L ∧ kp a = kp0 a := fun a h => ⟨by rw [← eL]; exact h, by rw [ekp]⟩
  have hF : tw_fr kp L [(6, 1), (6, 2)] [] E E := tw_fr.rf
  obtain ⟨qfv0_1, hqfv0_1, hqfv0_1a, hqfv0_1b⟩ := tw_rd TH hm0 hk0 (by decide) (by decide) (k := 1) rfl
  have eqfv0_1 : qfv0_1 = fv0_1 := by have q := hqfv0_1.symm.trans hfv0_1; injection q
  rw [eqfv0_1] at hqfv0_1a hqfv0_1b
  refine lv_iconst (v := 0) hx hb dX6_addSigns_0 (by decide) ?_
  refine lv_istore_n (lv' := [(3, .int 0), (0, .ref a0), (1, .int x1), (2, .int x2)]) hx hb dX6_addSigns_1 rfl hl (by decide) rfl (fun ls hl => ?_)
  have hJ2 : ∀ (n2 : Nat) (y2_3 : Int32) (u2_0_1 : Int32) (Eg2 : Nat → va_E) (H : Heap) (locs : List Loc) (ls : Array Slot), 0 ≤ y2_3.toInt → y2_3.toInt ≤ 41 → 0 ≤ u2_0_1.toInt → u2_0_1.toInt ≤ 1000000 → (u2_0_1.toInt ≤ fv0_1.toInt + y2_3.toInt) → (fv0_1.toInt ≤ u2_0_1.toInt) → 41 - y2_3.toInt ≤ (n2 : Int) → tw_fv Eg2 a0 1 = .int u2_0_1 → tw_fr kp L [(6, 1), (6, 2)] [] E Eg2 → tw_H D cs kp L Eg2 A H → va_S A s.heap H locs → lv_has ls 4 [(3, .int y2_3), (0, .ref a0), (1, .int x1), (2, .int x2)] → W p l e { frames := 1, cells := 0, slots := 0, locals := 21 } s m [.ref a0, .int x1, .int x2].toArray below meth c H locs 0 0 (MQ below (tw_Q D cs kp0 L0 (fun v kq Lq Eq => v = none ∧ kp = kq ∧ L = Lq ∧ tw_fr kp L [(6, 1), (6, 2)] [] E Eq ∧ (∃ z0 : Int32, tw_fv Eq a0 1 = .int z0 ∧ (fv0_1.toInt ≤ z0.toInt ∧ z0.toInt ≤ fv0_1.toInt + 41))) A) [.ref a0, .int x1, .int x2].toArray s 0 0 A) (F0 m 2 ls []) := by
    intro n2
    induction n2 using Nat.strongRecOn with
    | _ n2 ih2 =>
      intro y2_3 u2_0_1 Eg2 H locs ls hy2_3a hy2_3b hu2_0_1a hu2_0_1b hin2_0 hin2_1 hmeas2 hfm2_0 hG2 TH hS hl
      have hF := hF.tr hG2 (fun _ h => ⟨h, rfl⟩) (by decide) (by decide)
      refine lv_iload_n hx hb dX6_addSigns_2 rfl (lv_at hl 0 rfl) ?_
      refine lv_iload_n hx hb dX6_addSigns_3 rfl (lv_at hl 3 rfl) ?_
      refine lv_icmp_ge (tgt := 18) hx hb dX6_addSigns_4 (by decide) (fun hc1 => ?_) (fun hc1 => ?_)
      · have hf2 : x2.toInt ≤ y2_3.toInt := by have z := (fa_le _ _).mp hc1;  omega
        exact tw_vret hx hb hr hlocks TH hS hex ⟨rfl, rfl, rfl, hF, ⟨u2_0_1, hfm2_0, by  omega⟩⟩ (Nat.le_of_ble_eq_true rfl) (Nat.le_of_ble_eq_true rfl) dX6_addSigns_18
      · have hf3 : ¬ (x2.toInt ≤ y2_3.toInt) := fun q => hc1 ((fa_le _ _).mpr (by  omega))
        refine lv_aload_n hx hb dX6_addSigns_7 rfl (lv_at hl 1 rfl) ?_
        refine lv_iload_n hx hb dX6_addSigns_8 rfl (lv_at hl 2 rfl) ?_
        refine tw_Vc (o := a0) (ci := 6) (n := 1) (post := (fun v kq Lq Eq => v = none ∧ kp = kq ∧ L = Lq ∧ tw_fr kp L [(6, 1), (6, 2)] [] Eg2 Eq ∧ (∃ z0 : Int32, tw_fv Eq a0 1 = .int z0 ∧ (z0.toInt = u2_0_1.toInt + 1)))) (As := [.int x1]) (rest := []) ⟨hx, hb, hml, hown, hB⟩ (fun sz => tX6_addSign l D cs a0 x1 u2_0_1 hm0 hk0 hfm2_0 (by  omega) sz) cg_6_21_X6_addSign rfl rfl (by decide +kernel) ⟨Nat.le_of_ble_eq_true rfl, Nat.le_of_ble_eq_true rfl⟩ hK hN TH hS hA rfl hm0 hk0 (by decide) rfl hl.1 rfl (Nat.le_of_ble_eq_true rfl) dX6_addSigns_9 ⟨Nat.le_of_ble_eq_true rfl, Nat.le_of_ble_eq_true rfl⟩ (fun v4 kp4 L4 E4 H locs hq4 hx4 TH hS => ?_)
        obtain ⟨rfl, rfl, rfl, hst4, ⟨zfxc5_0_0, hzfxc5_0_0, hzpxc5_0⟩⟩ := hq4
        have hF := hF.tr hst4 (fun _ h => ⟨h, rfl⟩) (by decide) (by decide)
        have hG2 := hG2.tr hst4 (fun _ h => ⟨h, rfl⟩) (by decide) (by decide)
        obtain ⟨qzfxc5_0_0, hqzfxc5_0_0, hqzfxc5_0_0a, hqzfxc5_0_0b⟩ := tw_rd TH hm0 hk0 (by decide) (by decide) (k := 1) rfl
        have eqzfxc5_0_0 : qzfxc5_0_0 = zfxc5_0_0 := by have q := hqzfxc5_0_0.symm.trans hzfxc5_0_0; injection q
        rw [eqzfxc5_0_0] at hqzfxc5_0_0a hqzfxc5_0_0b
        refine W.eq (g2 := F0 m 12 ls []) rfl ?_
        obtain ⟨zi6, ezi6⟩ : ∃ z : Int32, z = y2_3 + Int32.ofInt 1 := ⟨_, rfl⟩
        have hzi6 : zi6.toInt = y2_3.toInt + 1 := by rw [ezi6]; have : ((Int32.ofInt 1).toInt) = 1 := (by decide);  exact (ia_add (by omega) (by omega)).trans (by omega)
        refine lv_iinc (v := zi6) (lv' := [(3, .int zi6), (0, .ref a0), (1, .int x1), (2, .int x2)]) hx hb dX6_addSigns_12 hl (k := 0) rfl ezi6.symm (by decide) rfl (fun ls hl => ?_)
        refine lv_goto (tgt := 2) hx hb dX6_addSigns_15 (by decide) ?_
        exact ih2 (n2 - 1) (by   omega) zi6 zfxc5_0_0 _ _ _ ls (by omega) (by omega) (by omega) (by omega) (by  omega) (by  omega) (by   omega) hzfxc5_0_0 hG2 TH hS (lv_sub hl [0, 1, 2, 3] rfl)
  exact hJ2 42 (0 : Int32) fv0_1 _ _ _ ls (by have : ((0 : Int32).toInt) = 0 := (by decide); omega) (by have : ((0 : Int32).toInt) = 0 := (by decide); omega) (by omega) (by omega) (by have : ((0 : Int32).toInt) = 0 := (by decide); omega) (by have : ((0 : Int32).toInt) = 0 := (by decide); omega) (by have : ((0 : Int32).toInt) = 0 := (by decide);  omega) hfv0_1 tw_fr.rf TH hS (lv_sub hl [0, 1, 2, 3] rfl)
set_option maxHeartbeats 4000000 in
set_option maxRecDepth 100000 in
theorem tX6_addName (l : Launch) (D : va_G) (cs : Nat → ClassId) {kp : Nat → Nat} {L : List Nat} {E : Nat → va_E} (a0 : Nat) (x1 : Int32) (a2 : Nat) (fv0_1 : Int32) (hm0 : a0 ∈ L) (hk0 : kp a0 = 6) (hm2 : a2 ∈ L) (hk2 : kp a2 = 2) (hfv0_1 : tw_fv E a0 1 = .int fv0_1) (hpre0 : fv0_1.toInt ≤ 900000) (hg0 : gm_ok E a2) (sz : Nat) : Met l yX6_addName (.code yX6_addName cX6_addName 5 none :: cx_big) { frames := 1, cells := 0, slots := 0, locals := 21 } (tw_P D cs kp L E [.ref a0, .int x1, .ref a2] sz) (tw_Q D cs kp L (fun v kq Lq Eq => v = none ∧ kp = kq ∧ L = Lq ∧ tw_fr kp L [(6, 1), (6, 2)] [] E Eq ∧ (∃ z0 : Int32, tw_fv Eq a0 1 = .int z0 ∧ (fv0_1.toInt ≤ z0.toInt ∧ z0.toInt ≤ fv0_1.toInt + 500)) ∧ gm_ok Eq a2) (va_A (va_pl L E) sz)) 0 0 (va_A (va_pl L E) sz) := by
  refine tw_ofW (by decide) (Nat.le_of_ble_eq_true rfl) ?_
  intro p e s m below meth c A ls hx hb hr hml hB hown hlocks hK hN hA TH hS hl
  have hown : s.vm.findClass "TreeMerge$Printer" = some m.cls := hown
  have hl : lv_has ls 5 [(0, .ref a0), (1, .int x1), (2, .ref a2)] := hl
  obtain ⟨kp0, ekp⟩ : ∃ z, z = kp := ⟨_, rfl⟩
  obtain ⟨L0, eL⟩ : ∃ z, z = L := ⟨_, rfl⟩
  rw [show tw_Q D cs kp L = tw_Q D cs kp0 L0 by rw [ekp, eL]]
  have hex : ∀ a : Nat, a ∈ L0 → a ∈ L ∧ kp a = kp0 a := fun a h => ⟨by rw [← eL]; exact h, by rw [ekp]⟩
  have hF : tw_fr kp L [(6, 1), (6, 2)] [] E E := tw_fr.rf
  obtain ⟨qfv0_1, hqfv0_1, hqfv0_1a, hqfv0_1b⟩ := tw_rd TH hm0 hk0 (by decide) (by decide) (k := 1) rfl
  have eqfv0_1 : qfv0_1 = fv0_1 := by have q := hqfv0_1.symm.trans hfv0_1; injection q
  rw [eqfv0_1] at hqfv0_1a hqfv0_1b
  refine lv_aload_n hx hb dX6_addName_0 rfl (lv_at hl 2 rfl) ?_
  refine lv_iload_n hx hb dX6_addName_1 rfl (lv_at hl 1 rfl) ?_
  refine tw_Vc (o := a2) (ci := 2) (n := 1) (post := (fun v kq Lq Eq => (∃ x : Int32, v = some (.int x) ∧ 0 ≤ x.toInt ∧ x.toInt ≤ 1 ∧ (x.toInt ≠ 0 → 0 ≤ x1.toInt ∧ x1.toInt ≤ 9) ∧ (∃ z0 : Int32, tw_fv Eq a2 1 = .int z0 ∧ (x.toInt ≠ 0 → 0 ≤ x1.toInt ∧ x1.toInt < z0.toInt))) ∧ kp = kq ∧ L = Lq ∧ E = Eq)) (As := [.int x1]) (rest := []) ⟨hx, hb, hml, hown, hB⟩ (fun sz => tX2_hasKind l D cs a2 x1 hm2 hk2 sz) cg_6_53_X2_hasKind rfl rfl (by decide +kernel) ⟨Nat.le_of_ble_eq_true rfl, Nat.le_of_ble_eq_true rfl⟩ hK hN TH hS hA rfl hm2 hk2 (by decide) rfl hl.1 rfl (Nat.le_of_ble_eq_true rfl) dX6_addName_2 ⟨Nat.le_of_ble_eq_true rfl, Nat.le_of_ble_eq_true rfl⟩ (fun v1 kp1 L1 E1 H locs hq1 hx1 TH hS => ?_)
  obtain ⟨⟨xc2, rfl, hxc2a, hxc2b, hpoxc2_0, ⟨zfxc2_0_0, hzfxc2_0_0, hzpxc2_0⟩⟩, rfl, rfl, rfl⟩ := hq1
  obtain ⟨qzfxc2_0_0, hqzfxc2_0_0, hqzfxc2_0_0a, hqzfxc2_0_0b⟩ := tw_rd TH hm2 hk2 (by decide) (by decide) (k := 1) rfl
  have eqzfxc2_0_0 : qzfxc2_0_0 = zfxc2_0_0 := by have q := hqzfxc2_0_0.symm.trans hzfxc2_0_0; injection q
  rw [eqzfxc2_0_0] at hqzfxc2_0_0a hqzfxc2_0_0b
  refine W.eq (g2 := F0 m 5 ls [.int xc2]) rfl ?_
  refine lv_if_ne (tgt := 9) hx hb dX6_addName_5 (by decide) (fun hc3 => ?_) (fun hc3 => ?_)
  · have hf4 : ¬ (xc2.toInt = 0) := fun q => hc3 ((fa_eq _ _).mpr (by have : ((0 : Int32).toInt) = 0 := (by decide); omega))
    refine lv_aload_n hx hb dX6_addName_9 rfl (lv_at hl 2 rfl) ?_
    refine tw_get (ci := 2) (C := RX2) (T := TX2) (N := 13) hx hb hB cx_inX2 hown hK TH hm2 hk2 rfl ⟨by decide, rfl⟩ 2 (by decide) cw_71 (fun _ h9 => h9) dX6_addName_10 (fun hv => ?_)
    obtain ⟨xr5, hxr5, hmxr5, hkxr5⟩ : ∃ a : Nat, tw_fv E a2 2 = .ref a ∧ a ∈ L ∧ kp a = 130 := hv
    rw [hxr5]
    refine lv_iload_n hx hb dX6_addName_13 rfl (lv_at hl 1 rfl) ?_
    refine tw_iald (k := 130) (t0 := 0) (n := 10) (lo := 0) (hi := 500) hx hb hK TH hmxr5 hkxr5 (by decide) rfl rfl (i := x1) (vp_in_iff.mpr ⟨by  omega, by  omega⟩) dX6_addName_14 (fun hxe6a hxe6b => ?_)
    obtain ⟨xe6, exe6⟩ : ∃ z : Int32, tw_iv E xr5 (Int32.toNatClampNeg x1) = z := ⟨_, rfl⟩
    rw [exe6] at hxe6a hxe6b ⊢
    refine lv_istore_n (lv' := [(3, .int xe6), (0, .ref a0), (1, .int x1), (2, .ref a2)]) hx hb dX6_addName_15 rfl hl (by decide) rfl (fun ls hl => ?_)
    refine lv_aload_n hx hb dX6_addName_16 rfl (lv_at hl 3 rfl) ?_
    refine tw_get (ci := 2) (C := RX2) (T := TX2) (N := 13) hx hb hB cx_inX2 hown hK TH hm2 hk2 rfl ⟨by decide, rfl⟩ 3 (by decide) cw_73 (fun _ h9 => h9) dX6_addName_17 (fun hv => ?_)
    obtain ⟨xr7, hxr7, hmxr7, hkxr7⟩ : ∃ a : Nat, tw_fv E a2 3 = .ref a ∧ a ∈ L ∧ kp a = 137 := hv
    rw [hxr7]
    refine lv_iload_n hx hb dX6_addName_20 rfl (lv_at hl 2 rfl) ?_
    refine tw_iald (k := 137) (t0 := 0) (n := 10) (lo := 0) (hi := 500) hx hb hK TH hmxr7 hkxr7 (by decide) rfl rfl (i := x1) (vp_in_iff.mpr ⟨by  omega, by  omega⟩) dX6_addName_21 (fun hxe8a hxe8b => ?_)
    obtain ⟨xe8, exe8⟩ : ∃ z : Int32, tw_iv E xr7 (Int32.toNatClampNeg x1) = z := ⟨_, rfl⟩
    rw [exe8] at hxe8a hxe8b ⊢
    have hn1 := ia_tn (i := x1) (by omega)
    have hgm := (hg0 (Int32.toNatClampNeg x1) (by rw [tw_fi_of hzfxc2_0_0]; omega)).1
    rw [tw_el_of hxr5, tw_el_of hxr7, exe6, exe8] at hgm
    refine lv_iload_n hx hb dX6_addName_22 rfl (lv_at hl 0 rfl) ?_
    refine lv_isub hx hb dX6_addName_23 ?_
    refine lv_topi (fun zi9 ezi9 => ?_)
    have hzi9 : zi9.toInt = xe8.toInt - xe6.toInt := by rw [ezi9];  have := ia_lo xe8; have := ia_hi xe8; have := ia_lo xe6; have := ia_hi xe6; exact (ia_sub (by omega) (by omega)).trans (by omega)
    refine lv_istore (lv' := [(4, .int zi9), (3, .int xe6), (0, .ref a0), (1, .int x1), (2, .ref a2)]) hx hb dX6_addName_24 hl (by decide) rfl (fun ls hl => ?_)
    refine lv_aload_n hx hb dX6_addName_26 rfl (lv_at hl 2 rfl) ?_
    refine tw_get (ci := 6) (C := RX6) (T := TX6) (N := 3) hx hb hB cx_inX6 hown hK TH hm0 hk0 rfl ⟨by decide, rfl⟩ 0 (by decide) cw_371 (fun _ h9 => h9) dX6_addName_27 (fun hv => ?_)
    obtain ⟨xi10, hxi10, hxi10a, hxi10b⟩ : ∃ x : Int32, tw_fv E a0 0 = .int x ∧ (-2147483648) ≤ x.toInt ∧ x.toInt ≤ 2147483647 := hv
    rw [hxi10]
    refine lv_aload_n hx hb dX6_addName_30 rfl (lv_at hl 2 rfl) ?_
    refine tw_get (ci := 6) (C := RX6) (T := TX6) (N := 3) hx hb hB cx_inX6 hown hK TH hm0 hk0 rfl ⟨by decide, rfl⟩ 1 (by decide) cw_372 (fun _ h9 => h9) dX6_addName_31 (fun hv => ?_)
    rw [hfv0_1]
    refine lv_icmp_lt (tgt := 71) hx hb dX6_addName_34 (by decide) (fun hc11 => ?_) (fun hc11 => ?_)
    · have hf12 : xi10.toInt < fv0_1.toInt := by have z := (fa_lt _ _).mp hc11;  omega
      refine lv_aload_n hx hb dX6_addName_71 rfl (lv_at hl 2 rfl) ?_
      refine lv_dup hx hb dX6_addName_72 rfl ?_
      refine tw_get (ci := 6) (C := RX6) (T := TX6) (N := 3) hx hb hB cx_inX6 hown hK TH hm0 hk0 rfl ⟨by decide, rfl⟩ 1 (by decide) cw_372 (fun _ h9 => h9) dX6_addName_73 (fun hv => ?_)
      rw [hfv0_1]
      refine lv_iload hx hb dX6_addName_76 (lv_at hl 0 rfl) ?_
      refine lv_iadd hx hb dX6_addName_78 ?_
      refine lv_topi (fun zi13 ezi13 => ?_)
      have hzi13 : zi13.toInt = fv0_1.toInt + zi9.toInt := by rw [ezi13];  have := ia_lo fv0_1; have := ia_hi fv0_1; have := ia_lo zi9; have := ia_hi zi9; exact (ia_add (by omega) (by omega)).trans (by omega)
      refine tw_put (ci := 6) (v := .int zi13) (ty := .int) (C := RX6) (T := TX6) (N := 3) hx hb hB cx_inX6 tyX6 tyX6_ok nmX6 hown hK TH hS hm0 hk0 rfl ⟨by decide, rfl⟩ 1 (by decide) cw_372 (fun _ h9 => h9) rfl (by decide +kernel) rfl rfl ⟨_, rfl, (show 0 ≤ Int32.toInt zi13 from by  omega), (show Int32.toInt zi13 ≤ 1000000 from by  omega)⟩ dX6_addName_79 (fun H locs E14 TH hS hmf18 hp15 hp16 => ?_)
      have hst17 : tw_fr kp L [(6, 1)] [] E E14 := tw_fr.put tw_fr.rf (fun _ => hk0) (by decide) hp15 hp16 (by decide)
      have hF := hF.tr hst17 (fun _ h => ⟨h, rfl⟩) (by decide) (by decide)
      have hmf19 : tw_fv E14 a2 1 = .int zfxc2_0_0 := (hst17.1 a2 1 hm2 (by rw [hk2]; decide)).trans hzfxc2_0_0
      have hmf20 : tw_fv E14 a2 2 = .ref xr5 := (hst17.1 a2 2 hm2 (by rw [hk2]; decide)).trans hxr5
      have hmf21 : tw_fv E14 a2 3 = .ref xr7 := (hst17.1 a2 3 hm2 (by rw [hk2]; decide)).trans hxr7
      have hmf22 : tw_fv E14 a0 0 = .int xi10 := (hst17.1 a0 0 hm0 (by rw [hk0]; decide)).trans hxi10
      have hg0 : gm_ok E14 a2 := gm_ok_fr TH hst17 hm2 hk2 (by decide) (by decide) hg0
      exact tw_vret hx hb hr hlocks TH hS hex ⟨rfl, rfl, rfl, hF, ⟨zi13, hmf18, by  omega⟩, hg0⟩ (Nat.le_of_ble_eq_true rfl) (Nat.le_of_ble_eq_true rfl) dX6_addName_82
    · have hf23 : ¬ (xi10.toInt < fv0_1.toInt) := fun q => hc11 ((fa_lt _ _).mpr (by  omega))
      refine lv_aload_n hx hb dX6_addName_37 rfl (lv_at hl 2 rfl) ?_
      refine tw_get (ci := 6) (C := RX6) (T := TX6) (N := 3) hx hb hB cx_inX6 hown hK TH hm0 hk0 rfl ⟨by decide, rfl⟩ 0 (by decide) cw_371 (fun _ h9 => h9) dX6_addName_38 (fun hv => ?_)
      rw [hxi10]
      refine lv_aload_n hx hb dX6_addName_41 rfl (lv_at hl 2 rfl) ?_
      refine tw_get (ci := 6) (C := RX6) (T := TX6) (N := 3) hx hb hB cx_inX6 hown hK TH hm0 hk0 rfl ⟨by decide, rfl⟩ 1 (by decide) cw_372 (fun _ h9 => h9) dX6_addName_42 (fun hv => ?_)
      rw [hfv0_1]
      refine lv_isub hx hb dX6_addName_45 ?_
      refine lv_topi (fun zi24 ezi24 => ?_)
      have hzi24 : zi24.toInt = xi10.toInt - fv0_1.toInt := by rw [ezi24];  have := ia_lo xi10; have := ia_hi xi10; have := ia_lo fv0_1; have := ia_hi fv0_1; exact (ia_sub (by omega) (by omega)).trans (by omega)
      refine lv_iload hx hb dX6_addName_46 (lv_at hl 0 rfl) ?_
      refine lv_icmp_ge (tgt := 71) hx hb dX6_addName_48 (by decide) (fun hc25 => ?_) (fun hc25 => ?_)
      · have hf26 : zi9.toInt ≤ zi24.toInt := by have z := (fa_le _ _).mp hc25;  omega
        refine lv_aload_n hx hb dX6_addName_71 rfl (lv_at hl 2 rfl) ?_
        refine lv_dup hx hb dX6_addName_72 rfl ?_
        refine tw_get (ci := 6) (C := RX6) (T := TX6) (N := 3) hx hb hB cx_inX6 hown hK TH hm0 hk0 rfl ⟨by decide, rfl⟩ 1 (by decide) cw_372 (fun _ h9 => h9) dX6_addName_73 (fun hv => ?_)
        rw [hfv0_1]
        refine lv_iload hx hb dX6_addName_76 (lv_at hl 0 rfl) ?_
        refine lv_iadd hx hb dX6_addName_78 ?_
        refine lv_topi (fun zi27 ezi27 => ?_)
        have hzi27 : zi27.toInt = fv0_1.toInt + zi9.toInt := by rw [ezi27];  have := ia_lo fv0_1; have := ia_hi fv0_1; have := ia_lo zi9; have := ia_hi zi9; exact (ia_add (by omega) (by omega)).trans (by omega)
        refine tw_put (ci := 6) (v := .int zi27) (ty := .int) (C := RX6) (T := TX6) (N := 3) hx hb hB cx_inX6 tyX6 tyX6_ok nmX6 hown hK TH hS hm0 hk0 rfl ⟨by decide, rfl⟩ 1 (by decide) cw_372 (fun _ h9 => h9) rfl (by decide +kernel) rfl rfl ⟨_, rfl, (show 0 ≤ Int32.toInt zi27 from by  omega), (show Int32.toInt zi27 ≤ 1000000 from by  omega)⟩ dX6_addName_79 (fun H locs E28 TH hS hmf32 hp29 hp30 => ?_)
        have hst31 : tw_fr kp L [(6, 1)] [] E E28 := tw_fr.put tw_fr.rf (fun _ => hk0) (by decide) hp29 hp30 (by decide)
        have hF := hF.tr hst31 (fun _ h => ⟨h, rfl⟩) (by decide) (by decide)
        have hmf33 : tw_fv E28 a2 1 = .int zfxc2_0_0 := (hst31.1 a2 1 hm2 (by rw [hk2]; decide)).trans hzfxc2_0_0
        have hmf34 : tw_fv E28 a2 2 = .ref xr5 := (hst31.1 a2 2 hm2 (by rw [hk2]; decide)).trans hxr5
        have hmf35 : tw_fv E28 a2 3 = .ref xr7 := (hst31.1 a2 3 hm2 (by rw [hk2]; decide)).trans hxr7
        have hmf36 : tw_fv E28 a0 0 = .int xi10 := (hst31.1 a0 0 hm0 (by rw [hk0]; decide)).trans hxi10
        have hg0 : gm_ok E28 a2 := gm_ok_fr TH hst31 hm2 hk2 (by decide) (by decide) hg0
        exact tw_vret hx hb hr hlocks TH hS hex ⟨rfl, rfl, rfl, hF, ⟨zi27, hmf32, by  omega⟩, hg0⟩ (Nat.le_of_ble_eq_true rfl) (Nat.le_of_ble_eq_true rfl) dX6_addName_82
      · have hf37 : ¬ (zi9.toInt ≤ zi24.toInt) := fun q => hc25 ((fa_le _ _).mpr (by  omega))
        refine lv_aload_n hx hb dX6_addName_51 rfl (lv_at hl 2 rfl) ?_
        refine lv_aload_n hx hb dX6_addName_52 rfl (lv_at hl 4 rfl) ?_
        refine tw_get (ci := 2) (C := RX2) (T := TX2) (N := 13) hx hb hB cx_inX2 hown hK TH hm2 hk2 rfl ⟨by decide, rfl⟩ 0 (by decide) cw_67 (fun _ h9 => h9) dX6_addName_53 (fun hv => ?_)
        obtain ⟨xr38, hxr38, hmxr38, hkxr38⟩ : ∃ a : Nat, tw_fv E a2 0 = .ref a ∧ a ∈ L ∧ kp a = 100 := hv
        rw [hxr38]
        refine lv_iload_n hx hb dX6_addName_56 rfl (lv_at hl 1 rfl) ?_
        refine lv_aload_n hx hb dX6_addName_57 rfl (lv_at hl 2 rfl) ?_
        refine tw_get (ci := 6) (C := RX6) (T := TX6) (N := 3) hx hb hB cx_inX6 hown hK TH hm0 hk0 rfl ⟨by decide, rfl⟩ 0 (by decide) cw_371 (fun _ h9 => h9) dX6_addName_58 (fun hv => ?_)
        rw [hxi10]
        refine lv_iadd hx hb dX6_addName_61 ?_
        refine lv_topi (fun zi39 ezi39 => ?_)
        have hzi39 : zi39.toInt = xe6.toInt + xi10.toInt := by rw [ezi39];  have := ia_lo xe6; have := ia_hi xe6; have := ia_lo xi10; have := ia_hi xi10; exact (ia_add (by omega) (by omega)).trans (by omega)
        refine lv_aload_n hx hb dX6_addName_62 rfl (lv_at hl 2 rfl) ?_
        refine tw_get (ci := 6) (C := RX6) (T := TX6) (N := 3) hx hb hB cx_inX6 hown hK TH hm0 hk0 rfl ⟨by decide, rfl⟩ 1 (by decide) cw_372 (fun _ h9 => h9) dX6_addName_63 (fun hv => ?_)
        rw [hfv0_1]
        refine lv_isub hx hb dX6_addName_66 ?_
        refine lv_topi (fun zi40 ezi40 => ?_)
        have hzi40 : zi40.toInt = zi39.toInt - fv0_1.toInt := by rw [ezi40];  have := ia_lo zi39; have := ia_hi zi39; have := ia_lo fv0_1; have := ia_hi fv0_1; exact (ia_sub (by omega) (by omega)).trans (by omega)
        refine tw_iald (k := 100) (t0 := 0) (n := 500) (lo := 0) (hi := 255) hx hb hK TH hmxr38 hkxr38 (by decide) rfl rfl (i := zi40) (vp_in_iff.mpr ⟨by  omega, by  omega⟩) dX6_addName_67 (fun hxe41a hxe41b => ?_)
        obtain ⟨xe41, exe41⟩ : ∃ z : Int32, tw_iv E xr38 (Int32.toNatClampNeg zi40) = z := ⟨_, rfl⟩
        rw [exe41] at hxe41a hxe41b ⊢
        refine tw_put (ci := 6) (v := .int xe41) (ty := .int) (C := RX6) (T := TX6) (N := 3) hx hb hB cx_inX6 tyX6 tyX6_ok nmX6 hown hK TH hS hm0 hk0 rfl ⟨by decide, rfl⟩ 2 (by decide) cw_374 (fun _ h9 => h9) rfl (by decide +kernel) rfl rfl ⟨_, rfl, (ia_lo _), (ia_hi _)⟩ dX6_addName_68 (fun H locs E42 TH hS hmf46 hp43 hp44 => ?_)
        have hst45 : tw_fr kp L [(6, 2)] [] E E42 := tw_fr.put tw_fr.rf (fun _ => hk0) (by decide) hp43 hp44 (by decide)
        have hF := hF.tr hst45 (fun _ h => ⟨h, rfl⟩) (by decide) (by decide)
        have hmf47 : tw_fv E42 a0 1 = .int fv0_1 := (hst45.1 a0 1 hm0 (by rw [hk0]; decide)).trans hfv0_1
        have hmf48 : tw_fv E42 a2 1 = .int zfxc2_0_0 := (hst45.1 a2 1 hm2 (by rw [hk2]; decide)).trans hzfxc2_0_0
        have hmf49 : tw_fv E42 a2 2 = .ref xr5 := (hst45.1 a2 2 hm2 (by rw [hk2]; decide)).trans hxr5
        have hmf50 : tw_fv E42 a2 3 = .ref xr7 := (hst45.1 a2 3 hm2 (by rw [hk2]; decide)).trans hxr7
        have hmf51 : tw_fv E42 a0 0 = .int xi10 := (hst45.1 a0 0 hm0 (by rw [hk0]; decide)).trans hxi10
        have hmf52 : tw_fv E42 a2 0 = .ref xr38 := (hst45.1 a2 0 hm2 (by rw [hk2]; decide)).trans hxr38
        have hg0 : gm_ok E42 a2 := gm_ok_fr TH hst45 hm2 hk2 (by decide) (by decide) hg0
        refine lv_aload_n hx hb dX6_addName_71 rfl (lv_at hl 2 rfl) ?_
        refine lv_dup hx hb dX6_addName_72 rfl ?_
        refine tw_get (ci := 6) (C := RX6) (T := TX6) (N := 3) hx hb hB cx_inX6 hown hK TH hm0 hk0 rfl ⟨by decide, rfl⟩ 1 (by decide) cw_372 (fun _ h9 => h9) dX6_addName_73 (fun hv => ?_)
        rw [hmf47]
        refine lv_iload hx hb dX6_addName_76 (lv_at hl 0 rfl) ?_
        refine lv_iadd hx hb dX6_addName_78 ?_
        refine lv_topi (fun zi53 ezi53 => ?_)
        have hzi53 : zi53.toInt = fv0_1.toInt + zi9.toInt := by rw [ezi53];  have := ia_lo fv0_1; have := ia_hi fv0_1; have := ia_lo zi9; have := ia_hi zi9; exact (ia_add (by omega) (by omega)).trans (by omega)
        refine tw_put (ci := 6) (v := .int zi53) (ty := .int) (C := RX6) (T := TX6) (N := 3) hx hb hB cx_inX6 tyX6 tyX6_ok nmX6 hown hK TH hS hm0 hk0 rfl ⟨by decide, rfl⟩ 1 (by decide) cw_372 (fun _ h9 => h9) rfl (by decide +kernel) rfl rfl ⟨_, rfl, (show 0 ≤ Int32.toInt zi53 from by  omega), (show Int32.toInt zi53 ≤ 1000000 from by  omega)⟩ dX6_addName_79 (fun H locs E54 TH hS hmf58 hp55 hp56 => ?_)
        have hst57 : tw_fr kp L [(6, 1)] [] E42 E54 := tw_fr.put tw_fr.rf (fun _ => hk0) (by decide) hp55 hp56 (by decide)
        have hF := hF.tr hst57 (fun _ h => ⟨h, rfl⟩) (by decide) (by decide)
        have hmf59 : tw_fv E54 a2 1 = .int zfxc2_0_0 := (hst57.1 a2 1 hm2 (by rw [hk2]; decide)).trans hmf48
        have hmf60 : tw_fv E54 a2 2 = .ref xr5 := (hst57.1 a2 2 hm2 (by rw [hk2]; decide)).trans hmf49
        have hmf61 : tw_fv E54 a2 3 = .ref xr7 := (hst57.1 a2 3 hm2 (by rw [hk2]; decide)).trans hmf50
        have hmf62 : tw_fv E54 a0 0 = .int xi10 := (hst57.1 a0 0 hm0 (by rw [hk0]; decide)).trans hmf51
        have hmf63 : tw_fv E54 a2 0 = .ref xr38 := (hst57.1 a2 0 hm2 (by rw [hk2]; decide)).trans hmf52
        have hmf64 : tw_fv E54 a0 2 = .int xe41 := (hst57.1 a0 2 hm0 (by rw [hk0]; decide)).trans hmf46
        have hg0 : gm_ok E54 a2 := gm_ok_fr TH hst57 hm2 hk2 (by decide) (by decide) hg0
        exact tw_vret hx hb hr hlocks TH hS hex ⟨rfl, rfl, rfl, hF, ⟨zi53, hmf58, by  omega⟩, hg0⟩ (Nat.le_of_ble_eq_true rfl) (Nat.le_of_ble_eq_true rfl) dX6_addName_82
  · have hf65 : xc2.toInt = 0 := by have z := (fa_eq _ _).mp hc3; have : ((0 : Int32).toInt) = 0 := (by decide); omega
    exact tw_vret hx hb hr hlocks TH hS hex ⟨rfl, rfl, rfl, hF, ⟨fv0_1, hfv0_1, by  omega⟩, hg0⟩ (Nat.le_of_ble_eq_true rfl) (Nat.le_of_ble_eq_true rfl) dX6_addName_8
set_option maxHeartbeats 4000000 in
set_option maxRecDepth 100000 in
theorem tX6_addWord (l : Launch) (D : va_G) (cs : Nat → ClassId) {kp : Nat → Nat} {L : List Nat} {E : Nat → va_E} (a0 : Nat) (x1 : Int64) (fv0_1 : Int32) (hm0 : a0 ∈ L) (hk0 : kp a0 = 6) (hfv0_1 : tw_fv E a0 1 = .int fv0_1) (hpre0 : fv0_1.toInt ≤ 900000) (sz : Nat) : Met l yX6_addWord (.code yX6_addWord cX6_addWord 5 none :: cx_big) { frames := 1, cells := 0, slots := 0, locals := 21 } (tw_P D cs kp L E [.ref a0, .long x1] sz) (tw_Q D cs kp L (fun v kq Lq Eq => v = none ∧ kp = kq ∧ L = Lq ∧ tw_fr kp L [(6, 1), (6, 2)] [] E Eq ∧ (∃ z0 : Int32, tw_fv Eq a0 1 = .int z0 ∧ (fv0_1.toInt ≤ z0.toInt ∧ z0.toInt ≤ fv0_1.toInt + 10))) (va_A (va_pl L E) sz)) 0 0 (va_A (va_pl L E) sz) := by
  refine tw_ofW (by decide) (Nat.le_of_ble_eq_true rfl) ?_
  intro p e s m below meth c A ls hx hb hr hml hB hown hlocks hK hN hA TH hS hl
  have hown : s.vm.findClass "TreeMerge$Printer" = some m.cls := hown
  have hl : lv_has ls 5 [(0, .ref a0), (1, .long x1)] := hl
  obtain ⟨kp0, ekp⟩ : ∃ z, z = kp := ⟨_, rfl⟩
  obtain ⟨L0, eL⟩ : ∃ z, z = L := ⟨_, rfl⟩
  rw [show tw_Q D cs kp L = tw_Q D cs kp0 L0 by rw [ekp, eL]]
  have hex : ∀ a : Nat, a ∈ L0 → a ∈ L ∧ kp a = kp0 a := fun a h => ⟨by rw [← eL]; exact h, by rw [ekp]⟩
  have hF : tw_fr kp L [(6, 1), (6, 2)] [] E E := tw_fr.rf
  obtain ⟨qfv0_1, hqfv0_1, hqfv0_1a, hqfv0_1b⟩ := tw_rd TH hm0 hk0 (by decide) (by decide) (k := 1) rfl
  have eqfv0_1 : qfv0_1 = fv0_1 := by have q := hqfv0_1.symm.trans hfv0_1; injection q
  rw [eqfv0_1] at hqfv0_1a hqfv0_1b
  refine lv_lload_n hx hb dX6_addWord_0 rfl (lv_at hl 1 rfl) ?_
  refine lv_lconst (v := 0) hx hb dX6_addWord_1 (by decide) ?_
  refine W.lcmp hx hb dX6_addWord_2 ?_
  have hzi1 := ia_lcmp x1 (0 : Int64)
  generalize lg_cmp x1 (0 : Int64) = zi1 at hzi1 ⊢
  refine lv_if_ne (tgt := 7) hx hb dX6_addWord_3 (by decide) (fun hc2 => ?_) (fun hc2 => ?_)
  · have hf3 : ¬ (zi1.toInt = 0) := fun q => hc2 ((fa_eq _ _).mpr (by have : ((0 : Int32).toInt) = 0 := (by decide); omega))
    refine lv_aload_n hx hb dX6_addWord_7 rfl (lv_at hl 0 rfl) ?_
    refine lv_bipush (v := 123) hx hb dX6_addWord_8 (by decide) ?_
    refine tw_Vc (o := a0) (ci := 6) (n := 1) (post := (fun v kq Lq Eq => v = none ∧ kp = kq ∧ L = Lq ∧ tw_fr kp L [(6, 1), (6, 2)] [] E Eq ∧ (∃ z0 : Int32, tw_fv Eq a0 1 = .int z0 ∧ (z0.toInt = fv0_1.toInt + 1)))) (As := [.int 123]) (rest := []) ⟨hx, hb, hml, hown, hB⟩ (fun sz => tX6_addSign l D cs a0 (123 : Int32) fv0_1 hm0 hk0 hfv0_1 (by have : ((123 : Int32).toInt) = 123 := (by decide); omega) sz) cg_6_21_X6_addSign rfl rfl (by decide +kernel) ⟨Nat.le_of_ble_eq_true rfl, Nat.le_of_ble_eq_true rfl⟩ hK hN TH hS hA rfl hm0 hk0 (by decide) rfl hl.1 rfl (Nat.le_of_ble_eq_true rfl) dX6_addWord_10 ⟨Nat.le_of_ble_eq_true rfl, Nat.le_of_ble_eq_true rfl⟩ (fun v4 kp4 L4 E4 H locs hq4 hx4 TH hS => ?_)
    obtain ⟨rfl, rfl, rfl, hst4, ⟨zfxc5_0_0, hzfxc5_0_0, hzpxc5_0⟩⟩ := hq4
    have hF := hF.tr hst4 (fun _ h => ⟨h, rfl⟩) (by decide) (by decide)
    obtain ⟨qzfxc5_0_0, hqzfxc5_0_0, hqzfxc5_0_0a, hqzfxc5_0_0b⟩ := tw_rd TH hm0 hk0 (by decide) (by decide) (k := 1) rfl
    have eqzfxc5_0_0 : qzfxc5_0_0 = zfxc5_0_0 := by have q := hqzfxc5_0_0.symm.trans hzfxc5_0_0; injection q
    rw [eqzfxc5_0_0] at hqzfxc5_0_0a hqzfxc5_0_0b
    refine W.eq (g2 := F0 m 13 ls []) rfl ?_
    refine lv_bipush (v := 56) hx hb dX6_addWord_13 (by decide) ?_
    refine lv_istore_n (lv' := [(3, .int 56), (0, .ref a0), (1, .long x1)]) hx hb dX6_addWord_15 rfl hl (by decide) rfl (fun ls hl => ?_)
    have hJ16 : ∀ (n16 : Nat) (y16_3 : Int32) (u16_0_1 : Int32) (Eg16 : Nat → va_E) (H : Heap) (locs : List Loc) (ls : Array Slot), (-8) ≤ y16_3.toInt → y16_3.toInt ≤ 56 → 0 ≤ u16_0_1.toInt → u16_0_1.toInt ≤ 1000000 → (8 * u16_0_1.toInt ≤ 8 * fv0_1.toInt + 8 + (56 - y16_3.toInt)) → (fv0_1.toInt ≤ u16_0_1.toInt) → y16_3.toInt + 8 ≤ (n16 : Int) → tw_fv Eg16 a0 1 = .int u16_0_1 → tw_fr kp L [(6, 1), (6, 2)] [] E4 Eg16 → tw_H D cs kp L Eg16 A H → va_S A s.heap H locs → lv_has ls 5 [(3, .int y16_3), (0, .ref a0), (1, .long x1)] → W p l e { frames := 1, cells := 0, slots := 0, locals := 21 } s m [.ref a0, .long x1].toArray below meth c H locs 0 0 (MQ below (tw_Q D cs kp0 L0 (fun v kq Lq Eq => v = none ∧ kp = kq ∧ L = Lq ∧ tw_fr kp L [(6, 1), (6, 2)] [] E Eq ∧ (∃ z0 : Int32, tw_fv Eq a0 1 = .int z0 ∧ (fv0_1.toInt ≤ z0.toInt ∧ z0.toInt ≤ fv0_1.toInt + 10))) A) [.ref a0, .long x1].toArray s 0 0 A) (F0 m 16 ls []) := by
      intro n16
      induction n16 using Nat.strongRecOn with
      | _ n16 ih16 =>
        intro y16_3 u16_0_1 Eg16 H locs ls hy16_3a hy16_3b hu16_0_1a hu16_0_1b hin16_0 hin16_1 hmeas16 hfm16_0 hG16 TH hS hl
        have hF := hF.tr hG16 (fun _ h => ⟨h, rfl⟩) (by decide) (by decide)
        refine lv_iload_n hx hb dX6_addWord_16 rfl (lv_at hl 0 rfl) ?_
        refine lv_if_lt (tgt := 47) hx hb dX6_addWord_17 (by decide) (fun hc6 => ?_) (fun hc6 => ?_)
        · have hf7 : y16_3.toInt < 0 := by have z := (fa_lt _ _).mp hc6; have : ((0 : Int32).toInt) = 0 := (by decide); omega
          refine lv_aload_n hx hb dX6_addWord_47 rfl (lv_at hl 1 rfl) ?_
          refine lv_bipush (v := 125) hx hb dX6_addWord_48 (by decide) ?_
          refine tw_Vc (o := a0) (ci := 6) (n := 1) (post := (fun v kq Lq Eq => v = none ∧ kp = kq ∧ L = Lq ∧ tw_fr kp L [(6, 1), (6, 2)] [] Eg16 Eq ∧ (∃ z0 : Int32, tw_fv Eq a0 1 = .int z0 ∧ (z0.toInt = u16_0_1.toInt + 1)))) (As := [.int 125]) (rest := []) ⟨hx, hb, hml, hown, hB⟩ (fun sz => tX6_addSign l D cs a0 (125 : Int32) u16_0_1 hm0 hk0 hfm16_0 (by have : ((125 : Int32).toInt) = 125 := (by decide); omega) sz) cg_6_21_X6_addSign rfl rfl (by decide +kernel) ⟨Nat.le_of_ble_eq_true rfl, Nat.le_of_ble_eq_true rfl⟩ hK hN TH hS hA rfl hm0 hk0 (by decide) rfl hl.1 rfl (Nat.le_of_ble_eq_true rfl) dX6_addWord_50 ⟨Nat.le_of_ble_eq_true rfl, Nat.le_of_ble_eq_true rfl⟩ (fun v8 kp8 L8 E8 H locs hq8 hx8 TH hS => ?_)
          obtain ⟨rfl, rfl, rfl, hst8, ⟨zfxc9_0_0, hzfxc9_0_0, hzpxc9_0⟩⟩ := hq8
          have hF := hF.tr hst8 (fun _ h => ⟨h, rfl⟩) (by decide) (by decide)
          have hG16 := hG16.tr hst8 (fun _ h => ⟨h, rfl⟩) (by decide) (by decide)
          obtain ⟨qzfxc9_0_0, hqzfxc9_0_0, hqzfxc9_0_0a, hqzfxc9_0_0b⟩ := tw_rd TH hm0 hk0 (by decide) (by decide) (k := 1) rfl
          have eqzfxc9_0_0 : qzfxc9_0_0 = zfxc9_0_0 := by have q := hqzfxc9_0_0.symm.trans hzfxc9_0_0; injection q
          rw [eqzfxc9_0_0] at hqzfxc9_0_0a hqzfxc9_0_0b
          refine W.eq (g2 := F0 m 53 ls []) rfl ?_
          exact tw_vret hx hb hr hlocks TH hS hex ⟨rfl, rfl, rfl, hF, ⟨zfxc9_0_0, hzfxc9_0_0, by  omega⟩⟩ (Nat.le_of_ble_eq_true rfl) (Nat.le_of_ble_eq_true rfl) dX6_addWord_53
        · have hf10 : ¬ (y16_3.toInt < 0) := fun q => hc6 ((fa_lt _ _).mpr (by have : ((0 : Int32).toInt) = 0 := (by decide); omega))
          refine lv_lload_n hx hb dX6_addWord_20 rfl (lv_at hl 2 rfl) ?_
          refine lv_iload_n hx hb dX6_addWord_21 rfl (lv_at hl 0 rfl) ?_
          refine lv_lushr (v := ((x1).toUInt64 >>> (((y16_3 : Int32)).toInt64.toUInt64 &&& Int64.toUInt64 63)).toInt64) hx hb dX6_addWord_22 rfl ?_
          refine tw_topl (fun zl11 ezl11 => ?_)
          refine lv_l2i (v := (zl11).toInt32) hx hb dX6_addWord_23 rfl ?_
          refine lv_topi (fun zi12 ezi12 => ?_)
          refine lv_sipush (v := 255) hx hb dX6_addWord_24 (by decide) ?_
          refine lv_iand hx hb dX6_addWord_27 ?_
          refine lv_topi (fun zi13 ezi13 => ?_)
          have hzi13 : 0 ≤ zi13.toInt ∧ zi13.toInt ≤ 255 := by rw [ezi13]; exact ia_and255 _
          refine lv_istore (lv' := [(4, .int zi13), (3, .int y16_3), (0, .ref a0), (1, .long x1)]) hx hb dX6_addWord_28 hl (by decide) rfl (fun ls hl => ?_)
          refine lv_iload hx hb dX6_addWord_30 (lv_at hl 0 rfl) ?_
          have hJ41 : ∀ (u41_0_1 : Int32) (Eg41 : Nat → va_E) (H : Heap) (locs : List Loc) (ls : Array Slot), 0 ≤ u41_0_1.toInt → u41_0_1.toInt ≤ 1000000 → (8 * u41_0_1.toInt ≤ 8 * fv0_1.toInt + 16 + (56 - y16_3.toInt)) → (fv0_1.toInt ≤ u41_0_1.toInt) → tw_fv Eg41 a0 1 = .int u41_0_1 → tw_fr kp L [(6, 1), (6, 2)] [] Eg16 Eg41 → tw_H D cs kp L Eg41 A H → va_S A s.heap H locs → lv_has ls 5 [(3, .int y16_3), (0, .ref a0), (1, .long x1)] → W p l e { frames := 1, cells := 0, slots := 0, locals := 21 } s m [.ref a0, .long x1].toArray below meth c H locs 0 0 (MQ below (tw_Q D cs kp0 L0 (fun v kq Lq Eq => v = none ∧ kp = kq ∧ L = Lq ∧ tw_fr kp L [(6, 1), (6, 2)] [] E Eq ∧ (∃ z0 : Int32, tw_fv Eq a0 1 = .int z0 ∧ (fv0_1.toInt ≤ z0.toInt ∧ z0.toInt ≤ fv0_1.toInt + 10))) A) [.ref a0, .long x1].toArray s 0 0 A) (F0 m 41 ls []) := by
            intro u41_0_1 Eg41 H locs ls hu41_0_1a hu41_0_1b hin41_0 hin41_1 hfm41_0 hG41 TH hS hl
            have hF := hF.tr hG41 (fun _ h => ⟨h, rfl⟩) (by decide) (by decide)
            have hG16 := hG16.tr hG41 (fun _ h => ⟨h, rfl⟩) (by decide) (by decide)
            obtain ⟨zi14, ezi14⟩ : ∃ z : Int32, z = y16_3 + Int32.ofInt (-8) := ⟨_, rfl⟩
            have hzi14 : zi14.toInt = y16_3.toInt + (-8) := by rw [ezi14]; have : ((Int32.ofInt (-8)).toInt) = (-8) := (by decide);  exact (ia_add (by omega) (by omega)).trans (by omega)
            refine lv_iinc (v := zi14) (lv' := [(3, .int zi14), (0, .ref a0), (1, .long x1)]) hx hb dX6_addWord_41 hl (k := 0) rfl ezi14.symm (by decide) rfl (fun ls hl => ?_)
            refine lv_goto (tgt := 16) hx hb dX6_addWord_44 (by decide) ?_
            exact ih16 (n16 - 1) (by   omega) zi14 u41_0_1 _ _ _ ls (by omega) (by omega) (by omega) (by omega) (by  omega) (by  omega) (by   omega) hfm41_0 hG16 TH hS (lv_sub hl [0, 1, 2] rfl)
          have hG41 : tw_fr kp L [(6, 1), (6, 2)] [] Eg16 Eg16 := tw_fr.rf
          refine lv_if_eq (tgt := 41) hx hb dX6_addWord_32 (by decide) (fun hc15 => ?_) (fun hc15 => ?_)
          · have hf16 : zi13.toInt = 0 := by have z := (fa_eq _ _).mp hc15; have : ((0 : Int32).toInt) = 0 := (by decide); omega
            exact hJ41 u16_0_1 _ _ _ ls (by omega) (by omega) (by  omega) (by  omega) hfm16_0 hG41 TH hS (lv_sub hl [1, 2, 3] rfl)
          · have hf17 : ¬ (zi13.toInt = 0) := fun q => hc15 ((fa_eq _ _).mpr (by have : ((0 : Int32).toInt) = 0 := (by decide); omega))
            refine lv_aload_n hx hb dX6_addWord_35 rfl (lv_at hl 2 rfl) ?_
            refine lv_iload hx hb dX6_addWord_36 (lv_at hl 0 rfl) ?_
            refine tw_Vc (o := a0) (ci := 6) (n := 1) (post := (fun v kq Lq Eq => v = none ∧ kp = kq ∧ L = Lq ∧ tw_fr kp L [(6, 1), (6, 2)] [] Eg16 Eq ∧ (∃ z0 : Int32, tw_fv Eq a0 1 = .int z0 ∧ (z0.toInt = u16_0_1.toInt + 1)))) (As := [.int zi13]) (rest := []) ⟨hx, hb, hml, hown, hB⟩ (fun sz => tX6_addSign l D cs a0 zi13 u16_0_1 hm0 hk0 hfm16_0 (by  omega) sz) cg_6_21_X6_addSign rfl rfl (by decide +kernel) ⟨Nat.le_of_ble_eq_true rfl, Nat.le_of_ble_eq_true rfl⟩ hK hN TH hS hA rfl hm0 hk0 (by decide) rfl hl.1 rfl (Nat.le_of_ble_eq_true rfl) dX6_addWord_38 ⟨Nat.le_of_ble_eq_true rfl, Nat.le_of_ble_eq_true rfl⟩ (fun v18 kp18 L18 E18 H locs hq18 hx18 TH hS => ?_)
            obtain ⟨rfl, rfl, rfl, hst18, ⟨zfxc19_0_0, hzfxc19_0_0, hzpxc19_0⟩⟩ := hq18
            have hF := hF.tr hst18 (fun _ h => ⟨h, rfl⟩) (by decide) (by decide)
            have hG16 := hG16.tr hst18 (fun _ h => ⟨h, rfl⟩) (by decide) (by decide)
            have hG41 := hG41.tr hst18 (fun _ h => ⟨h, rfl⟩) (by decide) (by decide)
            obtain ⟨qzfxc19_0_0, hqzfxc19_0_0, hqzfxc19_0_0a, hqzfxc19_0_0b⟩ := tw_rd TH hm0 hk0 (by decide) (by decide) (k := 1) rfl
            have eqzfxc19_0_0 : qzfxc19_0_0 = zfxc19_0_0 := by have q := hqzfxc19_0_0.symm.trans hzfxc19_0_0; injection q
            rw [eqzfxc19_0_0] at hqzfxc19_0_0a hqzfxc19_0_0b
            refine W.eq (g2 := F0 m 41 ls []) rfl ?_
            exact hJ41 zfxc19_0_0 _ _ _ ls (by omega) (by omega) (by  omega) (by  omega) hzfxc19_0_0 hG41 TH hS (lv_sub hl [1, 2, 3] rfl)
    exact hJ16 70 (56 : Int32) zfxc5_0_0 _ _ _ ls (by have : ((56 : Int32).toInt) = 56 := (by decide); omega) (by have : ((56 : Int32).toInt) = 56 := (by decide); omega) (by omega) (by omega) (by have : ((56 : Int32).toInt) = 56 := (by decide); omega) (by have : ((56 : Int32).toInt) = 56 := (by decide); omega) (by have : ((56 : Int32).toInt) = 56 := (by decide);  omega) hzfxc5_0_0 tw_fr.rf TH hS (lv_sub hl [0, 1, 2] rfl)
  · have hf20 : zi1.toInt = 0 := by have z := (fa_eq _ _).mp hc2; have : ((0 : Int32).toInt) = 0 := (by decide); omega
    exact tw_vret hx hb hr hlocks TH hS hex ⟨rfl, rfl, rfl, hF, ⟨fv0_1, hfv0_1, by  omega⟩⟩ (Nat.le_of_ble_eq_true rfl) (Nat.le_of_ble_eq_true rfl) dX6_addWord_6
set_option maxHeartbeats 4000000 in
set_option maxRecDepth 100000 in
theorem tX6_addTree (l : Launch) (D : va_G) (cs : Nat → ClassId) {kp : Nat → Nat} {L : List Nat} {E : Nat → va_E} (a0 : Nat) (a1 : Nat) (a2 : Nat) (fv0_1 : Int32) (hm0 : a0 ∈ L) (hk0 : kp a0 = 6) (hm1 : a1 ∈ L) (hk1 : kp a1 = 10) (hm2 : a2 ∈ L) (hk2 : kp a2 = 2) (hfv0_1 : tw_fv E a0 1 = .int fv0_1) (hpre0 : fv0_1.toInt = 0) (hg0 : gm_ok E a2) (sz : Nat) : Met l yX6_addTree (.code yX6_addTree cX6_addTree 5 none :: cx_big) { frames := 2, cells := 0, slots := 0, locals := 45 } (tw_P D cs kp L E [.ref a0, .ref a1, .ref a2] sz) (tw_Q D cs kp L (fun v kq Lq Eq => v = none ∧ kp = kq ∧ L = Lq ∧ tw_fr kp L [(6, 1), (6, 2)] [] E Eq ∧ gm_ok Eq a2) (va_A (va_pl L E) sz)) 0 0 (va_A (va_pl L E) sz) := by
  refine tw_ofW (by decide) (Nat.le_of_ble_eq_true rfl) ?_
  intro p e s m below meth c A ls hx hb hr hml hB hown hlocks hK hN hA TH hS hl
  have hown : s.vm.findClass "TreeMerge$Printer" = some m.cls := hown
  have hl : lv_has ls 5 [(0, .ref a0), (1, .ref a1), (2, .ref a2)] := hl
  obtain ⟨kp0, ekp⟩ : ∃ z, z = kp := ⟨_, rfl⟩
  obtain ⟨L0, eL⟩ : ∃ z, z = L := ⟨_, rfl⟩
  rw [show tw_Q D cs kp L = tw_Q D cs kp0 L0 by rw [ekp, eL]]
  have hex : ∀ a : Nat, a ∈ L0 → a ∈ L ∧ kp a = kp0 a := fun a h => ⟨by rw [← eL]; exact h, by rw [ekp]⟩
  have hF : tw_fr kp L [(6, 1), (6, 2)] [] E E := tw_fr.rf
  obtain ⟨qfv0_1, hqfv0_1, hqfv0_1a, hqfv0_1b⟩ := tw_rd TH hm0 hk0 (by decide) (by decide) (k := 1) rfl
  have eqfv0_1 : qfv0_1 = fv0_1 := by have q := hqfv0_1.symm.trans hfv0_1; injection q
  rw [eqfv0_1] at hqfv0_1a hqfv0_1b
  refine lv_iconst (v := 0) hx hb dX6_addTree_0 (by decide) ?_
  refine lv_istore_n (lv' := [(3, .int 0), (0, .ref a0), (1, .ref a1), (2, .ref a2)]) hx hb dX6_addTree_1 rfl hl (by decide) rfl (fun ls hl => ?_)
  refine lv_iconst (v := 0) hx hb dX6_addTree_2 (by decide) ?_
  refine lv_istore (lv' := [(4, .int 0), (3, .int 0), (0, .ref a0), (1, .ref a1), (2, .ref a2)]) hx hb dX6_addTree_3 hl (by decide) rfl (fun ls hl => ?_)
  have hJ5 : ∀ (n5 : Nat) (y5_4 : Int32) (y5_3 : Int32) (u5_0_1 : Int32) (Eg5 : Nat → va_E) (H : Heap) (locs : List Loc) (ls : Array Slot), 0 ≤ y5_4.toInt → y5_4.toInt ≤ 40 → 0 ≤ y5_3.toInt → y5_3.toInt ≤ 40 → 0 ≤ u5_0_1.toInt → u5_0_1.toInt ≤ 1000000 → (u5_0_1.toInt ≤ 600 * y5_4.toInt) → 40 - y5_4.toInt ≤ (n5 : Int) → tw_fv Eg5 a0 1 = .int u5_0_1 → tw_fr kp L [(6, 1), (6, 2)] [] E Eg5 → gm_ok Eg5 a2 → tw_H D cs kp L Eg5 A H → va_S A s.heap H locs → lv_has ls 5 [(4, .int y5_4), (3, .int y5_3), (0, .ref a0), (1, .ref a1), (2, .ref a2)] → W p l e { frames := 2, cells := 0, slots := 0, locals := 45 } s m [.ref a0, .ref a1, .ref a2].toArray below meth c H locs 0 0 (MQ below (tw_Q D cs kp0 L0 (fun v kq Lq Eq => v = none ∧ kp = kq ∧ L = Lq ∧ tw_fr kp L [(6, 1), (6, 2)] [] E Eq ∧ gm_ok Eq a2) A) [.ref a0, .ref a1, .ref a2].toArray s 0 0 A) (F0 m 5 ls []) := by
    intro n5
    induction n5 using Nat.strongRecOn with
    | _ n5 ih5 =>
      intro y5_4 y5_3 u5_0_1 Eg5 H locs ls hy5_4a hy5_4b hy5_3a hy5_3b hu5_0_1a hu5_0_1b hin5_0 hmeas5 hfm5_0 hG5 hg0 TH hS hl
      have hF := hF.tr hG5 (fun _ h => ⟨h, rfl⟩) (by decide) (by decide)
      refine lv_iload hx hb dX6_addTree_5 (lv_at hl 0 rfl) ?_
      refine lv_aload_n hx hb dX6_addTree_7 rfl (lv_at hl 3 rfl) ?_
      refine tw_get (ci := 10) (C := RX10) (T := TX10) (N := 8) hx hb hB cx_inX10 hown hK TH hm1 hk1 rfl ⟨by decide, rfl⟩ 0 (by decide) cw_119 (fun _ h9 => h9) dX6_addTree_8 (fun hv => ?_)
      obtain ⟨xi1, hxi1, hxi1a, hxi1b⟩ : ∃ x : Int32, tw_fv Eg5 a1 0 = .int x ∧ 0 ≤ x.toInt ∧ x.toInt ≤ 40 := hv
      rw [hxi1]
      refine lv_icmp_ge (tgt := 103) hx hb dX6_addTree_11 (by decide) (fun hc2 => ?_) (fun hc2 => ?_)
      · have hf3 : xi1.toInt ≤ y5_4.toInt := by have z := (fa_le _ _).mp hc2;  omega
        refine lv_aload_n hx hb dX6_addTree_103 rfl (lv_at hl 2 rfl) ?_
        refine lv_bipush (v := 41) hx hb dX6_addTree_104 (by decide) ?_
        refine lv_iload_n hx hb dX6_addTree_106 rfl (lv_at hl 1 rfl) ?_
        refine lv_iconst (v := 1) hx hb dX6_addTree_107 (by decide) ?_
        refine lv_isub hx hb dX6_addTree_108 ?_
        refine lv_topi (fun zi4 ezi4 => ?_)
        have hzi4 : zi4.toInt = y5_3.toInt - 1 := by rw [ezi4]; have : ((1 : Int32).toInt) = 1 := (by decide); have := ia_lo y5_3; have := ia_hi y5_3; exact (ia_sub (by omega) (by omega)).trans (by omega)
        refine tw_Vc (o := a0) (ci := 6) (n := 2) (post := (fun v kq Lq Eq => v = none ∧ kp = kq ∧ L = Lq ∧ tw_fr kp L [(6, 1), (6, 2)] [] Eg5 Eq ∧ (∃ z0 : Int32, tw_fv Eq a0 1 = .int z0 ∧ (u5_0_1.toInt ≤ z0.toInt ∧ z0.toInt ≤ u5_0_1.toInt + 41)))) (As := [.int 41, .int zi4]) (rest := []) ⟨hx, hb, hml, hown, hB⟩ (fun sz => tX6_addSigns l D cs a0 (41 : Int32) zi4 u5_0_1 hm0 hk0 (by omega) (by omega) hfm5_0 (by have : ((41 : Int32).toInt) = 41 := (by decide); omega) sz) cg_6_34_X6_addSigns rfl rfl (by decide +kernel) ⟨Nat.le_of_ble_eq_true rfl, Nat.le_of_ble_eq_true rfl⟩ hK hN TH hS hA rfl hm0 hk0 (by decide) rfl hl.1 rfl (Nat.le_of_ble_eq_true rfl) dX6_addTree_109 ⟨Nat.le_of_ble_eq_true rfl, Nat.le_of_ble_eq_true rfl⟩ (fun v5 kp5 L5 E5 H locs hq5 hx5 TH hS => ?_)
        obtain ⟨rfl, rfl, rfl, hst5, ⟨zfxc6_0_0, hzfxc6_0_0, hzpxc6_0⟩⟩ := hq5
        have hF := hF.tr hst5 (fun _ h => ⟨h, rfl⟩) (by decide) (by decide)
        have hG5 := hG5.tr hst5 (fun _ h => ⟨h, rfl⟩) (by decide) (by decide)
        have hmf7 : tw_fv E5 a1 0 = .int xi1 := (hst5.1 a1 0 hm1 (by rw [hk1]; decide)).trans hxi1
        have hg0 : gm_ok E5 a2 := gm_ok_fr TH hst5 hm2 hk2 (by decide) (by decide) hg0
        obtain ⟨qzfxc6_0_0, hqzfxc6_0_0, hqzfxc6_0_0a, hqzfxc6_0_0b⟩ := tw_rd TH hm0 hk0 (by decide) (by decide) (k := 1) rfl
        have eqzfxc6_0_0 : qzfxc6_0_0 = zfxc6_0_0 := by have q := hqzfxc6_0_0.symm.trans hzfxc6_0_0; injection q
        rw [eqzfxc6_0_0] at hqzfxc6_0_0a hqzfxc6_0_0b
        refine W.eq (g2 := F0 m 112 ls []) rfl ?_
        exact tw_vret hx hb hr hlocks TH hS hex ⟨rfl, rfl, rfl, hF, hg0⟩ (Nat.le_of_ble_eq_true rfl) (Nat.le_of_ble_eq_true rfl) dX6_addTree_112
      · have hf8 : ¬ (xi1.toInt ≤ y5_4.toInt) := fun q => hc2 ((fa_le _ _).mpr (by  omega))
        refine lv_iload hx hb dX6_addTree_14 (lv_at hl 0 rfl) ?_
        have hJ66 : ∀ (u66_0_1 : Int32) (Eg66 : Nat → va_E) (H : Heap) (locs : List Loc) (ls : Array Slot), 0 ≤ u66_0_1.toInt → u66_0_1.toInt ≤ 1000000 → (u66_0_1.toInt ≤ 600 * y5_4.toInt + 90) → tw_fv Eg66 a0 1 = .int u66_0_1 → tw_fr kp L [(6, 1), (6, 2)] [] Eg5 Eg66 → gm_ok Eg66 a2 → tw_H D cs kp L Eg66 A H → va_S A s.heap H locs → lv_has ls 5 [(4, .int y5_4), (0, .ref a0), (1, .ref a1), (2, .ref a2)] → W p l e { frames := 2, cells := 0, slots := 0, locals := 45 } s m [.ref a0, .ref a1, .ref a2].toArray below meth c H locs 0 0 (MQ below (tw_Q D cs kp0 L0 (fun v kq Lq Eq => v = none ∧ kp = kq ∧ L = Lq ∧ tw_fr kp L [(6, 1), (6, 2)] [] E Eq ∧ gm_ok Eq a2) A) [.ref a0, .ref a1, .ref a2].toArray s 0 0 A) (F0 m 66 ls []) := by
          intro u66_0_1 Eg66 H locs ls hu66_0_1a hu66_0_1b hin66_0 hfm66_0 hG66 hg0 TH hS hl
          have hF := hF.tr hG66 (fun _ h => ⟨h, rfl⟩) (by decide) (by decide)
          have hG5 := hG5.tr hG66 (fun _ h => ⟨h, rfl⟩) (by decide) (by decide)
          have hmf9 : tw_fv Eg66 a1 0 = .int xi1 := (hG66.1 a1 0 hm1 (by rw [hk1]; decide)).trans hxi1
          refine lv_aload_n hx hb dX6_addTree_66 rfl (lv_at hl 2 rfl) ?_
          refine tw_get (ci := 10) (C := RX10) (T := TX10) (N := 8) hx hb hB cx_inX10 hown hK TH hm1 hk1 rfl ⟨by decide, rfl⟩ 4 (by decide) cw_136 (fun _ h9 => h9) dX6_addTree_67 (fun hv => ?_)
          obtain ⟨xr10, hxr10, hmxr10, hkxr10⟩ : ∃ a : Nat, tw_fv Eg66 a1 4 = .ref a ∧ a ∈ L ∧ kp a = 113 := hv
          rw [hxr10]
          refine lv_iload hx hb dX6_addTree_70 (lv_at hl 0 rfl) ?_
          refine tw_iald (k := 113) (t0 := 0) (n := 40) (lo := 0) (hi := 40) hx hb hK TH hmxr10 hkxr10 (by decide) rfl rfl (i := y5_4) (vp_in_iff.mpr ⟨by  omega, by  omega⟩) dX6_addTree_72 (fun hxe11a hxe11b => ?_)
          obtain ⟨xe11, exe11⟩ : ∃ z : Int32, tw_iv Eg66 xr10 (Int32.toNatClampNeg y5_4) = z := ⟨_, rfl⟩
          rw [exe11] at hxe11a hxe11b ⊢
          refine lv_istore_n (lv' := [(3, .int xe11), (4, .int y5_4), (0, .ref a0), (1, .ref a1), (2, .ref a2)]) hx hb dX6_addTree_73 rfl hl (by decide) rfl (fun ls hl => ?_)
          refine lv_aload_n hx hb dX6_addTree_74 rfl (lv_at hl 2 rfl) ?_
          refine lv_aload_n hx hb dX6_addTree_75 rfl (lv_at hl 3 rfl) ?_
          refine tw_get (ci := 10) (C := RX10) (T := TX10) (N := 8) hx hb hB cx_inX10 hown hK TH hm1 hk1 rfl ⟨by decide, rfl⟩ 5 (by decide) cw_141 (fun _ h9 => h9) dX6_addTree_76 (fun hv => ?_)
          obtain ⟨xr12, hxr12, hmxr12, hkxr12⟩ : ∃ a : Nat, tw_fv Eg66 a1 5 = .ref a ∧ a ∈ L ∧ kp a = 114 := hv
          rw [hxr12]
          refine lv_iload hx hb dX6_addTree_79 (lv_at hl 1 rfl) ?_
          refine tw_iald (k := 114) (t0 := 0) (n := 40) (lo := (-1)) (hi := 9) hx hb hK TH hmxr12 hkxr12 (by decide) rfl rfl (i := y5_4) (vp_in_iff.mpr ⟨by  omega, by  omega⟩) dX6_addTree_81 (fun hxe13a hxe13b => ?_)
          obtain ⟨xe13, exe13⟩ : ∃ z : Int32, tw_iv Eg66 xr12 (Int32.toNatClampNeg y5_4) = z := ⟨_, rfl⟩
          rw [exe13] at hxe13a hxe13b ⊢
          refine lv_aload_n hx hb dX6_addTree_82 rfl (lv_at hl 4 rfl) ?_
          refine tw_Vc (o := a0) (ci := 6) (n := 2) (post := (fun v kq Lq Eq => v = none ∧ kp = kq ∧ L = Lq ∧ tw_fr kp L [(6, 1), (6, 2)] [] Eg66 Eq ∧ (∃ z0 : Int32, tw_fv Eq a0 1 = .int z0 ∧ (u66_0_1.toInt ≤ z0.toInt ∧ z0.toInt ≤ u66_0_1.toInt + 500)) ∧ gm_ok Eq a2)) (As := [.int xe13, .ref a2]) (rest := []) ⟨hx, hb, hml, hown, hB⟩ (fun sz => tX6_addName l D cs a0 xe13 a2 u66_0_1 hm0 hk0 hm2 hk2 hfm66_0 (by  omega) hg0 sz) cg_6_41_X6_addName rfl rfl (by decide +kernel) ⟨Nat.le_of_ble_eq_true rfl, Nat.le_of_ble_eq_true rfl⟩ hK hN TH hS hA rfl hm0 hk0 (by decide) rfl hl.1 rfl (Nat.le_of_ble_eq_true rfl) dX6_addTree_83 ⟨Nat.le_of_ble_eq_true rfl, Nat.le_of_ble_eq_true rfl⟩ (fun v14 kp14 L14 E14 H locs hq14 hx14 TH hS => ?_)
          obtain ⟨rfl, rfl, rfl, hst14, ⟨zfxc15_0_0, hzfxc15_0_0, hzpxc15_0⟩, hgpxc15_0⟩ := hq14
          have hF := hF.tr hst14 (fun _ h => ⟨h, rfl⟩) (by decide) (by decide)
          have hG5 := hG5.tr hst14 (fun _ h => ⟨h, rfl⟩) (by decide) (by decide)
          have hmf16 : tw_fv E14 a1 0 = .int xi1 := (hst14.1 a1 0 hm1 (by rw [hk1]; decide)).trans hmf9
          have hmf17 : tw_fv E14 a1 4 = .ref xr10 := (hst14.1 a1 4 hm1 (by rw [hk1]; decide)).trans hxr10
          have hmf18 : tw_fv E14 a1 5 = .ref xr12 := (hst14.1 a1 5 hm1 (by rw [hk1]; decide)).trans hxr12
          obtain ⟨qzfxc15_0_0, hqzfxc15_0_0, hqzfxc15_0_0a, hqzfxc15_0_0b⟩ := tw_rd TH hm0 hk0 (by decide) (by decide) (k := 1) rfl
          have eqzfxc15_0_0 : qzfxc15_0_0 = zfxc15_0_0 := by have q := hqzfxc15_0_0.symm.trans hzfxc15_0_0; injection q
          rw [eqzfxc15_0_0] at hqzfxc15_0_0a hqzfxc15_0_0b
          refine W.eq (g2 := F0 m 86 ls []) rfl ?_
          refine lv_aload_n hx hb dX6_addTree_86 rfl (lv_at hl 2 rfl) ?_
          refine lv_aload_n hx hb dX6_addTree_87 rfl (lv_at hl 3 rfl) ?_
          refine tw_get (ci := 10) (C := RX10) (T := TX10) (N := 8) hx hb hB cx_inX10 hown hK TH hm1 hk1 rfl ⟨by decide, rfl⟩ 6 (by decide) cw_147 (fun _ h9 => h9) dX6_addTree_88 (fun hv => ?_)
          obtain ⟨xr19, hxr19, hmxr19, hkxr19⟩ : ∃ a : Nat, tw_fv E14 a1 6 = .ref a ∧ a ∈ L ∧ kp a = 102 := hv
          rw [hxr19]
          refine lv_iload hx hb dX6_addTree_91 (lv_at hl 1 rfl) ?_
          refine tw_lald (k := 102) (n := 40) (lo := 0) (hi := 0) hx hb hK TH hmxr19 hkxr19 (by decide) rfl (i := y5_4) (vp_in_iff.mpr ⟨by  omega, by  omega⟩) dX6_addTree_93 (fun xl20 => ?_)
          refine tw_Vc (o := a0) (ci := 6) (n := 1) (post := (fun v kq Lq Eq => v = none ∧ kp = kq ∧ L = Lq ∧ tw_fr kp L [(6, 1), (6, 2)] [] E14 Eq ∧ (∃ z0 : Int32, tw_fv Eq a0 1 = .int z0 ∧ (zfxc15_0_0.toInt ≤ z0.toInt ∧ z0.toInt ≤ zfxc15_0_0.toInt + 10)))) (As := [.long xl20]) (rest := []) ⟨hx, hb, hml, hown, hB⟩ (fun sz => tX6_addWord l D cs a0 xl20 zfxc15_0_0 hm0 hk0 hzfxc15_0_0 (by  omega) sz) cg_6_49_X6_addWord rfl rfl (by decide +kernel) ⟨Nat.le_of_ble_eq_true rfl, Nat.le_of_ble_eq_true rfl⟩ hK hN TH hS hA rfl hm0 hk0 (by decide) rfl hl.1 rfl (Nat.le_of_ble_eq_true rfl) dX6_addTree_94 ⟨Nat.le_of_ble_eq_true rfl, Nat.le_of_ble_eq_true rfl⟩ (fun v21 kp21 L21 E21 H locs hq21 hx21 TH hS => ?_)
          obtain ⟨rfl, rfl, rfl, hst21, ⟨zfxc22_0_0, hzfxc22_0_0, hzpxc22_0⟩⟩ := hq21
          have hF := hF.tr hst21 (fun _ h => ⟨h, rfl⟩) (by decide) (by decide)
          have hG5 := hG5.tr hst21 (fun _ h => ⟨h, rfl⟩) (by decide) (by decide)
          have hmf23 : tw_fv E21 a1 0 = .int xi1 := (hst21.1 a1 0 hm1 (by rw [hk1]; decide)).trans hmf16
          have hmf24 : tw_fv E21 a1 4 = .ref xr10 := (hst21.1 a1 4 hm1 (by rw [hk1]; decide)).trans hmf17
          have hmf25 : tw_fv E21 a1 5 = .ref xr12 := (hst21.1 a1 5 hm1 (by rw [hk1]; decide)).trans hmf18
          have hmf26 : tw_fv E21 a1 6 = .ref xr19 := (hst21.1 a1 6 hm1 (by rw [hk1]; decide)).trans hxr19
          have hgpxc15_0 : gm_ok E21 a2 := gm_ok_fr TH hst21 hm2 hk2 (by decide) (by decide) hgpxc15_0
          obtain ⟨qzfxc22_0_0, hqzfxc22_0_0, hqzfxc22_0_0a, hqzfxc22_0_0b⟩ := tw_rd TH hm0 hk0 (by decide) (by decide) (k := 1) rfl
          have eqzfxc22_0_0 : qzfxc22_0_0 = zfxc22_0_0 := by have q := hqzfxc22_0_0.symm.trans hzfxc22_0_0; injection q
          rw [eqzfxc22_0_0] at hqzfxc22_0_0a hqzfxc22_0_0b
          refine W.eq (g2 := F0 m 97 ls []) rfl ?_
          obtain ⟨zi27, ezi27⟩ : ∃ z : Int32, z = y5_4 + Int32.ofInt 1 := ⟨_, rfl⟩
          have hzi27 : zi27.toInt = y5_4.toInt + 1 := by rw [ezi27]; have : ((Int32.ofInt 1).toInt) = 1 := (by decide);  exact (ia_add (by omega) (by omega)).trans (by omega)
          refine lv_iinc (v := zi27) (lv' := [(4, .int zi27), (3, .int xe11), (0, .ref a0), (1, .ref a1), (2, .ref a2)]) hx hb dX6_addTree_97 hl (k := 1) rfl ezi27.symm (by decide) rfl (fun ls hl => ?_)
          refine lv_goto (tgt := 5) hx hb dX6_addTree_100 (by decide) ?_
          exact ih5 (n5 - 1) (by   omega) zi27 xe11 zfxc22_0_0 _ _ _ ls (by omega) (by omega) (by omega) (by omega) (by omega) (by omega) (by  omega) (by   omega) hzfxc22_0_0 hG5 hgpxc15_0 TH hS (lv_sub hl [0, 1, 2, 3, 4] rfl)
        have hG66 : tw_fr kp L [(6, 1), (6, 2)] [] Eg5 Eg5 := tw_fr.rf
        refine lv_if_le (tgt := 66) hx hb dX6_addTree_16 (by decide) (fun hc28 => ?_) (fun hc28 => ?_)
        · have hf29 : y5_4.toInt ≤ 0 := by have z := (fa_le _ _).mp hc28; have : ((0 : Int32).toInt) = 0 := (by decide); omega
          exact hJ66 u5_0_1 _ _ _ ls (by omega) (by omega) (by  omega) hfm5_0 hG66 hg0 TH hS (lv_sub hl [0, 2, 3, 4] rfl)
        · have hf30 : ¬ (y5_4.toInt ≤ 0) := fun q => hc28 ((fa_le _ _).mpr (by have : ((0 : Int32).toInt) = 0 := (by decide); omega))
          refine lv_aload_n hx hb dX6_addTree_19 rfl (lv_at hl 2 rfl) ?_
          refine lv_bipush (v := 40) hx hb dX6_addTree_20 (by decide) ?_
          refine lv_aload_n hx hb dX6_addTree_22 rfl (lv_at hl 3 rfl) ?_
          refine tw_get (ci := 10) (C := RX10) (T := TX10) (N := 8) hx hb hB cx_inX10 hown hK TH hm1 hk1 rfl ⟨by decide, rfl⟩ 4 (by decide) cw_136 (fun _ h9 => h9) dX6_addTree_23 (fun hv => ?_)
          obtain ⟨xr31, hxr31, hmxr31, hkxr31⟩ : ∃ a : Nat, tw_fv Eg5 a1 4 = .ref a ∧ a ∈ L ∧ kp a = 113 := hv
          rw [hxr31]
          refine lv_iload hx hb dX6_addTree_26 (lv_at hl 0 rfl) ?_
          refine tw_iald (k := 113) (t0 := 0) (n := 40) (lo := 0) (hi := 40) hx hb hK TH hmxr31 hkxr31 (by decide) rfl rfl (i := y5_4) (vp_in_iff.mpr ⟨by  omega, by  omega⟩) dX6_addTree_28 (fun hxe32a hxe32b => ?_)
          obtain ⟨xe32, exe32⟩ : ∃ z : Int32, tw_iv Eg5 xr31 (Int32.toNatClampNeg y5_4) = z := ⟨_, rfl⟩
          rw [exe32] at hxe32a hxe32b ⊢
          refine lv_iload_n hx hb dX6_addTree_29 rfl (lv_at hl 1 rfl) ?_
          refine lv_isub hx hb dX6_addTree_30 ?_
          refine lv_topi (fun zi33 ezi33 => ?_)
          have hzi33 : zi33.toInt = xe32.toInt - y5_3.toInt := by rw [ezi33];  have := ia_lo xe32; have := ia_hi xe32; have := ia_lo y5_3; have := ia_hi y5_3; exact (ia_sub (by omega) (by omega)).trans (by omega)
          refine tw_Vc (o := a0) (ci := 6) (n := 2) (post := (fun v kq Lq Eq => v = none ∧ kp = kq ∧ L = Lq ∧ tw_fr kp L [(6, 1), (6, 2)] [] Eg5 Eq ∧ (∃ z0 : Int32, tw_fv Eq a0 1 = .int z0 ∧ (u5_0_1.toInt ≤ z0.toInt ∧ z0.toInt ≤ u5_0_1.toInt + 41)))) (As := [.int 40, .int zi33]) (rest := []) ⟨hx, hb, hml, hown, hB⟩ (fun sz => tX6_addSigns l D cs a0 (40 : Int32) zi33 u5_0_1 hm0 hk0 (by omega) (by omega) hfm5_0 (by have : ((40 : Int32).toInt) = 40 := (by decide); omega) sz) cg_6_34_X6_addSigns rfl rfl (by decide +kernel) ⟨Nat.le_of_ble_eq_true rfl, Nat.le_of_ble_eq_true rfl⟩ hK hN TH hS hA rfl hm0 hk0 (by decide) rfl hl.1 rfl (Nat.le_of_ble_eq_true rfl) dX6_addTree_31 ⟨Nat.le_of_ble_eq_true rfl, Nat.le_of_ble_eq_true rfl⟩ (fun v34 kp34 L34 E34 H locs hq34 hx34 TH hS => ?_)
          obtain ⟨rfl, rfl, rfl, hst34, ⟨zfxc35_0_0, hzfxc35_0_0, hzpxc35_0⟩⟩ := hq34
          have hF := hF.tr hst34 (fun _ h => ⟨h, rfl⟩) (by decide) (by decide)
          have hG5 := hG5.tr hst34 (fun _ h => ⟨h, rfl⟩) (by decide) (by decide)
          have hG66 := hG66.tr hst34 (fun _ h => ⟨h, rfl⟩) (by decide) (by decide)
          have hmf36 : tw_fv E34 a1 0 = .int xi1 := (hst34.1 a1 0 hm1 (by rw [hk1]; decide)).trans hxi1
          have hmf37 : tw_fv E34 a1 4 = .ref xr31 := (hst34.1 a1 4 hm1 (by rw [hk1]; decide)).trans hxr31
          have hg0 : gm_ok E34 a2 := gm_ok_fr TH hst34 hm2 hk2 (by decide) (by decide) hg0
          obtain ⟨qzfxc35_0_0, hqzfxc35_0_0, hqzfxc35_0_0a, hqzfxc35_0_0b⟩ := tw_rd TH hm0 hk0 (by decide) (by decide) (k := 1) rfl
          have eqzfxc35_0_0 : qzfxc35_0_0 = zfxc35_0_0 := by have q := hqzfxc35_0_0.symm.trans hzfxc35_0_0; injection q
          rw [eqzfxc35_0_0] at hqzfxc35_0_0a hqzfxc35_0_0b
          refine W.eq (g2 := F0 m 34 ls []) rfl ?_
          refine lv_aload_n hx hb dX6_addTree_34 rfl (lv_at hl 2 rfl) ?_
          refine lv_bipush (v := 41) hx hb dX6_addTree_35 (by decide) ?_
          refine lv_iload_n hx hb dX6_addTree_37 rfl (lv_at hl 1 rfl) ?_
          refine lv_aload_n hx hb dX6_addTree_38 rfl (lv_at hl 3 rfl) ?_
          refine tw_get (ci := 10) (C := RX10) (T := TX10) (N := 8) hx hb hB cx_inX10 hown hK TH hm1 hk1 rfl ⟨by decide, rfl⟩ 4 (by decide) cw_136 (fun _ h9 => h9) dX6_addTree_39 (fun hv => ?_)
          rw [hmf37]
          refine lv_iload hx hb dX6_addTree_42 (lv_at hl 0 rfl) ?_
          refine tw_iald (k := 113) (t0 := 0) (n := 40) (lo := 0) (hi := 40) hx hb hK TH hmxr31 hkxr31 (by decide) rfl rfl (i := y5_4) (vp_in_iff.mpr ⟨by  omega, by  omega⟩) dX6_addTree_44 (fun hxe38a hxe38b => ?_)
          obtain ⟨xe38, exe38⟩ : ∃ z : Int32, tw_iv E34 xr31 (Int32.toNatClampNeg y5_4) = z := ⟨_, rfl⟩
          rw [exe38] at hxe38a hxe38b ⊢
          refine lv_isub hx hb dX6_addTree_45 ?_
          refine lv_topi (fun zi39 ezi39 => ?_)
          have hzi39 : zi39.toInt = y5_3.toInt - xe38.toInt := by rw [ezi39];  have := ia_lo y5_3; have := ia_hi y5_3; have := ia_lo xe38; have := ia_hi xe38; exact (ia_sub (by omega) (by omega)).trans (by omega)
          refine tw_Vc (o := a0) (ci := 6) (n := 2) (post := (fun v kq Lq Eq => v = none ∧ kp = kq ∧ L = Lq ∧ tw_fr kp L [(6, 1), (6, 2)] [] E34 Eq ∧ (∃ z0 : Int32, tw_fv Eq a0 1 = .int z0 ∧ (zfxc35_0_0.toInt ≤ z0.toInt ∧ z0.toInt ≤ zfxc35_0_0.toInt + 41)))) (As := [.int 41, .int zi39]) (rest := []) ⟨hx, hb, hml, hown, hB⟩ (fun sz => tX6_addSigns l D cs a0 (41 : Int32) zi39 zfxc35_0_0 hm0 hk0 (by omega) (by omega) hzfxc35_0_0 (by have : ((41 : Int32).toInt) = 41 := (by decide); omega) sz) cg_6_34_X6_addSigns rfl rfl (by decide +kernel) ⟨Nat.le_of_ble_eq_true rfl, Nat.le_of_ble_eq_true rfl⟩ hK hN TH hS hA rfl hm0 hk0 (by decide) rfl hl.1 rfl (Nat.le_of_ble_eq_true rfl) dX6_addTree_46 ⟨Nat.le_of_ble_eq_true rfl, Nat.le_of_ble_eq_true rfl⟩ (fun v40 kp40 L40 E40 H locs hq40 hx40 TH hS => ?_)
          obtain ⟨rfl, rfl, rfl, hst40, ⟨zfxc41_0_0, hzfxc41_0_0, hzpxc41_0⟩⟩ := hq40
          have hF := hF.tr hst40 (fun _ h => ⟨h, rfl⟩) (by decide) (by decide)
          have hG5 := hG5.tr hst40 (fun _ h => ⟨h, rfl⟩) (by decide) (by decide)
          have hG66 := hG66.tr hst40 (fun _ h => ⟨h, rfl⟩) (by decide) (by decide)
          have hmf42 : tw_fv E40 a1 0 = .int xi1 := (hst40.1 a1 0 hm1 (by rw [hk1]; decide)).trans hmf36
          have hmf43 : tw_fv E40 a1 4 = .ref xr31 := (hst40.1 a1 4 hm1 (by rw [hk1]; decide)).trans hmf37
          have hg0 : gm_ok E40 a2 := gm_ok_fr TH hst40 hm2 hk2 (by decide) (by decide) hg0
          obtain ⟨qzfxc41_0_0, hqzfxc41_0_0, hqzfxc41_0_0a, hqzfxc41_0_0b⟩ := tw_rd TH hm0 hk0 (by decide) (by decide) (k := 1) rfl
          have eqzfxc41_0_0 : qzfxc41_0_0 = zfxc41_0_0 := by have q := hqzfxc41_0_0.symm.trans hzfxc41_0_0; injection q
          rw [eqzfxc41_0_0] at hqzfxc41_0_0a hqzfxc41_0_0b
          refine W.eq (g2 := F0 m 49 ls []) rfl ?_
          refine lv_aload_n hx hb dX6_addTree_49 rfl (lv_at hl 3 rfl) ?_
          refine tw_get (ci := 10) (C := RX10) (T := TX10) (N := 8) hx hb hB cx_inX10 hown hK TH hm1 hk1 rfl ⟨by decide, rfl⟩ 4 (by decide) cw_136 (fun _ h9 => h9) dX6_addTree_50 (fun hv => ?_)
          rw [hmf43]
          refine lv_iload hx hb dX6_addTree_53 (lv_at hl 0 rfl) ?_
          refine tw_iald (k := 113) (t0 := 0) (n := 40) (lo := 0) (hi := 40) hx hb hK TH hmxr31 hkxr31 (by decide) rfl rfl (i := y5_4) (vp_in_iff.mpr ⟨by  omega, by  omega⟩) dX6_addTree_55 (fun hxe44a hxe44b => ?_)
          obtain ⟨xe44, exe44⟩ : ∃ z : Int32, tw_iv E40 xr31 (Int32.toNatClampNeg y5_4) = z := ⟨_, rfl⟩
          rw [exe44] at hxe44a hxe44b ⊢
          refine lv_iload_n hx hb dX6_addTree_56 rfl (lv_at hl 1 rfl) ?_
          refine lv_icmp_gt (tgt := 66) hx hb dX6_addTree_57 (by decide) (fun hc45 => ?_) (fun hc45 => ?_)
          · have hf46 : y5_3.toInt < xe44.toInt := by have z := (fa_lt _ _).mp hc45;  omega
            exact hJ66 zfxc41_0_0 _ _ _ ls (by omega) (by omega) (by  omega) hzfxc41_0_0 hG66 hg0 TH hS (lv_sub hl [0, 2, 3, 4] rfl)
          · have hf47 : ¬ (y5_3.toInt < xe44.toInt) := fun q => hc45 ((fa_lt _ _).mpr (by  omega))
            refine lv_aload_n hx hb dX6_addTree_60 rfl (lv_at hl 2 rfl) ?_
            refine lv_bipush (v := 32) hx hb dX6_addTree_61 (by decide) ?_
            refine tw_Vc (o := a0) (ci := 6) (n := 1) (post := (fun v kq Lq Eq => v = none ∧ kp = kq ∧ L = Lq ∧ tw_fr kp L [(6, 1), (6, 2)] [] E40 Eq ∧ (∃ z0 : Int32, tw_fv Eq a0 1 = .int z0 ∧ (z0.toInt = zfxc41_0_0.toInt + 1)))) (As := [.int 32]) (rest := []) ⟨hx, hb, hml, hown, hB⟩ (fun sz => tX6_addSign l D cs a0 (32 : Int32) zfxc41_0_0 hm0 hk0 hzfxc41_0_0 (by have : ((32 : Int32).toInt) = 32 := (by decide); omega) sz) cg_6_21_X6_addSign rfl rfl (by decide +kernel) ⟨Nat.le_of_ble_eq_true rfl, Nat.le_of_ble_eq_true rfl⟩ hK hN TH hS hA rfl hm0 hk0 (by decide) rfl hl.1 rfl (Nat.le_of_ble_eq_true rfl) dX6_addTree_63 ⟨Nat.le_of_ble_eq_true rfl, Nat.le_of_ble_eq_true rfl⟩ (fun v48 kp48 L48 E48 H locs hq48 hx48 TH hS => ?_)
            obtain ⟨rfl, rfl, rfl, hst48, ⟨zfxc49_0_0, hzfxc49_0_0, hzpxc49_0⟩⟩ := hq48
            have hF := hF.tr hst48 (fun _ h => ⟨h, rfl⟩) (by decide) (by decide)
            have hG5 := hG5.tr hst48 (fun _ h => ⟨h, rfl⟩) (by decide) (by decide)
            have hG66 := hG66.tr hst48 (fun _ h => ⟨h, rfl⟩) (by decide) (by decide)
            have hmf50 : tw_fv E48 a1 0 = .int xi1 := (hst48.1 a1 0 hm1 (by rw [hk1]; decide)).trans hmf42
            have hmf51 : tw_fv E48 a1 4 = .ref xr31 := (hst48.1 a1 4 hm1 (by rw [hk1]; decide)).trans hmf43
            have hg0 : gm_ok E48 a2 := gm_ok_fr TH hst48 hm2 hk2 (by decide) (by decide) hg0
            obtain ⟨qzfxc49_0_0, hqzfxc49_0_0, hqzfxc49_0_0a, hqzfxc49_0_0b⟩ := tw_rd TH hm0 hk0 (by decide) (by decide) (k := 1) rfl
            have eqzfxc49_0_0 : qzfxc49_0_0 = zfxc49_0_0 := by have q := hqzfxc49_0_0.symm.trans hzfxc49_0_0; injection q
            rw [eqzfxc49_0_0] at hqzfxc49_0_0a hqzfxc49_0_0b
            refine W.eq (g2 := F0 m 66 ls []) rfl ?_
            exact hJ66 zfxc49_0_0 _ _ _ ls (by omega) (by omega) (by  omega) hzfxc49_0_0 hG66 hg0 TH hS (lv_sub hl [0, 2, 3, 4] rfl)
  exact hJ5 41 (0 : Int32) (0 : Int32) fv0_1 _ _ _ ls (by have : ((0 : Int32).toInt) = 0 := (by decide); omega) (by have : ((0 : Int32).toInt) = 0 := (by decide); omega) (by have : ((0 : Int32).toInt) = 0 := (by decide); omega) (by have : ((0 : Int32).toInt) = 0 := (by decide); omega) (by omega) (by omega) (by have : ((0 : Int32).toInt) = 0 := (by decide); omega) (by have : ((0 : Int32).toInt) = 0 := (by decide);  omega) hfv0_1 tw_fr.rf hg0 TH hS (lv_sub hl [0, 1, 2, 3, 4] rfl)
set_option maxHeartbeats 4000000 in
set_option maxRecDepth 100000 in
theorem tX11_newNumber (l : Launch) (D : va_G) (cs : Nat → ClassId) {kp : Nat → Nat} {L : List Nat} {E : Nat → va_E} (a0 : Nat) (x1 : Int32) (hm0 : a0 ∈ L) (hk0 : kp a0 = 11) (hp1a : (-2) ≤ x1.toInt) (hp1b : x1.toInt ≤ 12) (sz : Nat) : Met l yX11_newNumber (.code yX11_newNumber cX11_newNumber 2 (some .int) :: cx_big) { frames := 0, cells := 0, slots := 0, locals := 0 } (tw_P D cs kp L E [.ref a0, .int x1] sz) (tw_Q D cs kp L (fun v kq Lq Eq => (∃ x : Int32, v = some (.int x) ∧ (-1) ≤ x.toInt ∧ x.toInt ≤ 149) ∧ kp = kq ∧ L = Lq ∧ tw_fr kp L [(11, 15)] [180] E Eq) (va_A (va_pl L E) sz)) 0 0 (va_A (va_pl L E) sz) := by
  refine tw_ofW (by decide) (Nat.le_of_ble_eq_true rfl) ?_
  intro p e s m below meth c A ls hx hb hr hml hB hown hlocks hK hN hA TH hS hl
  have hown : s.vm.findClass "TreeMerge" = some m.cls := hown
  have hl : lv_has ls 2 [(0, .ref a0), (1, .int x1)] := hl
  obtain ⟨kp0, ekp⟩ : ∃ z, z = kp := ⟨_, rfl⟩
  obtain ⟨L0, eL⟩ : ∃ z, z = L := ⟨_, rfl⟩
  rw [show tw_Q D cs kp L = tw_Q D cs kp0 L0 by rw [ekp, eL]]
  have hex : ∀ a : Nat, a ∈ L0 → a ∈ L ∧ kp a = kp0 a := fun a h => ⟨by rw [← eL]; exact h, by rw [ekp]⟩
  have hF : tw_fr kp L [(11, 15)] [180] E E := tw_fr.rf
  refine lv_aload_n hx hb dX11_newNumber_0 rfl (lv_at hl 0 rfl) ?_
  refine tw_get (ci := 11) (C := RX11) (T := TX11) (N := 19) hx hb hB cx_inX11 hown hK TH hm0 hk0 rfl ⟨by decide, rfl⟩ 15 (by decide) cw_398 (fun _ h9 => h9) dX11_newNumber_1 (fun hv => ?_)
  obtain ⟨xi1, hxi1, hxi1a, hxi1b⟩ : ∃ x : Int32, tw_fv E a0 15 = .int x ∧ 0 ≤ x.toInt ∧ x.toInt ≤ 150 := hv
  rw [hxi1]
  refine lv_sipush (v := 150) hx hb dX11_newNumber_4 (by decide) ?_
  refine lv_icmp_lt (tgt := 12) hx hb dX11_newNumber_7 (by decide) (fun hc2 => ?_) (fun hc2 => ?_)
  · have hf3 : xi1.toInt < 150 := by have z := (fa_lt _ _).mp hc2; have : ((150 : Int32).toInt) = 150 := (by decide); omega
    refine lv_aload_n hx hb dX11_newNumber_12 rfl (lv_at hl 0 rfl) ?_
    refine tw_get (ci := 11) (C := RX11) (T := TX11) (N := 19) hx hb hB cx_inX11 hown hK TH hm0 hk0 rfl ⟨by decide, rfl⟩ 14 (by decide) cw_397 (fun _ h9 => h9) dX11_newNumber_13 (fun hv => ?_)
    obtain ⟨xr4, hxr4, hmxr4, hkxr4⟩ : ∃ a : Nat, tw_fv E a0 14 = .ref a ∧ a ∈ L ∧ kp a = 180 := hv
    rw [hxr4]
    refine lv_aload_n hx hb dX11_newNumber_16 rfl (lv_at hl 0 rfl) ?_
    refine tw_get (ci := 11) (C := RX11) (T := TX11) (N := 19) hx hb hB cx_inX11 hown hK TH hm0 hk0 rfl ⟨by decide, rfl⟩ 15 (by decide) cw_398 (fun _ h9 => h9) dX11_newNumber_17 (fun hv => ?_)
    rw [hxi1]
    refine lv_iload_n hx hb dX11_newNumber_20 rfl (lv_at hl 1 rfl) ?_
    refine tw_iast (k := 180) (n := 150) (lo := (-2)) (hi := 12) hx hb hK TH hS hmxr4 hkxr4 (by decide) rfl (i := xi1) (x := x1) (vp_in_iff.mpr ⟨by  omega, by  omega⟩) (by omega) (by omega) dX11_newNumber_21 (fun H locs E5 TH hS hp6 hp7 hp8 => ?_)
    have hst9 : tw_fr kp L [] [180] E E5 := tw_fr.ast tw_fr.rf (fun _ => hkxr4) hp6 hp7 (by decide)
    have hF := hF.tr hst9 (fun _ h => ⟨h, rfl⟩) (by decide) (by decide)
    have hmf10 : tw_fv E5 a0 15 = .int xi1 := (hst9.1 a0 15 hm0 (by rw [hk0]; decide)).trans hxi1
    have hmf11 : tw_fv E5 a0 14 = .ref xr4 := (hst9.1 a0 14 hm0 (by rw [hk0]; decide)).trans hxr4
    refine lv_aload_n hx hb dX11_newNumber_22 rfl (lv_at hl 0 rfl) ?_
    refine lv_dup hx hb dX11_newNumber_23 rfl ?_
    refine tw_get (ci := 11) (C := RX11) (T := TX11) (N := 19) hx hb hB cx_inX11 hown hK TH hm0 hk0 rfl ⟨by decide, rfl⟩ 15 (by decide) cw_398 (fun _ h9 => h9) dX11_newNumber_24 (fun hv => ?_)
    rw [hmf10]
    refine lv_iconst (v := 1) hx hb dX11_newNumber_27 (by decide) ?_
    refine lv_iadd hx hb dX11_newNumber_28 ?_
    refine lv_topi (fun zi12 ezi12 => ?_)
    have hzi12 : zi12.toInt = xi1.toInt + 1 := by rw [ezi12]; have : ((1 : Int32).toInt) = 1 := (by decide); have := ia_lo xi1; have := ia_hi xi1; exact (ia_add (by omega) (by omega)).trans (by omega)
    refine tw_put (ci := 11) (v := .int zi12) (ty := .int) (C := RX11) (T := TX11) (N := 19) hx hb hB cx_inX11 tyX11 tyX11_ok nmX11 hown hK TH hS hm0 hk0 rfl ⟨by decide, rfl⟩ 15 (by decide) cw_398 (fun _ h9 => h9) rfl (by decide +kernel) rfl rfl ⟨_, rfl, (show 0 ≤ Int32.toInt zi12 from by  omega), (show Int32.toInt zi12 ≤ 150 from by  omega)⟩ dX11_newNumber_29 (fun H locs E13 TH hS hmf17 hp14 hp15 => ?_)
    have hst16 : tw_fr kp L [(11, 15)] [] E5 E13 := tw_fr.put tw_fr.rf (fun _ => hk0) (by decide) hp14 hp15 (by decide)
    have hF := hF.tr hst16 (fun _ h => ⟨h, rfl⟩) (by decide) (by decide)
    have hmf18 : tw_fv E13 a0 14 = .ref xr4 := (hst16.1 a0 14 hm0 (by rw [hk0]; decide)).trans hmf11
    refine lv_aload_n hx hb dX11_newNumber_32 rfl (lv_at hl 0 rfl) ?_
    refine tw_get (ci := 11) (C := RX11) (T := TX11) (N := 19) hx hb hB cx_inX11 hown hK TH hm0 hk0 rfl ⟨by decide, rfl⟩ 15 (by decide) cw_398 (fun _ h9 => h9) dX11_newNumber_33 (fun hv => ?_)
    rw [hmf17]
    refine lv_iconst (v := 1) hx hb dX11_newNumber_36 (by decide) ?_
    refine lv_isub hx hb dX11_newNumber_37 ?_
    refine lv_topi (fun zi19 ezi19 => ?_)
    have hzi19 : zi19.toInt = zi12.toInt - 1 := by rw [ezi19]; have : ((1 : Int32).toInt) = 1 := (by decide); have := ia_lo zi12; have := ia_hi zi12; exact (ia_sub (by omega) (by omega)).trans (by omega)
    exact tw_iret hx hb hr hlocks TH hS hex ⟨⟨_, rfl, (show (-1) ≤ Int32.toInt zi19 from by  omega), (show Int32.toInt zi19 ≤ 149 from by  omega)⟩, rfl, rfl, hF⟩ (Nat.le_of_ble_eq_true rfl) (Nat.le_of_ble_eq_true rfl) dX11_newNumber_38
  · have hf20 : ¬ (xi1.toInt < 150) := fun q => hc2 ((fa_lt _ _).mpr (by have : ((150 : Int32).toInt) = 150 := (by decide); omega))
    refine lv_iconst (v := (-1)) hx hb dX11_newNumber_10 (by decide) ?_
    exact tw_iret hx hb hr hlocks TH hS hex ⟨⟨_, rfl, (show (-1) ≤ Int32.toInt (-1) from by have : (((-1) : Int32).toInt) = (-1) := (by decide); omega), (show Int32.toInt (-1) ≤ 149 from by have : (((-1) : Int32).toInt) = (-1) := (by decide); omega)⟩, rfl, rfl, hF⟩ (Nat.le_of_ble_eq_true rfl) (Nat.le_of_ble_eq_true rfl) dX11_newNumber_11
set_option maxHeartbeats 4000000 in
set_option maxRecDepth 100000 in
theorem tX11_endDraft (l : Launch) (D : va_G) (cs : Nat → ClassId) {kp : Nat → Nat} {L : List Nat} {E : Nat → va_E} (a0 : Nat) (x1 : Int32) (hm0 : a0 ∈ L) (hk0 : kp a0 = 11) (hp1a : (-1) ≤ x1.toInt) (hp1b : x1.toInt ≤ 11) (sz : Nat) : Met l yX11_endDraft (.code yX11_endDraft cX11_endDraft 3 none :: cx_big) { frames := 0, cells := 0, slots := 0, locals := 0 } (tw_P D cs kp L E [.ref a0, .int x1] sz) (tw_Q D cs kp L (fun v kq Lq Eq => v = none ∧ kp = kq ∧ L = Lq ∧ tw_fr kp L [(0, 0)] [180] E Eq) (va_A (va_pl L E) sz)) 0 0 (va_A (va_pl L E) sz) := by
  refine tw_ofW (by decide) (Nat.le_of_ble_eq_true rfl) ?_
  intro p e s m below meth c A ls hx hb hr hml hB hown hlocks hK hN hA TH hS hl
  have hown : s.vm.findClass "TreeMerge" = some m.cls := hown
  have hl : lv_has ls 3 [(0, .ref a0), (1, .int x1)] := hl
  obtain ⟨kp0, ekp⟩ : ∃ z, z = kp := ⟨_, rfl⟩
  obtain ⟨L0, eL⟩ : ∃ z, z = L := ⟨_, rfl⟩
  rw [show tw_Q D cs kp L = tw_Q D cs kp0 L0 by rw [ekp, eL]]
  have hex : ∀ a : Nat, a ∈ L0 → a ∈ L ∧ kp a = kp0 a := fun a h => ⟨by rw [← eL]; exact h, by rw [ekp]⟩
  have hF : tw_fr kp L [(0, 0)] [180] E E := tw_fr.rf
  refine lv_iconst (v := 0) hx hb dX11_endDraft_0 (by decide) ?_
  refine lv_istore_n (lv' := [(2, .int 0), (0, .ref a0), (1, .int x1)]) hx hb dX11_endDraft_1 rfl hl (by decide) rfl (fun ls hl => ?_)
  have hJ2 : ∀ (n2 : Nat) (y2_2 : Int32) (Eg2 : Nat → va_E) (H : Heap) (locs : List Loc) (ls : Array Slot), 0 ≤ y2_2.toInt → y2_2.toInt ≤ 150 → 150 - y2_2.toInt ≤ (n2 : Int) → tw_fr kp L [] [180] E Eg2 → tw_H D cs kp L Eg2 A H → va_S A s.heap H locs → lv_has ls 3 [(2, .int y2_2), (0, .ref a0), (1, .int x1)] → W p l e { frames := 0, cells := 0, slots := 0, locals := 0 } s m [.ref a0, .int x1].toArray below meth c H locs 0 0 (MQ below (tw_Q D cs kp0 L0 (fun v kq Lq Eq => v = none ∧ kp = kq ∧ L = Lq ∧ tw_fr kp L [(0, 0)] [180] E Eq) A) [.ref a0, .int x1].toArray s 0 0 A) (F0 m 2 ls []) := by
    intro n2
    induction n2 using Nat.strongRecOn with
    | _ n2 ih2 =>
      intro y2_2 Eg2 H locs ls hy2_2a hy2_2b hmeas2 hG2 TH hS hl
      have hF := hF.tr hG2 (fun _ h => ⟨h, rfl⟩) (by decide) (by decide)
      refine lv_iload_n hx hb dX11_endDraft_2 rfl (lv_at hl 0 rfl) ?_
      refine lv_aload_n hx hb dX11_endDraft_3 rfl (lv_at hl 1 rfl) ?_
      refine tw_get (ci := 11) (C := RX11) (T := TX11) (N := 19) hx hb hB cx_inX11 hown hK TH hm0 hk0 rfl ⟨by decide, rfl⟩ 15 (by decide) cw_398 (fun _ h9 => h9) dX11_endDraft_4 (fun hv => ?_)
      obtain ⟨xi1, hxi1, hxi1a, hxi1b⟩ : ∃ x : Int32, tw_fv Eg2 a0 15 = .int x ∧ 0 ≤ x.toInt ∧ x.toInt ≤ 150 := hv
      rw [hxi1]
      refine lv_icmp_ge (tgt := 34) hx hb dX11_endDraft_7 (by decide) (fun hc2 => ?_) (fun hc2 => ?_)
      · have hf3 : xi1.toInt ≤ y2_2.toInt := by have z := (fa_le _ _).mp hc2;  omega
        refine lv_aload_n hx hb dX11_endDraft_34 rfl (lv_at hl 1 rfl) ?_
        refine tw_get (ci := 11) (C := RX11) (T := TX11) (N := 19) hx hb hB cx_inX11 hown hK TH hm0 hk0 rfl ⟨by decide, rfl⟩ 8 (by decide) cw_391 (fun _ h9 => h9) dX11_endDraft_35 (fun hv => ?_)
        obtain ⟨xr4, hxr4, hmxr4, hkxr4⟩ : ∃ a : Nat, tw_fv Eg2 a0 8 = .ref a ∧ a ∈ L ∧ kp a = 0 := hv
        rw [hxr4]
        refine lv_iconst (v := 0) hx hb dX11_endDraft_38 (by decide) ?_
        refine tw_put (ci := 0) (v := .int 0) (ty := .boolean) (C := RX0) (T := TX0) (N := 4) hx hb hB cx_inX0 tyX0 tyX0_ok nmX0 hown hK TH hS hmxr4 hkxr4 rfl ⟨by decide, rfl⟩ 0 (by decide) cw_257 (fun _ h9 => h9) rfl (by decide +kernel) (by decide) (by decide) ⟨_, rfl, (show 0 ≤ Int32.toInt 0 from by have : ((0 : Int32).toInt) = 0 := (by decide); omega), (show Int32.toInt 0 ≤ 1 from by have : ((0 : Int32).toInt) = 0 := (by decide); omega)⟩ dX11_endDraft_39 (fun H locs E5 TH hS hmf9 hp6 hp7 => ?_)
        have hst8 : tw_fr kp L [(0, 0)] [] Eg2 E5 := tw_fr.put tw_fr.rf (fun _ => hkxr4) (by decide) hp6 hp7 (by decide)
        have hF := hF.tr hst8 (fun _ h => ⟨h, rfl⟩) (by decide) (by decide)
        have hmf10 : tw_fv E5 a0 15 = .int xi1 := (hst8.1 a0 15 hm0 (by rw [hk0]; decide)).trans hxi1
        have hmf11 : tw_fv E5 a0 8 = .ref xr4 := (hst8.1 a0 8 hm0 (by rw [hk0]; decide)).trans hxr4
        exact tw_vret hx hb hr hlocks TH hS hex ⟨rfl, rfl, rfl, hF⟩ (Nat.le_of_ble_eq_true rfl) (Nat.le_of_ble_eq_true rfl) dX11_endDraft_42
      · have hf12 : ¬ (xi1.toInt ≤ y2_2.toInt) := fun q => hc2 ((fa_le _ _).mpr (by  omega))
        refine lv_aload_n hx hb dX11_endDraft_10 rfl (lv_at hl 1 rfl) ?_
        refine tw_get (ci := 11) (C := RX11) (T := TX11) (N := 19) hx hb hB cx_inX11 hown hK TH hm0 hk0 rfl ⟨by decide, rfl⟩ 14 (by decide) cw_397 (fun _ h9 => h9) dX11_endDraft_11 (fun hv => ?_)
        obtain ⟨xr13, hxr13, hmxr13, hkxr13⟩ : ∃ a : Nat, tw_fv Eg2 a0 14 = .ref a ∧ a ∈ L ∧ kp a = 180 := hv
        rw [hxr13]
        refine lv_iload_n hx hb dX11_endDraft_14 rfl (lv_at hl 0 rfl) ?_
        refine tw_iald (k := 180) (t0 := 0) (n := 150) (lo := (-2)) (hi := 12) hx hb hK TH hmxr13 hkxr13 (by decide) rfl rfl (i := y2_2) (vp_in_iff.mpr ⟨by  omega, by  omega⟩) dX11_endDraft_15 (fun hxe14a hxe14b => ?_)
        obtain ⟨xe14, exe14⟩ : ∃ z : Int32, tw_iv Eg2 xr13 (Int32.toNatClampNeg y2_2) = z := ⟨_, rfl⟩
        rw [exe14] at hxe14a hxe14b ⊢
        refine lv_bipush (v := (-2)) hx hb dX11_endDraft_16 (by decide) ?_
        have hJ28 : ∀  (Eg28 : Nat → va_E) (H : Heap) (locs : List Loc) (ls : Array Slot), tw_fr kp L [] [180] Eg2 Eg28 → tw_H D cs kp L Eg28 A H → va_S A s.heap H locs → lv_has ls 3 [(2, .int y2_2), (0, .ref a0), (1, .int x1)] → W p l e { frames := 0, cells := 0, slots := 0, locals := 0 } s m [.ref a0, .int x1].toArray below meth c H locs 0 0 (MQ below (tw_Q D cs kp0 L0 (fun v kq Lq Eq => v = none ∧ kp = kq ∧ L = Lq ∧ tw_fr kp L [(0, 0)] [180] E Eq) A) [.ref a0, .int x1].toArray s 0 0 A) (F0 m 28 ls []) := by
          intro Eg28 H locs ls hG28 TH hS hl
          have hF := hF.tr hG28 (fun _ h => ⟨h, rfl⟩) (by decide) (by decide)
          have hG2 := hG2.tr hG28 (fun _ h => ⟨h, rfl⟩) (by decide) (by decide)
          have hmf15 : tw_fv Eg28 a0 15 = .int xi1 := (hG28.1 a0 15 hm0 (by rw [hk0]; decide)).trans hxi1
          have hmf16 : tw_fv Eg28 a0 14 = .ref xr13 := (hG28.1 a0 14 hm0 (by rw [hk0]; decide)).trans hxr13
          obtain ⟨zi17, ezi17⟩ : ∃ z : Int32, z = y2_2 + Int32.ofInt 1 := ⟨_, rfl⟩
          have hzi17 : zi17.toInt = y2_2.toInt + 1 := by rw [ezi17]; have : ((Int32.ofInt 1).toInt) = 1 := (by decide);  exact (ia_add (by omega) (by omega)).trans (by omega)
          refine lv_iinc (v := zi17) (lv' := [(2, .int zi17), (0, .ref a0), (1, .int x1)]) hx hb dX11_endDraft_28 hl (k := 0) rfl ezi17.symm (by decide) rfl (fun ls hl => ?_)
          refine lv_goto (tgt := 2) hx hb dX11_endDraft_31 (by decide) ?_
          exact ih2 (n2 - 1) (by   omega) zi17 _ _ _ ls (by omega) (by omega) (by   omega) hG2 TH hS (lv_sub hl [0, 1, 2] rfl)
        have hG28 : tw_fr kp L [] [180] Eg2 Eg2 := tw_fr.rf
        refine lv_icmp_ne (tgt := 28) hx hb dX11_endDraft_18 (by decide) (fun hc18 => ?_) (fun hc18 => ?_)
        · have hf19 : ¬ (xe14.toInt = (-2)) := fun q => hc18 ((fa_eq _ _).mpr (by have : (((-2) : Int32).toInt) = (-2) := (by decide); omega))
          exact hJ28  _ _ _ ls hG28 TH hS (lv_sub hl [0, 1, 2] rfl)
        · have hf20 : xe14.toInt = (-2) := by have z := (fa_eq _ _).mp hc18; have : (((-2) : Int32).toInt) = (-2) := (by decide); omega
          refine lv_aload_n hx hb dX11_endDraft_21 rfl (lv_at hl 1 rfl) ?_
          refine tw_get (ci := 11) (C := RX11) (T := TX11) (N := 19) hx hb hB cx_inX11 hown hK TH hm0 hk0 rfl ⟨by decide, rfl⟩ 14 (by decide) cw_397 (fun _ h9 => h9) dX11_endDraft_22 (fun hv => ?_)
          rw [hxr13]
          refine lv_iload_n hx hb dX11_endDraft_25 rfl (lv_at hl 0 rfl) ?_
          refine lv_iload_n hx hb dX11_endDraft_26 rfl (lv_at hl 2 rfl) ?_
          refine tw_iast (k := 180) (n := 150) (lo := (-2)) (hi := 12) hx hb hK TH hS hmxr13 hkxr13 (by decide) rfl (i := y2_2) (x := x1) (vp_in_iff.mpr ⟨by  omega, by  omega⟩) (by omega) (by omega) dX11_endDraft_27 (fun H locs E21 TH hS hp22 hp23 hp24 => ?_)
          have hst25 : tw_fr kp L [] [180] Eg2 E21 := tw_fr.ast tw_fr.rf (fun _ => hkxr13) hp22 hp23 (by decide)
          have hF := hF.tr hst25 (fun _ h => ⟨h, rfl⟩) (by decide) (by decide)
          have hG2 := hG2.tr hst25 (fun _ h => ⟨h, rfl⟩) (by decide) (by decide)
          have hG28 := hG28.tr hst25 (fun _ h => ⟨h, rfl⟩) (by decide) (by decide)
          have hmf26 : tw_fv E21 a0 15 = .int xi1 := (hst25.1 a0 15 hm0 (by rw [hk0]; decide)).trans hxi1
          have hmf27 : tw_fv E21 a0 14 = .ref xr13 := (hst25.1 a0 14 hm0 (by rw [hk0]; decide)).trans hxr13
          exact hJ28  _ _ _ ls hG28 TH hS (lv_sub hl [0, 1, 2] rfl)
  exact hJ2 151 (0 : Int32) _ _ _ ls (by have : ((0 : Int32).toInt) = 0 := (by decide); omega) (by have : ((0 : Int32).toInt) = 0 := (by decide); omega) (by have : ((0 : Int32).toInt) = 0 := (by decide);  omega) tw_fr.rf TH hS (lv_sub hl [0, 1, 2] rfl)
set_option maxHeartbeats 4000000 in
set_option maxRecDepth 100000 in
theorem tX11_feed (l : Launch) (D : va_G) (cs : Nat → ClassId) {kp : Nat → Nat} {L : List Nat} {E : Nat → va_E} (a0 : Nat) (x1 : Int32) (x2 : Int32) (x3 : Int32) (x4 : Int32) (x5 : Int32) (hm0 : a0 ∈ L) (hk0 : kp a0 = 11) (sz : Nat) : Met l yX11_feed (.code yX11_feed cX11_feed 6 (some .int) :: cx_big) { frames := 1, cells := 0, slots := 0, locals := 22 } (tw_P D cs kp L E [.ref a0, .int x1, .int x2, .int x3, .int x4, .int x5] sz) (tw_Q D cs kp L (fun v kq Lq Eq => (∃ x : Int32, v = some (.int x)) ∧ kp = kq ∧ L = Lq ∧ tw_fr kp L [(9, 1)] [100] E Eq) (va_A (va_pl L E) sz)) 0 0 (va_A (va_pl L E) sz) := by
  refine tw_ofW (by decide) (Nat.le_of_ble_eq_true rfl) ?_
  intro p e s m below meth c A ls hx hb hr hml hB hown hlocks hK hN hA TH hS hl
  have hown : s.vm.findClass "TreeMerge" = some m.cls := hown
  have hl : lv_has ls 6 [(0, .ref a0), (1, .int x1), (2, .int x2), (3, .int x3), (4, .int x4), (5, .int x5)] := hl
  obtain ⟨kp0, ekp⟩ : ∃ z, z = kp := ⟨_, rfl⟩
  obtain ⟨L0, eL⟩ : ∃ z, z = L := ⟨_, rfl⟩
  rw [show tw_Q D cs kp L = tw_Q D cs kp0 L0 by rw [ekp, eL]]
  have hex : ∀ a : Nat, a ∈ L0 → a ∈ L ∧ kp a = kp0 a := fun a h => ⟨by rw [← eL]; exact h, by rw [ekp]⟩
  have hF : tw_fr kp L [(9, 1)] [100] E E := tw_fr.rf
  refine lv_aload_n hx hb dX11_feed_0 rfl (lv_at hl 0 rfl) ?_
  refine tw_get (ci := 11) (C := RX11) (T := TX11) (N := 19) hx hb hB cx_inX11 hown hK TH hm0 hk0 rfl ⟨by decide, rfl⟩ 0 (by decide) cw_383 (fun _ h9 => h9) dX11_feed_1 (fun hv => ?_)
  obtain ⟨xr1, hxr1, hmxr1, hkxr1⟩ : ∃ a : Nat, tw_fv E a0 0 = .ref a ∧ a ∈ L ∧ kp a = 9 := hv
  rw [hxr1]
  refine lv_bipush (v := 20) hx hb dX11_feed_4 (by decide) ?_
  refine tw_Vc (o := xr1) (ci := 9) (n := 1) (post := (fun v kq Lq Eq => (∃ x : Int32, v = some (.int x) ∧ 0 ≤ x.toInt ∧ x.toInt ≤ 1) ∧ kp = kq ∧ L = Lq ∧ E = Eq)) (As := [.int 20]) (rest := []) ⟨hx, hb, hml, hown, hB⟩ (fun sz => tX9_hasRoom l D cs xr1 (20 : Int32) hmxr1 hkxr1 (by have : ((20 : Int32).toInt) = 20 := (by decide); omega) (by have : ((20 : Int32).toInt) = 20 := (by decide); omega) sz) cg_11_101_X9_hasRoom rfl rfl (by decide +kernel) ⟨Nat.le_of_ble_eq_true rfl, Nat.le_of_ble_eq_true rfl⟩ hK hN TH hS hA rfl hmxr1 hkxr1 (by decide) rfl hl.1 rfl (Nat.le_of_ble_eq_true rfl) dX11_feed_6 ⟨Nat.le_of_ble_eq_true rfl, Nat.le_of_ble_eq_true rfl⟩ (fun v2 kp2 L2 E2 H locs hq2 hx2 TH hS => ?_)
  obtain ⟨⟨xc3, rfl, hxc3a, hxc3b⟩, rfl, rfl, rfl⟩ := hq2
  refine W.eq (g2 := F0 m 9 ls [.int xc3]) rfl ?_
  refine lv_if_ne (tgt := 14) hx hb dX11_feed_9 (by decide) (fun hc4 => ?_) (fun hc4 => ?_)
  · have hf5 : ¬ (xc3.toInt = 0) := fun q => hc4 ((fa_eq _ _).mpr (by have : ((0 : Int32).toInt) = 0 := (by decide); omega))
    refine lv_aload_n hx hb dX11_feed_14 rfl (lv_at hl 0 rfl) ?_
    refine tw_get (ci := 11) (C := RX11) (T := TX11) (N := 19) hx hb hB cx_inX11 hown hK TH hm0 hk0 rfl ⟨by decide, rfl⟩ 0 (by decide) cw_383 (fun _ h9 => h9) dX11_feed_15 (fun hv => ?_)
    rw [hxr1]
    refine lv_iload_n hx hb dX11_feed_18 rfl (lv_at hl 1 rfl) ?_
    refine tw_Vc (o := xr1) (ci := 9) (n := 1) (post := (fun v kq Lq Eq => v = none ∧ kp = kq ∧ L = Lq ∧ tw_fr kp L [(9, 1)] [100] E Eq)) (As := [.int x1]) (rest := []) ⟨hx, hb, hml, hown, hB⟩ (fun sz => tX9_append l D cs xr1 x1 hmxr1 hkxr1 sz) cg_11_105_X9_append rfl rfl (by decide +kernel) ⟨Nat.le_of_ble_eq_true rfl, Nat.le_of_ble_eq_true rfl⟩ hK hN TH hS hA rfl hmxr1 hkxr1 (by decide) rfl hl.1 rfl (Nat.le_of_ble_eq_true rfl) dX11_feed_19 ⟨Nat.le_of_ble_eq_true rfl, Nat.le_of_ble_eq_true rfl⟩ (fun v6 kp6 L6 E6 H locs hq6 hx6 TH hS => ?_)
    obtain ⟨rfl, rfl, rfl, hst6⟩ := hq6
    have hF := hF.tr hst6 (fun _ h => ⟨h, rfl⟩) (by decide) (by decide)
    have hmf8 : tw_fv E6 a0 0 = .ref xr1 := (hst6.1 a0 0 hm0 (by rw [hk0]; decide)).trans hxr1
    refine W.eq (g2 := F0 m 22 ls []) rfl ?_
    refine lv_aload_n hx hb dX11_feed_22 rfl (lv_at hl 0 rfl) ?_
    refine tw_get (ci := 11) (C := RX11) (T := TX11) (N := 19) hx hb hB cx_inX11 hown hK TH hm0 hk0 rfl ⟨by decide, rfl⟩ 0 (by decide) cw_383 (fun _ h9 => h9) dX11_feed_23 (fun hv => ?_)
    rw [hmf8]
    refine lv_iload_n hx hb dX11_feed_26 rfl (lv_at hl 2 rfl) ?_
    refine tw_Vc (o := xr1) (ci := 9) (n := 1) (post := (fun v kq Lq Eq => v = none ∧ kp = kq ∧ L = Lq ∧ tw_fr kp L [(9, 1)] [100] E6 Eq)) (As := [.int x2]) (rest := []) ⟨hx, hb, hml, hown, hB⟩ (fun sz => tX9_append l D cs xr1 x2 hmxr1 hkxr1 sz) cg_11_105_X9_append rfl rfl (by decide +kernel) ⟨Nat.le_of_ble_eq_true rfl, Nat.le_of_ble_eq_true rfl⟩ hK hN TH hS hA rfl hmxr1 hkxr1 (by decide) rfl hl.1 rfl (Nat.le_of_ble_eq_true rfl) dX11_feed_27 ⟨Nat.le_of_ble_eq_true rfl, Nat.le_of_ble_eq_true rfl⟩ (fun v9 kp9 L9 E9 H locs hq9 hx9 TH hS => ?_)
    obtain ⟨rfl, rfl, rfl, hst9⟩ := hq9
    have hF := hF.tr hst9 (fun _ h => ⟨h, rfl⟩) (by decide) (by decide)
    have hmf11 : tw_fv E9 a0 0 = .ref xr1 := (hst9.1 a0 0 hm0 (by rw [hk0]; decide)).trans hmf8
    refine W.eq (g2 := F0 m 30 ls []) rfl ?_
    refine lv_aload_n hx hb dX11_feed_30 rfl (lv_at hl 0 rfl) ?_
    refine tw_get (ci := 11) (C := RX11) (T := TX11) (N := 19) hx hb hB cx_inX11 hown hK TH hm0 hk0 rfl ⟨by decide, rfl⟩ 0 (by decide) cw_383 (fun _ h9 => h9) dX11_feed_31 (fun hv => ?_)
    rw [hmf11]
    refine lv_iload_n hx hb dX11_feed_34 rfl (lv_at hl 3 rfl) ?_
    refine tw_Vc (o := xr1) (ci := 9) (n := 1) (post := (fun v kq Lq Eq => v = none ∧ kp = kq ∧ L = Lq ∧ tw_fr kp L [(9, 1)] [100] E9 Eq)) (As := [.int x3]) (rest := []) ⟨hx, hb, hml, hown, hB⟩ (fun sz => tX9_append l D cs xr1 x3 hmxr1 hkxr1 sz) cg_11_105_X9_append rfl rfl (by decide +kernel) ⟨Nat.le_of_ble_eq_true rfl, Nat.le_of_ble_eq_true rfl⟩ hK hN TH hS hA rfl hmxr1 hkxr1 (by decide) rfl hl.1 rfl (Nat.le_of_ble_eq_true rfl) dX11_feed_35 ⟨Nat.le_of_ble_eq_true rfl, Nat.le_of_ble_eq_true rfl⟩ (fun v12 kp12 L12 E12 H locs hq12 hx12 TH hS => ?_)
    obtain ⟨rfl, rfl, rfl, hst12⟩ := hq12
    have hF := hF.tr hst12 (fun _ h => ⟨h, rfl⟩) (by decide) (by decide)
    have hmf14 : tw_fv E12 a0 0 = .ref xr1 := (hst12.1 a0 0 hm0 (by rw [hk0]; decide)).trans hmf11
    refine W.eq (g2 := F0 m 38 ls []) rfl ?_
    refine lv_aload_n hx hb dX11_feed_38 rfl (lv_at hl 0 rfl) ?_
    refine tw_get (ci := 11) (C := RX11) (T := TX11) (N := 19) hx hb hB cx_inX11 hown hK TH hm0 hk0 rfl ⟨by decide, rfl⟩ 0 (by decide) cw_383 (fun _ h9 => h9) dX11_feed_39 (fun hv => ?_)
    rw [hmf14]
    refine lv_iload hx hb dX11_feed_42 (lv_at hl 4 rfl) ?_
    refine tw_Vc (o := xr1) (ci := 9) (n := 1) (post := (fun v kq Lq Eq => v = none ∧ kp = kq ∧ L = Lq ∧ tw_fr kp L [(9, 1)] [100] E12 Eq)) (As := [.int x4]) (rest := []) ⟨hx, hb, hml, hown, hB⟩ (fun sz => tX9_append l D cs xr1 x4 hmxr1 hkxr1 sz) cg_11_105_X9_append rfl rfl (by decide +kernel) ⟨Nat.le_of_ble_eq_true rfl, Nat.le_of_ble_eq_true rfl⟩ hK hN TH hS hA rfl hmxr1 hkxr1 (by decide) rfl hl.1 rfl (Nat.le_of_ble_eq_true rfl) dX11_feed_44 ⟨Nat.le_of_ble_eq_true rfl, Nat.le_of_ble_eq_true rfl⟩ (fun v15 kp15 L15 E15 H locs hq15 hx15 TH hS => ?_)
    obtain ⟨rfl, rfl, rfl, hst15⟩ := hq15
    have hF := hF.tr hst15 (fun _ h => ⟨h, rfl⟩) (by decide) (by decide)
    have hmf17 : tw_fv E15 a0 0 = .ref xr1 := (hst15.1 a0 0 hm0 (by rw [hk0]; decide)).trans hmf14
    refine W.eq (g2 := F0 m 47 ls []) rfl ?_
    refine lv_aload_n hx hb dX11_feed_47 rfl (lv_at hl 0 rfl) ?_
    refine tw_get (ci := 11) (C := RX11) (T := TX11) (N := 19) hx hb hB cx_inX11 hown hK TH hm0 hk0 rfl ⟨by decide, rfl⟩ 0 (by decide) cw_383 (fun _ h9 => h9) dX11_feed_48 (fun hv => ?_)
    rw [hmf17]
    refine lv_iload hx hb dX11_feed_51 (lv_at hl 5 rfl) ?_
    refine tw_Vc (o := xr1) (ci := 9) (n := 1) (post := (fun v kq Lq Eq => v = none ∧ kp = kq ∧ L = Lq ∧ tw_fr kp L [(9, 1)] [100] E15 Eq)) (As := [.int x5]) (rest := []) ⟨hx, hb, hml, hown, hB⟩ (fun sz => tX9_append l D cs xr1 x5 hmxr1 hkxr1 sz) cg_11_105_X9_append rfl rfl (by decide +kernel) ⟨Nat.le_of_ble_eq_true rfl, Nat.le_of_ble_eq_true rfl⟩ hK hN TH hS hA rfl hmxr1 hkxr1 (by decide) rfl hl.1 rfl (Nat.le_of_ble_eq_true rfl) dX11_feed_53 ⟨Nat.le_of_ble_eq_true rfl, Nat.le_of_ble_eq_true rfl⟩ (fun v18 kp18 L18 E18 H locs hq18 hx18 TH hS => ?_)
    obtain ⟨rfl, rfl, rfl, hst18⟩ := hq18
    have hF := hF.tr hst18 (fun _ h => ⟨h, rfl⟩) (by decide) (by decide)
    have hmf20 : tw_fv E18 a0 0 = .ref xr1 := (hst18.1 a0 0 hm0 (by rw [hk0]; decide)).trans hmf17
    refine W.eq (g2 := F0 m 56 ls []) rfl ?_
    refine lv_aload_n hx hb dX11_feed_56 rfl (lv_at hl 0 rfl) ?_
    refine tw_get (ci := 11) (C := RX11) (T := TX11) (N := 19) hx hb hB cx_inX11 hown hK TH hm0 hk0 rfl ⟨by decide, rfl⟩ 0 (by decide) cw_383 (fun _ h9 => h9) dX11_feed_57 (fun hv => ?_)
    rw [hmf20]
    refine tw_get (ci := 9) (C := RX9) (T := TX9) (N := 5) hx hb hB cx_inX9 hown hK TH hmxr1 hkxr1 rfl ⟨by decide, rfl⟩ 1 (by decide) cw_37 (fun _ h9 => h9) dX11_feed_60 (fun hv => ?_)
    obtain ⟨xi21, hxi21, hxi21a, hxi21b⟩ : ∃ x : Int32, tw_fv E18 xr1 1 = .int x ∧ 0 ≤ x.toInt ∧ x.toInt ≤ 500 := hv
    rw [hxi21]
    exact tw_iret hx hb hr hlocks TH hS hex ⟨⟨_, rfl⟩, rfl, rfl, hF⟩ (Nat.le_of_ble_eq_true rfl) (Nat.le_of_ble_eq_true rfl) dX11_feed_63
  · have hf22 : xc3.toInt = 0 := by have z := (fa_eq _ _).mp hc4; have : ((0 : Int32).toInt) = 0 := (by decide); omega
    refine lv_iconst (v := (-1)) hx hb dX11_feed_12 (by decide) ?_
    exact tw_iret hx hb hr hlocks TH hS hex ⟨⟨_, rfl⟩, rfl, rfl, hF⟩ (Nat.le_of_ble_eq_true rfl) (Nat.le_of_ble_eq_true rfl) dX11_feed_13
set_option maxHeartbeats 4000000 in
set_option maxRecDepth 100000 in
theorem tX11_end (l : Launch) (D : va_G) (cs : Nat → ClassId) {kp : Nat → Nat} {L : List Nat} {E : Nat → va_E} (a0 : Nat) (x1 : Int32) (hm0 : a0 ∈ L) (hk0 : kp a0 = 11) (sz : Nat) : Met l yX11_end (.code yX11_end cX11_end 2 (some .boolean) :: cx_big) { frames := 0, cells := 0, slots := 0, locals := 0 } (tw_P D cs kp L E [.ref a0, .int x1] sz) (tw_Q D cs kp L (fun v kq Lq Eq => (∃ x : Int32, v = some (.int x) ∧ 0 ≤ x.toInt ∧ x.toInt ≤ 1) ∧ kp = kq ∧ L = Lq ∧ tw_fr kp L [(9, 1)] [] E Eq) (va_A (va_pl L E) sz)) 0 0 (va_A (va_pl L E) sz) := by
  refine tw_ofW (by decide) (Nat.le_of_ble_eq_true rfl) ?_
  intro p e s m below meth c A ls hx hb hr hml hB hown hlocks hK hN hA TH hS hl
  have hown : s.vm.findClass "TreeMerge" = some m.cls := hown
  have hl : lv_has ls 2 [(0, .ref a0), (1, .int x1)] := hl
  obtain ⟨kp0, ekp⟩ : ∃ z, z = kp := ⟨_, rfl⟩
  obtain ⟨L0, eL⟩ : ∃ z, z = L := ⟨_, rfl⟩
  rw [show tw_Q D cs kp L = tw_Q D cs kp0 L0 by rw [ekp, eL]]
  have hex : ∀ a : Nat, a ∈ L0 → a ∈ L ∧ kp a = kp0 a := fun a h => ⟨by rw [← eL]; exact h, by rw [ekp]⟩
  have hF : tw_fr kp L [(9, 1)] [] E E := tw_fr.rf
  refine lv_iload_n hx hb dX11_end_0 rfl (lv_at hl 1 rfl) ?_
  refine lv_if_lt (tgt := 15) hx hb dX11_end_1 (by decide) (fun hc1 => ?_) (fun hc1 => ?_)
  · have hf2 : x1.toInt < 0 := by have z := (fa_lt _ _).mp hc1; have : ((0 : Int32).toInt) = 0 := (by decide); omega
    refine lv_iconst (v := 0) hx hb dX11_end_15 (by decide) ?_
    exact tw_zret hx hb hr hlocks (by decide) TH hS hex ⟨⟨_, rfl, (show 0 ≤ Int32.toInt 0 from by have : ((0 : Int32).toInt) = 0 := (by decide); omega), (show Int32.toInt 0 ≤ 1 from by have : ((0 : Int32).toInt) = 0 := (by decide); omega)⟩, rfl, rfl, hF⟩ (Nat.le_of_ble_eq_true rfl) (Nat.le_of_ble_eq_true rfl) dX11_end_16
  · have hf3 : ¬ (x1.toInt < 0) := fun q => hc1 ((fa_lt _ _).mpr (by have : ((0 : Int32).toInt) = 0 := (by decide); omega))
    refine lv_iload_n hx hb dX11_end_4 rfl (lv_at hl 1 rfl) ?_
    refine lv_aload_n hx hb dX11_end_5 rfl (lv_at hl 0 rfl) ?_
    refine tw_get (ci := 11) (C := RX11) (T := TX11) (N := 19) hx hb hB cx_inX11 hown hK TH hm0 hk0 rfl ⟨by decide, rfl⟩ 0 (by decide) cw_383 (fun _ h9 => h9) dX11_end_6 (fun hv => ?_)
    obtain ⟨xr4, hxr4, hmxr4, hkxr4⟩ : ∃ a : Nat, tw_fv E a0 0 = .ref a ∧ a ∈ L ∧ kp a = 9 := hv
    rw [hxr4]
    refine tw_get (ci := 9) (C := RX9) (T := TX9) (N := 5) hx hb hB cx_inX9 hown hK TH hmxr4 hkxr4 rfl ⟨by decide, rfl⟩ 1 (by decide) cw_37 (fun _ h9 => h9) dX11_end_9 (fun hv => ?_)
    obtain ⟨xi5, hxi5, hxi5a, hxi5b⟩ : ∃ x : Int32, tw_fv E xr4 1 = .int x ∧ 0 ≤ x.toInt ∧ x.toInt ≤ 500 := hv
    rw [hxi5]
    refine lv_icmp_le (tgt := 17) hx hb dX11_end_12 (by decide) (fun hc6 => ?_) (fun hc6 => ?_)
    · have hf7 : x1.toInt ≤ xi5.toInt := by have z := (fa_le _ _).mp hc6;  omega
      refine lv_aload_n hx hb dX11_end_17 rfl (lv_at hl 0 rfl) ?_
      refine tw_get (ci := 11) (C := RX11) (T := TX11) (N := 19) hx hb hB cx_inX11 hown hK TH hm0 hk0 rfl ⟨by decide, rfl⟩ 0 (by decide) cw_383 (fun _ h9 => h9) dX11_end_18 (fun hv => ?_)
      rw [hxr4]
      refine lv_iload_n hx hb dX11_end_21 rfl (lv_at hl 1 rfl) ?_
      refine tw_put (ci := 9) (v := .int x1) (ty := .int) (C := RX9) (T := TX9) (N := 5) hx hb hB cx_inX9 tyX9 tyX9_ok nmX9 hown hK TH hS hmxr4 hkxr4 rfl ⟨by decide, rfl⟩ 1 (by decide) cw_37 (fun _ h9 => h9) rfl (by decide +kernel) rfl rfl ⟨_, rfl, (show 0 ≤ Int32.toInt x1 from by  omega), (show Int32.toInt x1 ≤ 500 from by  omega)⟩ dX11_end_22 (fun H locs E8 TH hS hmf12 hp9 hp10 => ?_)
      have hst11 : tw_fr kp L [(9, 1)] [] E E8 := tw_fr.put tw_fr.rf (fun _ => hkxr4) (by decide) hp9 hp10 (by decide)
      have hF := hF.tr hst11 (fun _ h => ⟨h, rfl⟩) (by decide) (by decide)
      have hmf13 : tw_fv E8 a0 0 = .ref xr4 := (hst11.1 a0 0 hm0 (by rw [hk0]; decide)).trans hxr4
      refine lv_iconst (v := 1) hx hb dX11_end_25 (by decide) ?_
      exact tw_zret hx hb hr hlocks (by decide) TH hS hex ⟨⟨_, rfl, (show 0 ≤ Int32.toInt 1 from by have : ((1 : Int32).toInt) = 1 := (by decide); omega), (show Int32.toInt 1 ≤ 1 from by have : ((1 : Int32).toInt) = 1 := (by decide); omega)⟩, rfl, rfl, hF⟩ (Nat.le_of_ble_eq_true rfl) (Nat.le_of_ble_eq_true rfl) dX11_end_26
    · have hf14 : ¬ (x1.toInt ≤ xi5.toInt) := fun q => hc6 ((fa_le _ _).mpr (by  omega))
      refine lv_iconst (v := 0) hx hb dX11_end_15 (by decide) ?_
      exact tw_zret hx hb hr hlocks (by decide) TH hS hex ⟨⟨_, rfl, (show 0 ≤ Int32.toInt 0 from by have : ((0 : Int32).toInt) = 0 := (by decide); omega), (show Int32.toInt 0 ≤ 1 from by have : ((0 : Int32).toInt) = 0 := (by decide); omega)⟩, rfl, rfl, hF⟩ (Nat.le_of_ble_eq_true rfl) (Nat.le_of_ble_eq_true rfl) dX11_end_16
set_option maxHeartbeats 4000000 in
set_option maxRecDepth 100000 in
theorem tX11_quarrel (l : Launch) (D : va_G) (cs : Nat → ClassId) {kp : Nat → Nat} {L : List Nat} {E : Nat → va_E} (a0 : Nat) (x1 : Int32) (hm0 : a0 ∈ L) (hk0 : kp a0 = 11) (sz : Nat) : Met l yX11_quarrel (.code yX11_quarrel cX11_quarrel 2 (some .int) :: cx_big) { frames := 0, cells := 0, slots := 0, locals := 0 } (tw_P D cs kp L E [.ref a0, .int x1] sz) (tw_Q D cs kp L (fun v kq Lq Eq => (∃ x : Int32, v = some (.int x)) ∧ kp = kq ∧ L = Lq ∧ E = Eq) (va_A (va_pl L E) sz)) 0 0 (va_A (va_pl L E) sz) := by
  refine tw_ofW (by decide) (Nat.le_of_ble_eq_true rfl) ?_
  intro p e s m below meth c A ls hx hb hr hml hB hown hlocks hK hN hA TH hS hl
  have hown : s.vm.findClass "TreeMerge" = some m.cls := hown
  have hl : lv_has ls 2 [(0, .ref a0), (1, .int x1)] := hl
  obtain ⟨kp0, ekp⟩ : ∃ z, z = kp := ⟨_, rfl⟩
  obtain ⟨L0, eL⟩ : ∃ z, z = L := ⟨_, rfl⟩
  rw [show tw_Q D cs kp L = tw_Q D cs kp0 L0 by rw [ekp, eL]]
  have hex : ∀ a : Nat, a ∈ L0 → a ∈ L ∧ kp a = kp0 a := fun a h => ⟨by rw [← eL]; exact h, by rw [ekp]⟩
  refine lv_iload_n hx hb dX11_quarrel_0 rfl (lv_at hl 1 rfl) ?_
  refine lv_iconst (v := (-1)) hx hb dX11_quarrel_1 (by decide) ?_
  refine lv_icmp_ne (tgt := 10) hx hb dX11_quarrel_2 (by decide) (fun hc1 => ?_) (fun hc1 => ?_)
  · have hf2 : ¬ (x1.toInt = (-1)) := fun q => hc1 ((fa_eq _ _).mpr (by have : (((-1) : Int32).toInt) = (-1) := (by decide); omega))
    refine lv_iload_n hx hb dX11_quarrel_10 rfl (lv_at hl 1 rfl) ?_
    refine lv_if_lt (tgt := 31) hx hb dX11_quarrel_11 (by decide) (fun hc3 => ?_) (fun hc3 => ?_)
    · have hf4 : x1.toInt < 0 := by have z := (fa_lt _ _).mp hc3; have : ((0 : Int32).toInt) = 0 := (by decide); omega
      refine lv_iconst (v := (-1)) hx hb dX11_quarrel_31 (by decide) ?_
      exact tw_iret hx hb hr hlocks TH hS hex ⟨⟨_, rfl⟩, rfl, rfl, rfl⟩ (Nat.le_of_ble_eq_true rfl) (Nat.le_of_ble_eq_true rfl) dX11_quarrel_32
    · have hf5 : ¬ (x1.toInt < 0) := fun q => hc3 ((fa_lt _ _).mpr (by have : ((0 : Int32).toInt) = 0 := (by decide); omega))
      refine lv_iload_n hx hb dX11_quarrel_14 rfl (lv_at hl 1 rfl) ?_
      refine lv_aload_n hx hb dX11_quarrel_15 rfl (lv_at hl 0 rfl) ?_
      refine tw_get (ci := 11) (C := RX11) (T := TX11) (N := 19) hx hb hB cx_inX11 hown hK TH hm0 hk0 rfl ⟨by decide, rfl⟩ 17 (by decide) cw_400 (fun _ h9 => h9) dX11_quarrel_16 (fun hv => ?_)
      obtain ⟨xi6, hxi6, hxi6a, hxi6b⟩ : ∃ x : Int32, tw_fv E a0 17 = .int x ∧ 0 ≤ x.toInt ∧ x.toInt ≤ 450 := hv
      rw [hxi6]
      refine lv_icmp_ge (tgt := 31) hx hb dX11_quarrel_19 (by decide) (fun hc7 => ?_) (fun hc7 => ?_)
      · have hf8 : xi6.toInt ≤ x1.toInt := by have z := (fa_le _ _).mp hc7;  omega
        refine lv_iconst (v := (-1)) hx hb dX11_quarrel_31 (by decide) ?_
        exact tw_iret hx hb hr hlocks TH hS hex ⟨⟨_, rfl⟩, rfl, rfl, rfl⟩ (Nat.le_of_ble_eq_true rfl) (Nat.le_of_ble_eq_true rfl) dX11_quarrel_32
      · have hf9 : ¬ (xi6.toInt ≤ x1.toInt) := fun q => hc7 ((fa_le _ _).mpr (by  omega))
        refine lv_aload_n hx hb dX11_quarrel_22 rfl (lv_at hl 0 rfl) ?_
        refine tw_get (ci := 11) (C := RX11) (T := TX11) (N := 19) hx hb hB cx_inX11 hown hK TH hm0 hk0 rfl ⟨by decide, rfl⟩ 16 (by decide) cw_399 (fun _ h9 => h9) dX11_quarrel_23 (fun hv => ?_)
        obtain ⟨xr10, hxr10, hmxr10, hkxr10⟩ : ∃ a : Nat, tw_fv E a0 16 = .ref a ∧ a ∈ L ∧ kp a = 181 := hv
        rw [hxr10]
        refine lv_iload_n hx hb dX11_quarrel_26 rfl (lv_at hl 1 rfl) ?_
        refine tw_iald (k := 181) (t0 := 0) (n := 450) (lo := (-2147483648)) (hi := 2147483647) hx hb hK TH hmxr10 hkxr10 (by decide) rfl rfl (i := x1) (vp_in_iff.mpr ⟨by  omega, by  omega⟩) dX11_quarrel_27 (fun hxe11a hxe11b => ?_)
        obtain ⟨xe11, exe11⟩ : ∃ z : Int32, tw_iv E xr10 (Int32.toNatClampNeg x1) = z := ⟨_, rfl⟩
        rw [exe11] at hxe11a hxe11b ⊢
        refine lv_goto (tgt := 32) hx hb dX11_quarrel_28 (by decide) ?_
        exact tw_iret hx hb hr hlocks TH hS hex ⟨⟨_, rfl⟩, rfl, rfl, rfl⟩ (Nat.le_of_ble_eq_true rfl) (Nat.le_of_ble_eq_true rfl) dX11_quarrel_32
  · have hf12 : x1.toInt = (-1) := by have z := (fa_eq _ _).mp hc1; have : (((-1) : Int32).toInt) = (-1) := (by decide); omega
    refine lv_aload_n hx hb dX11_quarrel_5 rfl (lv_at hl 0 rfl) ?_
    refine tw_get (ci := 11) (C := RX11) (T := TX11) (N := 19) hx hb hB cx_inX11 hown hK TH hm0 hk0 rfl ⟨by decide, rfl⟩ 17 (by decide) cw_400 (fun _ h9 => h9) dX11_quarrel_6 (fun hv => ?_)
    obtain ⟨xi13, hxi13, hxi13a, hxi13b⟩ : ∃ x : Int32, tw_fv E a0 17 = .int x ∧ 0 ≤ x.toInt ∧ x.toInt ≤ 450 := hv
    rw [hxi13]
    exact tw_iret hx hb hr hlocks TH hS hex ⟨⟨_, rfl⟩, rfl, rfl, rfl⟩ (Nat.le_of_ble_eq_true rfl) (Nat.le_of_ble_eq_true rfl) dX11_quarrel_9
set_option maxHeartbeats 4000000 in
set_option maxRecDepth 100000 in
theorem tX11_settle (l : Launch) (D : va_G) (cs : Nat → ClassId) {kp : Nat → Nat} {L : List Nat} {E : Nat → va_E} (a0 : Nat) (x1 : Int32) (x2 : Int32) (x3 : Int32) (hm0 : a0 ∈ L) (hk0 : kp a0 = 11) (sz : Nat) : Met l yX11_settle (.code yX11_settle cX11_settle 4 (some .boolean) :: cx_big) { frames := 2, cells := 0, slots := 0, locals := 46 } (tw_P D cs kp L E [.ref a0, .int x1, .int x2, .int x3] sz) (tw_Q D cs kp L (fun v kq Lq Eq => (∃ x : Int32, v = some (.int x) ∧ 0 ≤ x.toInt ∧ x.toInt ≤ 1) ∧ kp = kq ∧ L = Lq ∧ tw_fr kp L [(7, 0)] [120] E Eq) (va_A (va_pl L E) sz)) 0 0 (va_A (va_pl L E) sz) := by
  refine tw_ofW (by decide) (Nat.le_of_ble_eq_true rfl) ?_
  intro p e s m below meth c A ls hx hb hr hml hB hown hlocks hK hN hA TH hS hl
  have hown : s.vm.findClass "TreeMerge" = some m.cls := hown
  have hl : lv_has ls 4 [(0, .ref a0), (1, .int x1), (2, .int x2), (3, .int x3)] := hl
  obtain ⟨kp0, ekp⟩ : ∃ z, z = kp := ⟨_, rfl⟩
  obtain ⟨L0, eL⟩ : ∃ z, z = L := ⟨_, rfl⟩
  rw [show tw_Q D cs kp L = tw_Q D cs kp0 L0 by rw [ekp, eL]]
  have hex : ∀ a : Nat, a ∈ L0 → a ∈ L ∧ kp a = kp0 a := fun a h => ⟨by rw [← eL]; exact h, by rw [ekp]⟩
  have hF : tw_fr kp L [(7, 0)] [120] E E := tw_fr.rf
  refine lv_iload_n hx hb dX11_settle_0 rfl (lv_at hl 1 rfl) ?_
  refine lv_if_lt (tgt := 33) hx hb dX11_settle_1 (by decide) (fun hc1 => ?_) (fun hc1 => ?_)
  · have hf2 : x1.toInt < 0 := by have z := (fa_lt _ _).mp hc1; have : ((0 : Int32).toInt) = 0 := (by decide); omega
    refine lv_iconst (v := 0) hx hb dX11_settle_33 (by decide) ?_
    exact tw_zret hx hb hr hlocks (by decide) TH hS hex ⟨⟨_, rfl, (show 0 ≤ Int32.toInt 0 from by have : ((0 : Int32).toInt) = 0 := (by decide); omega), (show Int32.toInt 0 ≤ 1 from by have : ((0 : Int32).toInt) = 0 := (by decide); omega)⟩, rfl, rfl, hF⟩ (Nat.le_of_ble_eq_true rfl) (Nat.le_of_ble_eq_true rfl) dX11_settle_34
  · have hf3 : ¬ (x1.toInt < 0) := fun q => hc1 ((fa_lt _ _).mpr (by have : ((0 : Int32).toInt) = 0 := (by decide); omega))
    refine lv_iload_n hx hb dX11_settle_4 rfl (lv_at hl 1 rfl) ?_
    refine lv_aload_n hx hb dX11_settle_5 rfl (lv_at hl 0 rfl) ?_
    refine tw_get (ci := 11) (C := RX11) (T := TX11) (N := 19) hx hb hB cx_inX11 hown hK TH hm0 hk0 rfl ⟨by decide, rfl⟩ 15 (by decide) cw_398 (fun _ h9 => h9) dX11_settle_6 (fun hv => ?_)
    obtain ⟨xi4, hxi4, hxi4a, hxi4b⟩ : ∃ x : Int32, tw_fv E a0 15 = .int x ∧ 0 ≤ x.toInt ∧ x.toInt ≤ 150 := hv
    rw [hxi4]
    refine lv_icmp_ge (tgt := 33) hx hb dX11_settle_9 (by decide) (fun hc5 => ?_) (fun hc5 => ?_)
    · have hf6 : xi4.toInt ≤ x1.toInt := by have z := (fa_le _ _).mp hc5;  omega
      refine lv_iconst (v := 0) hx hb dX11_settle_33 (by decide) ?_
      exact tw_zret hx hb hr hlocks (by decide) TH hS hex ⟨⟨_, rfl, (show 0 ≤ Int32.toInt 0 from by have : ((0 : Int32).toInt) = 0 := (by decide); omega), (show Int32.toInt 0 ≤ 1 from by have : ((0 : Int32).toInt) = 0 := (by decide); omega)⟩, rfl, rfl, hF⟩ (Nat.le_of_ble_eq_true rfl) (Nat.le_of_ble_eq_true rfl) dX11_settle_34
    · have hf7 : ¬ (xi4.toInt ≤ x1.toInt) := fun q => hc5 ((fa_le _ _).mpr (by  omega))
      refine lv_iload_n hx hb dX11_settle_12 rfl (lv_at hl 2 rfl) ?_
      refine lv_iconst (v := 1) hx hb dX11_settle_13 (by decide) ?_
      refine lv_icmp_lt (tgt := 33) hx hb dX11_settle_14 (by decide) (fun hc8 => ?_) (fun hc8 => ?_)
      · have hf9 : x2.toInt < 1 := by have z := (fa_lt _ _).mp hc8; have : ((1 : Int32).toInt) = 1 := (by decide); omega
        refine lv_iconst (v := 0) hx hb dX11_settle_33 (by decide) ?_
        exact tw_zret hx hb hr hlocks (by decide) TH hS hex ⟨⟨_, rfl, (show 0 ≤ Int32.toInt 0 from by have : ((0 : Int32).toInt) = 0 := (by decide); omega), (show Int32.toInt 0 ≤ 1 from by have : ((0 : Int32).toInt) = 0 := (by decide); omega)⟩, rfl, rfl, hF⟩ (Nat.le_of_ble_eq_true rfl) (Nat.le_of_ble_eq_true rfl) dX11_settle_34
      · have hf10 : ¬ (x2.toInt < 1) := fun q => hc8 ((fa_lt _ _).mpr (by have : ((1 : Int32).toInt) = 1 := (by decide); omega))
        refine lv_iload_n hx hb dX11_settle_17 rfl (lv_at hl 2 rfl) ?_
        refine lv_iconst (v := 3) hx hb dX11_settle_18 (by decide) ?_
        refine lv_icmp_gt (tgt := 33) hx hb dX11_settle_19 (by decide) (fun hc11 => ?_) (fun hc11 => ?_)
        · have hf12 : 3 < x2.toInt := by have z := (fa_lt _ _).mp hc11; have : ((3 : Int32).toInt) = 3 := (by decide); omega
          refine lv_iconst (v := 0) hx hb dX11_settle_33 (by decide) ?_
          exact tw_zret hx hb hr hlocks (by decide) TH hS hex ⟨⟨_, rfl, (show 0 ≤ Int32.toInt 0 from by have : ((0 : Int32).toInt) = 0 := (by decide); omega), (show Int32.toInt 0 ≤ 1 from by have : ((0 : Int32).toInt) = 0 := (by decide); omega)⟩, rfl, rfl, hF⟩ (Nat.le_of_ble_eq_true rfl) (Nat.le_of_ble_eq_true rfl) dX11_settle_34
        · have hf13 : ¬ (3 < x2.toInt) := fun q => hc11 ((fa_lt _ _).mpr (by have : ((3 : Int32).toInt) = 3 := (by decide); omega))
          refine lv_aload_n hx hb dX11_settle_22 rfl (lv_at hl 0 rfl) ?_
          refine tw_get (ci := 11) (C := RX11) (T := TX11) (N := 19) hx hb hB cx_inX11 hown hK TH hm0 hk0 rfl ⟨by decide, rfl⟩ 7 (by decide) cw_390 (fun _ h9 => h9) dX11_settle_23 (fun hv => ?_)
          obtain ⟨xr14, hxr14, hmxr14, hkxr14⟩ : ∃ a : Nat, tw_fv E a0 7 = .ref a ∧ a ∈ L ∧ kp a = 1 := hv
          rw [hxr14]
          refine lv_iload_n hx hb dX11_settle_26 rfl (lv_at hl 3 rfl) ?_
          refine tw_Vc (o := xr14) (ci := 1) (n := 1) (post := (fun v kq Lq Eq => (∃ x : Int32, v = some (.int x) ∧ 0 ≤ x.toInt ∧ x.toInt ≤ 1 ∧ (x.toInt ≠ 0 → 0 ≤ x3.toInt ∧ x3.toInt ≤ 11)) ∧ kp = kq ∧ L = Lq ∧ E = Eq)) (As := [.int x3]) (rest := []) ⟨hx, hb, hml, hown, hB⟩ (fun sz => tX1_has l D cs xr14 x3 hmxr14 hkxr14 sz) cg_11_165_X1_has rfl rfl (by decide +kernel) ⟨Nat.le_of_ble_eq_true rfl, Nat.le_of_ble_eq_true rfl⟩ hK hN TH hS hA rfl hmxr14 hkxr14 (by decide) rfl hl.1 rfl (Nat.le_of_ble_eq_true rfl) dX11_settle_27 ⟨Nat.le_of_ble_eq_true rfl, Nat.le_of_ble_eq_true rfl⟩ (fun v15 kp15 L15 E15 H locs hq15 hx15 TH hS => ?_)
          obtain ⟨⟨xc16, rfl, hxc16a, hxc16b, hpoxc16_0⟩, rfl, rfl, rfl⟩ := hq15
          refine W.eq (g2 := F0 m 30 ls [.int xc16]) rfl ?_
          refine lv_if_ne (tgt := 35) hx hb dX11_settle_30 (by decide) (fun hc17 => ?_) (fun hc17 => ?_)
          · have hf18 : ¬ (xc16.toInt = 0) := fun q => hc17 ((fa_eq _ _).mpr (by have : ((0 : Int32).toInt) = 0 := (by decide); omega))
            refine lv_aload_n hx hb dX11_settle_35 rfl (lv_at hl 0 rfl) ?_
            refine tw_get (ci := 11) (C := RX11) (T := TX11) (N := 19) hx hb hB cx_inX11 hown hK TH hm0 hk0 rfl ⟨by decide, rfl⟩ 9 (by decide) cw_392 (fun _ h9 => h9) dX11_settle_36 (fun hv => ?_)
            obtain ⟨xr19, hxr19, hmxr19, hkxr19⟩ : ∃ a : Nat, tw_fv E a0 9 = .ref a ∧ a ∈ L ∧ kp a = 7 := hv
            rw [hxr19]
            refine lv_iload_n hx hb dX11_settle_39 rfl (lv_at hl 1 rfl) ?_
            refine lv_iload_n hx hb dX11_settle_40 rfl (lv_at hl 2 rfl) ?_
            refine lv_iload_n hx hb dX11_settle_41 rfl (lv_at hl 3 rfl) ?_
            refine tw_Vc (o := xr19) (ci := 7) (n := 3) (post := (fun v kq Lq Eq => v = none ∧ kp = kq ∧ L = Lq ∧ tw_fr kp L [(7, 0)] [120] E Eq)) (As := [.int x1, .int x2, .int x3]) (rest := []) ⟨hx, hb, hml, hown, hB⟩ (fun sz => tX7_set l D cs xr19 x1 x2 x3 hmxr19 hkxr19 (by omega) (by omega) sz) cg_11_312_X7_set rfl rfl (by decide +kernel) ⟨Nat.le_of_ble_eq_true rfl, Nat.le_of_ble_eq_true rfl⟩ hK hN TH hS hA rfl hmxr19 hkxr19 (by decide) rfl hl.1 rfl (Nat.le_of_ble_eq_true rfl) dX11_settle_42 ⟨Nat.le_of_ble_eq_true rfl, Nat.le_of_ble_eq_true rfl⟩ (fun v20 kp20 L20 E20 H locs hq20 hx20 TH hS => ?_)
            obtain ⟨rfl, rfl, rfl, hst20⟩ := hq20
            have hF := hF.tr hst20 (fun _ h => ⟨h, rfl⟩) (by decide) (by decide)
            have hmf22 : tw_fv E20 a0 15 = .int xi4 := (hst20.1 a0 15 hm0 (by rw [hk0]; decide)).trans hxi4
            have hmf23 : tw_fv E20 a0 7 = .ref xr14 := (hst20.1 a0 7 hm0 (by rw [hk0]; decide)).trans hxr14
            have hmf24 : tw_fv E20 a0 9 = .ref xr19 := (hst20.1 a0 9 hm0 (by rw [hk0]; decide)).trans hxr19
            refine W.eq (g2 := F0 m 45 ls []) rfl ?_
            refine lv_iconst (v := 1) hx hb dX11_settle_45 (by decide) ?_
            exact tw_zret hx hb hr hlocks (by decide) TH hS hex ⟨⟨_, rfl, (show 0 ≤ Int32.toInt 1 from by have : ((1 : Int32).toInt) = 1 := (by decide); omega), (show Int32.toInt 1 ≤ 1 from by have : ((1 : Int32).toInt) = 1 := (by decide); omega)⟩, rfl, rfl, hF⟩ (Nat.le_of_ble_eq_true rfl) (Nat.le_of_ble_eq_true rfl) dX11_settle_46
          · have hf25 : xc16.toInt = 0 := by have z := (fa_eq _ _).mp hc17; have : ((0 : Int32).toInt) = 0 := (by decide); omega
            refine lv_iconst (v := 0) hx hb dX11_settle_33 (by decide) ?_
            exact tw_zret hx hb hr hlocks (by decide) TH hS hex ⟨⟨_, rfl, (show 0 ≤ Int32.toInt 0 from by have : ((0 : Int32).toInt) = 0 := (by decide); omega), (show Int32.toInt 0 ≤ 1 from by have : ((0 : Int32).toInt) = 0 := (by decide); omega)⟩, rfl, rfl, hF⟩ (Nat.le_of_ble_eq_true rfl) (Nat.le_of_ble_eq_true rfl) dX11_settle_34
set_option maxHeartbeats 4000000 in
set_option maxRecDepth 100000 in
theorem tX11_unsettle (l : Launch) (D : va_G) (cs : Nat → ClassId) {kp : Nat → Nat} {L : List Nat} {E : Nat → va_E} (a0 : Nat) (hm0 : a0 ∈ L) (hk0 : kp a0 = 11) (sz : Nat) : Met l yX11_unsettle (.code yX11_unsettle cX11_unsettle 2 (some .int) :: cx_big) { frames := 1, cells := 0, slots := 0, locals := 21 } (tw_P D cs kp L E [.ref a0] sz) (tw_Q D cs kp L (fun v kq Lq Eq => (∃ x : Int32, v = some (.int x)) ∧ kp = kq ∧ L = Lq ∧ tw_fr kp L [(7, 0)] [120] E Eq) (va_A (va_pl L E) sz)) 0 0 (va_A (va_pl L E) sz) := by
  refine tw_ofW (by decide) (Nat.le_of_ble_eq_true rfl) ?_
  intro p e s m below meth c A ls hx hb hr hml hB hown hlocks hK hN hA TH hS hl
  have hown : s.vm.findClass "TreeMerge" = some m.cls := hown
  have hl : lv_has ls 2 [(0, .ref a0)] := hl
  obtain ⟨kp0, ekp⟩ : ∃ z, z = kp := ⟨_, rfl⟩
  obtain ⟨L0, eL⟩ : ∃ z, z = L := ⟨_, rfl⟩
  rw [show tw_Q D cs kp L = tw_Q D cs kp0 L0 by rw [ekp, eL]]
  have hex : ∀ a : Nat, a ∈ L0 → a ∈ L ∧ kp a = kp0 a := fun a h => ⟨by rw [← eL]; exact h, by rw [ekp]⟩
  have hF : tw_fr kp L [(7, 0)] [120] E E := tw_fr.rf
  refine lv_aload_n hx hb dX11_unsettle_0 rfl (lv_at hl 0 rfl) ?_
  refine tw_get (ci := 11) (C := RX11) (T := TX11) (N := 19) hx hb hB cx_inX11 hown hK TH hm0 hk0 rfl ⟨by decide, rfl⟩ 9 (by decide) cw_392 (fun _ h9 => h9) dX11_unsettle_1 (fun hv => ?_)
  obtain ⟨xr1, hxr1, hmxr1, hkxr1⟩ : ∃ a : Nat, tw_fv E a0 9 = .ref a ∧ a ∈ L ∧ kp a = 7 := hv
  rw [hxr1]
  refine tw_get (ci := 7) (C := RX7) (T := TX7) (N := 2) hx hb hB cx_inX7 hown hK TH hmxr1 hkxr1 rfl ⟨by decide, rfl⟩ 0 (by decide) cw_278 (fun _ h9 => h9) dX11_unsettle_4 (fun hv => ?_)
  obtain ⟨xi2, hxi2, hxi2a, hxi2b⟩ : ∃ x : Int32, tw_fv E xr1 0 = .int x ∧ (-2147483648) ≤ x.toInt ∧ x.toInt ≤ 2147483647 := hv
  rw [hxi2]
  refine lv_istore_n (lv' := [(1, .int xi2), (0, .ref a0)]) hx hb dX11_unsettle_7 rfl hl (by decide) rfl (fun ls hl => ?_)
  refine lv_aload_n hx hb dX11_unsettle_8 rfl (lv_at hl 1 rfl) ?_
  refine tw_get (ci := 11) (C := RX11) (T := TX11) (N := 19) hx hb hB cx_inX11 hown hK TH hm0 hk0 rfl ⟨by decide, rfl⟩ 9 (by decide) cw_392 (fun _ h9 => h9) dX11_unsettle_9 (fun hv => ?_)
  rw [hxr1]
  refine tw_Vc (o := xr1) (ci := 7) (n := 0) (post := (fun v kq Lq Eq => v = none ∧ kp = kq ∧ L = Lq ∧ tw_fr kp L [(7, 0)] [120] E Eq)) (As := []) (rest := []) ⟨hx, hb, hml, hown, hB⟩ (fun sz => tX7_clear l D cs xr1 hmxr1 hkxr1 sz) cg_11_317_X7_clear rfl rfl (by decide +kernel) ⟨Nat.le_of_ble_eq_true rfl, Nat.le_of_ble_eq_true rfl⟩ hK hN TH hS hA rfl hmxr1 hkxr1 (by decide) rfl hl.1 rfl (Nat.le_of_ble_eq_true rfl) dX11_unsettle_12 ⟨Nat.le_of_ble_eq_true rfl, Nat.le_of_ble_eq_true rfl⟩ (fun v3 kp3 L3 E3 H locs hq3 hx3 TH hS => ?_)
  obtain ⟨rfl, rfl, rfl, hst3⟩ := hq3
  have hF := hF.tr hst3 (fun _ h => ⟨h, rfl⟩) (by decide) (by decide)
  have hmf5 : tw_fv E3 a0 9 = .ref xr1 := (hst3.1 a0 9 hm0 (by rw [hk0]; decide)).trans hxr1
  refine W.eq (g2 := F0 m 15 ls []) rfl ?_
  refine lv_iload_n hx hb dX11_unsettle_15 rfl (lv_at hl 0 rfl) ?_
  exact tw_iret hx hb hr hlocks TH hS hex ⟨⟨_, rfl⟩, rfl, rfl, hF⟩ (Nat.le_of_ble_eq_true rfl) (Nat.le_of_ble_eq_true rfl) dX11_unsettle_16
set_option maxHeartbeats 4000000 in
set_option maxRecDepth 100000 in
theorem tX11_writer (l : Launch) (D : va_G) (cs : Nat → ClassId) {kp : Nat → Nat} {L : List Nat} {E : Nat → va_E} (a0 : Nat) (x1 : Int32) (hm0 : a0 ∈ L) (hk0 : kp a0 = 11) (sz : Nat) : Met l yX11_writer (.code yX11_writer cX11_writer 2 (some .int) :: cx_big) { frames := 1, cells := 0, slots := 0, locals := 20 } (tw_P D cs kp L E [.ref a0, .int x1] sz) (tw_Q D cs kp L (fun v kq Lq Eq => (∃ x : Int32, v = some (.int x)) ∧ kp = kq ∧ L = Lq ∧ E = Eq) (va_A (va_pl L E) sz)) 0 0 (va_A (va_pl L E) sz) := by
  refine tw_ofW (by decide) (Nat.le_of_ble_eq_true rfl) ?_
  intro p e s m below meth c A ls hx hb hr hml hB hown hlocks hK hN hA TH hS hl
  have hown : s.vm.findClass "TreeMerge" = some m.cls := hown
  have hl : lv_has ls 2 [(0, .ref a0), (1, .int x1)] := hl
  obtain ⟨kp0, ekp⟩ : ∃ z, z = kp := ⟨_, rfl⟩
  obtain ⟨L0, eL⟩ : ∃ z, z = L := ⟨_, rfl⟩
  rw [show tw_Q D cs kp L = tw_Q D cs kp0 L0 by rw [ekp, eL]]
  have hex : ∀ a : Nat, a ∈ L0 → a ∈ L ∧ kp a = kp0 a := fun a h => ⟨by rw [← eL]; exact h, by rw [ekp]⟩
  refine lv_iload_n hx hb dX11_writer_0 rfl (lv_at hl 1 rfl) ?_
  refine lv_if_lt (tgt := 25) hx hb dX11_writer_1 (by decide) (fun hc1 => ?_) (fun hc1 => ?_)
  · have hf2 : x1.toInt < 0 := by have z := (fa_lt _ _).mp hc1; have : ((0 : Int32).toInt) = 0 := (by decide); omega
    refine lv_iconst (v := (-1)) hx hb dX11_writer_25 (by decide) ?_
    exact tw_iret hx hb hr hlocks TH hS hex ⟨⟨_, rfl⟩, rfl, rfl, rfl⟩ (Nat.le_of_ble_eq_true rfl) (Nat.le_of_ble_eq_true rfl) dX11_writer_26
  · have hf3 : ¬ (x1.toInt < 0) := fun q => hc1 ((fa_lt _ _).mpr (by have : ((0 : Int32).toInt) = 0 := (by decide); omega))
    refine lv_iload_n hx hb dX11_writer_4 rfl (lv_at hl 1 rfl) ?_
    refine lv_aload_n hx hb dX11_writer_5 rfl (lv_at hl 0 rfl) ?_
    refine tw_get (ci := 11) (C := RX11) (T := TX11) (N := 19) hx hb hB cx_inX11 hown hK TH hm0 hk0 rfl ⟨by decide, rfl⟩ 15 (by decide) cw_398 (fun _ h9 => h9) dX11_writer_6 (fun hv => ?_)
    obtain ⟨xi4, hxi4, hxi4a, hxi4b⟩ : ∃ x : Int32, tw_fv E a0 15 = .int x ∧ 0 ≤ x.toInt ∧ x.toInt ≤ 150 := hv
    rw [hxi4]
    refine lv_icmp_ge (tgt := 25) hx hb dX11_writer_9 (by decide) (fun hc5 => ?_) (fun hc5 => ?_)
    · have hf6 : xi4.toInt ≤ x1.toInt := by have z := (fa_le _ _).mp hc5;  omega
      refine lv_iconst (v := (-1)) hx hb dX11_writer_25 (by decide) ?_
      exact tw_iret hx hb hr hlocks TH hS hex ⟨⟨_, rfl⟩, rfl, rfl, rfl⟩ (Nat.le_of_ble_eq_true rfl) (Nat.le_of_ble_eq_true rfl) dX11_writer_26
    · have hf7 : ¬ (xi4.toInt ≤ x1.toInt) := fun q => hc5 ((fa_le _ _).mpr (by  omega))
      refine lv_aload_n hx hb dX11_writer_12 rfl (lv_at hl 0 rfl) ?_
      refine tw_get (ci := 11) (C := RX11) (T := TX11) (N := 19) hx hb hB cx_inX11 hown hK TH hm0 hk0 rfl ⟨by decide, rfl⟩ 14 (by decide) cw_397 (fun _ h9 => h9) dX11_writer_13 (fun hv => ?_)
      obtain ⟨xr8, hxr8, hmxr8, hkxr8⟩ : ∃ a : Nat, tw_fv E a0 14 = .ref a ∧ a ∈ L ∧ kp a = 180 := hv
      rw [hxr8]
      refine lv_iload_n hx hb dX11_writer_16 rfl (lv_at hl 1 rfl) ?_
      refine tw_iald (k := 180) (t0 := 0) (n := 150) (lo := (-2)) (hi := 12) hx hb hK TH hmxr8 hkxr8 (by decide) rfl rfl (i := x1) (vp_in_iff.mpr ⟨by  omega, by  omega⟩) dX11_writer_17 (fun hxe9a hxe9b => ?_)
      obtain ⟨xe9, exe9⟩ : ∃ z : Int32, tw_iv E xr8 (Int32.toNatClampNeg x1) = z := ⟨_, rfl⟩
      rw [exe9] at hxe9a hxe9b ⊢
      refine lv_iconst (v := (-1)) hx hb dX11_writer_18 (by decide) ?_
      refine va_mmax hx hb (hml.trans hl.1.symm) hown (hB _ cw_1128) (hB _ cw_1129) (hB _ cw_19) (hB _ cw_1130) (Nat.le_of_ble_eq_true rfl) (Nat.le_of_ble_eq_true rfl) (Nat.le_of_ble_eq_true rfl) (Nat.le_of_ble_eq_true rfl) dX11_writer_19 ?_
      refine lv_topi (fun zi10 ezi10 => ?_)
      refine lv_goto (tgt := 26) hx hb dX11_writer_22 (by decide) ?_
      exact tw_iret hx hb hr hlocks TH hS hex ⟨⟨_, rfl⟩, rfl, rfl, rfl⟩ (Nat.le_of_ble_eq_true rfl) (Nat.le_of_ble_eq_true rfl) dX11_writer_26
set_option maxHeartbeats 4000000 in
set_option maxRecDepth 100000 in
theorem tX11_parent (l : Launch) (D : va_G) (cs : Nat → ClassId) {kp : Nat → Nat} {L : List Nat} {E : Nat → va_E} (a0 : Nat) (x1 : Int32) (x2 : Int32) (hm0 : a0 ∈ L) (hk0 : kp a0 = 11) (sz : Nat) : Met l yX11_parent (.code yX11_parent cX11_parent 3 (some .int) :: cx_big) { frames := 1, cells := 0, slots := 0, locals := 21 } (tw_P D cs kp L E [.ref a0, .int x1, .int x2] sz) (tw_Q D cs kp L (fun v kq Lq Eq => (∃ x : Int32, v = some (.int x)) ∧ kp = kq ∧ L = Lq ∧ E = Eq) (va_A (va_pl L E) sz)) 0 0 (va_A (va_pl L E) sz) := by
  refine tw_ofW (by decide) (Nat.le_of_ble_eq_true rfl) ?_
  intro p e s m below meth c A ls hx hb hr hml hB hown hlocks hK hN hA TH hS hl
  have hown : s.vm.findClass "TreeMerge" = some m.cls := hown
  have hl : lv_has ls 3 [(0, .ref a0), (1, .int x1), (2, .int x2)] := hl
  obtain ⟨kp0, ekp⟩ : ∃ z, z = kp := ⟨_, rfl⟩
  obtain ⟨L0, eL⟩ : ∃ z, z = L := ⟨_, rfl⟩
  rw [show tw_Q D cs kp L = tw_Q D cs kp0 L0 by rw [ekp, eL]]
  have hex : ∀ a : Nat, a ∈ L0 → a ∈ L ∧ kp a = kp0 a := fun a h => ⟨by rw [← eL]; exact h, by rw [ekp]⟩
  refine lv_aload_n hx hb dX11_parent_0 rfl (lv_at hl 0 rfl) ?_
  refine tw_get (ci := 11) (C := RX11) (T := TX11) (N := 19) hx hb hB cx_inX11 hown hK TH hm0 hk0 rfl ⟨by decide, rfl⟩ 7 (by decide) cw_390 (fun _ h9 => h9) dX11_parent_1 (fun hv => ?_)
  obtain ⟨xr1, hxr1, hmxr1, hkxr1⟩ : ∃ a : Nat, tw_fv E a0 7 = .ref a ∧ a ∈ L ∧ kp a = 1 := hv
  rw [hxr1]
  refine lv_iload_n hx hb dX11_parent_4 rfl (lv_at hl 1 rfl) ?_
  refine tw_Vc (o := xr1) (ci := 1) (n := 1) (post := (fun v kq Lq Eq => (∃ x : Int32, v = some (.int x) ∧ 0 ≤ x.toInt ∧ x.toInt ≤ 1 ∧ (x.toInt ≠ 0 → 0 ≤ x1.toInt ∧ x1.toInt ≤ 11)) ∧ kp = kq ∧ L = Lq ∧ E = Eq)) (As := [.int x1]) (rest := []) ⟨hx, hb, hml, hown, hB⟩ (fun sz => tX1_has l D cs xr1 x1 hmxr1 hkxr1 sz) cg_11_165_X1_has rfl rfl (by decide +kernel) ⟨Nat.le_of_ble_eq_true rfl, Nat.le_of_ble_eq_true rfl⟩ hK hN TH hS hA rfl hmxr1 hkxr1 (by decide) rfl hl.1 rfl (Nat.le_of_ble_eq_true rfl) dX11_parent_5 ⟨Nat.le_of_ble_eq_true rfl, Nat.le_of_ble_eq_true rfl⟩ (fun v2 kp2 L2 E2 H locs hq2 hx2 TH hS => ?_)
  obtain ⟨⟨xc3, rfl, hxc3a, hxc3b, hpoxc3_0⟩, rfl, rfl, rfl⟩ := hq2
  refine W.eq (g2 := F0 m 8 ls [.int xc3]) rfl ?_
  refine lv_if_ne (tgt := 13) hx hb dX11_parent_8 (by decide) (fun hc4 => ?_) (fun hc4 => ?_)
  · have hf5 : ¬ (xc3.toInt = 0) := fun q => hc4 ((fa_eq _ _).mpr (by have : ((0 : Int32).toInt) = 0 := (by decide); omega))
    refine lv_iload_n hx hb dX11_parent_13 rfl (lv_at hl 2 rfl) ?_
    refine lv_if_ne (tgt := 27) hx hb dX11_parent_14 (by decide) (fun hc6 => ?_) (fun hc6 => ?_)
    · have hf7 : ¬ (x2.toInt = 0) := fun q => hc6 ((fa_eq _ _).mpr (by have : ((0 : Int32).toInt) = 0 := (by decide); omega))
      refine lv_iload_n hx hb dX11_parent_27 rfl (lv_at hl 2 rfl) ?_
      refine lv_iconst (v := 1) hx hb dX11_parent_28 (by decide) ?_
      refine lv_icmp_ne (tgt := 44) hx hb dX11_parent_29 (by decide) (fun hc8 => ?_) (fun hc8 => ?_)
      · have hf9 : ¬ (x2.toInt = 1) := fun q => hc8 ((fa_eq _ _).mpr (by have : ((1 : Int32).toInt) = 1 := (by decide); omega))
        refine lv_iconst (v := (-1)) hx hb dX11_parent_44 (by decide) ?_
        exact tw_iret hx hb hr hlocks TH hS hex ⟨⟨_, rfl⟩, rfl, rfl, rfl⟩ (Nat.le_of_ble_eq_true rfl) (Nat.le_of_ble_eq_true rfl) dX11_parent_45
      · have hf10 : x2.toInt = 1 := by have z := (fa_eq _ _).mp hc8; have : ((1 : Int32).toInt) = 1 := (by decide); omega
        refine lv_aload_n hx hb dX11_parent_32 rfl (lv_at hl 0 rfl) ?_
        refine tw_get (ci := 11) (C := RX11) (T := TX11) (N := 19) hx hb hB cx_inX11 hown hK TH hm0 hk0 rfl ⟨by decide, rfl⟩ 7 (by decide) cw_390 (fun _ h9 => h9) dX11_parent_33 (fun hv => ?_)
        rw [hxr1]
        refine tw_get (ci := 1) (C := RX1) (T := TX1) (N := 5) hx hb hB cx_inX1 hown hK TH hmxr1 hkxr1 rfl ⟨by decide, rfl⟩ 3 (by decide) cw_235 (fun _ h9 => h9) dX11_parent_36 (fun hv => ?_)
        obtain ⟨xr11, hxr11, hmxr11, hkxr11⟩ : ∃ a : Nat, tw_fv E xr1 3 = .ref a ∧ a ∈ L ∧ kp a = 141 := hv
        rw [hxr11]
        refine lv_iload_n hx hb dX11_parent_39 rfl (lv_at hl 1 rfl) ?_
        refine tw_iald (k := 141) (t0 := 0) (n := 12) (lo := (-2147483648)) (hi := 2147483647) hx hb hK TH hmxr11 hkxr11 (by decide) rfl rfl (i := x1) (vp_in_iff.mpr ⟨by  omega, by  omega⟩) dX11_parent_40 (fun hxe12a hxe12b => ?_)
        obtain ⟨xe12, exe12⟩ : ∃ z : Int32, tw_iv E xr11 (Int32.toNatClampNeg x1) = z := ⟨_, rfl⟩
        rw [exe12] at hxe12a hxe12b ⊢
        refine lv_goto (tgt := 45) hx hb dX11_parent_41 (by decide) ?_
        exact tw_iret hx hb hr hlocks TH hS hex ⟨⟨_, rfl⟩, rfl, rfl, rfl⟩ (Nat.le_of_ble_eq_true rfl) (Nat.le_of_ble_eq_true rfl) dX11_parent_45
    · have hf13 : x2.toInt = 0 := by have z := (fa_eq _ _).mp hc6; have : ((0 : Int32).toInt) = 0 := (by decide); omega
      refine lv_aload_n hx hb dX11_parent_17 rfl (lv_at hl 0 rfl) ?_
      refine tw_get (ci := 11) (C := RX11) (T := TX11) (N := 19) hx hb hB cx_inX11 hown hK TH hm0 hk0 rfl ⟨by decide, rfl⟩ 7 (by decide) cw_390 (fun _ h9 => h9) dX11_parent_18 (fun hv => ?_)
      rw [hxr1]
      refine tw_get (ci := 1) (C := RX1) (T := TX1) (N := 5) hx hb hB cx_inX1 hown hK TH hmxr1 hkxr1 rfl ⟨by decide, rfl⟩ 2 (by decide) cw_233 (fun _ h9 => h9) dX11_parent_21 (fun hv => ?_)
      obtain ⟨xr14, hxr14, hmxr14, hkxr14⟩ : ∃ a : Nat, tw_fv E xr1 2 = .ref a ∧ a ∈ L ∧ kp a = 141 := hv
      rw [hxr14]
      refine lv_iload_n hx hb dX11_parent_24 rfl (lv_at hl 1 rfl) ?_
      refine tw_iald (k := 141) (t0 := 0) (n := 12) (lo := (-2147483648)) (hi := 2147483647) hx hb hK TH hmxr14 hkxr14 (by decide) rfl rfl (i := x1) (vp_in_iff.mpr ⟨by  omega, by  omega⟩) dX11_parent_25 (fun hxe15a hxe15b => ?_)
      obtain ⟨xe15, exe15⟩ : ∃ z : Int32, tw_iv E xr14 (Int32.toNatClampNeg x1) = z := ⟨_, rfl⟩
      rw [exe15] at hxe15a hxe15b ⊢
      exact tw_iret hx hb hr hlocks TH hS hex ⟨⟨_, rfl⟩, rfl, rfl, rfl⟩ (Nat.le_of_ble_eq_true rfl) (Nat.le_of_ble_eq_true rfl) dX11_parent_26
  · have hf16 : xc3.toInt = 0 := by have z := (fa_eq _ _).mp hc4; have : ((0 : Int32).toInt) = 0 := (by decide); omega
    refine lv_iconst (v := (-1)) hx hb dX11_parent_11 (by decide) ?_
    exact tw_iret hx hb hr hlocks TH hS hex ⟨⟨_, rfl⟩, rfl, rfl, rfl⟩ (Nat.le_of_ble_eq_true rfl) (Nat.le_of_ble_eq_true rfl) dX11_parent_12
set_option maxHeartbeats 4000000 in
set_option maxRecDepth 100000 in
theorem tX11_from (l : Launch) (D : va_G) (cs : Nat → ClassId) {kp : Nat → Nat} {L : List Nat} {E : Nat → va_E} (a0 : Nat) (x1 : Int32) (x2 : Int32) (hm0 : a0 ∈ L) (hk0 : kp a0 = 11) (sz : Nat) : Met l yX11_from (.code yX11_from cX11_from 3 (some .boolean) :: cx_big) { frames := 3, cells := 0, slots := 0, locals := 64 } (tw_P D cs kp L E [.ref a0, .int x1, .int x2] sz) (tw_Q D cs kp L (fun v kq Lq Eq => (∃ x : Int32, v = some (.int x) ∧ 0 ≤ x.toInt ∧ x.toInt ≤ 1) ∧ kp = kq ∧ L = Lq ∧ E = Eq) (va_A (va_pl L E) sz)) 0 0 (va_A (va_pl L E) sz) := by
  refine tw_ofW (by decide) (Nat.le_of_ble_eq_true rfl) ?_
  intro p e s m below meth c A ls hx hb hr hml hB hown hlocks hK hN hA TH hS hl
  have hown : s.vm.findClass "TreeMerge" = some m.cls := hown
  have hl : lv_has ls 3 [(0, .ref a0), (1, .int x1), (2, .int x2)] := hl
  obtain ⟨kp0, ekp⟩ : ∃ z, z = kp := ⟨_, rfl⟩
  obtain ⟨L0, eL⟩ : ∃ z, z = L := ⟨_, rfl⟩
  rw [show tw_Q D cs kp L = tw_Q D cs kp0 L0 by rw [ekp, eL]]
  have hex : ∀ a : Nat, a ∈ L0 → a ∈ L ∧ kp a = kp0 a := fun a h => ⟨by rw [← eL]; exact h, by rw [ekp]⟩
  refine lv_aload_n hx hb dX11_from_0 rfl (lv_at hl 0 rfl) ?_
  refine tw_get (ci := 11) (C := RX11) (T := TX11) (N := 19) hx hb hB cx_inX11 hown hK TH hm0 hk0 rfl ⟨by decide, rfl⟩ 7 (by decide) cw_390 (fun _ h9 => h9) dX11_from_1 (fun hv => ?_)
  obtain ⟨xr1, hxr1, hmxr1, hkxr1⟩ : ∃ a : Nat, tw_fv E a0 7 = .ref a ∧ a ∈ L ∧ kp a = 1 := hv
  rw [hxr1]
  refine lv_iload_n hx hb dX11_from_4 rfl (lv_at hl 1 rfl) ?_
  refine lv_iload_n hx hb dX11_from_5 rfl (lv_at hl 2 rfl) ?_
  refine tw_Vc (o := xr1) (ci := 1) (n := 2) (post := (fun v kq Lq Eq => (∃ x : Int32, v = some (.int x) ∧ 0 ≤ x.toInt ∧ x.toInt ≤ 1) ∧ kp = kq ∧ L = Lq ∧ E = Eq)) (As := [.int x1, .int x2]) (rest := []) ⟨hx, hb, hml, hown, hB⟩ (fun sz => tX1_comesFrom l D cs xr1 x1 x2 hmxr1 hkxr1 sz) cg_11_259_X1_comesFrom rfl rfl (by decide +kernel) ⟨Nat.le_of_ble_eq_true rfl, Nat.le_of_ble_eq_true rfl⟩ hK hN TH hS hA rfl hmxr1 hkxr1 (by decide) rfl hl.1 rfl (Nat.le_of_ble_eq_true rfl) dX11_from_6 ⟨Nat.le_of_ble_eq_true rfl, Nat.le_of_ble_eq_true rfl⟩ (fun v2 kp2 L2 E2 H locs hq2 hx2 TH hS => ?_)
  obtain ⟨⟨xc3, rfl, hxc3a, hxc3b⟩, rfl, rfl, rfl⟩ := hq2
  refine W.eq (g2 := F0 m 9 ls [.int xc3]) rfl ?_
  exact tw_zret hx hb hr hlocks (ia_bool (by omega) (by omega)) TH hS hex ⟨⟨_, rfl, (show 0 ≤ Int32.toInt xc3 from by  omega), (show Int32.toInt xc3 ≤ 1 from by  omega)⟩, rfl, rfl, rfl⟩ (Nat.le_of_ble_eq_true rfl) (Nat.le_of_ble_eq_true rfl) dX11_from_9
set_option maxHeartbeats 4000000 in
set_option maxRecDepth 100000 in
theorem tX11_count (l : Launch) (D : va_G) (cs : Nat → ClassId) {kp : Nat → Nat} {L : List Nat} {E : Nat → va_E} (a0 : Nat) (x1 : Int32) (hm0 : a0 ∈ L) (hk0 : kp a0 = 11) (sz : Nat) : Met l yX11_count (.code yX11_count cX11_count 2 (some .int) :: cx_big) { frames := 0, cells := 0, slots := 0, locals := 0 } (tw_P D cs kp L E [.ref a0, .int x1] sz) (tw_Q D cs kp L (fun v kq Lq Eq => (∃ x : Int32, v = some (.int x)) ∧ kp = kq ∧ L = Lq ∧ E = Eq) (va_A (va_pl L E) sz)) 0 0 (va_A (va_pl L E) sz) := by
  refine tw_ofW (by decide) (Nat.le_of_ble_eq_true rfl) ?_
  intro p e s m below meth c A ls hx hb hr hml hB hown hlocks hK hN hA TH hS hl
  have hown : s.vm.findClass "TreeMerge" = some m.cls := hown
  have hl : lv_has ls 2 [(0, .ref a0), (1, .int x1)] := hl
  obtain ⟨kp0, ekp⟩ : ∃ z, z = kp := ⟨_, rfl⟩
  obtain ⟨L0, eL⟩ : ∃ z, z = L := ⟨_, rfl⟩
  rw [show tw_Q D cs kp L = tw_Q D cs kp0 L0 by rw [ekp, eL]]
  have hex : ∀ a : Nat, a ∈ L0 → a ∈ L ∧ kp a = kp0 a := fun a h => ⟨by rw [← eL]; exact h, by rw [ekp]⟩
  refine lv_iload_n hx hb dX11_count_0 rfl (lv_at hl 1 rfl) ?_
  by_cases hc1_0 : x1 = 0
  · refine lv_tableIn (x := x1) (off := 39) (tgt := 40) hx hb dX11_count_1 (by rw [hc1_0]; decide) (by rw [hc1_0]; decide) (by rw [hc1_0]; decide) (by decide) ?_
    refine lv_aload_n hx hb dX11_count_40 rfl (lv_at hl 0 rfl) ?_
    refine tw_get (ci := 11) (C := RX11) (T := TX11) (N := 19) hx hb hB cx_inX11 hown hK TH hm0 hk0 rfl ⟨by decide, rfl⟩ 1 (by decide) cw_384 (fun _ h9 => h9) dX11_count_41 (fun hv => ?_)
    obtain ⟨xr2, hxr2, hmxr2, hkxr2⟩ : ∃ a : Nat, tw_fv E a0 1 = .ref a ∧ a ∈ L ∧ kp a = 2 := hv
    rw [hxr2]
    refine tw_get (ci := 2) (C := RX2) (T := TX2) (N := 13) hx hb hB cx_inX2 hown hK TH hmxr2 hkxr2 rfl ⟨by decide, rfl⟩ 1 (by decide) cw_69 (fun _ h9 => h9) dX11_count_44 (fun hv => ?_)
    obtain ⟨xi3, hxi3, hxi3a, hxi3b⟩ : ∃ x : Int32, tw_fv E xr2 1 = .int x ∧ 0 ≤ x.toInt ∧ x.toInt ≤ 10 := hv
    rw [hxi3]
    exact tw_iret hx hb hr hlocks TH hS hex ⟨⟨_, rfl⟩, rfl, rfl, rfl⟩ (Nat.le_of_ble_eq_true rfl) (Nat.le_of_ble_eq_true rfl) dX11_count_47
  by_cases hc1_1 : x1 = 1
  · refine lv_tableIn (x := x1) (off := 47) (tgt := 48) hx hb dX11_count_1 (by rw [hc1_1]; decide) (by rw [hc1_1]; decide) (by rw [hc1_1]; decide) (by decide) ?_
    refine lv_aload_n hx hb dX11_count_48 rfl (lv_at hl 0 rfl) ?_
    refine tw_get (ci := 11) (C := RX11) (T := TX11) (N := 19) hx hb hB cx_inX11 hown hK TH hm0 hk0 rfl ⟨by decide, rfl⟩ 7 (by decide) cw_390 (fun _ h9 => h9) dX11_count_49 (fun hv => ?_)
    obtain ⟨xr4, hxr4, hmxr4, hkxr4⟩ : ∃ a : Nat, tw_fv E a0 7 = .ref a ∧ a ∈ L ∧ kp a = 1 := hv
    rw [hxr4]
    refine tw_get (ci := 1) (C := RX1) (T := TX1) (N := 5) hx hb hB cx_inX1 hown hK TH hmxr4 hkxr4 rfl ⟨by decide, rfl⟩ 0 (by decide) cw_230 (fun _ h9 => h9) dX11_count_52 (fun hv => ?_)
    obtain ⟨xi5, hxi5, hxi5a, hxi5b⟩ : ∃ x : Int32, tw_fv E xr4 0 = .int x ∧ 0 ≤ x.toInt ∧ x.toInt ≤ 12 := hv
    rw [hxi5]
    exact tw_iret hx hb hr hlocks TH hS hex ⟨⟨_, rfl⟩, rfl, rfl, rfl⟩ (Nat.le_of_ble_eq_true rfl) (Nat.le_of_ble_eq_true rfl) dX11_count_55
  by_cases hc1_2 : x1 = 2
  · refine lv_tableIn (x := x1) (off := 55) (tgt := 56) hx hb dX11_count_1 (by rw [hc1_2]; decide) (by rw [hc1_2]; decide) (by rw [hc1_2]; decide) (by decide) ?_
    refine lv_aload_n hx hb dX11_count_56 rfl (lv_at hl 0 rfl) ?_
    refine tw_get (ci := 11) (C := RX11) (T := TX11) (N := 19) hx hb hB cx_inX11 hown hK TH hm0 hk0 rfl ⟨by decide, rfl⟩ 15 (by decide) cw_398 (fun _ h9 => h9) dX11_count_57 (fun hv => ?_)
    obtain ⟨xi6, hxi6, hxi6a, hxi6b⟩ : ∃ x : Int32, tw_fv E a0 15 = .int x ∧ 0 ≤ x.toInt ∧ x.toInt ≤ 150 := hv
    rw [hxi6]
    exact tw_iret hx hb hr hlocks TH hS hex ⟨⟨_, rfl⟩, rfl, rfl, rfl⟩ (Nat.le_of_ble_eq_true rfl) (Nat.le_of_ble_eq_true rfl) dX11_count_60
  by_cases hc1_3 : x1 = 3
  · refine lv_tableIn (x := x1) (off := 60) (tgt := 61) hx hb dX11_count_1 (by rw [hc1_3]; decide) (by rw [hc1_3]; decide) (by rw [hc1_3]; decide) (by decide) ?_
    refine lv_aload_n hx hb dX11_count_61 rfl (lv_at hl 0 rfl) ?_
    refine tw_get (ci := 11) (C := RX11) (T := TX11) (N := 19) hx hb hB cx_inX11 hown hK TH hm0 hk0 rfl ⟨by decide, rfl⟩ 0 (by decide) cw_383 (fun _ h9 => h9) dX11_count_62 (fun hv => ?_)
    obtain ⟨xr7, hxr7, hmxr7, hkxr7⟩ : ∃ a : Nat, tw_fv E a0 0 = .ref a ∧ a ∈ L ∧ kp a = 9 := hv
    rw [hxr7]
    refine tw_get (ci := 9) (C := RX9) (T := TX9) (N := 5) hx hb hB cx_inX9 hown hK TH hmxr7 hkxr7 rfl ⟨by decide, rfl⟩ 1 (by decide) cw_37 (fun _ h9 => h9) dX11_count_65 (fun hv => ?_)
    obtain ⟨xi8, hxi8, hxi8a, hxi8b⟩ : ∃ x : Int32, tw_fv E xr7 1 = .int x ∧ 0 ≤ x.toInt ∧ x.toInt ≤ 500 := hv
    rw [hxi8]
    exact tw_iret hx hb hr hlocks TH hS hex ⟨⟨_, rfl⟩, rfl, rfl, rfl⟩ (Nat.le_of_ble_eq_true rfl) (Nat.le_of_ble_eq_true rfl) dX11_count_68
  by_cases hc1_4 : x1 = 4
  · refine lv_tableIn (x := x1) (off := 68) (tgt := 69) hx hb dX11_count_1 (by rw [hc1_4]; decide) (by rw [hc1_4]; decide) (by rw [hc1_4]; decide) (by decide) ?_
    refine lv_aload_n hx hb dX11_count_69 rfl (lv_at hl 0 rfl) ?_
    refine tw_get (ci := 11) (C := RX11) (T := TX11) (N := 19) hx hb hB cx_inX11 hown hK TH hm0 hk0 rfl ⟨by decide, rfl⟩ 8 (by decide) cw_391 (fun _ h9 => h9) dX11_count_70 (fun hv => ?_)
    obtain ⟨xr9, hxr9, hmxr9, hkxr9⟩ : ∃ a : Nat, tw_fv E a0 8 = .ref a ∧ a ∈ L ∧ kp a = 0 := hv
    rw [hxr9]
    refine tw_get (ci := 0) (C := RX0) (T := TX0) (N := 4) hx hb hB cx_inX0 hown hK TH hmxr9 hkxr9 rfl ⟨by decide, rfl⟩ 0 (by decide) cw_257 (fun _ h9 => h9) dX11_count_73 (fun hv => ?_)
    obtain ⟨xi10, hxi10, hxi10a, hxi10b⟩ : ∃ x : Int32, tw_fv E xr9 0 = .int x ∧ 0 ≤ x.toInt ∧ x.toInt ≤ 1 := hv
    rw [hxi10]
    refine lv_if_eq (tgt := 83) hx hb dX11_count_76 (by decide) (fun hc11 => ?_) (fun hc11 => ?_)
    · have hf12 : xi10.toInt = 0 := by have z := (fa_eq _ _).mp hc11; have : ((0 : Int32).toInt) = 0 := (by decide); omega
      refine lv_iconst (v := 0) hx hb dX11_count_83 (by decide) ?_
      exact tw_iret hx hb hr hlocks TH hS hex ⟨⟨_, rfl⟩, rfl, rfl, rfl⟩ (Nat.le_of_ble_eq_true rfl) (Nat.le_of_ble_eq_true rfl) dX11_count_84
    · have hf13 : ¬ (xi10.toInt = 0) := fun q => hc11 ((fa_eq _ _).mpr (by have : ((0 : Int32).toInt) = 0 := (by decide); omega))
      refine lv_iconst (v := 1) hx hb dX11_count_79 (by decide) ?_
      refine lv_goto (tgt := 84) hx hb dX11_count_80 (by decide) ?_
      exact tw_iret hx hb hr hlocks TH hS hex ⟨⟨_, rfl⟩, rfl, rfl, rfl⟩ (Nat.le_of_ble_eq_true rfl) (Nat.le_of_ble_eq_true rfl) dX11_count_84
  by_cases hc1_5 : x1 = 5
  · refine lv_tableIn (x := x1) (off := 84) (tgt := 85) hx hb dX11_count_1 (by rw [hc1_5]; decide) (by rw [hc1_5]; decide) (by rw [hc1_5]; decide) (by decide) ?_
    refine lv_aload_n hx hb dX11_count_85 rfl (lv_at hl 0 rfl) ?_
    refine tw_get (ci := 11) (C := RX11) (T := TX11) (N := 19) hx hb hB cx_inX11 hown hK TH hm0 hk0 rfl ⟨by decide, rfl⟩ 9 (by decide) cw_392 (fun _ h9 => h9) dX11_count_86 (fun hv => ?_)
    obtain ⟨xr14, hxr14, hmxr14, hkxr14⟩ : ∃ a : Nat, tw_fv E a0 9 = .ref a ∧ a ∈ L ∧ kp a = 7 := hv
    rw [hxr14]
    refine tw_get (ci := 7) (C := RX7) (T := TX7) (N := 2) hx hb hB cx_inX7 hown hK TH hmxr14 hkxr14 rfl ⟨by decide, rfl⟩ 0 (by decide) cw_278 (fun _ h9 => h9) dX11_count_89 (fun hv => ?_)
    obtain ⟨xi15, hxi15, hxi15a, hxi15b⟩ : ∃ x : Int32, tw_fv E xr14 0 = .int x ∧ (-2147483648) ≤ x.toInt ∧ x.toInt ≤ 2147483647 := hv
    rw [hxi15]
    exact tw_iret hx hb hr hlocks TH hS hex ⟨⟨_, rfl⟩, rfl, rfl, rfl⟩ (Nat.le_of_ble_eq_true rfl) (Nat.le_of_ble_eq_true rfl) dX11_count_92
  have hout : x1.toInt < 0 ∨ 5 < x1.toInt := by simp only [fa_eq] at hc1_0 hc1_1 hc1_2 hc1_3 hc1_4 hc1_5; have : ((0 : Int32).toInt) = 0 := (by decide); have : ((1 : Int32).toInt) = 1 := (by decide); have : ((2 : Int32).toInt) = 2 := (by decide); have : ((3 : Int32).toInt) = 3 := (by decide); have : ((4 : Int32).toInt) = 4 := (by decide); have : ((5 : Int32).toInt) = 5 := (by decide); omega
  refine lv_tableOut (tgt := 93) hx hb dX11_count_1 hout (by decide) ?_
  refine lv_iconst (v := (-1)) hx hb dX11_count_93 (by decide) ?_
  exact tw_iret hx hb hr hlocks TH hS hex ⟨⟨_, rfl⟩, rfl, rfl, rfl⟩ (Nat.le_of_ble_eq_true rfl) (Nat.le_of_ble_eq_true rfl) dX11_count_94
set_option maxHeartbeats 4000000 in
set_option maxRecDepth 100000 in
theorem tX11_drop (l : Launch) (D : va_G) (cs : Nat → ClassId) {kp : Nat → Nat} {L : List Nat} {E : Nat → va_E} (a0 : Nat) (hm0 : a0 ∈ L) (hk0 : kp a0 = 11) (sz : Nat) : Met l yX11_drop (.code yX11_drop cX11_drop 1 (some .boolean) :: cx_big) { frames := 1, cells := 0, slots := 0, locals := 22 } (tw_P D cs kp L E [.ref a0] sz) (tw_Q D cs kp L (fun v kq Lq Eq => (∃ x : Int32, v = some (.int x) ∧ 0 ≤ x.toInt ∧ x.toInt ≤ 1) ∧ kp = kq ∧ L = Lq ∧ tw_fr kp L [(0, 0)] [180] E Eq) (va_A (va_pl L E) sz)) 0 0 (va_A (va_pl L E) sz) := by
  refine tw_ofW (by decide) (Nat.le_of_ble_eq_true rfl) ?_
  intro p e s m below meth c A ls hx hb hr hml hB hown hlocks hK hN hA TH hS hl
  have hown : s.vm.findClass "TreeMerge" = some m.cls := hown
  have hl : lv_has ls 1 [(0, .ref a0)] := hl
  obtain ⟨kp0, ekp⟩ : ∃ z, z = kp := ⟨_, rfl⟩
  obtain ⟨L0, eL⟩ : ∃ z, z = L := ⟨_, rfl⟩
  rw [show tw_Q D cs kp L = tw_Q D cs kp0 L0 by rw [ekp, eL]]
  have hex : ∀ a : Nat, a ∈ L0 → a ∈ L ∧ kp a = kp0 a := fun a h => ⟨by rw [← eL]; exact h, by rw [ekp]⟩
  have hF : tw_fr kp L [(0, 0)] [180] E E := tw_fr.rf
  refine lv_aload_n hx hb dX11_drop_0 rfl (lv_at hl 0 rfl) ?_
  refine tw_get (ci := 11) (C := RX11) (T := TX11) (N := 19) hx hb hB cx_inX11 hown hK TH hm0 hk0 rfl ⟨by decide, rfl⟩ 8 (by decide) cw_391 (fun _ h9 => h9) dX11_drop_1 (fun hv => ?_)
  obtain ⟨xr1, hxr1, hmxr1, hkxr1⟩ : ∃ a : Nat, tw_fv E a0 8 = .ref a ∧ a ∈ L ∧ kp a = 0 := hv
  rw [hxr1]
  refine tw_get (ci := 0) (C := RX0) (T := TX0) (N := 4) hx hb hB cx_inX0 hown hK TH hmxr1 hkxr1 rfl ⟨by decide, rfl⟩ 0 (by decide) cw_257 (fun _ h9 => h9) dX11_drop_4 (fun hv => ?_)
  obtain ⟨xi2, hxi2, hxi2a, hxi2b⟩ : ∃ x : Int32, tw_fv E xr1 0 = .int x ∧ 0 ≤ x.toInt ∧ x.toInt ≤ 1 := hv
  rw [hxi2]
  refine lv_if_ne (tgt := 12) hx hb dX11_drop_7 (by decide) (fun hc3 => ?_) (fun hc3 => ?_)
  · have hf4 : ¬ (xi2.toInt = 0) := fun q => hc3 ((fa_eq _ _).mpr (by have : ((0 : Int32).toInt) = 0 := (by decide); omega))
    refine lv_aload_n hx hb dX11_drop_12 rfl (lv_at hl 0 rfl) ?_
    refine lv_iconst (v := (-1)) hx hb dX11_drop_13 (by decide) ?_
    refine tw_Vc (o := a0) (ci := 11) (n := 1) (post := (fun v kq Lq Eq => v = none ∧ kp = kq ∧ L = Lq ∧ tw_fr kp L [(0, 0)] [180] E Eq)) (As := [.int (-1)]) (rest := []) ⟨hx, hb, hml, hown, hB⟩ (fun sz => tX11_endDraft l D cs a0 ((-1) : Int32) hm0 hk0 (by have : (((-1) : Int32).toInt) = (-1) := (by decide); omega) (by have : (((-1) : Int32).toInt) = (-1) := (by decide); omega) sz) cg_11_217_X11_endDraft rfl rfl (by decide +kernel) ⟨Nat.le_of_ble_eq_true rfl, Nat.le_of_ble_eq_true rfl⟩ hK hN TH hS hA rfl hm0 hk0 (by decide) rfl hl.1 rfl (Nat.le_of_ble_eq_true rfl) dX11_drop_14 ⟨Nat.le_of_ble_eq_true rfl, Nat.le_of_ble_eq_true rfl⟩ (fun v5 kp5 L5 E5 H locs hq5 hx5 TH hS => ?_)
    obtain ⟨rfl, rfl, rfl, hst5⟩ := hq5
    have hF := hF.tr hst5 (fun _ h => ⟨h, rfl⟩) (by decide) (by decide)
    have hmf7 : tw_fv E5 a0 8 = .ref xr1 := (hst5.1 a0 8 hm0 (by rw [hk0]; decide)).trans hxr1
    refine W.eq (g2 := F0 m 17 ls []) rfl ?_
    refine lv_iconst (v := 1) hx hb dX11_drop_17 (by decide) ?_
    exact tw_zret hx hb hr hlocks (by decide) TH hS hex ⟨⟨_, rfl, (show 0 ≤ Int32.toInt 1 from by have : ((1 : Int32).toInt) = 1 := (by decide); omega), (show Int32.toInt 1 ≤ 1 from by have : ((1 : Int32).toInt) = 1 := (by decide); omega)⟩, rfl, rfl, hF⟩ (Nat.le_of_ble_eq_true rfl) (Nat.le_of_ble_eq_true rfl) dX11_drop_18
  · have hf8 : xi2.toInt = 0 := by have z := (fa_eq _ _).mp hc3; have : ((0 : Int32).toInt) = 0 := (by decide); omega
    refine lv_iconst (v := 0) hx hb dX11_drop_10 (by decide) ?_
    exact tw_zret hx hb hr hlocks (by decide) TH hS hex ⟨⟨_, rfl, (show 0 ≤ Int32.toInt 0 from by have : ((0 : Int32).toInt) = 0 := (by decide); omega), (show Int32.toInt 0 ≤ 1 from by have : ((0 : Int32).toInt) = 0 := (by decide); omega)⟩, rfl, rfl, hF⟩ (Nat.le_of_ble_eq_true rfl) (Nat.le_of_ble_eq_true rfl) dX11_drop_11
set_option maxHeartbeats 4000000 in
set_option maxRecDepth 100000 in
theorem tX11_editionOrDraft (l : Launch) (D : va_G) (cs : Nat → ClassId) {kp : Nat → Nat} {L : List Nat} {E : Nat → va_E} (a0 : Nat) (x1 : Int32) (hm0 : a0 ∈ L) (hk0 : kp a0 = 11) (sz : Nat) : Met l yX11_editionOrDraft (.code yX11_editionOrDraft cX11_editionOrDraft 2 (some (.object "TreeMerge$Tree")) :: cx_big) { frames := 2, cells := 0, slots := 0, locals := 42 } (tw_P D cs kp L E [.ref a0, .int x1] sz) (tw_Q D cs kp L (fun v kq Lq Eq => (v = some .null ∨ ∃ a : Nat, v = some (.ref a) ∧ a ∈ Lq ∧ kq a = 10) ∧ kp = kq ∧ L = Lq ∧ E = Eq) (va_A (va_pl L E) sz)) 0 0 (va_A (va_pl L E) sz) := by
  refine tw_ofW (by decide) (Nat.le_of_ble_eq_true rfl) ?_
  intro p e s m below meth c A ls hx hb hr hml hB hown hlocks hK hN hA TH hS hl
  have hown : s.vm.findClass "TreeMerge" = some m.cls := hown
  have hl : lv_has ls 2 [(0, .ref a0), (1, .int x1)] := hl
  obtain ⟨kp0, ekp⟩ : ∃ z, z = kp := ⟨_, rfl⟩
  obtain ⟨L0, eL⟩ : ∃ z, z = L := ⟨_, rfl⟩
  rw [show tw_Q D cs kp L = tw_Q D cs kp0 L0 by rw [ekp, eL]]
  have hex : ∀ a : Nat, a ∈ L0 → a ∈ L ∧ kp a = kp0 a := fun a h => ⟨by rw [← eL]; exact h, by rw [ekp]⟩
  refine lv_iload_n hx hb dX11_editionOrDraft_0 rfl (lv_at hl 1 rfl) ?_
  refine lv_bipush (v := 12) hx hb dX11_editionOrDraft_1 (by decide) ?_
  refine lv_icmp_ne (tgt := 28) hx hb dX11_editionOrDraft_3 (by decide) (fun hc1 => ?_) (fun hc1 => ?_)
  · have hf2 : ¬ (x1.toInt = 12) := fun q => hc1 ((fa_eq _ _).mpr (by have : ((12 : Int32).toInt) = 12 := (by decide); omega))
    refine lv_aload_n hx hb dX11_editionOrDraft_28 rfl (lv_at hl 0 rfl) ?_
    refine tw_get (ci := 11) (C := RX11) (T := TX11) (N := 19) hx hb hB cx_inX11 hown hK TH hm0 hk0 rfl ⟨by decide, rfl⟩ 7 (by decide) cw_390 (fun _ h9 => h9) dX11_editionOrDraft_29 (fun hv => ?_)
    obtain ⟨xr3, hxr3, hmxr3, hkxr3⟩ : ∃ a : Nat, tw_fv E a0 7 = .ref a ∧ a ∈ L ∧ kp a = 1 := hv
    rw [hxr3]
    refine lv_iload_n hx hb dX11_editionOrDraft_32 rfl (lv_at hl 1 rfl) ?_
    refine tw_Vc (o := xr3) (ci := 1) (n := 1) (post := (fun v kq Lq Eq => (v = some .null ∨ ∃ a : Nat, v = some (.ref a) ∧ a ∈ Lq ∧ kq a = 10 ∧ (0 ≤ x1.toInt ∧ x1.toInt ≤ 11)) ∧ kp = kq ∧ L = Lq ∧ E = Eq)) (As := [.int x1]) (rest := []) ⟨hx, hb, hml, hown, hB⟩ (fun sz => tX1_treeOf l D cs xr3 x1 hmxr3 hkxr3 sz) cg_11_168_X1_treeOf rfl rfl (by decide +kernel) ⟨Nat.le_of_ble_eq_true rfl, Nat.le_of_ble_eq_true rfl⟩ hK hN TH hS hA rfl hmxr3 hkxr3 (by decide) rfl hl.1 rfl (Nat.le_of_ble_eq_true rfl) dX11_editionOrDraft_33 ⟨Nat.le_of_ble_eq_true rfl, Nat.le_of_ble_eq_true rfl⟩ (fun v4 kp4 L4 E4 H locs hq4 hx4 TH hS => ?_)
    obtain ⟨hnxc5, rfl, rfl, rfl⟩ := hq4
    rcases hnxc5 with rfl | ⟨xc5, rfl, hmxc5, hkxc5, hnpxc5⟩
    · refine W.eq (g2 := F0 m 36 ls [.null]) rfl ?_
      exact tw_aret hx hb hr hlocks (Or.inl rfl) TH hS hex ⟨(Or.inl rfl), rfl, rfl, rfl⟩ (Nat.le_of_ble_eq_true rfl) (Nat.le_of_ble_eq_true rfl) dX11_editionOrDraft_36
    · refine W.eq (g2 := F0 m 36 ls [.ref xc5]) rfl ?_
      exact tw_aret hx hb hr hlocks (Or.inr ⟨_, rfl⟩) TH hS hex ⟨(Or.inr ⟨_, rfl, hmxc5, hkxc5⟩), rfl, rfl, rfl⟩ (Nat.le_of_ble_eq_true rfl) (Nat.le_of_ble_eq_true rfl) dX11_editionOrDraft_36
  · have hf6 : x1.toInt = 12 := by have z := (fa_eq _ _).mp hc1; have : ((12 : Int32).toInt) = 12 := (by decide); omega
    refine lv_aload_n hx hb dX11_editionOrDraft_6 rfl (lv_at hl 0 rfl) ?_
    refine tw_get (ci := 11) (C := RX11) (T := TX11) (N := 19) hx hb hB cx_inX11 hown hK TH hm0 hk0 rfl ⟨by decide, rfl⟩ 8 (by decide) cw_391 (fun _ h9 => h9) dX11_editionOrDraft_7 (fun hv => ?_)
    obtain ⟨xr7, hxr7, hmxr7, hkxr7⟩ : ∃ a : Nat, tw_fv E a0 8 = .ref a ∧ a ∈ L ∧ kp a = 0 := hv
    rw [hxr7]
    refine tw_get (ci := 0) (C := RX0) (T := TX0) (N := 4) hx hb hB cx_inX0 hown hK TH hmxr7 hkxr7 rfl ⟨by decide, rfl⟩ 0 (by decide) cw_257 (fun _ h9 => h9) dX11_editionOrDraft_10 (fun hv => ?_)
    obtain ⟨xi8, hxi8, hxi8a, hxi8b⟩ : ∃ x : Int32, tw_fv E xr7 0 = .int x ∧ 0 ≤ x.toInt ∧ x.toInt ≤ 1 := hv
    rw [hxi8]
    refine lv_if_eq (tgt := 26) hx hb dX11_editionOrDraft_13 (by decide) (fun hc9 => ?_) (fun hc9 => ?_)
    · have hf10 : xi8.toInt = 0 := by have z := (fa_eq _ _).mp hc9; have : ((0 : Int32).toInt) = 0 := (by decide); omega
      refine lv_null hx hb dX11_editionOrDraft_26 ?_
      exact tw_aret hx hb hr hlocks (Or.inl rfl) TH hS hex ⟨(Or.inl rfl), rfl, rfl, rfl⟩ (Nat.le_of_ble_eq_true rfl) (Nat.le_of_ble_eq_true rfl) dX11_editionOrDraft_27
    · have hf11 : ¬ (xi8.toInt = 0) := fun q => hc9 ((fa_eq _ _).mpr (by have : ((0 : Int32).toInt) = 0 := (by decide); omega))
      refine lv_aload_n hx hb dX11_editionOrDraft_16 rfl (lv_at hl 0 rfl) ?_
      refine tw_get (ci := 11) (C := RX11) (T := TX11) (N := 19) hx hb hB cx_inX11 hown hK TH hm0 hk0 rfl ⟨by decide, rfl⟩ 8 (by decide) cw_391 (fun _ h9 => h9) dX11_editionOrDraft_17 (fun hv => ?_)
      rw [hxr7]
      refine tw_get (ci := 0) (C := RX0) (T := TX0) (N := 4) hx hb hB cx_inX0 hown hK TH hmxr7 hkxr7 rfl ⟨by decide, rfl⟩ 2 (by decide) cw_260 (fun _ h9 => h9) dX11_editionOrDraft_20 (fun hv => ?_)
      obtain ⟨xr12, hxr12, hmxr12, hkxr12⟩ : ∃ a : Nat, tw_fv E xr7 2 = .ref a ∧ a ∈ L ∧ kp a = 10 := hv
      rw [hxr12]
      refine lv_goto (tgt := 27) hx hb dX11_editionOrDraft_23 (by decide) ?_
      exact tw_aret hx hb hr hlocks (Or.inr ⟨_, rfl⟩) TH hS hex ⟨(Or.inr ⟨_, rfl, hmxr12, hkxr12⟩), rfl, rfl, rfl⟩ (Nat.le_of_ble_eq_true rfl) (Nat.le_of_ble_eq_true rfl) dX11_editionOrDraft_27
set_option maxHeartbeats 4000000 in
set_option maxRecDepth 100000 in
theorem tX11_begin (l : Launch) (D : va_G) (cs : Nat → ClassId) {kp : Nat → Nat} {L : List Nat} {E : Nat → va_E} (a0 : Nat) (x1 : Int32) (hm0 : a0 ∈ L) (hk0 : kp a0 = 11) (sz : Nat) : Met l yX11_begin (.code yX11_begin cX11_begin 3 (some .boolean) :: cx_big) { frames := 2, cells := 0, slots := 0, locals := 42 } (tw_P D cs kp L E [.ref a0, .int x1] sz) (tw_Q D cs kp L (fun v kq Lq Eq => (∃ x : Int32, v = some (.int x) ∧ 0 ≤ x.toInt ∧ x.toInt ≤ 1) ∧ kp = kq ∧ L = Lq ∧ tw_fr kp L [(0, 0), (0, 1), (10, 0)] [102, 110, 111, 112, 113, 114, 115] E Eq) (va_A (va_pl L E) sz)) 0 0 (va_A (va_pl L E) sz) := by
  refine tw_ofW (by decide) (Nat.le_of_ble_eq_true rfl) ?_
  intro p e s m below meth c A ls hx hb hr hml hB hown hlocks hK hN hA TH hS hl
  have hown : s.vm.findClass "TreeMerge" = some m.cls := hown
  have hl : lv_has ls 3 [(0, .ref a0), (1, .int x1)] := hl
  obtain ⟨kp0, ekp⟩ : ∃ z, z = kp := ⟨_, rfl⟩
  obtain ⟨L0, eL⟩ : ∃ z, z = L := ⟨_, rfl⟩
  rw [show tw_Q D cs kp L = tw_Q D cs kp0 L0 by rw [ekp, eL]]
  have hex : ∀ a : Nat, a ∈ L0 → a ∈ L ∧ kp a = kp0 a := fun a h => ⟨by rw [← eL]; exact h, by rw [ekp]⟩
  have hF : tw_fr kp L [(0, 0), (0, 1), (10, 0)] [102, 110, 111, 112, 113, 114, 115] E E := tw_fr.rf
  refine lv_aload_n hx hb dX11_begin_0 rfl (lv_at hl 0 rfl) ?_
  refine tw_get (ci := 11) (C := RX11) (T := TX11) (N := 19) hx hb hB cx_inX11 hown hK TH hm0 hk0 rfl ⟨by decide, rfl⟩ 7 (by decide) cw_390 (fun _ h9 => h9) dX11_begin_1 (fun hv => ?_)
  obtain ⟨xr1, hxr1, hmxr1, hkxr1⟩ : ∃ a : Nat, tw_fv E a0 7 = .ref a ∧ a ∈ L ∧ kp a = 1 := hv
  rw [hxr1]
  refine lv_iload_n hx hb dX11_begin_4 rfl (lv_at hl 1 rfl) ?_
  refine tw_Vc (o := xr1) (ci := 1) (n := 1) (post := (fun v kq Lq Eq => (v = some .null ∨ ∃ a : Nat, v = some (.ref a) ∧ a ∈ Lq ∧ kq a = 10 ∧ (0 ≤ x1.toInt ∧ x1.toInt ≤ 11)) ∧ kp = kq ∧ L = Lq ∧ E = Eq)) (As := [.int x1]) (rest := []) ⟨hx, hb, hml, hown, hB⟩ (fun sz => tX1_treeOf l D cs xr1 x1 hmxr1 hkxr1 sz) cg_11_168_X1_treeOf rfl rfl (by decide +kernel) ⟨Nat.le_of_ble_eq_true rfl, Nat.le_of_ble_eq_true rfl⟩ hK hN TH hS hA rfl hmxr1 hkxr1 (by decide) rfl hl.1 rfl (Nat.le_of_ble_eq_true rfl) dX11_begin_5 ⟨Nat.le_of_ble_eq_true rfl, Nat.le_of_ble_eq_true rfl⟩ (fun v2 kp2 L2 E2 H locs hq2 hx2 TH hS => ?_)
  obtain ⟨hnxc3, rfl, rfl, rfl⟩ := hq2
  rcases hnxc3 with rfl | ⟨xc3, rfl, hmxc3, hkxc3, hnpxc3⟩
  · refine W.eq (g2 := F0 m 8 ls [.null]) rfl ?_
    refine lv_astore_nN (lv' := [(2, .null), (0, .ref a0), (1, .int x1)]) hx hb dX11_begin_8 rfl hl (by decide) rfl (fun ls hl => ?_)
    refine lv_aload_n hx hb dX11_begin_9 rfl (lv_at hl 1 rfl) ?_
    refine tw_get (ci := 11) (C := RX11) (T := TX11) (N := 19) hx hb hB cx_inX11 hown hK TH hm0 hk0 rfl ⟨by decide, rfl⟩ 8 (by decide) cw_391 (fun _ h9 => h9) dX11_begin_10 (fun hv => ?_)
    obtain ⟨xr4, hxr4, hmxr4, hkxr4⟩ : ∃ a : Nat, tw_fv E a0 8 = .ref a ∧ a ∈ L ∧ kp a = 0 := hv
    rw [hxr4]
    refine tw_get (ci := 0) (C := RX0) (T := TX0) (N := 4) hx hb hB cx_inX0 hown hK TH hmxr4 hkxr4 rfl ⟨by decide, rfl⟩ 0 (by decide) cw_257 (fun _ h9 => h9) dX11_begin_13 (fun hv => ?_)
    obtain ⟨xi5, hxi5, hxi5a, hxi5b⟩ : ∃ x : Int32, tw_fv E xr4 0 = .int x ∧ 0 ≤ x.toInt ∧ x.toInt ≤ 1 := hv
    rw [hxi5]
    refine lv_if_ne (tgt := 23) hx hb dX11_begin_16 (by decide) (fun hc6 => ?_) (fun hc6 => ?_)
    · have hf7 : ¬ (xi5.toInt = 0) := fun q => hc6 ((fa_eq _ _).mpr (by have : ((0 : Int32).toInt) = 0 := (by decide); omega))
      refine lv_iconst (v := 0) hx hb dX11_begin_23 (by decide) ?_
      exact tw_zret hx hb hr hlocks (by decide) TH hS hex ⟨⟨_, rfl, (show 0 ≤ Int32.toInt 0 from by have : ((0 : Int32).toInt) = 0 := (by decide); omega), (show Int32.toInt 0 ≤ 1 from by have : ((0 : Int32).toInt) = 0 := (by decide); omega)⟩, rfl, rfl, hF⟩ (Nat.le_of_ble_eq_true rfl) (Nat.le_of_ble_eq_true rfl) dX11_begin_24
    · have hf8 : xi5.toInt = 0 := by have z := (fa_eq _ _).mp hc6; have : ((0 : Int32).toInt) = 0 := (by decide); omega
      refine lv_aload_nN hx hb dX11_begin_19 rfl (lv_at hl 0 rfl) ?_
      refine lv_ifnonnullN hx hb dX11_begin_20 ?_
      refine lv_iconst (v := 0) hx hb dX11_begin_23 (by decide) ?_
      exact tw_zret hx hb hr hlocks (by decide) TH hS hex ⟨⟨_, rfl, (show 0 ≤ Int32.toInt 0 from by have : ((0 : Int32).toInt) = 0 := (by decide); omega), (show Int32.toInt 0 ≤ 1 from by have : ((0 : Int32).toInt) = 0 := (by decide); omega)⟩, rfl, rfl, hF⟩ (Nat.le_of_ble_eq_true rfl) (Nat.le_of_ble_eq_true rfl) dX11_begin_24
  · refine W.eq (g2 := F0 m 8 ls [.ref xc3]) rfl ?_
    refine lv_astore_n (lv' := [(2, .ref xc3), (0, .ref a0), (1, .int x1)]) hx hb dX11_begin_8 rfl hl (by decide) rfl (fun ls hl => ?_)
    refine lv_aload_n hx hb dX11_begin_9 rfl (lv_at hl 1 rfl) ?_
    refine tw_get (ci := 11) (C := RX11) (T := TX11) (N := 19) hx hb hB cx_inX11 hown hK TH hm0 hk0 rfl ⟨by decide, rfl⟩ 8 (by decide) cw_391 (fun _ h9 => h9) dX11_begin_10 (fun hv => ?_)
    obtain ⟨xr9, hxr9, hmxr9, hkxr9⟩ : ∃ a : Nat, tw_fv E a0 8 = .ref a ∧ a ∈ L ∧ kp a = 0 := hv
    rw [hxr9]
    refine tw_get (ci := 0) (C := RX0) (T := TX0) (N := 4) hx hb hB cx_inX0 hown hK TH hmxr9 hkxr9 rfl ⟨by decide, rfl⟩ 0 (by decide) cw_257 (fun _ h9 => h9) dX11_begin_13 (fun hv => ?_)
    obtain ⟨xi10, hxi10, hxi10a, hxi10b⟩ : ∃ x : Int32, tw_fv E xr9 0 = .int x ∧ 0 ≤ x.toInt ∧ x.toInt ≤ 1 := hv
    rw [hxi10]
    refine lv_if_ne (tgt := 23) hx hb dX11_begin_16 (by decide) (fun hc11 => ?_) (fun hc11 => ?_)
    · have hf12 : ¬ (xi10.toInt = 0) := fun q => hc11 ((fa_eq _ _).mpr (by have : ((0 : Int32).toInt) = 0 := (by decide); omega))
      refine lv_iconst (v := 0) hx hb dX11_begin_23 (by decide) ?_
      exact tw_zret hx hb hr hlocks (by decide) TH hS hex ⟨⟨_, rfl, (show 0 ≤ Int32.toInt 0 from by have : ((0 : Int32).toInt) = 0 := (by decide); omega), (show Int32.toInt 0 ≤ 1 from by have : ((0 : Int32).toInt) = 0 := (by decide); omega)⟩, rfl, rfl, hF⟩ (Nat.le_of_ble_eq_true rfl) (Nat.le_of_ble_eq_true rfl) dX11_begin_24
    · have hf13 : xi10.toInt = 0 := by have z := (fa_eq _ _).mp hc11; have : ((0 : Int32).toInt) = 0 := (by decide); omega
      refine lv_aload_n hx hb dX11_begin_19 rfl (lv_at hl 0 rfl) ?_
      refine lv_ifnonnull (tgt := 25) hx hb dX11_begin_20 (by decide) ?_
      refine lv_aload_n hx hb dX11_begin_25 rfl (lv_at hl 1 rfl) ?_
      refine tw_get (ci := 11) (C := RX11) (T := TX11) (N := 19) hx hb hB cx_inX11 hown hK TH hm0 hk0 rfl ⟨by decide, rfl⟩ 8 (by decide) cw_391 (fun _ h9 => h9) dX11_begin_26 (fun hv => ?_)
      rw [hxr9]
      refine lv_iconst (v := 1) hx hb dX11_begin_29 (by decide) ?_
      refine tw_put (ci := 0) (v := .int 1) (ty := .boolean) (C := RX0) (T := TX0) (N := 4) hx hb hB cx_inX0 tyX0 tyX0_ok nmX0 hown hK TH hS hmxr9 hkxr9 rfl ⟨by decide, rfl⟩ 0 (by decide) cw_257 (fun _ h9 => h9) rfl (by decide +kernel) (by decide) (by decide) ⟨_, rfl, (show 0 ≤ Int32.toInt 1 from by have : ((1 : Int32).toInt) = 1 := (by decide); omega), (show Int32.toInt 1 ≤ 1 from by have : ((1 : Int32).toInt) = 1 := (by decide); omega)⟩ dX11_begin_30 (fun H locs E14 TH hS hmf18 hp15 hp16 => ?_)
      have hst17 : tw_fr kp L [(0, 0)] [] E E14 := tw_fr.put tw_fr.rf (fun _ => hkxr9) (by decide) hp15 hp16 (by decide)
      have hF := hF.tr hst17 (fun _ h => ⟨h, rfl⟩) (by decide) (by decide)
      have hmf19 : tw_fv E14 a0 7 = .ref xr1 := (hst17.1 a0 7 hm0 (by rw [hk0]; decide)).trans hxr1
      have hmf20 : tw_fv E14 a0 8 = .ref xr9 := (hst17.1 a0 8 hm0 (by rw [hk0]; decide)).trans hxr9
      refine lv_aload_n hx hb dX11_begin_33 rfl (lv_at hl 1 rfl) ?_
      refine tw_get (ci := 11) (C := RX11) (T := TX11) (N := 19) hx hb hB cx_inX11 hown hK TH hm0 hk0 rfl ⟨by decide, rfl⟩ 8 (by decide) cw_391 (fun _ h9 => h9) dX11_begin_34 (fun hv => ?_)
      rw [hmf20]
      refine lv_iload_n hx hb dX11_begin_37 rfl (lv_at hl 2 rfl) ?_
      refine tw_put (ci := 0) (v := .int x1) (ty := .int) (C := RX0) (T := TX0) (N := 4) hx hb hB cx_inX0 tyX0 tyX0_ok nmX0 hown hK TH hS hmxr9 hkxr9 rfl ⟨by decide, rfl⟩ 1 (by decide) cw_258 (fun _ h9 => h9) rfl (by decide +kernel) rfl rfl ⟨_, rfl, (show (-1) ≤ Int32.toInt x1 from by  omega), (show Int32.toInt x1 ≤ 11 from by  omega)⟩ dX11_begin_38 (fun H locs E21 TH hS hmf25 hp22 hp23 => ?_)
      have hst24 : tw_fr kp L [(0, 1)] [] E14 E21 := tw_fr.put tw_fr.rf (fun _ => hkxr9) (by decide) hp22 hp23 (by decide)
      have hF := hF.tr hst24 (fun _ h => ⟨h, rfl⟩) (by decide) (by decide)
      have hmf26 : tw_fv E21 a0 7 = .ref xr1 := (hst24.1 a0 7 hm0 (by rw [hk0]; decide)).trans hmf19
      have hmf27 : tw_fv E21 a0 8 = .ref xr9 := (hst24.1 a0 8 hm0 (by rw [hk0]; decide)).trans hmf20
      have hmf28 : tw_fv E21 xr9 0 = .int 1 := (hst24.1 xr9 0 hmxr9 (by rw [hkxr9]; decide)).trans hmf18
      refine lv_aload_n hx hb dX11_begin_41 rfl (lv_at hl 1 rfl) ?_
      refine tw_get (ci := 11) (C := RX11) (T := TX11) (N := 19) hx hb hB cx_inX11 hown hK TH hm0 hk0 rfl ⟨by decide, rfl⟩ 8 (by decide) cw_391 (fun _ h9 => h9) dX11_begin_42 (fun hv => ?_)
      rw [hmf27]
      refine tw_get (ci := 0) (C := RX0) (T := TX0) (N := 4) hx hb hB cx_inX0 hown hK TH hmxr9 hkxr9 rfl ⟨by decide, rfl⟩ 2 (by decide) cw_260 (fun _ h9 => h9) dX11_begin_45 (fun hv => ?_)
      obtain ⟨xr29, hxr29, hmxr29, hkxr29⟩ : ∃ a : Nat, tw_fv E21 xr9 2 = .ref a ∧ a ∈ L ∧ kp a = 10 := hv
      rw [hxr29]
      refine lv_aload_n hx hb dX11_begin_48 rfl (lv_at hl 0 rfl) ?_
      refine tw_Vc (o := xr29) (ci := 10) (n := 1) (post := (fun v kq Lq Eq => v = none ∧ kp = kq ∧ L = Lq ∧ tw_fr kp L [(10, 0)] [102, 110, 111, 112, 113, 114, 115] E21 Eq)) (As := [.ref xc3]) (rest := []) ⟨hx, hb, hml, hown, hB⟩ (fun sz => tX10_copy l D cs xr29 xc3 hmxr29 hkxr29 hmxc3 hkxc3 sz) cg_11_188_X10_copy rfl rfl (by decide +kernel) ⟨Nat.le_of_ble_eq_true rfl, Nat.le_of_ble_eq_true rfl⟩ hK hN TH hS hA rfl hmxr29 hkxr29 (by decide) rfl hl.1 rfl (Nat.le_of_ble_eq_true rfl) dX11_begin_49 ⟨Nat.le_of_ble_eq_true rfl, Nat.le_of_ble_eq_true rfl⟩ (fun v30 kp30 L30 E30 H locs hq30 hx30 TH hS => ?_)
      obtain ⟨rfl, rfl, rfl, hst30⟩ := hq30
      have hF := hF.tr hst30 (fun _ h => ⟨h, rfl⟩) (by decide) (by decide)
      have hmf32 : tw_fv E30 a0 7 = .ref xr1 := (hst30.1 a0 7 hm0 (by rw [hk0]; decide)).trans hmf26
      have hmf33 : tw_fv E30 a0 8 = .ref xr9 := (hst30.1 a0 8 hm0 (by rw [hk0]; decide)).trans hmf27
      have hmf34 : tw_fv E30 xr9 0 = .int 1 := (hst30.1 xr9 0 hmxr9 (by rw [hkxr9]; decide)).trans hmf28
      have hmf35 : tw_fv E30 xr9 1 = .int x1 := (hst30.1 xr9 1 hmxr9 (by rw [hkxr9]; decide)).trans hmf25
      have hmf36 : tw_fv E30 xr9 2 = .ref xr29 := (hst30.1 xr9 2 hmxr9 (by rw [hkxr9]; decide)).trans hxr29
      refine W.eq (g2 := F0 m 52 ls []) rfl ?_
      refine lv_iconst (v := 1) hx hb dX11_begin_52 (by decide) ?_
      exact tw_zret hx hb hr hlocks (by decide) TH hS hex ⟨⟨_, rfl, (show 0 ≤ Int32.toInt 1 from by have : ((1 : Int32).toInt) = 1 := (by decide); omega), (show Int32.toInt 1 ≤ 1 from by have : ((1 : Int32).toInt) = 1 := (by decide); omega)⟩, rfl, rfl, hF⟩ (Nat.le_of_ble_eq_true rfl) (Nat.le_of_ble_eq_true rfl) dX11_begin_53
