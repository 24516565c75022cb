theorem cg_12_241_X12_kindNamed : GoodIn cx_big (wsV "TreeMergeModel" 241 "TreeMergeModel" yX12_kindNamed (.code yX12_kindNamed cX12_kindNamed 4 (some .int) :: cx_big)) := cx_gV cw_1515 cw_1517 cp_83 cw_13 cw_1518
theorem cg_12_245_X12_items : GoodIn cx_big (wsV "TreeMergeModel" 245 "TreeMergeModel" yX12_items (.code yX12_items cX12_items 6 (some .boolean) :: cx_big)) := cx_gV cw_1523 cw_1525 cp_85 cw_13 cw_1526
set_option maxHeartbeats 4000000 in
set_option maxRecDepth 100000 in
theorem tX12_ruleRead (l : Launch) (D : va_G) (cs : Nat → ClassId) {kp : Nat → Nat} {L : List Nat} {E : Nat → va_E} (a0 : Nat) (fv0_1 : Int32) (fv0_2 : Int32) (fv0_15 : Int32) (hm0 : a0 ∈ L) (hk0 : kp a0 = 12) (hfv0_1 : tw_fv E a0 1 = .int fv0_1) (hfv0_2 : tw_fv E a0 2 = .int fv0_2) (hfv0_15 : tw_fv E a0 15 = .int fv0_15) (hpre0 : gy_at (tw_el E a0 0) fv0_1.toInt 0 fv0_2.toInt fv0_15.toInt (kp_ E a0 fv0_15.toInt) (ip_ E a0 fv0_15.toInt)) (hpre1 : ∀ x : Int × Int, ip_ E a0 fv0_15.toInt x → 0 ≤ x.1 ∧ x.1 ≤ x.2 ∧ x.2 ≤ fv0_1.toInt) (hg0 : tk_at E a0) (hg1 : gt_ok E a0) (hg2 : gk_ok E a0) (hg3 : rg_ok E a0) (sz : Nat) : Met l yX12_ruleRead (.code yX12_ruleRead cX12_ruleRead 2 (some .boolean) :: cx_big) { frames := 7, cells := 0, slots := 0, locals := 152 } (tw_P D cs kp L E [.ref a0] sz) (tw_Q D cs kp L (fun v kq Lq Eq => (∃ x : Int32, v = some (.int x) ∧ 0 ≤ x.toInt ∧ x.toInt ≤ 1 ∧ (x.toInt = 0 → gy_all (tw_el E a0 0) fv0_1.toInt = -1) ∧ (x.toInt ≠ 0 → tk_at Eq a0) ∧ (x.toInt ≠ 0 → (fv0_1.toInt ≤ tw_fi Eq a0 2 → gy_all (tw_el E a0 0) fv0_1.toInt = gy_fin (tw_el E a0 0) (fv0_15.toInt + 1) (kp_ Eq a0 (fv0_15.toInt + 1)) (ip_ Eq a0 (fv0_15.toInt + 1))) ∧ (tw_fi Eq a0 2 < fv0_1.toInt → gy_at (tw_el E a0 0) fv0_1.toInt 0 (tw_fi Eq a0 2) (fv0_15.toInt + 1) (kp_ Eq a0 (fv0_15.toInt + 1)) (ip_ Eq a0 (fv0_15.toInt + 1)))) ∧ (x.toInt = 0 → tw_fi Eq a0 4 ≠ -1) ∧ (x.toInt ≠ 0 → ∀ x : Int × Int, ip_ Eq a0 (fv0_15.toInt + 1) x → 0 ≤ x.1 ∧ x.1 ≤ x.2 ∧ x.2 ≤ fv0_1.toInt) ∧ (x.toInt ≠ 0 → gk_ok Eq a0) ∧ (∃ z0 z1 : Int32, tw_fv Eq a0 2 = .int z0 ∧ tw_fv Eq a0 15 = .int z1 ∧ ((x.toInt ≠ 0 → fv0_2.toInt < z0.toInt) ∧ (x.toInt ≠ 0 → z1.toInt = fv0_15.toInt + 1))) ∧ rg_ok Eq a0) ∧ kp = kq ∧ L = Lq ∧ tw_fr kp L [(12, 2), (12, 3), (12, 4), (12, 15)] [302, 303, 304, 305, 320, 321, 322] E Eq) (va_A (va_pl L E) sz)) 0 0 (va_A (va_pl L E) sz) := by
  refine tw_ofW (by decide) (Nat.le_of_ble_eq_true rfl) ?_
  intro p e s m below meth c A ls hx hb hr hml hB hown hlocks hK hN hA TH hS hl
  have hown : s.vm.findClass "TreeMergeModel" = some m.cls := hown
  have hl : lv_has ls 2 [(0, .ref a0)] := hl
  obtain ⟨kp0, ekp⟩ : ∃ z, z = kp := ⟨_, rfl⟩
  obtain ⟨L0, eL⟩ : ∃ z, z = L := ⟨_, rfl⟩
  rw [show tw_Q D cs kp L = tw_Q D cs kp0 L0 by rw [ekp, eL]]
  have hex : ∀ a : Nat, a ∈ L0 → a ∈ L ∧ kp a = kp0 a := fun a h => ⟨by rw [← eL]; exact h, by rw [ekp]⟩
  have hF : tw_fr kp L [(12, 2), (12, 3), (12, 4), (12, 15)] [302, 303, 304, 305, 320, 321, 322] E E := tw_fr.rf
  obtain ⟨qfv0_1, hqfv0_1, hqfv0_1a, hqfv0_1b⟩ := tw_rd TH hm0 hk0 (by decide) (by decide) (k := 1) rfl
  have eqfv0_1 : qfv0_1 = fv0_1 := by have q := hqfv0_1.symm.trans hfv0_1; injection q
  rw [eqfv0_1] at hqfv0_1a hqfv0_1b
  obtain ⟨qfv0_2, hqfv0_2, hqfv0_2a, hqfv0_2b⟩ := tw_rd TH hm0 hk0 (by decide) (by decide) (k := 2) rfl
  have eqfv0_2 : qfv0_2 = fv0_2 := by have q := hqfv0_2.symm.trans hfv0_2; injection q
  rw [eqfv0_2] at hqfv0_2a hqfv0_2b
  obtain ⟨qfv0_15, hqfv0_15, hqfv0_15a, hqfv0_15b⟩ := tw_rd TH hm0 hk0 (by decide) (by decide) (k := 15) rfl
  have eqfv0_15 : qfv0_15 = fv0_15 := by have q := hqfv0_15.symm.trans hfv0_15; injection q
  rw [eqfv0_15] at hqfv0_15a hqfv0_15b
  obtain ⟨xi1, hxi1, hxi1a, hxi1b⟩ := tw_rd TH hm0 hk0 (by decide) (by decide) (k := 3) rfl
  have htl := tk_le hg0 (tw_fi_of hfv0_1) (tw_fi_of hfv0_2) (tw_fi_of hxi1)
  have htkE : lx_TK (tw_el E a0 0) fv0_1.toInt (fv0_2.toInt) (xi1.toInt) := (by have z := hg0; unfold tk_at at z; rw [tw_fi_of hfv0_1, tw_fi_of hfv0_2, tw_fi_of hxi1] at z; exact z.2)
  have hGK := hg2
  have ec59 : ((59 : Int32).toInt) = 59 := (by decide)
  have ec61 : ((61 : Int32).toInt) = 61 := (by decide)
  refine lv_aload_n hx hb dX12_ruleRead_0 rfl (lv_at hl 0 rfl) ?_
  refine tw_get (ci := 12) (C := RX12) (T := TX12) (N := 64) hx hb hB cx_inX12 hown hK TH hm0 hk0 rfl ⟨by decide, rfl⟩ 15 (by decide) cw_1208 (fun _ h9 => h9) dX12_ruleRead_1 (fun hv => ?_)
  rw [hfv0_15]
  refine lv_bipush (v := 10) hx hb dX12_ruleRead_4 (by decide) ?_
  refine lv_icmp_eq (tgt := 37) hx hb dX12_ruleRead_6 (by decide) (fun hc2 => ?_) (fun hc2 => ?_)
  · have hf3 : fv0_15.toInt = 10 := by have z := (fa_eq _ _).mp hc2; have : ((10 : Int32).toInt) = 10 := (by decide); omega
    refine lv_aload_n hx hb dX12_ruleRead_37 rfl (lv_at hl 0 rfl) ?_
    refine tw_Vc (o := a0) (ci := 12) (n := 0) (post := (fun v kq Lq Eq => (∃ x : Int32, v = some (.int x) ∧ 0 ≤ x.toInt ∧ x.toInt ≤ 0 ∧ (∃ z0 : Int32, tw_fv Eq a0 4 = .int z0 ∧ (z0.toInt ≠ -1))) ∧ kp = kq ∧ L = Lq ∧ tw_fr kp L [(12, 4)] [] E Eq)) (As := []) (rest := []) ⟨hx, hb, hml, hown, hB⟩ (fun sz => tX12_fails_vL l D cs a0 hm0 hk0 sz) cg_12_196_X12_fails rfl rfl (by decide +kernel) ⟨Nat.le_of_ble_eq_true rfl, Nat.le_of_ble_eq_true rfl⟩ hK hN TH hS hA rfl hm0 hk0 (by decide) rfl hl.1 rfl (Nat.le_of_ble_eq_true rfl) dX12_ruleRead_38 ⟨Nat.le_of_ble_eq_true rfl, Nat.le_of_ble_eq_true rfl⟩ (fun v4 kp4 L4 E4 H locs hq4 hx4 TH hS => ?_)
    obtain ⟨⟨xc5, rfl, hxc5a, hxc5b, ⟨zfxc5_0_0, hzfxc5_0_0, hzpxc5_0⟩⟩, rfl, rfl, hst4⟩ := hq4
    have hF := hF.tr hst4 (fun _ h => ⟨h, rfl⟩) (by decide) (by decide)
    have hmf6 : tw_fv E4 a0 1 = .int fv0_1 := (hst4.1 a0 1 hm0 (by rw [hk0]; decide)).trans hfv0_1
    have hmf7 : tw_fv E4 a0 2 = .int fv0_2 := (hst4.1 a0 2 hm0 (by rw [hk0]; decide)).trans hfv0_2
    have hmf8 : tw_fv E4 a0 15 = .int fv0_15 := (hst4.1 a0 15 hm0 (by rw [hk0]; decide)).trans hfv0_15
    have hmf9 : tw_fv E4 a0 3 = .int xi1 := (hst4.1 a0 3 hm0 (by rw [hk0]; decide)).trans hxi1
    have hg0 : tk_at E4 a0 := tk_at_fr TH hst4 hm0 hk0 (by decide) (by decide) hg0
    have hg1 : gt_ok E4 a0 := gt_ok_fr TH hst4 hm0 hk0 (by decide) (by decide) hg1
    have hg2 : gk_ok E4 a0 := gk_ok_fr TH hst4 hm0 hk0 (by decide) (by decide) hg2
    have hg3 : rg_ok E4 a0 := rg_ok_fr TH hst4 hm0 hk0 (by decide) (by decide) hg3
    obtain ⟨qzfxc5_0_0, hqzfxc5_0_0, hqzfxc5_0_0a, hqzfxc5_0_0b⟩ := tw_rd TH hm0 hk0 (by decide) (by decide) (k := 4) rfl
    have eqzfxc5_0_0 : qzfxc5_0_0 = zfxc5_0_0 := by have q := hqzfxc5_0_0.symm.trans hzfxc5_0_0; injection q
    rw [eqzfxc5_0_0] at hqzfxc5_0_0a hqzfxc5_0_0b
    refine W.eq (g2 := F0 m 41 ls [.int xc5]) rfl ?_
    exact tw_zret hx hb hr hlocks (ia_bool (by omega) (by omega)) TH hS hex ⟨⟨_, rfl, (show 0 ≤ Int32.toInt xc5 from by  omega), (show Int32.toInt xc5 ≤ 1 from by  omega), (by  intro _; exact gy_0f hpre0 htkE (by omega) (by omega) (fun z => (by have w := z.2.1; omega))), (by  intro q; exfalso; omega), (by  intro q; exfalso; omega), (by  intro _; rw [tw_fi_of hzfxc5_0_0]; omega), (by  intro q; exfalso; omega), (by  intro q; exfalso; omega), ⟨fv0_2, fv0_15, hmf7, hmf8, by  omega⟩, hg3⟩, rfl, rfl, hF⟩ (Nat.le_of_ble_eq_true rfl) (Nat.le_of_ble_eq_true rfl) dX12_ruleRead_41
  · have hf10 : ¬ (fv0_15.toInt = 10) := fun q => hc2 ((fa_eq _ _).mpr (by have : ((10 : Int32).toInt) = 10 := (by decide); omega))
    refine lv_aload_n hx hb dX12_ruleRead_9 rfl (lv_at hl 0 rfl) ?_
    refine tw_Vc (o := a0) (ci := 12) (n := 0) (post := (fun v kq Lq Eq => (∃ x : Int32, v = some (.int x) ∧ 0 ≤ x.toInt ∧ x.toInt ≤ 1 ∧ (x.toInt ≠ 0 ↔ lx_nm (tw_el E a0 0) fv0_1.toInt fv0_2.toInt xi1.toInt)) ∧ kp = kq ∧ L = Lq ∧ E = Eq)) (As := []) (rest := []) ⟨hx, hb, hml, hown, hB⟩ (fun sz => tX12_isName_vL l D cs a0 fv0_2 xi1 fv0_1 hm0 hk0 hfv0_2 hxi1 hfv0_1 (by  omega) (by  omega) sz) cg_12_234_X12_isName rfl rfl (by decide +kernel) ⟨Nat.le_of_ble_eq_true rfl, Nat.le_of_ble_eq_true rfl⟩ hK hN TH hS hA rfl hm0 hk0 (by decide) rfl hl.1 rfl (Nat.le_of_ble_eq_true rfl) dX12_ruleRead_10 ⟨Nat.le_of_ble_eq_true rfl, Nat.le_of_ble_eq_true rfl⟩ (fun v11 kp11 L11 E11 H locs hq11 hx11 TH hS => ?_)
    obtain ⟨⟨xc12, rfl, hxc12a, hxc12b, hpoxc12_0⟩, rfl, rfl, rfl⟩ := hq11
    refine W.eq (g2 := F0 m 13 ls [.int xc12]) rfl ?_
    refine lv_if_eq (tgt := 37) hx hb dX12_ruleRead_13 (by decide) (fun hc13 => ?_) (fun hc13 => ?_)
    · have hf14 : xc12.toInt = 0 := by have z := (fa_eq _ _).mp hc13; have : ((0 : Int32).toInt) = 0 := (by decide); omega
      refine lv_aload_n hx hb dX12_ruleRead_37 rfl (lv_at hl 0 rfl) ?_
      refine tw_Vc (o := a0) (ci := 12) (n := 0) (post := (fun v kq Lq Eq => (∃ x : Int32, v = some (.int x) ∧ 0 ≤ x.toInt ∧ x.toInt ≤ 0 ∧ (∃ z0 : Int32, tw_fv Eq a0 4 = .int z0 ∧ (z0.toInt ≠ -1))) ∧ kp = kq ∧ L = Lq ∧ tw_fr kp L [(12, 4)] [] E Eq)) (As := []) (rest := []) ⟨hx, hb, hml, hown, hB⟩ (fun sz => tX12_fails_vL l D cs a0 hm0 hk0 sz) cg_12_196_X12_fails rfl rfl (by decide +kernel) ⟨Nat.le_of_ble_eq_true rfl, Nat.le_of_ble_eq_true rfl⟩ hK hN TH hS hA rfl hm0 hk0 (by decide) rfl hl.1 rfl (Nat.le_of_ble_eq_true rfl) dX12_ruleRead_38 ⟨Nat.le_of_ble_eq_true rfl, Nat.le_of_ble_eq_true rfl⟩ (fun v15 kp15 L15 E15 H locs hq15 hx15 TH hS => ?_)
      obtain ⟨⟨xc16, rfl, hxc16a, hxc16b, ⟨zfxc16_0_0, hzfxc16_0_0, hzpxc16_0⟩⟩, rfl, rfl, hst15⟩ := hq15
      have hF := hF.tr hst15 (fun _ h => ⟨h, rfl⟩) (by decide) (by decide)
      have hmf17 : tw_fv E15 a0 1 = .int fv0_1 := (hst15.1 a0 1 hm0 (by rw [hk0]; decide)).trans hfv0_1
      have hmf18 : tw_fv E15 a0 2 = .int fv0_2 := (hst15.1 a0 2 hm0 (by rw [hk0]; decide)).trans hfv0_2
      have hmf19 : tw_fv E15 a0 15 = .int fv0_15 := (hst15.1 a0 15 hm0 (by rw [hk0]; decide)).trans hfv0_15
      have hmf20 : tw_fv E15 a0 3 = .int xi1 := (hst15.1 a0 3 hm0 (by rw [hk0]; decide)).trans hxi1
      have hg0 : tk_at E15 a0 := tk_at_fr TH hst15 hm0 hk0 (by decide) (by decide) hg0
      have hg1 : gt_ok E15 a0 := gt_ok_fr TH hst15 hm0 hk0 (by decide) (by decide) hg1
      have hg2 : gk_ok E15 a0 := gk_ok_fr TH hst15 hm0 hk0 (by decide) (by decide) hg2
      have hg3 : rg_ok E15 a0 := rg_ok_fr TH hst15 hm0 hk0 (by decide) (by decide) hg3
      obtain ⟨qzfxc16_0_0, hqzfxc16_0_0, hqzfxc16_0_0a, hqzfxc16_0_0b⟩ := tw_rd TH hm0 hk0 (by decide) (by decide) (k := 4) rfl
      have eqzfxc16_0_0 : qzfxc16_0_0 = zfxc16_0_0 := by have q := hqzfxc16_0_0.symm.trans hzfxc16_0_0; injection q
      rw [eqzfxc16_0_0] at hqzfxc16_0_0a hqzfxc16_0_0b
      refine W.eq (g2 := F0 m 41 ls [.int xc16]) rfl ?_
      exact tw_zret hx hb hr hlocks (ia_bool (by omega) (by omega)) TH hS hex ⟨⟨_, rfl, (show 0 ≤ Int32.toInt xc16 from by  omega), (show Int32.toInt xc16 ≤ 1 from by  omega), (by  intro _; exact gy_0f hpre0 htkE (by omega) (by omega) (fun z => (by have w := hpoxc12_0.2 z.1; omega))), (by  intro q; exfalso; omega), (by  intro q; exfalso; omega), (by  intro _; rw [tw_fi_of hzfxc16_0_0]; omega), (by  intro q; exfalso; omega), (by  intro q; exfalso; omega), ⟨fv0_2, fv0_15, hmf18, hmf19, by  omega⟩, hg3⟩, rfl, rfl, hF⟩ (Nat.le_of_ble_eq_true rfl) (Nat.le_of_ble_eq_true rfl) dX12_ruleRead_41
    · have hf21 : ¬ (xc12.toInt = 0) := fun q => hc13 ((fa_eq _ _).mpr (by have : ((0 : Int32).toInt) = 0 := (by decide); omega))
      refine lv_aload_n hx hb dX12_ruleRead_16 rfl (lv_at hl 0 rfl) ?_
      refine lv_aload_n hx hb dX12_ruleRead_17 rfl (lv_at hl 0 rfl) ?_
      refine tw_get (ci := 12) (C := RX12) (T := TX12) (N := 64) hx hb hB cx_inX12 hown hK TH hm0 hk0 rfl ⟨by decide, rfl⟩ 2 (by decide) cw_1195 (fun _ h9 => h9) dX12_ruleRead_18 (fun hv => ?_)
      rw [hfv0_2]
      refine lv_aload_n hx hb dX12_ruleRead_21 rfl (lv_at hl 0 rfl) ?_
      refine tw_get (ci := 12) (C := RX12) (T := TX12) (N := 64) hx hb hB cx_inX12 hown hK TH hm0 hk0 rfl ⟨by decide, rfl⟩ 3 (by decide) cw_1196 (fun _ h9 => h9) dX12_ruleRead_22 (fun hv => ?_)
      rw [hxi1]
      refine lv_aload_n hx hb dX12_ruleRead_25 rfl (lv_at hl 0 rfl) ?_
      refine tw_get (ci := 12) (C := RX12) (T := TX12) (N := 64) hx hb hB cx_inX12 hown hK TH hm0 hk0 rfl ⟨by decide, rfl⟩ 2 (by decide) cw_1195 (fun _ h9 => h9) dX12_ruleRead_26 (fun hv => ?_)
      rw [hfv0_2]
      refine lv_isub hx hb dX12_ruleRead_29 ?_
      refine lv_topi (fun zi22 ezi22 => ?_)
      have hzi22 : zi22.toInt = xi1.toInt - fv0_2.toInt := by rw [ezi22];  have := ia_lo xi1; have := ia_hi xi1; have := ia_lo fv0_2; have := ia_hi fv0_2; exact (ia_sub (by omega) (by omega)).trans (by omega)
      refine tw_Vc (o := a0) (ci := 12) (n := 2) (post := (fun v kq Lq Eq => (∃ x : Int32, v = some (.int x) ∧ (-1) ≤ x.toInt ∧ x.toInt ≤ 9 ∧ (x.toInt = -1 ↔ ¬ gy_nm (tw_el E a0 0) (kp_ E a0 fv0_15.toInt) (fv0_2.toInt, fv0_2.toInt + zi22.toInt))) ∧ kp = kq ∧ L = Lq ∧ E = Eq)) (As := [.int fv0_2, .int zi22]) (rest := []) ⟨hx, hb, hml, hown, hB⟩ (fun sz => tX12_kindNamed l D cs a0 fv0_2 zi22 fv0_1 fv0_15 hm0 hk0 (by omega) (by omega) (by omega) (by omega) hfv0_1 hfv0_15 (by  omega) hg1 hg2 sz) cg_12_241_X12_kindNamed rfl rfl (by decide +kernel) ⟨Nat.le_of_ble_eq_true rfl, Nat.le_of_ble_eq_true rfl⟩ hK hN TH hS hA rfl hm0 hk0 (by decide) rfl hl.1 rfl (Nat.le_of_ble_eq_true rfl) dX12_ruleRead_30 ⟨Nat.le_of_ble_eq_true rfl, Nat.le_of_ble_eq_true rfl⟩ (fun v23 kp23 L23 E23 H locs hq23 hx23 TH hS => ?_)
      obtain ⟨⟨xc24, rfl, hxc24a, hxc24b, hpoxc24_0⟩, rfl, rfl, rfl⟩ := hq23
      refine W.eq (g2 := F0 m 33 ls [.int xc24]) rfl ?_
      refine lv_iconst (v := (-1)) hx hb dX12_ruleRead_33 (by decide) ?_
      refine lv_icmp_eq (tgt := 42) hx hb dX12_ruleRead_34 (by decide) (fun hc25 => ?_) (fun hc25 => ?_)
      · have hf26 : xc24.toInt = (-1) := by have z := (fa_eq _ _).mp hc25; have : (((-1) : Int32).toInt) = (-1) := (by decide); omega
        have hfn6 : p6_ok E a0 (tw_el E a0 6) := fun _ => rfl
        have hfn7 : p7_ok E a0 (tw_el E a0 7) := fun _ => rfl
        have hfn9 : p9_ok E a0 (tw_el E a0 9) := fun _ => rfl
        have hNm := hpoxc12_0.1 (by omega)
        have hNn : ¬ gy_nm (tw_el E a0 0) (kp_ E a0 fv0_15.toInt) (fv0_2.toInt, xi1.toInt) := (by have w := hpoxc24_0.1 (by omega); rw [show (fv0_2.toInt : Int) + zi22.toInt = xi1.toInt by omega] at w; exact w)
        have hlt := htl.2.2.2 hNm.1
        have hFr : tw_fr kp L [(12, 2), (12, 3), (12, 4), (12, 15)] [302, 303, 304, 305] E E := tw_fr.rf
        refine lv_aload_n hx hb dX12_ruleRead_42 rfl (lv_at hl 0 rfl) ?_
        refine tw_get (ci := 12) (C := RX12) (T := TX12) (N := 64) hx hb hB cx_inX12 hown hK TH hm0 hk0 rfl ⟨by decide, rfl⟩ 15 (by decide) cw_1208 (fun _ h9 => h9) dX12_ruleRead_43 (fun hv => ?_)
        rw [hfv0_15]
        refine lv_istore_n (lv' := [(1, .int fv0_15), (0, .ref a0)]) hx hb dX12_ruleRead_46 rfl hl (by decide) rfl (fun ls hl => ?_)
        refine lv_aload_n hx hb dX12_ruleRead_47 rfl (lv_at hl 1 rfl) ?_
        refine tw_get (ci := 12) (C := RX12) (T := TX12) (N := 64) hx hb hB cx_inX12 hown hK TH hm0 hk0 rfl ⟨by decide, rfl⟩ 6 (by decide) cw_1199 (fun _ h9 => h9) dX12_ruleRead_48 (fun hv => ?_)
        obtain ⟨xr27, hxr27, hmxr27, hkxr27⟩ : ∃ a : Nat, tw_fv E a0 6 = .ref a ∧ a ∈ L ∧ kp a = 302 := hv
        rw [hxr27]
        refine lv_iload_n hx hb dX12_ruleRead_51 rfl (lv_at hl 0 rfl) ?_
        refine lv_aload_n hx hb dX12_ruleRead_52 rfl (lv_at hl 1 rfl) ?_
        refine tw_get (ci := 12) (C := RX12) (T := TX12) (N := 64) hx hb hB cx_inX12 hown hK TH hm0 hk0 rfl ⟨by decide, rfl⟩ 2 (by decide) cw_1195 (fun _ h9 => h9) dX12_ruleRead_53 (fun hv => ?_)
        rw [hfv0_2]
        refine tw_iast (k := 302) (n := 10) (lo := 0) (hi := 500) hx hb hK TH hS hmxr27 hkxr27 (by decide) rfl (i := fv0_15) (x := fv0_2) (vp_in_iff.mpr ⟨by  omega, by  omega⟩) (by omega) (by omega) dX12_ruleRead_56 (fun H locs E28 TH hS hp29 hp30 hp31 => ?_)
        have hst32 : tw_fr kp L [] [302] E E28 := tw_fr.ast tw_fr.rf (fun _ => hkxr27) hp29 hp30 (by decide)
        have hF := hF.tr hst32 (fun _ h => ⟨h, rfl⟩) (by decide) (by decide)
        have hFr := hFr.tr hst32 (fun _ h => ⟨h, rfl⟩) (by decide) (by decide)
        have hmf33 : tw_fv E28 a0 1 = .int fv0_1 := (hst32.1 a0 1 hm0 (by rw [hk0]; decide)).trans hfv0_1
        have hmf34 : tw_fv E28 a0 2 = .int fv0_2 := (hst32.1 a0 2 hm0 (by rw [hk0]; decide)).trans hfv0_2
        have hmf35 : tw_fv E28 a0 15 = .int fv0_15 := (hst32.1 a0 15 hm0 (by rw [hk0]; decide)).trans hfv0_15
        have hmf36 : tw_fv E28 a0 3 = .int xi1 := (hst32.1 a0 3 hm0 (by rw [hk0]; decide)).trans hxi1
        have hmf37 : tw_fv E28 a0 6 = .ref xr27 := (hst32.1 a0 6 hm0 (by rw [hk0]; decide)).trans hxr27
        have hg0_o := hg0
        have hg1_o := hg1
        have hg2_o := hg2
        have hg3_o := hg3
        have hfn6_o := hfn6
        have hfn7_o := hfn7
        have hfn9_o := hfn9
        have hg0 : tk_at E28 a0 := tk_at_fr TH hst32 hm0 hk0 (by decide) (by decide) hg0
        have hg1 : gt_ok E28 a0 := gt_ok_fr TH hst32 hm0 hk0 (by decide) (by decide) hg1
        have hg3 : rg_ok E28 a0 := rg_ok_fr TH hst32 hm0 hk0 (by decide) (by decide) hg3
        have hfn6 : p6_ok E28 a0 (fun j => if j = (fv0_15.toInt).toNat then fv0_2.toInt else (tw_el E a0 6) j) := (fun j => (by have w := tw_el_st hxr27 hp29 hp30 hp31 j; rw [w]; show _ = (if j = (fv0_15.toInt).toNat then fv0_2.toInt else (tw_el E a0 6) j); (by_cases e : j = (fv0_15.toInt).toNat; (rw [if_pos ⟨rfl, e⟩, if_pos e]); (rw [if_neg (fun y => e y.2), if_neg e]; (try exact hfn6_o j)))))
        have hfn7 : p7_ok E28 a0 (tw_el E a0 7) := p7_ok_fr TH hst32 hm0 hk0 (by decide) (by decide) hfn7
        have hfn9 : p9_ok E28 a0 (tw_el E a0 9) := p9_ok_fr TH hst32 hm0 hk0 (by decide) (by decide) hfn9
        refine lv_aload_n hx hb dX12_ruleRead_57 rfl (lv_at hl 1 rfl) ?_
        refine tw_get (ci := 12) (C := RX12) (T := TX12) (N := 64) hx hb hB cx_inX12 hown hK TH hm0 hk0 rfl ⟨by decide, rfl⟩ 7 (by decide) cw_1200 (fun _ h9 => h9) dX12_ruleRead_58 (fun hv => ?_)
        obtain ⟨xr38, hxr38, hmxr38, hkxr38⟩ : ∃ a : Nat, tw_fv E28 a0 7 = .ref a ∧ a ∈ L ∧ kp a = 303 := hv
        rw [hxr38]
        refine lv_iload_n hx hb dX12_ruleRead_61 rfl (lv_at hl 0 rfl) ?_
        refine lv_aload_n hx hb dX12_ruleRead_62 rfl (lv_at hl 1 rfl) ?_
        refine tw_get (ci := 12) (C := RX12) (T := TX12) (N := 64) hx hb hB cx_inX12 hown hK TH hm0 hk0 rfl ⟨by decide, rfl⟩ 3 (by decide) cw_1196 (fun _ h9 => h9) dX12_ruleRead_63 (fun hv => ?_)
        rw [hmf36]
        refine lv_aload_n hx hb dX12_ruleRead_66 rfl (lv_at hl 1 rfl) ?_
        refine tw_get (ci := 12) (C := RX12) (T := TX12) (N := 64) hx hb hB cx_inX12 hown hK TH hm0 hk0 rfl ⟨by decide, rfl⟩ 2 (by decide) cw_1195 (fun _ h9 => h9) dX12_ruleRead_67 (fun hv => ?_)
        rw [hmf34]
        refine lv_isub hx hb dX12_ruleRead_70 ?_
        refine lv_topi (fun zi39 ezi39 => ?_)
        have hzi39 : zi39.toInt = xi1.toInt - fv0_2.toInt := by rw [ezi39];  have := ia_lo xi1; have := ia_hi xi1; have := ia_lo fv0_2; have := ia_hi fv0_2; exact (ia_sub (by omega) (by omega)).trans (by omega)
        have hzz := trivial
        refine tw_iast (k := 303) (n := 10) (lo := 0) (hi := 500) hx hb hK TH hS hmxr38 hkxr38 (by decide) rfl (i := fv0_15) (x := zi39) (vp_in_iff.mpr ⟨by  omega, by  omega⟩) (by omega) (by omega) dX12_ruleRead_71 (fun H locs E40 TH hS hp41 hp42 hp43 => ?_)
        have hst44 : tw_fr kp L [] [303] E28 E40 := tw_fr.ast tw_fr.rf (fun _ => hkxr38) hp41 hp42 (by decide)
        have hF := hF.tr hst44 (fun _ h => ⟨h, rfl⟩) (by decide) (by decide)
        have hFr := hFr.tr hst44 (fun _ h => ⟨h, rfl⟩) (by decide) (by decide)
        have hmf45 : tw_fv E40 a0 1 = .int fv0_1 := (hst44.1 a0 1 hm0 (by rw [hk0]; decide)).trans hmf33
        have hmf46 : tw_fv E40 a0 2 = .int fv0_2 := (hst44.1 a0 2 hm0 (by rw [hk0]; decide)).trans hmf34
        have hmf47 : tw_fv E40 a0 15 = .int fv0_15 := (hst44.1 a0 15 hm0 (by rw [hk0]; decide)).trans hmf35
        have hmf48 : tw_fv E40 a0 3 = .int xi1 := (hst44.1 a0 3 hm0 (by rw [hk0]; decide)).trans hmf36
        have hmf49 : tw_fv E40 a0 6 = .ref xr27 := (hst44.1 a0 6 hm0 (by rw [hk0]; decide)).trans hmf37
        have hmf50 : tw_fv E40 a0 7 = .ref xr38 := (hst44.1 a0 7 hm0 (by rw [hk0]; decide)).trans hxr38
        have hg0_o := hg0
        have hg1_o := hg1
        have hg3_o := hg3
        have hfn6_o := hfn6
        have hfn7_o := hfn7
        have hfn9_o := hfn9
        have hg0 : tk_at E40 a0 := tk_at_fr TH hst44 hm0 hk0 (by decide) (by decide) hg0
        have hg1 : gt_ok E40 a0 := gt_ok_fr TH hst44 hm0 hk0 (by decide) (by decide) hg1
        have hg3 : rg_ok E40 a0 := rg_ok_fr TH hst44 hm0 hk0 (by decide) (by decide) hg3
        have hfn6 : p6_ok E40 a0 (fun j => if j = (fv0_15.toInt).toNat then fv0_2.toInt else (tw_el E a0 6) j) := p6_ok_fr TH hst44 hm0 hk0 (by decide) (by decide) hfn6
        have hfn7 : p7_ok E40 a0 (fun j => if j = (fv0_15.toInt).toNat then zi39.toInt else (tw_el E a0 7) j) := (fun j => (by have w := tw_el_st hxr38 hp41 hp42 hp43 j; rw [w]; show _ = (if j = (fv0_15.toInt).toNat then zi39.toInt else (tw_el E a0 7) j); (by_cases e : j = (fv0_15.toInt).toNat; (rw [if_pos ⟨rfl, e⟩, if_pos e]); (rw [if_neg (fun y => e y.2), if_neg e]; (try exact hfn7_o j)))))
        have hfn9 : p9_ok E40 a0 (tw_el E a0 9) := p9_ok_fr TH hst44 hm0 hk0 (by decide) (by decide) hfn9
        refine lv_aload_n hx hb dX12_ruleRead_72 rfl (lv_at hl 1 rfl) ?_
        refine tw_get (ci := 12) (C := RX12) (T := TX12) (N := 64) hx hb hB cx_inX12 hown hK TH hm0 hk0 rfl ⟨by decide, rfl⟩ 9 (by decide) cw_1202 (fun _ h9 => h9) dX12_ruleRead_73 (fun hv => ?_)
        obtain ⟨xr51, hxr51, hmxr51, hkxr51⟩ : ∃ a : Nat, tw_fv E40 a0 9 = .ref a ∧ a ∈ L ∧ kp a = 305 := hv
        rw [hxr51]
        refine lv_iload_n hx hb dX12_ruleRead_76 rfl (lv_at hl 0 rfl) ?_
        refine lv_iconst (v := 0) hx hb dX12_ruleRead_77 (by decide) ?_
        refine tw_iast (k := 305) (n := 10) (lo := 0) (hi := 252) hx hb hK TH hS hmxr51 hkxr51 (by decide) rfl (i := fv0_15) (x := 0) (vp_in_iff.mpr ⟨by  omega, by  omega⟩) (by have : ((0 : Int32).toInt) = 0 := (by decide); omega) (by have : ((0 : Int32).toInt) = 0 := (by decide); omega) dX12_ruleRead_78 (fun H locs E52 TH hS hp53 hp54 hp55 => ?_)
        have hst56 : tw_fr kp L [] [305] E40 E52 := tw_fr.ast tw_fr.rf (fun _ => hkxr51) hp53 hp54 (by decide)
        have hF := hF.tr hst56 (fun _ h => ⟨h, rfl⟩) (by decide) (by decide)
        have hFr := hFr.tr hst56 (fun _ h => ⟨h, rfl⟩) (by decide) (by decide)
        have hmf57 : tw_fv E52 a0 1 = .int fv0_1 := (hst56.1 a0 1 hm0 (by rw [hk0]; decide)).trans hmf45
        have hmf58 : tw_fv E52 a0 2 = .int fv0_2 := (hst56.1 a0 2 hm0 (by rw [hk0]; decide)).trans hmf46
        have hmf59 : tw_fv E52 a0 15 = .int fv0_15 := (hst56.1 a0 15 hm0 (by rw [hk0]; decide)).trans hmf47
        have hmf60 : tw_fv E52 a0 3 = .int xi1 := (hst56.1 a0 3 hm0 (by rw [hk0]; decide)).trans hmf48
        have hmf61 : tw_fv E52 a0 6 = .ref xr27 := (hst56.1 a0 6 hm0 (by rw [hk0]; decide)).trans hmf49
        have hmf62 : tw_fv E52 a0 7 = .ref xr38 := (hst56.1 a0 7 hm0 (by rw [hk0]; decide)).trans hmf50
        have hmf63 : tw_fv E52 a0 9 = .ref xr51 := (hst56.1 a0 9 hm0 (by rw [hk0]; decide)).trans hxr51
        have hg0_o := hg0
        have hg1_o := hg1
        have hg3_o := hg3
        have hfn6_o := hfn6
        have hfn7_o := hfn7
        have hfn9_o := hfn9
        have hg0 : tk_at E52 a0 := tk_at_fr TH hst56 hm0 hk0 (by decide) (by decide) hg0
        have hg1 : gt_ok E52 a0 := gt_ok_fr TH hst56 hm0 hk0 (by decide) (by decide) hg1
        have hg3 : rg_ok E52 a0 := rg_ok_fr TH hst56 hm0 hk0 (by decide) (by decide) hg3
        have hfn6 : p6_ok E52 a0 (fun j => if j = (fv0_15.toInt).toNat then fv0_2.toInt else (tw_el E a0 6) j) := p6_ok_fr TH hst56 hm0 hk0 (by decide) (by decide) hfn6
        have hfn7 : p7_ok E52 a0 (fun j => if j = (fv0_15.toInt).toNat then zi39.toInt else (tw_el E a0 7) j) := p7_ok_fr TH hst56 hm0 hk0 (by decide) (by decide) hfn7
        have hfn9 : p9_ok E52 a0 (fun j => if j = (fv0_15.toInt).toNat then 0 else (tw_el E a0 9) j) := (fun j => (by have w := tw_el_st hxr51 hp53 hp54 hp55 j; rw [w]; show _ = (if j = (fv0_15.toInt).toNat then 0 else (tw_el E a0 9) j); (by_cases e : j = (fv0_15.toInt).toNat; (rw [if_pos ⟨rfl, e⟩, if_pos e]; decide); (rw [if_neg (fun y => e y.2), if_neg e]; (try exact hfn9_o j)))))
        refine lv_aload_n hx hb dX12_ruleRead_79 rfl (lv_at hl 1 rfl) ?_
        refine lv_dup hx hb dX12_ruleRead_80 rfl ?_
        refine tw_get (ci := 12) (C := RX12) (T := TX12) (N := 64) hx hb hB cx_inX12 hown hK TH hm0 hk0 rfl ⟨by decide, rfl⟩ 15 (by decide) cw_1208 (fun _ h9 => h9) dX12_ruleRead_81 (fun hv => ?_)
        rw [hmf59]
        refine lv_iconst (v := 1) hx hb dX12_ruleRead_84 (by decide) ?_
        refine lv_iadd hx hb dX12_ruleRead_85 ?_
        refine lv_topi (fun zi64 ezi64 => ?_)
        have hzi64 : zi64.toInt = fv0_15.toInt + 1 := by rw [ezi64]; have : ((1 : Int32).toInt) = 1 := (by decide); have := ia_lo fv0_15; have := ia_hi fv0_15; exact (ia_add (by omega) (by omega)).trans (by omega)
        have hFr0 := hFr
        refine tw_put (ci := 12) (v := .int zi64) (ty := .int) (C := RX12) (T := TX12) (N := 64) hx hb hB cx_inX12 tyX12 tyX12_ok nmX12 hown hK TH hS hm0 hk0 rfl ⟨by decide, rfl⟩ 15 (by decide) cw_1208 (fun _ h9 => h9) rfl (by decide +kernel) rfl rfl ⟨_, rfl, (show 0 ≤ Int32.toInt zi64 from by  omega), (show Int32.toInt zi64 ≤ 10 from by  omega)⟩ dX12_ruleRead_86 (fun H locs E65 TH hS hmf69 hp66 hp67 => ?_)
        have hst68 : tw_fr kp L [(12, 15)] [] E52 E65 := tw_fr.put tw_fr.rf (fun _ => hk0) (by decide) hp66 hp67 (by decide)
        have hF := hF.tr hst68 (fun _ h => ⟨h, rfl⟩) (by decide) (by decide)
        have hFr := hFr.tr hst68 (fun _ h => ⟨h, rfl⟩) (by decide) (by decide)
        have hmf70 : tw_fv E65 a0 1 = .int fv0_1 := (hst68.1 a0 1 hm0 (by rw [hk0]; decide)).trans hmf57
        have hmf71 : tw_fv E65 a0 2 = .int fv0_2 := (hst68.1 a0 2 hm0 (by rw [hk0]; decide)).trans hmf58
        have hmf72 : tw_fv E65 a0 3 = .int xi1 := (hst68.1 a0 3 hm0 (by rw [hk0]; decide)).trans hmf60
        have hmf73 : tw_fv E65 a0 6 = .ref xr27 := (hst68.1 a0 6 hm0 (by rw [hk0]; decide)).trans hmf61
        have hmf74 : tw_fv E65 a0 7 = .ref xr38 := (hst68.1 a0 7 hm0 (by rw [hk0]; decide)).trans hmf62
        have hmf75 : tw_fv E65 a0 9 = .ref xr51 := (hst68.1 a0 9 hm0 (by rw [hk0]; decide)).trans hmf63
        have hg0 : tk_at E65 a0 := tk_at_fr TH hst68 hm0 hk0 (by decide) (by decide) hg0
        have hg1 : gt_ok E65 a0 := gt_ok_fr TH hst68 hm0 hk0 (by decide) (by decide) hg1
        have hg3 : rg_ok E65 a0 := rg_ok_fr TH hst68 hm0 hk0 (by decide) (by decide) hg3
        have hfn6 : p6_ok E65 a0 (fun j => if j = (fv0_15.toInt).toNat then fv0_2.toInt else (tw_el E a0 6) j) := p6_ok_fr TH hst68 hm0 hk0 (by decide) (by decide) hfn6
        have hfn7 : p7_ok E65 a0 (fun j => if j = (fv0_15.toInt).toNat then zi39.toInt else (tw_el E a0 7) j) := p7_ok_fr TH hst68 hm0 hk0 (by decide) (by decide) hfn7
        have hfn9 : p9_ok E65 a0 (fun j => if j = (fv0_15.toInt).toNat then 0 else (tw_el E a0 9) j) := p9_ok_fr TH hst68 hm0 hk0 (by decide) (by decide) hfn9
        have hgn76 : gk_ok E65 a0 := gk_push (E := E) (k := fv0_15.toInt) (s := fv0_2.toInt) (l := zi39.toInt) (n := fv0_1.toInt) hGK (tw_fi_of hfv0_15) (by rw [tw_fi_of hmf69]; omega) (by omega) (tw_fi_fr hFr hm0 hk0 (by decide)) (tw_fi_of hfv0_1) (by omega) (by omega) (by omega) hfn6 hfn7
        refine lv_aload_n hx hb dX12_ruleRead_89 rfl (lv_at hl 1 rfl) ?_
        have ft90 := el_fr TH hFr hm0 hk0 (k := 0) (by decide) rfl (by decide) (by decide) (by decide)
        refine tw_Vc (o := a0) (ci := 12) (n := 0) (post := (fun v kq Lq Eq => v = none ∧ kp = kq ∧ L = Lq ∧ tw_fr kp L [(12, 2), (12, 3)] [] E65 Eq ∧ (lx_WS (tw_el E65 a0 0) fv0_1.toInt xi1.toInt (tw_fi Eq a0 2) ∧ lx_TK (tw_el E65 a0 0) fv0_1.toInt (tw_fi Eq a0 2) (tw_fi Eq a0 3)) ∧ (∃ z0 z1 : Int32, tw_fv Eq a0 2 = .int z0 ∧ tw_fv Eq a0 3 = .int z1 ∧ (xi1.toInt ≤ z0.toInt ∧ z0.toInt ≤ z1.toInt ∧ z1.toInt ≤ fv0_1.toInt)))) (As := []) (rest := []) ⟨hx, hb, hml, hown, hB⟩ (fun sz => tX12_goesOn_vL l D cs a0 xi1 fv0_1 hm0 hk0 hmf72 hmf70 (by  omega) sz) cg_12_200_X12_goesOn rfl rfl (by decide +kernel) ⟨Nat.le_of_ble_eq_true rfl, Nat.le_of_ble_eq_true rfl⟩ hK hN TH hS hA rfl hm0 hk0 (by decide) rfl hl.1 rfl (Nat.le_of_ble_eq_true rfl) dX12_ruleRead_90 ⟨Nat.le_of_ble_eq_true rfl, Nat.le_of_ble_eq_true rfl⟩ (fun v77 kp77 L77 E77 H locs hq77 hx77 TH hS => ?_)
        obtain ⟨rfl, rfl, rfl, hst77, hpoxc78_0, ⟨zfxc78_0_0, zfxc78_0_1, hzfxc78_0_0, hzfxc78_0_1, hzpxc78_0⟩⟩ := hq77
        have hF := hF.tr hst77 (fun _ h => ⟨h, rfl⟩) (by decide) (by decide)
        have hFr := hFr.tr hst77 (fun _ h => ⟨h, rfl⟩) (by decide) (by decide)
        have hmf79 : tw_fv E77 a0 1 = .int fv0_1 := (hst77.1 a0 1 hm0 (by rw [hk0]; decide)).trans hmf70
        have hmf80 : tw_fv E77 a0 6 = .ref xr27 := (hst77.1 a0 6 hm0 (by rw [hk0]; decide)).trans hmf73
        have hmf81 : tw_fv E77 a0 7 = .ref xr38 := (hst77.1 a0 7 hm0 (by rw [hk0]; decide)).trans hmf74
        have hmf82 : tw_fv E77 a0 9 = .ref xr51 := (hst77.1 a0 9 hm0 (by rw [hk0]; decide)).trans hmf75
        have hmf83 : tw_fv E77 a0 15 = .int zi64 := (hst77.1 a0 15 hm0 (by rw [hk0]; decide)).trans hmf69
        have hg1 : gt_ok E77 a0 := gt_ok_fr TH hst77 hm0 hk0 (by decide) (by decide) hg1
        have hg3 : rg_ok E77 a0 := rg_ok_fr TH hst77 hm0 hk0 (by decide) (by decide) hg3
        have hfn6 : p6_ok E77 a0 (fun j => if j = (fv0_15.toInt).toNat then fv0_2.toInt else (tw_el E a0 6) j) := p6_ok_fr TH hst77 hm0 hk0 (by decide) (by decide) hfn6
        have hfn7 : p7_ok E77 a0 (fun j => if j = (fv0_15.toInt).toNat then zi39.toInt else (tw_el E a0 7) j) := p7_ok_fr TH hst77 hm0 hk0 (by decide) (by decide) hfn7
        have hfn9 : p9_ok E77 a0 (fun j => if j = (fv0_15.toInt).toNat then 0 else (tw_el E a0 9) j) := p9_ok_fr TH hst77 hm0 hk0 (by decide) (by decide) hfn9
        have hgn76 : gk_ok E77 a0 := gk_ok_fr TH hst77 hm0 hk0 (by decide) (by decide) hgn76
        have hgn84 : tk_at E77 a0 := tk_of TH hst77 hm0 hk0 (by decide) (by decide) (by decide) (tw_fi_of hmf70) hpoxc78_0
        obtain ⟨qzfxc78_0_0, hqzfxc78_0_0, hqzfxc78_0_0a, hqzfxc78_0_0b⟩ := tw_rd TH hm0 hk0 (by decide) (by decide) (k := 2) rfl
        have eqzfxc78_0_0 : qzfxc78_0_0 = zfxc78_0_0 := by have q := hqzfxc78_0_0.symm.trans hzfxc78_0_0; injection q
        rw [eqzfxc78_0_0] at hqzfxc78_0_0a hqzfxc78_0_0b
        obtain ⟨qzfxc78_0_1, hqzfxc78_0_1, hqzfxc78_0_1a, hqzfxc78_0_1b⟩ := tw_rd TH hm0 hk0 (by decide) (by decide) (k := 3) rfl
        have eqzfxc78_0_1 : qzfxc78_0_1 = zfxc78_0_1 := by have q := hqzfxc78_0_1.symm.trans hzfxc78_0_1; injection q
        rw [eqzfxc78_0_1] at hqzfxc78_0_1a hqzfxc78_0_1b
        refine W.eq (g2 := F0 m 93 ls []) rfl ?_
        have hF93 : tw_fr kp L [(12, 2), (12, 3), (12, 4)] [304] E77 E77 := tw_fr.rf
        have hw1 := (hpoxc78_0).1
        rw [ft90, tw_fi_of hzfxc78_0_0] at hw1
        have hgy4 := gy_0 hpre0 htkE (by omega) (by omega) hNm (by omega) hNn hw1
        have hkp : kp_ E77 a0 (fv0_15.toInt + 1) = gy_ins (kp_ E a0 fv0_15.toInt) (fv0_2.toInt, xi1.toInt) := (by have w := kp_push (E := E) (E1 := E77) (m := a0) (k := fv0_15.toInt) (s := fv0_2.toInt) (l := zi39.toInt) (by omega) hfn6 hfn7; rw [show (fv0_2.toInt : Int) + zi39.toInt = xi1.toInt by omega] at w; exact w)
        have hipn : ip_ E77 a0 (fv0_15.toInt + 1) = ip_ E a0 fv0_15.toInt := ip_new2 (by omega) (by omega) (fun j => (hfn9 j).trans (by show (if _ then _ else _) = (if _ then _ else _); rfl)) (fun j i hj => rx_fr10 TH hFr hm0 hk0 (by decide) (by decide) (by decide) hj i) (fun j i hj => rx_fr11 TH hFr hm0 hk0 (by decide) (by decide) (by decide) hj i)
        rw [← hkp, ← hipn] at hgy4
        have ft93 := el_fr TH hFr hm0 hk0 (k := 0) (by decide) rfl (by decide) (by decide) (by decide)
        have htk1 : lx_TK (tw_el E a0 0) fv0_1.toInt (zfxc78_0_0.toInt) (zfxc78_0_1.toInt) := (by have z := hgn84; unfold tk_at at z; rw [tw_fi_of hmf79, tw_fi_of hzfxc78_0_0, tw_fi_of hzfxc78_0_1, ft93] at z; exact z.2)
        have htk1l := tk_le hgn84 (tw_fi_of hmf79) (tw_fi_of hzfxc78_0_0) (tw_fi_of hzfxc78_0_1)
        refine lv_aload_n hx hb dX12_ruleRead_93 rfl (lv_at hl 1 rfl) ?_
        refine va_ldcS (q := D.2 100 0) hx hb hown hN.2.2.2.2.2.2.1 dX12_ruleRead_94 ?_
        refine tw_Vc (o := a0) (ci := 12) (n := 1) (post := (fun v kq Lq Eq => (∃ x : Int32, v = some (.int x) ∧ 0 ≤ x.toInt ∧ x.toInt ≤ 1 ∧ (x.toInt ≠ 0 ↔ lx_rs (tw_el E77 a0 0) fv0_1.toInt zfxc78_0_0.toInt zfxc78_0_1.toInt 0)) ∧ kp = kq ∧ L = Lq ∧ E77 = Eq)) (As := [.ref (D.2 100 0)]) (rest := []) ⟨hx, hb, hml, hown, hB⟩ (fun sz => tX12_isReserved_vL0 l D cs a0 zfxc78_0_0 zfxc78_0_1 fv0_1 hm0 hk0 hzfxc78_0_0 hzfxc78_0_1 hmf79 (by  omega) (by  omega) sz) cg_12_215_X12_isReserved rfl rfl (by decide +kernel) ⟨Nat.le_of_ble_eq_true rfl, Nat.le_of_ble_eq_true rfl⟩ hK hN TH hS hA rfl hm0 hk0 (by decide) rfl hl.1 rfl (Nat.le_of_ble_eq_true rfl) dX12_ruleRead_96 ⟨Nat.le_of_ble_eq_true rfl, Nat.le_of_ble_eq_true rfl⟩ (fun v85 kp85 L85 E85 H locs hq85 hx85 TH hS => ?_)
        obtain ⟨⟨xc86, rfl, hxc86a, hxc86b, hpoxc86_0⟩, rfl, rfl, rfl⟩ := hq85
        refine W.eq (g2 := F0 m 99 ls [.int xc86]) rfl ?_
        refine lv_if_eq (tgt := 124) hx hb dX12_ruleRead_99 (by decide) (fun hc87 => ?_) (fun hc87 => ?_)
        · have hf88 : xc86.toInt = 0 := by have z := (fa_eq _ _).mp hc87; have : ((0 : Int32).toInt) = 0 := (by decide); omega
          have hrs0 : ¬ lx_rs (tw_el E a0 0) fv0_1.toInt (zfxc78_0_0.toInt) (zfxc78_0_1.toInt) 0 := (fun z => (by have w := hpoxc86_0; rw [ft93] at w; have y := w.2 z; omega))
          refine lv_aload_n hx hb dX12_ruleRead_124 rfl (lv_at hl 1 rfl) ?_
          refine tw_get (ci := 12) (C := RX12) (T := TX12) (N := 64) hx hb hB cx_inX12 hown hK TH hm0 hk0 rfl ⟨by decide, rfl⟩ 8 (by decide) cw_1201 (fun _ h9 => h9) dX12_ruleRead_125 (fun hv => ?_)
          obtain ⟨xr89, hxr89, hmxr89, hkxr89⟩ : ∃ a : Nat, tw_fv E77 a0 8 = .ref a ∧ a ∈ L ∧ kp a = 304 := hv
          rw [hxr89]
          refine lv_iload_n hx hb dX12_ruleRead_128 rfl (lv_at hl 0 rfl) ?_
          refine lv_aload_n hx hb dX12_ruleRead_129 rfl (lv_at hl 1 rfl) ?_
          refine va_ldcS (q := D.2 100 1) hx hb hown hN.2.2.2.2.2.2.2 dX12_ruleRead_130 ?_
          refine tw_Vc (o := a0) (ci := 12) (n := 1) (post := (fun v kq Lq Eq => (∃ x : Int32, v = some (.int x) ∧ 0 ≤ x.toInt ∧ x.toInt ≤ 1 ∧ (x.toInt ≠ 0 ↔ lx_rs (tw_el E77 a0 0) fv0_1.toInt zfxc78_0_0.toInt zfxc78_0_1.toInt 1)) ∧ kp = kq ∧ L = Lq ∧ E77 = Eq)) (As := [.ref (D.2 100 1)]) (rest := [.int fv0_15, .ref xr89]) ⟨hx, hb, hml, hown, hB⟩ (fun sz => tX12_isReserved_vL1 l D cs a0 zfxc78_0_0 zfxc78_0_1 fv0_1 hm0 hk0 hzfxc78_0_0 hzfxc78_0_1 hmf79 (by  omega) (by  omega) sz) cg_12_215_X12_isReserved rfl rfl (by decide +kernel) ⟨Nat.le_of_ble_eq_true rfl, Nat.le_of_ble_eq_true rfl⟩ hK hN TH hS hA rfl hm0 hk0 (by decide) rfl hl.1 rfl (Nat.le_of_ble_eq_true rfl) dX12_ruleRead_132 ⟨Nat.le_of_ble_eq_true rfl, Nat.le_of_ble_eq_true rfl⟩ (fun v90 kp90 L90 E90 H locs hq90 hx90 TH hS => ?_)
          obtain ⟨⟨xc91, rfl, hxc91a, hxc91b, hpoxc91_0⟩, rfl, rfl, rfl⟩ := hq90
          refine W.eq (g2 := F0 m 135 ls [.int xc91, .int fv0_15, .ref xr89]) rfl ?_
          refine lv_if_eq (tgt := 142) hx hb dX12_ruleRead_135 (by decide) (fun hc92 => ?_) (fun hc92 => ?_)
          · have hf93 : xc91.toInt = 0 := by have z := (fa_eq _ _).mp hc92; have : ((0 : Int32).toInt) = 0 := (by decide); omega
            refine lv_iconst (v := 2) hx hb dX12_ruleRead_142 (by decide) ?_
            refine tw_iast (k := 304) (n := 10) (lo := 0) (hi := 2) hx hb hK TH hS hmxr89 hkxr89 (by decide) rfl (i := fv0_15) (x := 2) (vp_in_iff.mpr ⟨by  omega, by  omega⟩) (by have : ((2 : Int32).toInt) = 2 := (by decide); omega) (by have : ((2 : Int32).toInt) = 2 := (by decide); omega) dX12_ruleRead_143 (fun H locs E94 TH hS hp95 hp96 hp97 => ?_)
            have hst98 : tw_fr kp L [] [304] E77 E94 := tw_fr.ast tw_fr.rf (fun _ => hkxr89) hp95 hp96 (by decide)
            have hF := hF.tr hst98 (fun _ h => ⟨h, rfl⟩) (by decide) (by decide)
            have hFr := hFr.tr hst98 (fun _ h => ⟨h, rfl⟩) (by decide) (by decide)
            have hF93 := hF93.tr hst98 (fun _ h => ⟨h, rfl⟩) (by decide) (by decide)
            have hmf99 : tw_fv E94 a0 1 = .int fv0_1 := (hst98.1 a0 1 hm0 (by rw [hk0]; decide)).trans hmf79
            have hmf100 : tw_fv E94 a0 6 = .ref xr27 := (hst98.1 a0 6 hm0 (by rw [hk0]; decide)).trans hmf80
            have hmf101 : tw_fv E94 a0 7 = .ref xr38 := (hst98.1 a0 7 hm0 (by rw [hk0]; decide)).trans hmf81
            have hmf102 : tw_fv E94 a0 9 = .ref xr51 := (hst98.1 a0 9 hm0 (by rw [hk0]; decide)).trans hmf82
            have hmf103 : tw_fv E94 a0 15 = .int zi64 := (hst98.1 a0 15 hm0 (by rw [hk0]; decide)).trans hmf83
            have hmf104 : tw_fv E94 a0 2 = .int zfxc78_0_0 := (hst98.1 a0 2 hm0 (by rw [hk0]; decide)).trans hzfxc78_0_0
            have hmf105 : tw_fv E94 a0 3 = .int zfxc78_0_1 := (hst98.1 a0 3 hm0 (by rw [hk0]; decide)).trans hzfxc78_0_1
            have hmf106 : tw_fv E94 a0 8 = .ref xr89 := (hst98.1 a0 8 hm0 (by rw [hk0]; decide)).trans hxr89
            have hg1 : gt_ok E94 a0 := gt_ok_fr TH hst98 hm0 hk0 (by decide) (by decide) hg1
            have hg3 : rg_ok E94 a0 := rg_ok_fr TH hst98 hm0 hk0 (by decide) (by decide) hg3
            have hfn6 : p6_ok E94 a0 (fun j => if j = (fv0_15.toInt).toNat then fv0_2.toInt else (tw_el E a0 6) j) := p6_ok_fr TH hst98 hm0 hk0 (by decide) (by decide) hfn6
            have hfn7 : p7_ok E94 a0 (fun j => if j = (fv0_15.toInt).toNat then zi39.toInt else (tw_el E a0 7) j) := p7_ok_fr TH hst98 hm0 hk0 (by decide) (by decide) hfn7
            have hfn9 : p9_ok E94 a0 (fun j => if j = (fv0_15.toInt).toNat then 0 else (tw_el E a0 9) j) := p9_ok_fr TH hst98 hm0 hk0 (by decide) (by decide) hfn9
            have hgn76 : gk_ok E94 a0 := gk_ok_fr TH hst98 hm0 hk0 (by decide) (by decide) hgn76
            have hgn84 : tk_at E94 a0 := tk_at_fr TH hst98 hm0 hk0 (by decide) (by decide) hgn84
            have ft144 := el_fr TH hFr hm0 hk0 (k := 0) (by decide) rfl (by decide) (by decide) (by decide)
            have h8 : tw_el E94 a0 8 (fv0_15.toInt).toNat = 2 := (by have w := tw_el_st (t := a0) (f := 8) hxr89 hp95 hp96 hp97 (fv0_15.toInt).toNat; rw [if_pos ⟨rfl, rfl⟩] at w; rw [w]; decide)
            have h15k : fv0_15.toInt = fv0_15.toInt := (by omega)
            refine lv_aload_n hx hb dX12_ruleRead_144 rfl (lv_at hl 1 rfl) ?_
            refine lv_aload_n hx hb dX12_ruleRead_145 rfl (lv_at hl 1 rfl) ?_
            refine va_ldcS (q := D.2 100 1) hx hb hown hN.2.2.2.2.2.2.2 dX12_ruleRead_146 ?_
            refine tw_Vc (o := a0) (ci := 12) (n := 1) (post := (fun v kq Lq Eq => (∃ x : Int32, v = some (.int x) ∧ 0 ≤ x.toInt ∧ x.toInt ≤ 1 ∧ (x.toInt ≠ 0 ↔ lx_rs (tw_el E94 a0 0) fv0_1.toInt zfxc78_0_0.toInt zfxc78_0_1.toInt 1)) ∧ kp = kq ∧ L = Lq ∧ E94 = Eq)) (As := [.ref (D.2 100 1)]) (rest := [.ref a0]) ⟨hx, hb, hml, hown, hB⟩ (fun sz => tX12_isReserved_vL1 l D cs a0 zfxc78_0_0 zfxc78_0_1 fv0_1 hm0 hk0 hmf104 hmf105 hmf99 (by  omega) (by  omega) sz) cg_12_215_X12_isReserved rfl rfl (by decide +kernel) ⟨Nat.le_of_ble_eq_true rfl, Nat.le_of_ble_eq_true rfl⟩ hK hN TH hS hA rfl hm0 hk0 (by decide) rfl hl.1 rfl (Nat.le_of_ble_eq_true rfl) dX12_ruleRead_148 ⟨Nat.le_of_ble_eq_true rfl, Nat.le_of_ble_eq_true rfl⟩ (fun v107 kp107 L107 E107 H locs hq107 hx107 TH hS => ?_)
            obtain ⟨⟨xc108, rfl, hxc108a, hxc108b, hpoxc108_0⟩, rfl, rfl, rfl⟩ := hq107
            refine W.eq (g2 := F0 m 151 ls [.int xc108, .ref a0]) rfl ?_
            refine lv_if_ne (tgt := 163) hx hb dX12_ruleRead_151 (by decide) (fun hc109 => ?_) (fun hc109 => ?_)
            · have hf110 : ¬ (xc108.toInt = 0) := fun q => hc109 ((fa_eq _ _).mpr (by have : ((0 : Int32).toInt) = 0 := (by decide); omega))
              refine lv_iconst (v := 1) hx hb dX12_ruleRead_163 (by decide) ?_
              refine lv_goto (tgt := 168) hx hb dX12_ruleRead_164 (by decide) ?_
              have hr0 := hpoxc91_0
              rw [ft93] at hr0
              have hr1 := hpoxc108_0
              rw [ft144] at hr1
              refine tw_Vc (o := a0) (ci := 12) (n := 1) (post := (fun v kq Lq Eq => (∃ x : Int32, v = some (.int x) ∧ 0 ≤ x.toInt ∧ x.toInt ≤ 1 ∧ (((1 : Int32).toInt = 0 → x.toInt = 0 ∧ tw_fi Eq a0 4 ≠ -1) ∧ ((1 : Int32).toInt ≠ 0 → x.toInt = 1 ∧ lx_WS (tw_el E94 a0 0) fv0_1.toInt zfxc78_0_1.toInt (tw_fi Eq a0 2) ∧ lx_TK (tw_el E94 a0 0) fv0_1.toInt (tw_fi Eq a0 2) (tw_fi Eq a0 3))) ∧ (∃ z0 z1 : Int32, tw_fv Eq a0 2 = .int z0 ∧ tw_fv Eq a0 3 = .int z1 ∧ (z0.toInt ≤ z1.toInt ∧ z1.toInt ≤ fv0_1.toInt ∧ (x.toInt ≠ 0 → zfxc78_0_1.toInt ≤ z0.toInt) ∧ (x.toInt = 0 → z0.toInt = zfxc78_0_0.toInt)))) ∧ kp = kq ∧ L = Lq ∧ tw_fr kp L [(12, 2), (12, 3), (12, 4)] [] E94 Eq)) (As := [.int 1]) (rest := []) ⟨hx, hb, hml, hown, hB⟩ (fun sz => tX12_passes_vL l D cs a0 (1 : Int32) zfxc78_0_0 zfxc78_0_1 fv0_1 hm0 hk0 (by have : ((1 : Int32).toInt) = 1 := (by decide); omega) (by have : ((1 : Int32).toInt) = 1 := (by decide); omega) hmf104 hmf105 hmf99 (by have : ((1 : Int32).toInt) = 1 := (by decide); omega) (by have : ((1 : Int32).toInt) = 1 := (by decide); omega) (by have : ((1 : Int32).toInt) = 1 := (by decide); omega) sz) cg_12_237_X12_passes rfl rfl (by decide +kernel) ⟨Nat.le_of_ble_eq_true rfl, Nat.le_of_ble_eq_true rfl⟩ hK hN TH hS hA rfl hm0 hk0 (by decide) rfl hl.1 rfl (Nat.le_of_ble_eq_true rfl) dX12_ruleRead_168 ⟨Nat.le_of_ble_eq_true rfl, Nat.le_of_ble_eq_true rfl⟩ (fun v111 kp111 L111 E111 H locs hq111 hx111 TH hS => ?_)
              obtain ⟨⟨xc112, rfl, hxc112a, hxc112b, hpoxc112_0, ⟨zfxc112_0_0, zfxc112_0_1, hzfxc112_0_0, hzfxc112_0_1, hzpxc112_0⟩⟩, rfl, rfl, hst111⟩ := hq111
              have hF := hF.tr hst111 (fun _ h => ⟨h, rfl⟩) (by decide) (by decide)
              have hFr := hFr.tr hst111 (fun _ h => ⟨h, rfl⟩) (by decide) (by decide)
              have hF93 := hF93.tr hst111 (fun _ h => ⟨h, rfl⟩) (by decide) (by decide)
              have hmf113 : tw_fv E111 a0 1 = .int fv0_1 := (hst111.1 a0 1 hm0 (by rw [hk0]; decide)).trans hmf99
              have hmf114 : tw_fv E111 a0 6 = .ref xr27 := (hst111.1 a0 6 hm0 (by rw [hk0]; decide)).trans hmf100
              have hmf115 : tw_fv E111 a0 7 = .ref xr38 := (hst111.1 a0 7 hm0 (by rw [hk0]; decide)).trans hmf101
              have hmf116 : tw_fv E111 a0 9 = .ref xr51 := (hst111.1 a0 9 hm0 (by rw [hk0]; decide)).trans hmf102
              have hmf117 : tw_fv E111 a0 15 = .int zi64 := (hst111.1 a0 15 hm0 (by rw [hk0]; decide)).trans hmf103
              have hmf118 : tw_fv E111 a0 8 = .ref xr89 := (hst111.1 a0 8 hm0 (by rw [hk0]; decide)).trans hmf106
              have hg1 : gt_ok E111 a0 := gt_ok_fr TH hst111 hm0 hk0 (by decide) (by decide) hg1
              have hg3 : rg_ok E111 a0 := rg_ok_fr TH hst111 hm0 hk0 (by decide) (by decide) hg3
              have hfn6 : p6_ok E111 a0 (fun j => if j = (fv0_15.toInt).toNat then fv0_2.toInt else (tw_el E a0 6) j) := p6_ok_fr TH hst111 hm0 hk0 (by decide) (by decide) hfn6
              have hfn7 : p7_ok E111 a0 (fun j => if j = (fv0_15.toInt).toNat then zi39.toInt else (tw_el E a0 7) j) := p7_ok_fr TH hst111 hm0 hk0 (by decide) (by decide) hfn7
              have hfn9 : p9_ok E111 a0 (fun j => if j = (fv0_15.toInt).toNat then 0 else (tw_el E a0 9) j) := p9_ok_fr TH hst111 hm0 hk0 (by decide) (by decide) hfn9
              have hgn76 : gk_ok E111 a0 := gk_ok_fr TH hst111 hm0 hk0 (by decide) (by decide) hgn76
              obtain ⟨qzfxc112_0_0, hqzfxc112_0_0, hqzfxc112_0_0a, hqzfxc112_0_0b⟩ := tw_rd TH hm0 hk0 (by decide) (by decide) (k := 2) rfl
              have eqzfxc112_0_0 : qzfxc112_0_0 = zfxc112_0_0 := by have q := hqzfxc112_0_0.symm.trans hzfxc112_0_0; injection q
              rw [eqzfxc112_0_0] at hqzfxc112_0_0a hqzfxc112_0_0b
              obtain ⟨qzfxc112_0_1, hqzfxc112_0_1, hqzfxc112_0_1a, hqzfxc112_0_1b⟩ := tw_rd TH hm0 hk0 (by decide) (by decide) (k := 3) rfl
              have eqzfxc112_0_1 : qzfxc112_0_1 = zfxc112_0_1 := by have q := hqzfxc112_0_1.symm.trans hzfxc112_0_1; injection q
              rw [eqzfxc112_0_1] at hqzfxc112_0_1a hqzfxc112_0_1b
              refine W.eq (g2 := F0 m 171 ls [.int xc112]) rfl ?_
              refine lv_if_eq (tgt := 186) hx hb dX12_ruleRead_171 (by decide) (fun hc119 => ?_) (fun hc119 => ?_)
              · have hf120 : xc112.toInt = 0 := by have z := (fa_eq _ _).mp hc119; have : ((0 : Int32).toInt) = 0 := (by decide); omega
                have hpz := (hpoxc112_0.2 (by decide)).1
                exfalso
                omega
              · have hf121 : ¬ (xc112.toInt = 0) := fun q => hc119 ((fa_eq _ _).mpr (by have : ((0 : Int32).toInt) = 0 := (by decide); omega))
                exfalso
                have za := hr1.1 (by omega)
                have zb := hr0.2 za
                omega
            · have hf122 : xc108.toInt = 0 := by have z := (fa_eq _ _).mp hc109; have : ((0 : Int32).toInt) = 0 := (by decide); omega
              refine lv_aload_n hx hb dX12_ruleRead_154 rfl (lv_at hl 1 rfl) ?_
              refine lv_bipush (v := 61) hx hb dX12_ruleRead_155 (by decide) ?_
              refine tw_Vc (o := a0) (ci := 12) (n := 1) (post := (fun v kq Lq Eq => (∃ x : Int32, v = some (.int x) ∧ 0 ≤ x.toInt ∧ x.toInt ≤ 1 ∧ (x.toInt ≠ 0 ↔ (zfxc78_0_0.toInt < fv0_1.toInt ∧ tw_el E94 a0 0 (zfxc78_0_0.toInt).toNat = (61 : Int32).toInt))) ∧ kp = kq ∧ L = Lq ∧ E94 = Eq)) (As := [.int 61]) (rest := [.ref a0]) ⟨hx, hb, hml, hown, hB⟩ (fun sz => tX12_isSign_vL l D cs a0 (61 : Int32) zfxc78_0_0 fv0_1 hm0 hk0 hmf104 hmf99 sz) cg_12_221_X12_isSign rfl rfl (by decide +kernel) ⟨Nat.le_of_ble_eq_true rfl, Nat.le_of_ble_eq_true rfl⟩ hK hN TH hS hA rfl hm0 hk0 (by decide) rfl hl.1 rfl (Nat.le_of_ble_eq_true rfl) dX12_ruleRead_157 ⟨Nat.le_of_ble_eq_true rfl, Nat.le_of_ble_eq_true rfl⟩ (fun v123 kp123 L123 E123 H locs hq123 hx123 TH hS => ?_)
              obtain ⟨⟨xc124, rfl, hxc124a, hxc124b, hpoxc124_0⟩, rfl, rfl, rfl⟩ := hq123
              refine W.eq (g2 := F0 m 160 ls [.int xc124, .ref a0]) rfl ?_
              refine lv_if_eq (tgt := 167) hx hb dX12_ruleRead_160 (by decide) (fun hc125 => ?_) (fun hc125 => ?_)
              · have hf126 : xc124.toInt = 0 := by have z := (fa_eq _ _).mp hc125; have : ((0 : Int32).toInt) = 0 := (by decide); omega
                refine lv_iconst (v := 0) hx hb dX12_ruleRead_167 (by decide) ?_
                have hr0 := hpoxc91_0
                rw [ft93] at hr0
                have hr1 := hpoxc108_0
                rw [ft144] at hr1
                have hs1 := hpoxc124_0
                rw [ft144] at hs1
                refine tw_Vc (o := a0) (ci := 12) (n := 1) (post := (fun v kq Lq Eq => (∃ x : Int32, v = some (.int x) ∧ 0 ≤ x.toInt ∧ x.toInt ≤ 1 ∧ (((0 : Int32).toInt = 0 → x.toInt = 0 ∧ tw_fi Eq a0 4 ≠ -1) ∧ ((0 : Int32).toInt ≠ 0 → x.toInt = 1 ∧ lx_WS (tw_el E94 a0 0) fv0_1.toInt zfxc78_0_1.toInt (tw_fi Eq a0 2) ∧ lx_TK (tw_el E94 a0 0) fv0_1.toInt (tw_fi Eq a0 2) (tw_fi Eq a0 3))) ∧ (∃ z0 z1 : Int32, tw_fv Eq a0 2 = .int z0 ∧ tw_fv Eq a0 3 = .int z1 ∧ (z0.toInt ≤ z1.toInt ∧ z1.toInt ≤ fv0_1.toInt ∧ (x.toInt ≠ 0 → zfxc78_0_1.toInt ≤ z0.toInt) ∧ (x.toInt = 0 → z0.toInt = zfxc78_0_0.toInt)))) ∧ kp = kq ∧ L = Lq ∧ tw_fr kp L [(12, 2), (12, 3), (12, 4)] [] E94 Eq)) (As := [.int 0]) (rest := []) ⟨hx, hb, hml, hown, hB⟩ (fun sz => tX12_passes_vL l D cs a0 (0 : Int32) zfxc78_0_0 zfxc78_0_1 fv0_1 hm0 hk0 (by have : ((0 : Int32).toInt) = 0 := (by decide); omega) (by have : ((0 : Int32).toInt) = 0 := (by decide); omega) hmf104 hmf105 hmf99 (by have : ((0 : Int32).toInt) = 0 := (by decide); omega) (by have : ((0 : Int32).toInt) = 0 := (by decide); omega) (by have : ((0 : Int32).toInt) = 0 := (by decide); omega) sz) cg_12_237_X12_passes rfl rfl (by decide +kernel) ⟨Nat.le_of_ble_eq_true rfl, Nat.le_of_ble_eq_true rfl⟩ hK hN TH hS hA rfl hm0 hk0 (by decide) rfl hl.1 rfl (Nat.le_of_ble_eq_true rfl) dX12_ruleRead_168 ⟨Nat.le_of_ble_eq_true rfl, Nat.le_of_ble_eq_true rfl⟩ (fun v127 kp127 L127 E127 H locs hq127 hx127 TH hS => ?_)
                obtain ⟨⟨xc128, rfl, hxc128a, hxc128b, hpoxc128_0, ⟨zfxc128_0_0, zfxc128_0_1, hzfxc128_0_0, hzfxc128_0_1, hzpxc128_0⟩⟩, rfl, rfl, hst127⟩ := hq127
                have hF := hF.tr hst127 (fun _ h => ⟨h, rfl⟩) (by decide) (by decide)
                have hFr := hFr.tr hst127 (fun _ h => ⟨h, rfl⟩) (by decide) (by decide)
                have hF93 := hF93.tr hst127 (fun _ h => ⟨h, rfl⟩) (by decide) (by decide)
                have hmf129 : tw_fv E127 a0 1 = .int fv0_1 := (hst127.1 a0 1 hm0 (by rw [hk0]; decide)).trans hmf99
                have hmf130 : tw_fv E127 a0 6 = .ref xr27 := (hst127.1 a0 6 hm0 (by rw [hk0]; decide)).trans hmf100
                have hmf131 : tw_fv E127 a0 7 = .ref xr38 := (hst127.1 a0 7 hm0 (by rw [hk0]; decide)).trans hmf101
                have hmf132 : tw_fv E127 a0 9 = .ref xr51 := (hst127.1 a0 9 hm0 (by rw [hk0]; decide)).trans hmf102
                have hmf133 : tw_fv E127 a0 15 = .int zi64 := (hst127.1 a0 15 hm0 (by rw [hk0]; decide)).trans hmf103
                have hmf134 : tw_fv E127 a0 8 = .ref xr89 := (hst127.1 a0 8 hm0 (by rw [hk0]; decide)).trans hmf106
                have hg1 : gt_ok E127 a0 := gt_ok_fr TH hst127 hm0 hk0 (by decide) (by decide) hg1
                have hg3 : rg_ok E127 a0 := rg_ok_fr TH hst127 hm0 hk0 (by decide) (by decide) hg3
                have hfn6 : p6_ok E127 a0 (fun j => if j = (fv0_15.toInt).toNat then fv0_2.toInt else (tw_el E a0 6) j) := p6_ok_fr TH hst127 hm0 hk0 (by decide) (by decide) hfn6
                have hfn7 : p7_ok E127 a0 (fun j => if j = (fv0_15.toInt).toNat then zi39.toInt else (tw_el E a0 7) j) := p7_ok_fr TH hst127 hm0 hk0 (by decide) (by decide) hfn7
                have hfn9 : p9_ok E127 a0 (fun j => if j = (fv0_15.toInt).toNat then 0 else (tw_el E a0 9) j) := p9_ok_fr TH hst127 hm0 hk0 (by decide) (by decide) hfn9
                have hgn76 : gk_ok E127 a0 := gk_ok_fr TH hst127 hm0 hk0 (by decide) (by decide) hgn76
                obtain ⟨qzfxc128_0_0, hqzfxc128_0_0, hqzfxc128_0_0a, hqzfxc128_0_0b⟩ := tw_rd TH hm0 hk0 (by decide) (by decide) (k := 2) rfl
                have eqzfxc128_0_0 : qzfxc128_0_0 = zfxc128_0_0 := by have q := hqzfxc128_0_0.symm.trans hzfxc128_0_0; injection q
                rw [eqzfxc128_0_0] at hqzfxc128_0_0a hqzfxc128_0_0b
                obtain ⟨qzfxc128_0_1, hqzfxc128_0_1, hqzfxc128_0_1a, hqzfxc128_0_1b⟩ := tw_rd TH hm0 hk0 (by decide) (by decide) (k := 3) rfl
                have eqzfxc128_0_1 : qzfxc128_0_1 = zfxc128_0_1 := by have q := hqzfxc128_0_1.symm.trans hzfxc128_0_1; injection q
                rw [eqzfxc128_0_1] at hqzfxc128_0_1a hqzfxc128_0_1b
                refine W.eq (g2 := F0 m 171 ls [.int xc128]) rfl ?_
                refine lv_if_eq (tgt := 186) hx hb dX12_ruleRead_171 (by decide) (fun hc135 => ?_) (fun hc135 => ?_)
                · have hf136 : xc128.toInt = 0 := by have z := (fa_eq _ _).mp hc135; have : ((0 : Int32).toInt) = 0 := (by decide); omega
                  have h186 := trivial
                  refine lv_iconst (v := 0) hx hb dX12_ruleRead_186 (by decide) ?_
                  exact tw_zret hx hb hr hlocks (by decide) TH hS hex ⟨⟨_, rfl, (show 0 ≤ Int32.toInt 0 from by have : ((0 : Int32).toInt) = 0 := (by decide); omega), (show Int32.toInt 0 ≤ 1 from by have : ((0 : Int32).toInt) = 0 := (by decide); omega), (by have : ((0 : Int32).toInt) = 0 := (by decide); intro _; exact gy_4f hgy4 htk1 (by omega) (by omega) (fun _ _ => ⟨hrs0, (fun z => (by have w := hr1.2 z; omega))⟩) (fun z => (by have w := hs1.2 z; omega))), (by have : ((0 : Int32).toInt) = 0 := (by decide); intro q; exfalso; exact q (by decide)), (by have : ((0 : Int32).toInt) = 0 := (by decide); intro q; exfalso; exact q (by decide)), (by have : ((0 : Int32).toInt) = 0 := (by decide); intro _; exact (hpoxc128_0.1 (by decide)).2), (by have : ((0 : Int32).toInt) = 0 := (by decide); intro q; exfalso; exact q (by decide)), (by have : ((0 : Int32).toInt) = 0 := (by decide); intro q; exfalso; exact q (by decide)), ⟨zfxc128_0_0, zi64, hzfxc128_0_0, hmf133, by have : ((0 : Int32).toInt) = 0 := (by decide); omega⟩, hg3⟩, rfl, rfl, hF⟩ (Nat.le_of_ble_eq_true rfl) (Nat.le_of_ble_eq_true rfl) dX12_ruleRead_187
                · have hf137 : ¬ (xc128.toInt = 0) := fun q => hc135 ((fa_eq _ _).mpr (by have : ((0 : Int32).toInt) = 0 := (by decide); omega))
                  have hpz := (hpoxc128_0.1 (by decide)).1
                  exfalso
                  omega
              · have hf138 : ¬ (xc124.toInt = 0) := fun q => hc125 ((fa_eq _ _).mpr (by have : ((0 : Int32).toInt) = 0 := (by decide); omega))
                refine lv_iconst (v := 1) hx hb dX12_ruleRead_163 (by decide) ?_
                refine lv_goto (tgt := 168) hx hb dX12_ruleRead_164 (by decide) ?_
                have hr0 := hpoxc91_0
                rw [ft93] at hr0
                have hr1 := hpoxc108_0
                rw [ft144] at hr1
                have hs1 := hpoxc124_0
                rw [ft144] at hs1
                refine tw_Vc (o := a0) (ci := 12) (n := 1) (post := (fun v kq Lq Eq => (∃ x : Int32, v = some (.int x) ∧ 0 ≤ x.toInt ∧ x.toInt ≤ 1 ∧ (((1 : Int32).toInt = 0 → x.toInt = 0 ∧ tw_fi Eq a0 4 ≠ -1) ∧ ((1 : Int32).toInt ≠ 0 → x.toInt = 1 ∧ lx_WS (tw_el E94 a0 0) fv0_1.toInt zfxc78_0_1.toInt (tw_fi Eq a0 2) ∧ lx_TK (tw_el E94 a0 0) fv0_1.toInt (tw_fi Eq a0 2) (tw_fi Eq a0 3))) ∧ (∃ z0 z1 : Int32, tw_fv Eq a0 2 = .int z0 ∧ tw_fv Eq a0 3 = .int z1 ∧ (z0.toInt ≤ z1.toInt ∧ z1.toInt ≤ fv0_1.toInt ∧ (x.toInt ≠ 0 → zfxc78_0_1.toInt ≤ z0.toInt) ∧ (x.toInt = 0 → z0.toInt = zfxc78_0_0.toInt)))) ∧ kp = kq ∧ L = Lq ∧ tw_fr kp L [(12, 2), (12, 3), (12, 4)] [] E94 Eq)) (As := [.int 1]) (rest := []) ⟨hx, hb, hml, hown, hB⟩ (fun sz => tX12_passes_vL l D cs a0 (1 : Int32) zfxc78_0_0 zfxc78_0_1 fv0_1 hm0 hk0 (by have : ((1 : Int32).toInt) = 1 := (by decide); omega) (by have : ((1 : Int32).toInt) = 1 := (by decide); omega) hmf104 hmf105 hmf99 (by have : ((1 : Int32).toInt) = 1 := (by decide); omega) (by have : ((1 : Int32).toInt) = 1 := (by decide); omega) (by have : ((1 : Int32).toInt) = 1 := (by decide); omega) sz) cg_12_237_X12_passes rfl rfl (by decide +kernel) ⟨Nat.le_of_ble_eq_true rfl, Nat.le_of_ble_eq_true rfl⟩ hK hN TH hS hA rfl hm0 hk0 (by decide) rfl hl.1 rfl (Nat.le_of_ble_eq_true rfl) dX12_ruleRead_168 ⟨Nat.le_of_ble_eq_true rfl, Nat.le_of_ble_eq_true rfl⟩ (fun v139 kp139 L139 E139 H locs hq139 hx139 TH hS => ?_)
                obtain ⟨⟨xc140, rfl, hxc140a, hxc140b, hpoxc140_0, ⟨zfxc140_0_0, zfxc140_0_1, hzfxc140_0_0, hzfxc140_0_1, hzpxc140_0⟩⟩, rfl, rfl, hst139⟩ := hq139
                have hF := hF.tr hst139 (fun _ h => ⟨h, rfl⟩) (by decide) (by decide)
                have hFr := hFr.tr hst139 (fun _ h => ⟨h, rfl⟩) (by decide) (by decide)
                have hF93 := hF93.tr hst139 (fun _ h => ⟨h, rfl⟩) (by decide) (by decide)
                have hmf141 : tw_fv E139 a0 1 = .int fv0_1 := (hst139.1 a0 1 hm0 (by rw [hk0]; decide)).trans hmf99
                have hmf142 : tw_fv E139 a0 6 = .ref xr27 := (hst139.1 a0 6 hm0 (by rw [hk0]; decide)).trans hmf100
                have hmf143 : tw_fv E139 a0 7 = .ref xr38 := (hst139.1 a0 7 hm0 (by rw [hk0]; decide)).trans hmf101
                have hmf144 : tw_fv E139 a0 9 = .ref xr51 := (hst139.1 a0 9 hm0 (by rw [hk0]; decide)).trans hmf102
                have hmf145 : tw_fv E139 a0 15 = .int zi64 := (hst139.1 a0 15 hm0 (by rw [hk0]; decide)).trans hmf103
                have hmf146 : tw_fv E139 a0 8 = .ref xr89 := (hst139.1 a0 8 hm0 (by rw [hk0]; decide)).trans hmf106
                have hg1 : gt_ok E139 a0 := gt_ok_fr TH hst139 hm0 hk0 (by decide) (by decide) hg1
                have hg3 : rg_ok E139 a0 := rg_ok_fr TH hst139 hm0 hk0 (by decide) (by decide) hg3
                have hfn6 : p6_ok E139 a0 (fun j => if j = (fv0_15.toInt).toNat then fv0_2.toInt else (tw_el E a0 6) j) := p6_ok_fr TH hst139 hm0 hk0 (by decide) (by decide) hfn6
                have hfn7 : p7_ok E139 a0 (fun j => if j = (fv0_15.toInt).toNat then zi39.toInt else (tw_el E a0 7) j) := p7_ok_fr TH hst139 hm0 hk0 (by decide) (by decide) hfn7
                have hfn9 : p9_ok E139 a0 (fun j => if j = (fv0_15.toInt).toNat then 0 else (tw_el E a0 9) j) := p9_ok_fr TH hst139 hm0 hk0 (by decide) (by decide) hfn9
                have hgn76 : gk_ok E139 a0 := gk_ok_fr TH hst139 hm0 hk0 (by decide) (by decide) hgn76
                obtain ⟨qzfxc140_0_0, hqzfxc140_0_0, hqzfxc140_0_0a, hqzfxc140_0_0b⟩ := tw_rd TH hm0 hk0 (by decide) (by decide) (k := 2) rfl
                have eqzfxc140_0_0 : qzfxc140_0_0 = zfxc140_0_0 := by have q := hqzfxc140_0_0.symm.trans hzfxc140_0_0; injection q
                rw [eqzfxc140_0_0] at hqzfxc140_0_0a hqzfxc140_0_0b
                obtain ⟨qzfxc140_0_1, hqzfxc140_0_1, hqzfxc140_0_1a, hqzfxc140_0_1b⟩ := tw_rd TH hm0 hk0 (by decide) (by decide) (k := 3) rfl
                have eqzfxc140_0_1 : qzfxc140_0_1 = zfxc140_0_1 := by have q := hqzfxc140_0_1.symm.trans hzfxc140_0_1; injection q
                rw [eqzfxc140_0_1] at hqzfxc140_0_1a hqzfxc140_0_1b
                refine W.eq (g2 := F0 m 171 ls [.int xc140]) rfl ?_
                refine lv_if_eq (tgt := 186) hx hb dX12_ruleRead_171 (by decide) (fun hc147 => ?_) (fun hc147 => ?_)
                · have hf148 : xc140.toInt = 0 := by have z := (fa_eq _ _).mp hc147; have : ((0 : Int32).toInt) = 0 := (by decide); omega
                  have hpz := (hpoxc140_0.2 (by decide)).1
                  exfalso
                  omega
                · have hf149 : ¬ (xc140.toInt = 0) := fun q => hc147 ((fa_eq _ _).mpr (by have : ((0 : Int32).toInt) = 0 := (by decide); omega))
                  have hpb := (hpoxc140_0.2 (by decide)).2
                  have htk174 : tk_at E139 a0 := tk_of TH hst139 hm0 hk0 (by decide) (by decide) (by decide) (tw_fi_of hmf99) hpb
                  have hw2 := hpb.1
                  rw [ft144, tw_fi_of hzfxc140_0_0] at hw2
                  have hs2 := hs1.1 (by omega)
                  have he1 : zfxc78_0_1.toInt = zfxc78_0_0.toInt + 1 := tk_one (c := 61) hgn84 (tw_fi_of hmf99) (tw_fi_of hmf104) (tw_fi_of hmf105) hs2.1 (by rw [ft144]; exact hs2.2) (by decide)
                  have hgy5 := gy_4e (s1 := zfxc140_0_0.toInt) hgy4 (by omega) (by omega) hs2.1 hs2.2 (lx_WS_cast (by omega) hw2)
                  have ft174 := el_fr TH hFr hm0 hk0 (k := 0) (by decide) rfl (by decide) (by decide) (by decide)
                  have h8q : it_q E139 a0 (fv0_15.toInt) = 2 := cite_pos (by rw [el_fr TH hst139 hm0 hk0 (k := 8) (by decide) rfl (by decide) (by decide) (by decide), h8])
                  have hkq : kp_ E139 a0 (fv0_15.toInt + 1) = kp_ E77 a0 (fv0_15.toInt + 1) := kp_fr TH hF93 hm0 hk0 (by decide) (by decide)
                  have hiq : ip_ E139 a0 (fv0_15.toInt + 1) = ip_ E77 a0 (fv0_15.toInt + 1) := ip_fr TH hF93 hm0 hk0 (by decide) (by decide) (by omega)
                  rw [← hkq, ← hiq] at hgy5
                  refine lv_aload_n hx hb dX12_ruleRead_174 rfl (lv_at hl 1 rfl) ?_
                  refine lv_iload_n hx hb dX12_ruleRead_175 rfl (lv_at hl 0 rfl) ?_
                  refine tw_Vc (o := a0) (ci := 12) (n := 1) (post := (fun v kq Lq Eq => (∃ x : Int32, v = some (.int x) ∧ 0 ≤ x.toInt ∧ x.toInt ≤ 1 ∧ (x.toInt = 0 → gy_all (tw_el E139 a0 0) fv0_1.toInt = -1) ∧ (x.toInt ≠ 0 → tk_at Eq a0) ∧ (x.toInt ≠ 0 → (fv0_1.toInt ≤ tw_fi Eq a0 2 → gy_all (tw_el E139 a0 0) fv0_1.toInt = gy_fin (tw_el E139 a0 0) zi64.toInt (kp_ E139 a0 zi64.toInt) (ip_ Eq a0 zi64.toInt)) ∧ (tw_fi Eq a0 2 < fv0_1.toInt → gy_at (tw_el E139 a0 0) fv0_1.toInt 0 (tw_fi Eq a0 2) zi64.toInt (kp_ E139 a0 zi64.toInt) (ip_ Eq a0 zi64.toInt))) ∧ (x.toInt = 0 → tw_fi Eq a0 4 ≠ -1) ∧ (x.toInt ≠ 0 → ∀ x : Int × Int, ip_ Eq a0 zi64.toInt x → 0 ≤ x.1 ∧ x.1 ≤ x.2 ∧ x.2 ≤ fv0_1.toInt) ∧ (∃ z0 : Int32, tw_fv Eq a0 2 = .int z0 ∧ (x.toInt ≠ 0 → zfxc140_0_0.toInt < z0.toInt)) ∧ rg_ok Eq a0) ∧ kp = kq ∧ L = Lq ∧ tw_fr kp L [(12, 2), (12, 3), (12, 4)] [305, 320, 321, 322] E139 Eq)) (As := [.int fv0_15]) (rest := []) ⟨hx, hb, hml, hown, hB⟩ (fun sz => tX12_items l D cs a0 fv0_15 zi64 fv0_1 zfxc140_0_0 hm0 hk0 (by omega) (by omega) hmf145 hmf141 hzfxc140_0_0 (by  omega) (by  have w := (hfn9 (fv0_15.toInt).toNat); rw [w]; show (if _ then _ else _) = _; exact if_pos (by omega)) (by  rw [ft174, h8q]; rw [show (zi64.toInt : Int) = fv0_15.toInt + 1 by omega]; exact hgy5) (by  intro x hx; rw [show (zi64.toInt : Int) = fv0_15.toInt + 1 by omega, hiq, hipn] at hx; exact hpre1 x hx) htk174 hg3 sz) cg_12_245_X12_items rfl rfl (by decide +kernel) ⟨Nat.le_of_ble_eq_true rfl, Nat.le_of_ble_eq_true rfl⟩ hK hN TH hS hA rfl hm0 hk0 (by decide) rfl hl.1 rfl (Nat.le_of_ble_eq_true rfl) dX12_ruleRead_176 ⟨Nat.le_of_ble_eq_true rfl, Nat.le_of_ble_eq_true rfl⟩ (fun v150 kp150 L150 E150 H locs hq150 hx150 TH hS => ?_)
                  obtain ⟨⟨xc151, rfl, hxc151a, hxc151b, hpoxc151_0, hpoxc151_1, hpoxc151_2, hpoxc151_3, hpoxc151_4, ⟨zfxc151_0_0, hzfxc151_0_0, hzpxc151_0⟩, hgpxc151_0⟩, rfl, rfl, hst150⟩ := hq150
                  have hF := hF.tr hst150 (fun _ h => ⟨h, rfl⟩) (by decide) (by decide)
                  have hmf152 : tw_fv E150 a0 1 = .int fv0_1 := (hst150.1 a0 1 hm0 (by rw [hk0]; decide)).trans hmf141
                  have hmf153 : tw_fv E150 a0 6 = .ref xr27 := (hst150.1 a0 6 hm0 (by rw [hk0]; decide)).trans hmf142
                  have hmf154 : tw_fv E150 a0 7 = .ref xr38 := (hst150.1 a0 7 hm0 (by rw [hk0]; decide)).trans hmf143
                  have hmf155 : tw_fv E150 a0 9 = .ref xr51 := (hst150.1 a0 9 hm0 (by rw [hk0]; decide)).trans hmf144
                  have hmf156 : tw_fv E150 a0 15 = .int zi64 := (hst150.1 a0 15 hm0 (by rw [hk0]; decide)).trans hmf145
                  have hmf157 : tw_fv E150 a0 8 = .ref xr89 := (hst150.1 a0 8 hm0 (by rw [hk0]; decide)).trans hmf146
                  have hg1 : gt_ok E150 a0 := gt_ok_fr TH hst150 hm0 hk0 (by decide) (by decide) hg1
                  have hfn6 : p6_ok E150 a0 (fun j => if j = (fv0_15.toInt).toNat then fv0_2.toInt else (tw_el E a0 6) j) := p6_ok_fr TH hst150 hm0 hk0 (by decide) (by decide) hfn6
                  have hfn7 : p7_ok E150 a0 (fun j => if j = (fv0_15.toInt).toNat then zi39.toInt else (tw_el E a0 7) j) := p7_ok_fr TH hst150 hm0 hk0 (by decide) (by decide) hfn7
                  have hgn76 : gk_ok E150 a0 := gk_ok_fr TH hst150 hm0 hk0 (by decide) (by decide) hgn76
                  obtain ⟨qzfxc151_0_0, hqzfxc151_0_0, hqzfxc151_0_0a, hqzfxc151_0_0b⟩ := tw_rd TH hm0 hk0 (by decide) (by decide) (k := 2) rfl
                  have eqzfxc151_0_0 : qzfxc151_0_0 = zfxc151_0_0 := by have q := hqzfxc151_0_0.symm.trans hzfxc151_0_0; injection q
                  rw [eqzfxc151_0_0] at hqzfxc151_0_0a hqzfxc151_0_0b
                  refine W.eq (g2 := F0 m 179 ls [.int xc151]) rfl ?_
                  refine lv_if_eq (tgt := 186) hx hb dX12_ruleRead_179 (by decide) (fun hc158 => ?_) (fun hc158 => ?_)
                  · have hf159 : xc151.toInt = 0 := by have z := (fa_eq _ _).mp hc158; have : ((0 : Int32).toInt) = 0 := (by decide); omega
                    have h186 := trivial
                    refine lv_iconst (v := 0) hx hb dX12_ruleRead_186 (by decide) ?_
                    exact tw_zret hx hb hr hlocks (by decide) TH hS hex ⟨⟨_, rfl, (show 0 ≤ Int32.toInt 0 from by have : ((0 : Int32).toInt) = 0 := (by decide); omega), (show Int32.toInt 0 ≤ 1 from by have : ((0 : Int32).toInt) = 0 := (by decide); omega), (by have : ((0 : Int32).toInt) = 0 := (by decide); intro _; have w := hpoxc151_0 (by omega); rw [ft174] at w; exact w), (by have : ((0 : Int32).toInt) = 0 := (by decide); intro q; exfalso; exact q (by decide)), (by have : ((0 : Int32).toInt) = 0 := (by decide); intro q; exfalso; exact q (by decide)), (by have : ((0 : Int32).toInt) = 0 := (by decide); intro _; exact hpoxc151_3 (by omega)), (by have : ((0 : Int32).toInt) = 0 := (by decide); intro q; exfalso; exact q (by decide)), (by have : ((0 : Int32).toInt) = 0 := (by decide); intro q; exfalso; exact q (by decide)), ⟨zfxc151_0_0, zi64, hzfxc151_0_0, hmf156, by have : ((0 : Int32).toInt) = 0 := (by decide); omega⟩, hgpxc151_0⟩, rfl, rfl, hF⟩ (Nat.le_of_ble_eq_true rfl) (Nat.le_of_ble_eq_true rfl) dX12_ruleRead_187
                  · have hf160 : ¬ (xc151.toInt = 0) := fun q => hc158 ((fa_eq _ _).mpr (by have : ((0 : Int32).toInt) = 0 := (by decide); omega))
                    refine lv_iconst (v := 1) hx hb dX12_ruleRead_182 (by decide) ?_
                    refine lv_goto (tgt := 187) hx hb dX12_ruleRead_183 (by decide) ?_
                    exact tw_zret hx hb hr hlocks (by decide) TH hS hex ⟨⟨_, rfl, (show 0 ≤ Int32.toInt 1 from by have : ((1 : Int32).toInt) = 1 := (by decide); omega), (show Int32.toInt 1 ≤ 1 from by have : ((1 : Int32).toInt) = 1 := (by decide); omega), (by have : ((1 : Int32).toInt) = 1 := (by decide); intro q; exact absurd q (by decide)), (by have : ((1 : Int32).toInt) = 1 := (by decide); intro _; exact hpoxc151_1 (by omega)), (by have : ((1 : Int32).toInt) = 1 := (by decide); intro _; have w := hpoxc151_2 (by omega); rw [ft174, show (zi64.toInt : Int) = fv0_15.toInt + 1 by omega] at w; rw [kp_fr TH hst150 hm0 hk0 (by decide) (by decide)]; exact w), (by have : ((1 : Int32).toInt) = 1 := (by decide); intro q; exact absurd q (by decide)), (by have : ((1 : Int32).toInt) = 1 := (by decide); intro _ x hx; have w := hpoxc151_4 (by omega); rw [show (zi64.toInt : Int) = fv0_15.toInt + 1 by omega] at w; exact w x hx), (by have : ((1 : Int32).toInt) = 1 := (by decide); intro _; exact hgn76), ⟨zfxc151_0_0, zi64, hzfxc151_0_0, hmf156, by have : ((1 : Int32).toInt) = 1 := (by decide); omega⟩, hgpxc151_0⟩, rfl, rfl, hF⟩ (Nat.le_of_ble_eq_true rfl) (Nat.le_of_ble_eq_true rfl) dX12_ruleRead_187
          · have hf161 : ¬ (xc91.toInt = 0) := fun q => hc92 ((fa_eq _ _).mpr (by have : ((0 : Int32).toInt) = 0 := (by decide); omega))
            refine lv_iconst (v := 1) hx hb dX12_ruleRead_138 (by decide) ?_
            refine lv_goto (tgt := 143) hx hb dX12_ruleRead_139 (by decide) ?_
            refine tw_iast (k := 304) (n := 10) (lo := 0) (hi := 2) hx hb hK TH hS hmxr89 hkxr89 (by decide) rfl (i := fv0_15) (x := 1) (vp_in_iff.mpr ⟨by  omega, by  omega⟩) (by have : ((1 : Int32).toInt) = 1 := (by decide); omega) (by have : ((1 : Int32).toInt) = 1 := (by decide); omega) dX12_ruleRead_143 (fun H locs E162 TH hS hp163 hp164 hp165 => ?_)
            have hst166 : tw_fr kp L [] [304] E77 E162 := tw_fr.ast tw_fr.rf (fun _ => hkxr89) hp163 hp164 (by decide)
            have hF := hF.tr hst166 (fun _ h => ⟨h, rfl⟩) (by decide) (by decide)
            have hFr := hFr.tr hst166 (fun _ h => ⟨h, rfl⟩) (by decide) (by decide)
            have hF93 := hF93.tr hst166 (fun _ h => ⟨h, rfl⟩) (by decide) (by decide)
            have hmf167 : tw_fv E162 a0 1 = .int fv0_1 := (hst166.1 a0 1 hm0 (by rw [hk0]; decide)).trans hmf79
            have hmf168 : tw_fv E162 a0 6 = .ref xr27 := (hst166.1 a0 6 hm0 (by rw [hk0]; decide)).trans hmf80
            have hmf169 : tw_fv E162 a0 7 = .ref xr38 := (hst166.1 a0 7 hm0 (by rw [hk0]; decide)).trans hmf81
            have hmf170 : tw_fv E162 a0 9 = .ref xr51 := (hst166.1 a0 9 hm0 (by rw [hk0]; decide)).trans hmf82
            have hmf171 : tw_fv E162 a0 15 = .int zi64 := (hst166.1 a0 15 hm0 (by rw [hk0]; decide)).trans hmf83
            have hmf172 : tw_fv E162 a0 2 = .int zfxc78_0_0 := (hst166.1 a0 2 hm0 (by rw [hk0]; decide)).trans hzfxc78_0_0
            have hmf173 : tw_fv E162 a0 3 = .int zfxc78_0_1 := (hst166.1 a0 3 hm0 (by rw [hk0]; decide)).trans hzfxc78_0_1
            have hmf174 : tw_fv E162 a0 8 = .ref xr89 := (hst166.1 a0 8 hm0 (by rw [hk0]; decide)).trans hxr89
            have hg1 : gt_ok E162 a0 := gt_ok_fr TH hst166 hm0 hk0 (by decide) (by decide) hg1
            have hg3 : rg_ok E162 a0 := rg_ok_fr TH hst166 hm0 hk0 (by decide) (by decide) hg3
            have hfn6 : p6_ok E162 a0 (fun j => if j = (fv0_15.toInt).toNat then fv0_2.toInt else (tw_el E a0 6) j) := p6_ok_fr TH hst166 hm0 hk0 (by decide) (by decide) hfn6
            have hfn7 : p7_ok E162 a0 (fun j => if j = (fv0_15.toInt).toNat then zi39.toInt else (tw_el E a0 7) j) := p7_ok_fr TH hst166 hm0 hk0 (by decide) (by decide) hfn7
            have hfn9 : p9_ok E162 a0 (fun j => if j = (fv0_15.toInt).toNat then 0 else (tw_el E a0 9) j) := p9_ok_fr TH hst166 hm0 hk0 (by decide) (by decide) hfn9
            have hgn76 : gk_ok E162 a0 := gk_ok_fr TH hst166 hm0 hk0 (by decide) (by decide) hgn76
            have hgn84 : tk_at E162 a0 := tk_at_fr TH hst166 hm0 hk0 (by decide) (by decide) hgn84
            have ft144 := el_fr TH hFr hm0 hk0 (k := 0) (by decide) rfl (by decide) (by decide) (by decide)
            have h8 : tw_el E162 a0 8 (fv0_15.toInt).toNat = 1 := (by have w := tw_el_st (t := a0) (f := 8) hxr89 hp163 hp164 hp165 (fv0_15.toInt).toNat; rw [if_pos ⟨rfl, rfl⟩] at w; rw [w]; decide)
            have h15k : fv0_15.toInt = fv0_15.toInt := (by omega)
            refine lv_aload_n hx hb dX12_ruleRead_144 rfl (lv_at hl 1 rfl) ?_
            refine lv_aload_n hx hb dX12_ruleRead_145 rfl (lv_at hl 1 rfl) ?_
            refine va_ldcS (q := D.2 100 1) hx hb hown hN.2.2.2.2.2.2.2 dX12_ruleRead_146 ?_
            refine tw_Vc (o := a0) (ci := 12) (n := 1) (post := (fun v kq Lq Eq => (∃ x : Int32, v = some (.int x) ∧ 0 ≤ x.toInt ∧ x.toInt ≤ 1 ∧ (x.toInt ≠ 0 ↔ lx_rs (tw_el E162 a0 0) fv0_1.toInt zfxc78_0_0.toInt zfxc78_0_1.toInt 1)) ∧ kp = kq ∧ L = Lq ∧ E162 = Eq)) (As := [.ref (D.2 100 1)]) (rest := [.ref a0]) ⟨hx, hb, hml, hown, hB⟩ (fun sz => tX12_isReserved_vL1 l D cs a0 zfxc78_0_0 zfxc78_0_1 fv0_1 hm0 hk0 hmf172 hmf173 hmf167 (by  omega) (by  omega) sz) cg_12_215_X12_isReserved rfl rfl (by decide +kernel) ⟨Nat.le_of_ble_eq_true rfl, Nat.le_of_ble_eq_true rfl⟩ hK hN TH hS hA rfl hm0 hk0 (by decide) rfl hl.1 rfl (Nat.le_of_ble_eq_true rfl) dX12_ruleRead_148 ⟨Nat.le_of_ble_eq_true rfl, Nat.le_of_ble_eq_true rfl⟩ (fun v175 kp175 L175 E175 H locs hq175 hx175 TH hS => ?_)
            obtain ⟨⟨xc176, rfl, hxc176a, hxc176b, hpoxc176_0⟩, rfl, rfl, rfl⟩ := hq175
            refine W.eq (g2 := F0 m 151 ls [.int xc176, .ref a0]) rfl ?_
            refine lv_if_ne (tgt := 163) hx hb dX12_ruleRead_151 (by decide) (fun hc177 => ?_) (fun hc177 => ?_)
            · have hf178 : ¬ (xc176.toInt = 0) := fun q => hc177 ((fa_eq _ _).mpr (by have : ((0 : Int32).toInt) = 0 := (by decide); omega))
              refine lv_iconst (v := 1) hx hb dX12_ruleRead_163 (by decide) ?_
              refine lv_goto (tgt := 168) hx hb dX12_ruleRead_164 (by decide) ?_
              have hr0 := hpoxc91_0
              rw [ft93] at hr0
              have hr1 := hpoxc176_0
              rw [ft144] at hr1
              refine tw_Vc (o := a0) (ci := 12) (n := 1) (post := (fun v kq Lq Eq => (∃ x : Int32, v = some (.int x) ∧ 0 ≤ x.toInt ∧ x.toInt ≤ 1 ∧ (((1 : Int32).toInt = 0 → x.toInt = 0 ∧ tw_fi Eq a0 4 ≠ -1) ∧ ((1 : Int32).toInt ≠ 0 → x.toInt = 1 ∧ lx_WS (tw_el E162 a0 0) fv0_1.toInt zfxc78_0_1.toInt (tw_fi Eq a0 2) ∧ lx_TK (tw_el E162 a0 0) fv0_1.toInt (tw_fi Eq a0 2) (tw_fi Eq a0 3))) ∧ (∃ z0 z1 : Int32, tw_fv Eq a0 2 = .int z0 ∧ tw_fv Eq a0 3 = .int z1 ∧ (z0.toInt ≤ z1.toInt ∧ z1.toInt ≤ fv0_1.toInt ∧ (x.toInt ≠ 0 → zfxc78_0_1.toInt ≤ z0.toInt) ∧ (x.toInt = 0 → z0.toInt = zfxc78_0_0.toInt)))) ∧ kp = kq ∧ L = Lq ∧ tw_fr kp L [(12, 2), (12, 3), (12, 4)] [] E162 Eq)) (As := [.int 1]) (rest := []) ⟨hx, hb, hml, hown, hB⟩ (fun sz => tX12_passes_vL l D cs a0 (1 : Int32) zfxc78_0_0 zfxc78_0_1 fv0_1 hm0 hk0 (by have : ((1 : Int32).toInt) = 1 := (by decide); omega) (by have : ((1 : Int32).toInt) = 1 := (by decide); omega) hmf172 hmf173 hmf167 (by have : ((1 : Int32).toInt) = 1 := (by decide); omega) (by have : ((1 : Int32).toInt) = 1 := (by decide); omega) (by have : ((1 : Int32).toInt) = 1 := (by decide); omega) sz) cg_12_237_X12_passes rfl rfl (by decide +kernel) ⟨Nat.le_of_ble_eq_true rfl, Nat.le_of_ble_eq_true rfl⟩ hK hN TH hS hA rfl hm0 hk0 (by decide) rfl hl.1 rfl (Nat.le_of_ble_eq_true rfl) dX12_ruleRead_168 ⟨Nat.le_of_ble_eq_true rfl, Nat.le_of_ble_eq_true rfl⟩ (fun v179 kp179 L179 E179 H locs hq179 hx179 TH hS => ?_)
              obtain ⟨⟨xc180, rfl, hxc180a, hxc180b, hpoxc180_0, ⟨zfxc180_0_0, zfxc180_0_1, hzfxc180_0_0, hzfxc180_0_1, hzpxc180_0⟩⟩, rfl, rfl, hst179⟩ := hq179
              have hF := hF.tr hst179 (fun _ h => ⟨h, rfl⟩) (by decide) (by decide)
              have hFr := hFr.tr hst179 (fun _ h => ⟨h, rfl⟩) (by decide) (by decide)
              have hF93 := hF93.tr hst179 (fun _ h => ⟨h, rfl⟩) (by decide) (by decide)
              have hmf181 : tw_fv E179 a0 1 = .int fv0_1 := (hst179.1 a0 1 hm0 (by rw [hk0]; decide)).trans hmf167
              have hmf182 : tw_fv E179 a0 6 = .ref xr27 := (hst179.1 a0 6 hm0 (by rw [hk0]; decide)).trans hmf168
              have hmf183 : tw_fv E179 a0 7 = .ref xr38 := (hst179.1 a0 7 hm0 (by rw [hk0]; decide)).trans hmf169
              have hmf184 : tw_fv E179 a0 9 = .ref xr51 := (hst179.1 a0 9 hm0 (by rw [hk0]; decide)).trans hmf170
              have hmf185 : tw_fv E179 a0 15 = .int zi64 := (hst179.1 a0 15 hm0 (by rw [hk0]; decide)).trans hmf171
              have hmf186 : tw_fv E179 a0 8 = .ref xr89 := (hst179.1 a0 8 hm0 (by rw [hk0]; decide)).trans hmf174
              have hg1 : gt_ok E179 a0 := gt_ok_fr TH hst179 hm0 hk0 (by decide) (by decide) hg1
              have hg3 : rg_ok E179 a0 := rg_ok_fr TH hst179 hm0 hk0 (by decide) (by decide) hg3
              have hfn6 : p6_ok E179 a0 (fun j => if j = (fv0_15.toInt).toNat then fv0_2.toInt else (tw_el E a0 6) j) := p6_ok_fr TH hst179 hm0 hk0 (by decide) (by decide) hfn6
              have hfn7 : p7_ok E179 a0 (fun j => if j = (fv0_15.toInt).toNat then zi39.toInt else (tw_el E a0 7) j) := p7_ok_fr TH hst179 hm0 hk0 (by decide) (by decide) hfn7
              have hfn9 : p9_ok E179 a0 (fun j => if j = (fv0_15.toInt).toNat then 0 else (tw_el E a0 9) j) := p9_ok_fr TH hst179 hm0 hk0 (by decide) (by decide) hfn9
              have hgn76 : gk_ok E179 a0 := gk_ok_fr TH hst179 hm0 hk0 (by decide) (by decide) hgn76
              obtain ⟨qzfxc180_0_0, hqzfxc180_0_0, hqzfxc180_0_0a, hqzfxc180_0_0b⟩ := tw_rd TH hm0 hk0 (by decide) (by decide) (k := 2) rfl
              have eqzfxc180_0_0 : qzfxc180_0_0 = zfxc180_0_0 := by have q := hqzfxc180_0_0.symm.trans hzfxc180_0_0; injection q
              rw [eqzfxc180_0_0] at hqzfxc180_0_0a hqzfxc180_0_0b
              obtain ⟨qzfxc180_0_1, hqzfxc180_0_1, hqzfxc180_0_1a, hqzfxc180_0_1b⟩ := tw_rd TH hm0 hk0 (by decide) (by decide) (k := 3) rfl
              have eqzfxc180_0_1 : qzfxc180_0_1 = zfxc180_0_1 := by have q := hqzfxc180_0_1.symm.trans hzfxc180_0_1; injection q
              rw [eqzfxc180_0_1] at hqzfxc180_0_1a hqzfxc180_0_1b
              refine W.eq (g2 := F0 m 171 ls [.int xc180]) rfl ?_
              refine lv_if_eq (tgt := 186) hx hb dX12_ruleRead_171 (by decide) (fun hc187 => ?_) (fun hc187 => ?_)
              · have hf188 : xc180.toInt = 0 := by have z := (fa_eq _ _).mp hc187; have : ((0 : Int32).toInt) = 0 := (by decide); omega
                have hpz := (hpoxc180_0.2 (by decide)).1
                exfalso
                omega
              · have hf189 : ¬ (xc180.toInt = 0) := fun q => hc187 ((fa_eq _ _).mpr (by have : ((0 : Int32).toInt) = 0 := (by decide); omega))
                have hpb := (hpoxc180_0.2 (by decide)).2
                have htk174 : tk_at E179 a0 := tk_of TH hst179 hm0 hk0 (by decide) (by decide) (by decide) (tw_fi_of hmf167) hpb
                have hw2 := hpb.1
                rw [ft144, tw_fi_of hzfxc180_0_0] at hw2
                have hgy5 := gy_4s hgy4 htk1 (by omega) (by omega) (by have z := (hr1.1 (by omega)).1; omega) (rs_le1 (hr1.1 (by omega))) hrs0 (hr1.1 (by omega)) hw2
                have ft174 := el_fr TH hFr hm0 hk0 (k := 0) (by decide) rfl (by decide) (by decide) (by decide)
                have h8q : it_q E179 a0 (fv0_15.toInt) = 1 := cite_neg (by rw [el_fr TH hst179 hm0 hk0 (k := 8) (by decide) rfl (by decide) (by decide) (by decide), h8]; decide)
                have hkq : kp_ E179 a0 (fv0_15.toInt + 1) = kp_ E77 a0 (fv0_15.toInt + 1) := kp_fr TH hF93 hm0 hk0 (by decide) (by decide)
                have hiq : ip_ E179 a0 (fv0_15.toInt + 1) = ip_ E77 a0 (fv0_15.toInt + 1) := ip_fr TH hF93 hm0 hk0 (by decide) (by decide) (by omega)
                rw [← hkq, ← hiq] at hgy5
                refine lv_aload_n hx hb dX12_ruleRead_174 rfl (lv_at hl 1 rfl) ?_
                refine lv_iload_n hx hb dX12_ruleRead_175 rfl (lv_at hl 0 rfl) ?_
                refine tw_Vc (o := a0) (ci := 12) (n := 1) (post := (fun v kq Lq Eq => (∃ x : Int32, v = some (.int x) ∧ 0 ≤ x.toInt ∧ x.toInt ≤ 1 ∧ (x.toInt = 0 → gy_all (tw_el E179 a0 0) fv0_1.toInt = -1) ∧ (x.toInt ≠ 0 → tk_at Eq a0) ∧ (x.toInt ≠ 0 → (fv0_1.toInt ≤ tw_fi Eq a0 2 → gy_all (tw_el E179 a0 0) fv0_1.toInt = gy_fin (tw_el E179 a0 0) zi64.toInt (kp_ E179 a0 zi64.toInt) (ip_ Eq a0 zi64.toInt)) ∧ (tw_fi Eq a0 2 < fv0_1.toInt → gy_at (tw_el E179 a0 0) fv0_1.toInt 0 (tw_fi Eq a0 2) zi64.toInt (kp_ E179 a0 zi64.toInt) (ip_ Eq a0 zi64.toInt))) ∧ (x.toInt = 0 → tw_fi Eq a0 4 ≠ -1) ∧ (x.toInt ≠ 0 → ∀ x : Int × Int, ip_ Eq a0 zi64.toInt x → 0 ≤ x.1 ∧ x.1 ≤ x.2 ∧ x.2 ≤ fv0_1.toInt) ∧ (∃ z0 : Int32, tw_fv Eq a0 2 = .int z0 ∧ (x.toInt ≠ 0 → zfxc180_0_0.toInt < z0.toInt)) ∧ rg_ok Eq a0) ∧ kp = kq ∧ L = Lq ∧ tw_fr kp L [(12, 2), (12, 3), (12, 4)] [305, 320, 321, 322] E179 Eq)) (As := [.int fv0_15]) (rest := []) ⟨hx, hb, hml, hown, hB⟩ (fun sz => tX12_items l D cs a0 fv0_15 zi64 fv0_1 zfxc180_0_0 hm0 hk0 (by omega) (by omega) hmf185 hmf181 hzfxc180_0_0 (by  omega) (by  have w := (hfn9 (fv0_15.toInt).toNat); rw [w]; show (if _ then _ else _) = _; exact if_pos (by omega)) (by  rw [ft174, h8q]; rw [show (zi64.toInt : Int) = fv0_15.toInt + 1 by omega]; exact hgy5) (by  intro x hx; rw [show (zi64.toInt : Int) = fv0_15.toInt + 1 by omega, hiq, hipn] at hx; exact hpre1 x hx) htk174 hg3 sz) cg_12_245_X12_items rfl rfl (by decide +kernel) ⟨Nat.le_of_ble_eq_true rfl, Nat.le_of_ble_eq_true rfl⟩ hK hN TH hS hA rfl hm0 hk0 (by decide) rfl hl.1 rfl (Nat.le_of_ble_eq_true rfl) dX12_ruleRead_176 ⟨Nat.le_of_ble_eq_true rfl, Nat.le_of_ble_eq_true rfl⟩ (fun v190 kp190 L190 E190 H locs hq190 hx190 TH hS => ?_)
                obtain ⟨⟨xc191, rfl, hxc191a, hxc191b, hpoxc191_0, hpoxc191_1, hpoxc191_2, hpoxc191_3, hpoxc191_4, ⟨zfxc191_0_0, hzfxc191_0_0, hzpxc191_0⟩, hgpxc191_0⟩, rfl, rfl, hst190⟩ := hq190
                have hF := hF.tr hst190 (fun _ h => ⟨h, rfl⟩) (by decide) (by decide)
                have hmf192 : tw_fv E190 a0 1 = .int fv0_1 := (hst190.1 a0 1 hm0 (by rw [hk0]; decide)).trans hmf181
                have hmf193 : tw_fv E190 a0 6 = .ref xr27 := (hst190.1 a0 6 hm0 (by rw [hk0]; decide)).trans hmf182
                have hmf194 : tw_fv E190 a0 7 = .ref xr38 := (hst190.1 a0 7 hm0 (by rw [hk0]; decide)).trans hmf183
                have hmf195 : tw_fv E190 a0 9 = .ref xr51 := (hst190.1 a0 9 hm0 (by rw [hk0]; decide)).trans hmf184
                have hmf196 : tw_fv E190 a0 15 = .int zi64 := (hst190.1 a0 15 hm0 (by rw [hk0]; decide)).trans hmf185
                have hmf197 : tw_fv E190 a0 8 = .ref xr89 := (hst190.1 a0 8 hm0 (by rw [hk0]; decide)).trans hmf186
                have hg1 : gt_ok E190 a0 := gt_ok_fr TH hst190 hm0 hk0 (by decide) (by decide) hg1
                have hfn6 : p6_ok E190 a0 (fun j => if j = (fv0_15.toInt).toNat then fv0_2.toInt else (tw_el E a0 6) j) := p6_ok_fr TH hst190 hm0 hk0 (by decide) (by decide) hfn6
                have hfn7 : p7_ok E190 a0 (fun j => if j = (fv0_15.toInt).toNat then zi39.toInt else (tw_el E a0 7) j) := p7_ok_fr TH hst190 hm0 hk0 (by decide) (by decide) hfn7
                have hgn76 : gk_ok E190 a0 := gk_ok_fr TH hst190 hm0 hk0 (by decide) (by decide) hgn76
                obtain ⟨qzfxc191_0_0, hqzfxc191_0_0, hqzfxc191_0_0a, hqzfxc191_0_0b⟩ := tw_rd TH hm0 hk0 (by decide) (by decide) (k := 2) rfl
                have eqzfxc191_0_0 : qzfxc191_0_0 = zfxc191_0_0 := by have q := hqzfxc191_0_0.symm.trans hzfxc191_0_0; injection q
                rw [eqzfxc191_0_0] at hqzfxc191_0_0a hqzfxc191_0_0b
                refine W.eq (g2 := F0 m 179 ls [.int xc191]) rfl ?_
                refine lv_if_eq (tgt := 186) hx hb dX12_ruleRead_179 (by decide) (fun hc198 => ?_) (fun hc198 => ?_)
                · have hf199 : xc191.toInt = 0 := by have z := (fa_eq _ _).mp hc198; have : ((0 : Int32).toInt) = 0 := (by decide); omega
                  have h186 := trivial
                  refine lv_iconst (v := 0) hx hb dX12_ruleRead_186 (by decide) ?_
                  exact tw_zret hx hb hr hlocks (by decide) TH hS hex ⟨⟨_, rfl, (show 0 ≤ Int32.toInt 0 from by have : ((0 : Int32).toInt) = 0 := (by decide); omega), (show Int32.toInt 0 ≤ 1 from by have : ((0 : Int32).toInt) = 0 := (by decide); omega), (by have : ((0 : Int32).toInt) = 0 := (by decide); intro _; have w := hpoxc191_0 (by omega); rw [ft174] at w; exact w), (by have : ((0 : Int32).toInt) = 0 := (by decide); intro q; exfalso; exact q (by decide)), (by have : ((0 : Int32).toInt) = 0 := (by decide); intro q; exfalso; exact q (by decide)), (by have : ((0 : Int32).toInt) = 0 := (by decide); intro _; exact hpoxc191_3 (by omega)), (by have : ((0 : Int32).toInt) = 0 := (by decide); intro q; exfalso; exact q (by decide)), (by have : ((0 : Int32).toInt) = 0 := (by decide); intro q; exfalso; exact q (by decide)), ⟨zfxc191_0_0, zi64, hzfxc191_0_0, hmf196, by have : ((0 : Int32).toInt) = 0 := (by decide); omega⟩, hgpxc191_0⟩, rfl, rfl, hF⟩ (Nat.le_of_ble_eq_true rfl) (Nat.le_of_ble_eq_true rfl) dX12_ruleRead_187
                · have hf200 : ¬ (xc191.toInt = 0) := fun q => hc198 ((fa_eq _ _).mpr (by have : ((0 : Int32).toInt) = 0 := (by decide); omega))
                  refine lv_iconst (v := 1) hx hb dX12_ruleRead_182 (by decide) ?_
                  refine lv_goto (tgt := 187) hx hb dX12_ruleRead_183 (by decide) ?_
                  exact tw_zret hx hb hr hlocks (by decide) TH hS hex ⟨⟨_, rfl, (show 0 ≤ Int32.toInt 1 from by have : ((1 : Int32).toInt) = 1 := (by decide); omega), (show Int32.toInt 1 ≤ 1 from by have : ((1 : Int32).toInt) = 1 := (by decide); omega), (by have : ((1 : Int32).toInt) = 1 := (by decide); intro q; exact absurd q (by decide)), (by have : ((1 : Int32).toInt) = 1 := (by decide); intro _; exact hpoxc191_1 (by omega)), (by have : ((1 : Int32).toInt) = 1 := (by decide); intro _; have w := hpoxc191_2 (by omega); rw [ft174, show (zi64.toInt : Int) = fv0_15.toInt + 1 by omega] at w; rw [kp_fr TH hst190 hm0 hk0 (by decide) (by decide)]; exact w), (by have : ((1 : Int32).toInt) = 1 := (by decide); intro q; exact absurd q (by decide)), (by have : ((1 : Int32).toInt) = 1 := (by decide); intro _ x hx; have w := hpoxc191_4 (by omega); rw [show (zi64.toInt : Int) = fv0_15.toInt + 1 by omega] at w; exact w x hx), (by have : ((1 : Int32).toInt) = 1 := (by decide); intro _; exact hgn76), ⟨zfxc191_0_0, zi64, hzfxc191_0_0, hmf196, by have : ((1 : Int32).toInt) = 1 := (by decide); omega⟩, hgpxc191_0⟩, rfl, rfl, hF⟩ (Nat.le_of_ble_eq_true rfl) (Nat.le_of_ble_eq_true rfl) dX12_ruleRead_187
            · have hf201 : xc176.toInt = 0 := by have z := (fa_eq _ _).mp hc177; have : ((0 : Int32).toInt) = 0 := (by decide); omega
              refine lv_aload_n hx hb dX12_ruleRead_154 rfl (lv_at hl 1 rfl) ?_
              refine lv_bipush (v := 61) hx hb dX12_ruleRead_155 (by decide) ?_
              refine tw_Vc (o := a0) (ci := 12) (n := 1) (post := (fun v kq Lq Eq => (∃ x : Int32, v = some (.int x) ∧ 0 ≤ x.toInt ∧ x.toInt ≤ 1 ∧ (x.toInt ≠ 0 ↔ (zfxc78_0_0.toInt < fv0_1.toInt ∧ tw_el E162 a0 0 (zfxc78_0_0.toInt).toNat = (61 : Int32).toInt))) ∧ kp = kq ∧ L = Lq ∧ E162 = Eq)) (As := [.int 61]) (rest := [.ref a0]) ⟨hx, hb, hml, hown, hB⟩ (fun sz => tX12_isSign_vL l D cs a0 (61 : Int32) zfxc78_0_0 fv0_1 hm0 hk0 hmf172 hmf167 sz) cg_12_221_X12_isSign rfl rfl (by decide +kernel) ⟨Nat.le_of_ble_eq_true rfl, Nat.le_of_ble_eq_true rfl⟩ hK hN TH hS hA rfl hm0 hk0 (by decide) rfl hl.1 rfl (Nat.le_of_ble_eq_true rfl) dX12_ruleRead_157 ⟨Nat.le_of_ble_eq_true rfl, Nat.le_of_ble_eq_true rfl⟩ (fun v202 kp202 L202 E202 H locs hq202 hx202 TH hS => ?_)
              obtain ⟨⟨xc203, rfl, hxc203a, hxc203b, hpoxc203_0⟩, rfl, rfl, rfl⟩ := hq202
              refine W.eq (g2 := F0 m 160 ls [.int xc203, .ref a0]) rfl ?_
              refine lv_if_eq (tgt := 167) hx hb dX12_ruleRead_160 (by decide) (fun hc204 => ?_) (fun hc204 => ?_)
              · have hf205 : xc203.toInt = 0 := by have z := (fa_eq _ _).mp hc204; have : ((0 : Int32).toInt) = 0 := (by decide); omega
                refine lv_iconst (v := 0) hx hb dX12_ruleRead_167 (by decide) ?_
                have hr0 := hpoxc91_0
                rw [ft93] at hr0
                have hr1 := hpoxc176_0
                rw [ft144] at hr1
                have hs1 := hpoxc203_0
                rw [ft144] at hs1
                refine tw_Vc (o := a0) (ci := 12) (n := 1) (post := (fun v kq Lq Eq => (∃ x : Int32, v = some (.int x) ∧ 0 ≤ x.toInt ∧ x.toInt ≤ 1 ∧ (((0 : Int32).toInt = 0 → x.toInt = 0 ∧ tw_fi Eq a0 4 ≠ -1) ∧ ((0 : Int32).toInt ≠ 0 → x.toInt = 1 ∧ lx_WS (tw_el E162 a0 0) fv0_1.toInt zfxc78_0_1.toInt (tw_fi Eq a0 2) ∧ lx_TK (tw_el E162 a0 0) fv0_1.toInt (tw_fi Eq a0 2) (tw_fi Eq a0 3))) ∧ (∃ z0 z1 : Int32, tw_fv Eq a0 2 = .int z0 ∧ tw_fv Eq a0 3 = .int z1 ∧ (z0.toInt ≤ z1.toInt ∧ z1.toInt ≤ fv0_1.toInt ∧ (x.toInt ≠ 0 → zfxc78_0_1.toInt ≤ z0.toInt) ∧ (x.toInt = 0 → z0.toInt = zfxc78_0_0.toInt)))) ∧ kp = kq ∧ L = Lq ∧ tw_fr kp L [(12, 2), (12, 3), (12, 4)] [] E162 Eq)) (As := [.int 0]) (rest := []) ⟨hx, hb, hml, hown, hB⟩ (fun sz => tX12_passes_vL l D cs a0 (0 : Int32) zfxc78_0_0 zfxc78_0_1 fv0_1 hm0 hk0 (by have : ((0 : Int32).toInt) = 0 := (by decide); omega) (by have : ((0 : Int32).toInt) = 0 := (by decide); omega) hmf172 hmf173 hmf167 (by have : ((0 : Int32).toInt) = 0 := (by decide); omega) (by have : ((0 : Int32).toInt) = 0 := (by decide); omega) (by have : ((0 : Int32).toInt) = 0 := (by decide); omega) sz) cg_12_237_X12_passes rfl rfl (by decide +kernel) ⟨Nat.le_of_ble_eq_true rfl, Nat.le_of_ble_eq_true rfl⟩ hK hN TH hS hA rfl hm0 hk0 (by decide) rfl hl.1 rfl (Nat.le_of_ble_eq_true rfl) dX12_ruleRead_168 ⟨Nat.le_of_ble_eq_true rfl, Nat.le_of_ble_eq_true rfl⟩ (fun v206 kp206 L206 E206 H locs hq206 hx206 TH hS => ?_)
                obtain ⟨⟨xc207, rfl, hxc207a, hxc207b, hpoxc207_0, ⟨zfxc207_0_0, zfxc207_0_1, hzfxc207_0_0, hzfxc207_0_1, hzpxc207_0⟩⟩, rfl, rfl, hst206⟩ := hq206
                have hF := hF.tr hst206 (fun _ h => ⟨h, rfl⟩) (by decide) (by decide)
                have hFr := hFr.tr hst206 (fun _ h => ⟨h, rfl⟩) (by decide) (by decide)
                have hF93 := hF93.tr hst206 (fun _ h => ⟨h, rfl⟩) (by decide) (by decide)
                have hmf208 : tw_fv E206 a0 1 = .int fv0_1 := (hst206.1 a0 1 hm0 (by rw [hk0]; decide)).trans hmf167
                have hmf209 : tw_fv E206 a0 6 = .ref xr27 := (hst206.1 a0 6 hm0 (by rw [hk0]; decide)).trans hmf168
                have hmf210 : tw_fv E206 a0 7 = .ref xr38 := (hst206.1 a0 7 hm0 (by rw [hk0]; decide)).trans hmf169
                have hmf211 : tw_fv E206 a0 9 = .ref xr51 := (hst206.1 a0 9 hm0 (by rw [hk0]; decide)).trans hmf170
                have hmf212 : tw_fv E206 a0 15 = .int zi64 := (hst206.1 a0 15 hm0 (by rw [hk0]; decide)).trans hmf171
                have hmf213 : tw_fv E206 a0 8 = .ref xr89 := (hst206.1 a0 8 hm0 (by rw [hk0]; decide)).trans hmf174
                have hg1 : gt_ok E206 a0 := gt_ok_fr TH hst206 hm0 hk0 (by decide) (by decide) hg1
                have hg3 : rg_ok E206 a0 := rg_ok_fr TH hst206 hm0 hk0 (by decide) (by decide) hg3
                have hfn6 : p6_ok E206 a0 (fun j => if j = (fv0_15.toInt).toNat then fv0_2.toInt else (tw_el E a0 6) j) := p6_ok_fr TH hst206 hm0 hk0 (by decide) (by decide) hfn6
                have hfn7 : p7_ok E206 a0 (fun j => if j = (fv0_15.toInt).toNat then zi39.toInt else (tw_el E a0 7) j) := p7_ok_fr TH hst206 hm0 hk0 (by decide) (by decide) hfn7
                have hfn9 : p9_ok E206 a0 (fun j => if j = (fv0_15.toInt).toNat then 0 else (tw_el E a0 9) j) := p9_ok_fr TH hst206 hm0 hk0 (by decide) (by decide) hfn9
                have hgn76 : gk_ok E206 a0 := gk_ok_fr TH hst206 hm0 hk0 (by decide) (by decide) hgn76
                obtain ⟨qzfxc207_0_0, hqzfxc207_0_0, hqzfxc207_0_0a, hqzfxc207_0_0b⟩ := tw_rd TH hm0 hk0 (by decide) (by decide) (k := 2) rfl
                have eqzfxc207_0_0 : qzfxc207_0_0 = zfxc207_0_0 := by have q := hqzfxc207_0_0.symm.trans hzfxc207_0_0; injection q
                rw [eqzfxc207_0_0] at hqzfxc207_0_0a hqzfxc207_0_0b
                obtain ⟨qzfxc207_0_1, hqzfxc207_0_1, hqzfxc207_0_1a, hqzfxc207_0_1b⟩ := tw_rd TH hm0 hk0 (by decide) (by decide) (k := 3) rfl
                have eqzfxc207_0_1 : qzfxc207_0_1 = zfxc207_0_1 := by have q := hqzfxc207_0_1.symm.trans hzfxc207_0_1; injection q
                rw [eqzfxc207_0_1] at hqzfxc207_0_1a hqzfxc207_0_1b
                refine W.eq (g2 := F0 m 171 ls [.int xc207]) rfl ?_
                refine lv_if_eq (tgt := 186) hx hb dX12_ruleRead_171 (by decide) (fun hc214 => ?_) (fun hc214 => ?_)
                · have hf215 : xc207.toInt = 0 := by have z := (fa_eq _ _).mp hc214; have : ((0 : Int32).toInt) = 0 := (by decide); omega
                  have h186 := trivial
                  refine lv_iconst (v := 0) hx hb dX12_ruleRead_186 (by decide) ?_
                  exact tw_zret hx hb hr hlocks (by decide) TH hS hex ⟨⟨_, rfl, (show 0 ≤ Int32.toInt 0 from by have : ((0 : Int32).toInt) = 0 := (by decide); omega), (show Int32.toInt 0 ≤ 1 from by have : ((0 : Int32).toInt) = 0 := (by decide); omega), (by have : ((0 : Int32).toInt) = 0 := (by decide); intro _; exact gy_4f hgy4 htk1 (by omega) (by omega) (fun _ _ => ⟨hrs0, (fun z => (by have w := hr1.2 z; omega))⟩) (fun z => (by have w := hs1.2 z; omega))), (by have : ((0 : Int32).toInt) = 0 := (by decide); intro q; exfalso; exact q (by decide)), (by have : ((0 : Int32).toInt) = 0 := (by decide); intro q; exfalso; exact q (by decide)), (by have : ((0 : Int32).toInt) = 0 := (by decide); intro _; exact (hpoxc207_0.1 (by decide)).2), (by have : ((0 : Int32).toInt) = 0 := (by decide); intro q; exfalso; exact q (by decide)), (by have : ((0 : Int32).toInt) = 0 := (by decide); intro q; exfalso; exact q (by decide)), ⟨zfxc207_0_0, zi64, hzfxc207_0_0, hmf212, by have : ((0 : Int32).toInt) = 0 := (by decide); omega⟩, hg3⟩, rfl, rfl, hF⟩ (Nat.le_of_ble_eq_true rfl) (Nat.le_of_ble_eq_true rfl) dX12_ruleRead_187
                · have hf216 : ¬ (xc207.toInt = 0) := fun q => hc214 ((fa_eq _ _).mpr (by have : ((0 : Int32).toInt) = 0 := (by decide); omega))
                  have hpz := (hpoxc207_0.1 (by decide)).1
                  exfalso
                  omega
              · have hf217 : ¬ (xc203.toInt = 0) := fun q => hc204 ((fa_eq _ _).mpr (by have : ((0 : Int32).toInt) = 0 := (by decide); omega))
                refine lv_iconst (v := 1) hx hb dX12_ruleRead_163 (by decide) ?_
                refine lv_goto (tgt := 168) hx hb dX12_ruleRead_164 (by decide) ?_
                have hr0 := hpoxc91_0
                rw [ft93] at hr0
                have hr1 := hpoxc176_0
                rw [ft144] at hr1
                have hs1 := hpoxc203_0
                rw [ft144] at hs1
                refine tw_Vc (o := a0) (ci := 12) (n := 1) (post := (fun v kq Lq Eq => (∃ x : Int32, v = some (.int x) ∧ 0 ≤ x.toInt ∧ x.toInt ≤ 1 ∧ (((1 : Int32).toInt = 0 → x.toInt = 0 ∧ tw_fi Eq a0 4 ≠ -1) ∧ ((1 : Int32).toInt ≠ 0 → x.toInt = 1 ∧ lx_WS (tw_el E162 a0 0) fv0_1.toInt zfxc78_0_1.toInt (tw_fi Eq a0 2) ∧ lx_TK (tw_el E162 a0 0) fv0_1.toInt (tw_fi Eq a0 2) (tw_fi Eq a0 3))) ∧ (∃ z0 z1 : Int32, tw_fv Eq a0 2 = .int z0 ∧ tw_fv Eq a0 3 = .int z1 ∧ (z0.toInt ≤ z1.toInt ∧ z1.toInt ≤ fv0_1.toInt ∧ (x.toInt ≠ 0 → zfxc78_0_1.toInt ≤ z0.toInt) ∧ (x.toInt = 0 → z0.toInt = zfxc78_0_0.toInt)))) ∧ kp = kq ∧ L = Lq ∧ tw_fr kp L [(12, 2), (12, 3), (12, 4)] [] E162 Eq)) (As := [.int 1]) (rest := []) ⟨hx, hb, hml, hown, hB⟩ (fun sz => tX12_passes_vL l D cs a0 (1 : Int32) zfxc78_0_0 zfxc78_0_1 fv0_1 hm0 hk0 (by have : ((1 : Int32).toInt) = 1 := (by decide); omega) (by have : ((1 : Int32).toInt) = 1 := (by decide); omega) hmf172 hmf173 hmf167 (by have : ((1 : Int32).toInt) = 1 := (by decide); omega) (by have : ((1 : Int32).toInt) = 1 := (by decide); omega) (by have : ((1 : Int32).toInt) = 1 := (by decide); omega) sz) cg_12_237_X12_passes rfl rfl (by decide +kernel) ⟨Nat.le_of_ble_eq_true rfl, Nat.le_of_ble_eq_true rfl⟩ hK hN TH hS hA rfl hm0 hk0 (by decide) rfl hl.1 rfl (Nat.le_of_ble_eq_true rfl) dX12_ruleRead_168 ⟨Nat.le_of_ble_eq_true rfl, Nat.le_of_ble_eq_true rfl⟩ (fun v218 kp218 L218 E218 H locs hq218 hx218 TH hS => ?_)
                obtain ⟨⟨xc219, rfl, hxc219a, hxc219b, hpoxc219_0, ⟨zfxc219_0_0, zfxc219_0_1, hzfxc219_0_0, hzfxc219_0_1, hzpxc219_0⟩⟩, rfl, rfl, hst218⟩ := hq218
                have hF := hF.tr hst218 (fun _ h => ⟨h, rfl⟩) (by decide) (by decide)
                have hFr := hFr.tr hst218 (fun _ h => ⟨h, rfl⟩) (by decide) (by decide)
                have hF93 := hF93.tr hst218 (fun _ h => ⟨h, rfl⟩) (by decide) (by decide)
                have hmf220 : tw_fv E218 a0 1 = .int fv0_1 := (hst218.1 a0 1 hm0 (by rw [hk0]; decide)).trans hmf167
                have hmf221 : tw_fv E218 a0 6 = .ref xr27 := (hst218.1 a0 6 hm0 (by rw [hk0]; decide)).trans hmf168
                have hmf222 : tw_fv E218 a0 7 = .ref xr38 := (hst218.1 a0 7 hm0 (by rw [hk0]; decide)).trans hmf169
                have hmf223 : tw_fv E218 a0 9 = .ref xr51 := (hst218.1 a0 9 hm0 (by rw [hk0]; decide)).trans hmf170
                have hmf224 : tw_fv E218 a0 15 = .int zi64 := (hst218.1 a0 15 hm0 (by rw [hk0]; decide)).trans hmf171
                have hmf225 : tw_fv E218 a0 8 = .ref xr89 := (hst218.1 a0 8 hm0 (by rw [hk0]; decide)).trans hmf174
                have hg1 : gt_ok E218 a0 := gt_ok_fr TH hst218 hm0 hk0 (by decide) (by decide) hg1
                have hg3 : rg_ok E218 a0 := rg_ok_fr TH hst218 hm0 hk0 (by decide) (by decide) hg3
                have hfn6 : p6_ok E218 a0 (fun j => if j = (fv0_15.toInt).toNat then fv0_2.toInt else (tw_el E a0 6) j) := p6_ok_fr TH hst218 hm0 hk0 (by decide) (by decide) hfn6
                have hfn7 : p7_ok E218 a0 (fun j => if j = (fv0_15.toInt).toNat then zi39.toInt else (tw_el E a0 7) j) := p7_ok_fr TH hst218 hm0 hk0 (by decide) (by decide) hfn7
                have hfn9 : p9_ok E218 a0 (fun j => if j = (fv0_15.toInt).toNat then 0 else (tw_el E a0 9) j) := p9_ok_fr TH hst218 hm0 hk0 (by decide) (by decide) hfn9
                have hgn76 : gk_ok E218 a0 := gk_ok_fr TH hst218 hm0 hk0 (by decide) (by decide) hgn76
                obtain ⟨qzfxc219_0_0, hqzfxc219_0_0, hqzfxc219_0_0a, hqzfxc219_0_0b⟩ := tw_rd TH hm0 hk0 (by decide) (by decide) (k := 2) rfl
                have eqzfxc219_0_0 : qzfxc219_0_0 = zfxc219_0_0 := by have q := hqzfxc219_0_0.symm.trans hzfxc219_0_0; injection q
                rw [eqzfxc219_0_0] at hqzfxc219_0_0a hqzfxc219_0_0b
                obtain ⟨qzfxc219_0_1, hqzfxc219_0_1, hqzfxc219_0_1a, hqzfxc219_0_1b⟩ := tw_rd TH hm0 hk0 (by decide) (by decide) (k := 3) rfl
                have eqzfxc219_0_1 : qzfxc219_0_1 = zfxc219_0_1 := by have q := hqzfxc219_0_1.symm.trans hzfxc219_0_1; injection q
                rw [eqzfxc219_0_1] at hqzfxc219_0_1a hqzfxc219_0_1b
                refine W.eq (g2 := F0 m 171 ls [.int xc219]) rfl ?_
                refine lv_if_eq (tgt := 186) hx hb dX12_ruleRead_171 (by decide) (fun hc226 => ?_) (fun hc226 => ?_)
                · have hf227 : xc219.toInt = 0 := by have z := (fa_eq _ _).mp hc226; have : ((0 : Int32).toInt) = 0 := (by decide); omega
                  have hpz := (hpoxc219_0.2 (by decide)).1
                  exfalso
                  omega
                · have hf228 : ¬ (xc219.toInt = 0) := fun q => hc226 ((fa_eq _ _).mpr (by have : ((0 : Int32).toInt) = 0 := (by decide); omega))
                  exfalso
                  have za := hr0.1 (by omega)
                  have zb := hr1.2 za
                  omega
        · have hf229 : ¬ (xc86.toInt = 0) := fun q => hc87 ((fa_eq _ _).mpr (by have : ((0 : Int32).toInt) = 0 := (by decide); omega))
          have hrs0 := hpoxc86_0.1 (by omega)
          rw [ft93] at hrs0
          refine lv_aload_n hx hb dX12_ruleRead_102 rfl (lv_at hl 1 rfl) ?_
          refine tw_get (ci := 12) (C := RX12) (T := TX12) (N := 64) hx hb hB cx_inX12 hown hK TH hm0 hk0 rfl ⟨by decide, rfl⟩ 8 (by decide) cw_1201 (fun _ h9 => h9) dX12_ruleRead_103 (fun hv => ?_)
          obtain ⟨xr230, hxr230, hmxr230, hkxr230⟩ : ∃ a : Nat, tw_fv E77 a0 8 = .ref a ∧ a ∈ L ∧ kp a = 304 := hv
          rw [hxr230]
          refine lv_iload_n hx hb dX12_ruleRead_106 rfl (lv_at hl 0 rfl) ?_
          refine lv_iconst (v := 0) hx hb dX12_ruleRead_107 (by decide) ?_
          refine tw_iast (k := 304) (n := 10) (lo := 0) (hi := 2) hx hb hK TH hS hmxr230 hkxr230 (by decide) rfl (i := fv0_15) (x := 0) (vp_in_iff.mpr ⟨by  omega, by  omega⟩) (by have : ((0 : Int32).toInt) = 0 := (by decide); omega) (by have : ((0 : Int32).toInt) = 0 := (by decide); omega) dX12_ruleRead_108 (fun H locs E231 TH hS hp232 hp233 hp234 => ?_)
          have hst235 : tw_fr kp L [] [304] E77 E231 := tw_fr.ast tw_fr.rf (fun _ => hkxr230) hp232 hp233 (by decide)
          have hF := hF.tr hst235 (fun _ h => ⟨h, rfl⟩) (by decide) (by decide)
          have hFr := hFr.tr hst235 (fun _ h => ⟨h, rfl⟩) (by decide) (by decide)
          have hF93 := hF93.tr hst235 (fun _ h => ⟨h, rfl⟩) (by decide) (by decide)
          have hmf236 : tw_fv E231 a0 1 = .int fv0_1 := (hst235.1 a0 1 hm0 (by rw [hk0]; decide)).trans hmf79
          have hmf237 : tw_fv E231 a0 6 = .ref xr27 := (hst235.1 a0 6 hm0 (by rw [hk0]; decide)).trans hmf80
          have hmf238 : tw_fv E231 a0 7 = .ref xr38 := (hst235.1 a0 7 hm0 (by rw [hk0]; decide)).trans hmf81
          have hmf239 : tw_fv E231 a0 9 = .ref xr51 := (hst235.1 a0 9 hm0 (by rw [hk0]; decide)).trans hmf82
          have hmf240 : tw_fv E231 a0 15 = .int zi64 := (hst235.1 a0 15 hm0 (by rw [hk0]; decide)).trans hmf83
          have hmf241 : tw_fv E231 a0 2 = .int zfxc78_0_0 := (hst235.1 a0 2 hm0 (by rw [hk0]; decide)).trans hzfxc78_0_0
          have hmf242 : tw_fv E231 a0 3 = .int zfxc78_0_1 := (hst235.1 a0 3 hm0 (by rw [hk0]; decide)).trans hzfxc78_0_1
          have hmf243 : tw_fv E231 a0 8 = .ref xr230 := (hst235.1 a0 8 hm0 (by rw [hk0]; decide)).trans hxr230
          have hg1 : gt_ok E231 a0 := gt_ok_fr TH hst235 hm0 hk0 (by decide) (by decide) hg1
          have hg3 : rg_ok E231 a0 := rg_ok_fr TH hst235 hm0 hk0 (by decide) (by decide) hg3
          have hfn6 : p6_ok E231 a0 (fun j => if j = (fv0_15.toInt).toNat then fv0_2.toInt else (tw_el E a0 6) j) := p6_ok_fr TH hst235 hm0 hk0 (by decide) (by decide) hfn6
          have hfn7 : p7_ok E231 a0 (fun j => if j = (fv0_15.toInt).toNat then zi39.toInt else (tw_el E a0 7) j) := p7_ok_fr TH hst235 hm0 hk0 (by decide) (by decide) hfn7
          have hfn9 : p9_ok E231 a0 (fun j => if j = (fv0_15.toInt).toNat then 0 else (tw_el E a0 9) j) := p9_ok_fr TH hst235 hm0 hk0 (by decide) (by decide) hfn9
          have hgn76 : gk_ok E231 a0 := gk_ok_fr TH hst235 hm0 hk0 (by decide) (by decide) hgn76
          have hgn84 : tk_at E231 a0 := tk_at_fr TH hst235 hm0 hk0 (by decide) (by decide) hgn84
          refine lv_aload_n hx hb dX12_ruleRead_109 rfl (lv_at hl 1 rfl) ?_
          have ft110 := el_fr TH hFr hm0 hk0 (k := 0) (by decide) rfl (by decide) (by decide) (by decide)
          refine tw_Vc (o := a0) (ci := 12) (n := 0) (post := (fun v kq Lq Eq => v = none ∧ kp = kq ∧ L = Lq ∧ tw_fr kp L [(12, 2), (12, 3)] [] E231 Eq ∧ (lx_WS (tw_el E231 a0 0) fv0_1.toInt zfxc78_0_1.toInt (tw_fi Eq a0 2) ∧ lx_TK (tw_el E231 a0 0) fv0_1.toInt (tw_fi Eq a0 2) (tw_fi Eq a0 3)) ∧ (∃ z0 z1 : Int32, tw_fv Eq a0 2 = .int z0 ∧ tw_fv Eq a0 3 = .int z1 ∧ (zfxc78_0_1.toInt ≤ z0.toInt ∧ z0.toInt ≤ z1.toInt ∧ z1.toInt ≤ fv0_1.toInt)))) (As := []) (rest := []) ⟨hx, hb, hml, hown, hB⟩ (fun sz => tX12_goesOn_vL l D cs a0 zfxc78_0_1 fv0_1 hm0 hk0 hmf242 hmf236 (by  omega) sz) cg_12_200_X12_goesOn rfl rfl (by decide +kernel) ⟨Nat.le_of_ble_eq_true rfl, Nat.le_of_ble_eq_true rfl⟩ hK hN TH hS hA rfl hm0 hk0 (by decide) rfl hl.1 rfl (Nat.le_of_ble_eq_true rfl) dX12_ruleRead_110 ⟨Nat.le_of_ble_eq_true rfl, Nat.le_of_ble_eq_true rfl⟩ (fun v244 kp244 L244 E244 H locs hq244 hx244 TH hS => ?_)
          obtain ⟨rfl, rfl, rfl, hst244, hpoxc245_0, ⟨zfxc245_0_0, zfxc245_0_1, hzfxc245_0_0, hzfxc245_0_1, hzpxc245_0⟩⟩ := hq244
          have hF := hF.tr hst244 (fun _ h => ⟨h, rfl⟩) (by decide) (by decide)
          have hFr := hFr.tr hst244 (fun _ h => ⟨h, rfl⟩) (by decide) (by decide)
          have hF93 := hF93.tr hst244 (fun _ h => ⟨h, rfl⟩) (by decide) (by decide)
          have hmf246 : tw_fv E244 a0 1 = .int fv0_1 := (hst244.1 a0 1 hm0 (by rw [hk0]; decide)).trans hmf236
          have hmf247 : tw_fv E244 a0 6 = .ref xr27 := (hst244.1 a0 6 hm0 (by rw [hk0]; decide)).trans hmf237
          have hmf248 : tw_fv E244 a0 7 = .ref xr38 := (hst244.1 a0 7 hm0 (by rw [hk0]; decide)).trans hmf238
          have hmf249 : tw_fv E244 a0 9 = .ref xr51 := (hst244.1 a0 9 hm0 (by rw [hk0]; decide)).trans hmf239
          have hmf250 : tw_fv E244 a0 15 = .int zi64 := (hst244.1 a0 15 hm0 (by rw [hk0]; decide)).trans hmf240
          have hmf251 : tw_fv E244 a0 8 = .ref xr230 := (hst244.1 a0 8 hm0 (by rw [hk0]; decide)).trans hmf243
          have hg1 : gt_ok E244 a0 := gt_ok_fr TH hst244 hm0 hk0 (by decide) (by decide) hg1
          have hg3 : rg_ok E244 a0 := rg_ok_fr TH hst244 hm0 hk0 (by decide) (by decide) hg3
          have hfn6 : p6_ok E244 a0 (fun j => if j = (fv0_15.toInt).toNat then fv0_2.toInt else (tw_el E a0 6) j) := p6_ok_fr TH hst244 hm0 hk0 (by decide) (by decide) hfn6
          have hfn7 : p7_ok E244 a0 (fun j => if j = (fv0_15.toInt).toNat then zi39.toInt else (tw_el E a0 7) j) := p7_ok_fr TH hst244 hm0 hk0 (by decide) (by decide) hfn7
          have hfn9 : p9_ok E244 a0 (fun j => if j = (fv0_15.toInt).toNat then 0 else (tw_el E a0 9) j) := p9_ok_fr TH hst244 hm0 hk0 (by decide) (by decide) hfn9
          have hgn76 : gk_ok E244 a0 := gk_ok_fr TH hst244 hm0 hk0 (by decide) (by decide) hgn76
          have hgn252 : tk_at E244 a0 := tk_of TH hst244 hm0 hk0 (by decide) (by decide) (by decide) (tw_fi_of hmf236) hpoxc245_0
          obtain ⟨qzfxc245_0_0, hqzfxc245_0_0, hqzfxc245_0_0a, hqzfxc245_0_0b⟩ := tw_rd TH hm0 hk0 (by decide) (by decide) (k := 2) rfl
          have eqzfxc245_0_0 : qzfxc245_0_0 = zfxc245_0_0 := by have q := hqzfxc245_0_0.symm.trans hzfxc245_0_0; injection q
          rw [eqzfxc245_0_0] at hqzfxc245_0_0a hqzfxc245_0_0b
          obtain ⟨qzfxc245_0_1, hqzfxc245_0_1, hqzfxc245_0_1a, hqzfxc245_0_1b⟩ := tw_rd TH hm0 hk0 (by decide) (by decide) (k := 3) rfl
          have eqzfxc245_0_1 : qzfxc245_0_1 = zfxc245_0_1 := by have q := hqzfxc245_0_1.symm.trans hzfxc245_0_1; injection q
          rw [eqzfxc245_0_1] at hqzfxc245_0_1a hqzfxc245_0_1b
          refine W.eq (g2 := F0 m 113 ls []) rfl ?_
          have ft113 := el_fr TH hFr hm0 hk0 (k := 0) (by decide) rfl (by decide) (by decide) (by decide)
          have hw2 := (hpoxc245_0).1
          rw [ft110, tw_fi_of hzfxc245_0_0] at hw2
          have hgy3 := gy_4l hgy4 htk1 (by omega) (by omega) (by have z := hrs0.1; omega) (rs_le0 hrs0) hrs0 hw2
          have htk2 : lx_TK (tw_el E a0 0) fv0_1.toInt (zfxc245_0_0.toInt) (zfxc245_0_1.toInt) := (by have z := hgn252; unfold tk_at at z; rw [tw_fi_of hmf246, tw_fi_of hzfxc245_0_0, tw_fi_of hzfxc245_0_1, ft113] at z; exact z.2)
          have htk2l := tk_le hgn252 (tw_fi_of hmf246) (tw_fi_of hzfxc245_0_0) (tw_fi_of hzfxc245_0_1)
          refine lv_aload_n hx hb dX12_ruleRead_113 rfl (lv_at hl 1 rfl) ?_
          refine lv_aload_n hx hb dX12_ruleRead_114 rfl (lv_at hl 1 rfl) ?_
          refine lv_bipush (v := 59) hx hb dX12_ruleRead_115 (by decide) ?_
          refine tw_Vc (o := a0) (ci := 12) (n := 1) (post := (fun v kq Lq Eq => (∃ x : Int32, v = some (.int x) ∧ 0 ≤ x.toInt ∧ x.toInt ≤ 1 ∧ (x.toInt ≠ 0 ↔ (zfxc245_0_0.toInt < fv0_1.toInt ∧ tw_el E244 a0 0 (zfxc245_0_0.toInt).toNat = (59 : Int32).toInt))) ∧ kp = kq ∧ L = Lq ∧ E244 = Eq)) (As := [.int 59]) (rest := [.ref a0]) ⟨hx, hb, hml, hown, hB⟩ (fun sz => tX12_isSign_vL l D cs a0 (59 : Int32) zfxc245_0_0 fv0_1 hm0 hk0 hzfxc245_0_0 hmf246 sz) cg_12_221_X12_isSign rfl rfl (by decide +kernel) ⟨Nat.le_of_ble_eq_true rfl, Nat.le_of_ble_eq_true rfl⟩ hK hN TH hS hA rfl hm0 hk0 (by decide) rfl hl.1 rfl (Nat.le_of_ble_eq_true rfl) dX12_ruleRead_117 ⟨Nat.le_of_ble_eq_true rfl, Nat.le_of_ble_eq_true rfl⟩ (fun v253 kp253 L253 E253 H locs hq253 hx253 TH hS => ?_)
          obtain ⟨⟨xc254, rfl, hxc254a, hxc254b, hpoxc254_0⟩, rfl, rfl, rfl⟩ := hq253
          refine W.eq (g2 := F0 m 120 ls [.int xc254, .ref a0]) rfl ?_
          have hsg := hpoxc254_0
          rw [ft113] at hsg
          refine tw_Vc (o := a0) (ci := 12) (n := 1) (post := (fun v kq Lq Eq => (∃ x : Int32, v = some (.int x) ∧ 0 ≤ x.toInt ∧ x.toInt ≤ 1 ∧ ((xc254.toInt = 0 → x.toInt = 0 ∧ tw_fi Eq a0 4 ≠ -1) ∧ (xc254.toInt ≠ 0 → x.toInt = 1 ∧ lx_WS (tw_el E244 a0 0) fv0_1.toInt zfxc245_0_1.toInt (tw_fi Eq a0 2) ∧ lx_TK (tw_el E244 a0 0) fv0_1.toInt (tw_fi Eq a0 2) (tw_fi Eq a0 3))) ∧ (∃ z0 z1 : Int32, tw_fv Eq a0 2 = .int z0 ∧ tw_fv Eq a0 3 = .int z1 ∧ (z0.toInt ≤ z1.toInt ∧ z1.toInt ≤ fv0_1.toInt ∧ (x.toInt ≠ 0 → zfxc245_0_1.toInt ≤ z0.toInt) ∧ (x.toInt = 0 → z0.toInt = zfxc245_0_0.toInt)))) ∧ kp = kq ∧ L = Lq ∧ tw_fr kp L [(12, 2), (12, 3), (12, 4)] [] E244 Eq)) (As := [.int xc254]) (rest := []) ⟨hx, hb, hml, hown, hB⟩ (fun sz => tX12_passes_vL l D cs a0 xc254 zfxc245_0_0 zfxc245_0_1 fv0_1 hm0 hk0 (by omega) (by omega) hzfxc245_0_0 hzfxc245_0_1 hmf246 (by  omega) (by  omega) (by  omega) sz) cg_12_237_X12_passes rfl rfl (by decide +kernel) ⟨Nat.le_of_ble_eq_true rfl, Nat.le_of_ble_eq_true rfl⟩ hK hN TH hS hA rfl hm0 hk0 (by decide) rfl hl.1 rfl (Nat.le_of_ble_eq_true rfl) dX12_ruleRead_120 ⟨Nat.le_of_ble_eq_true rfl, Nat.le_of_ble_eq_true rfl⟩ (fun v255 kp255 L255 E255 H locs hq255 hx255 TH hS => ?_)
          obtain ⟨⟨xc256, rfl, hxc256a, hxc256b, hpoxc256_0, ⟨zfxc256_0_0, zfxc256_0_1, hzfxc256_0_0, hzfxc256_0_1, hzpxc256_0⟩⟩, rfl, rfl, hst255⟩ := hq255
          have hF := hF.tr hst255 (fun _ h => ⟨h, rfl⟩) (by decide) (by decide)
          have hFr := hFr.tr hst255 (fun _ h => ⟨h, rfl⟩) (by decide) (by decide)
          have hF93 := hF93.tr hst255 (fun _ h => ⟨h, rfl⟩) (by decide) (by decide)
          have hmf257 : tw_fv E255 a0 1 = .int fv0_1 := (hst255.1 a0 1 hm0 (by rw [hk0]; decide)).trans hmf246
          have hmf258 : tw_fv E255 a0 6 = .ref xr27 := (hst255.1 a0 6 hm0 (by rw [hk0]; decide)).trans hmf247
          have hmf259 : tw_fv E255 a0 7 = .ref xr38 := (hst255.1 a0 7 hm0 (by rw [hk0]; decide)).trans hmf248
          have hmf260 : tw_fv E255 a0 9 = .ref xr51 := (hst255.1 a0 9 hm0 (by rw [hk0]; decide)).trans hmf249
          have hmf261 : tw_fv E255 a0 15 = .int zi64 := (hst255.1 a0 15 hm0 (by rw [hk0]; decide)).trans hmf250
          have hmf262 : tw_fv E255 a0 8 = .ref xr230 := (hst255.1 a0 8 hm0 (by rw [hk0]; decide)).trans hmf251
          have hg1 : gt_ok E255 a0 := gt_ok_fr TH hst255 hm0 hk0 (by decide) (by decide) hg1
          have hg3 : rg_ok E255 a0 := rg_ok_fr TH hst255 hm0 hk0 (by decide) (by decide) hg3
          have hfn6 : p6_ok E255 a0 (fun j => if j = (fv0_15.toInt).toNat then fv0_2.toInt else (tw_el E a0 6) j) := p6_ok_fr TH hst255 hm0 hk0 (by decide) (by decide) hfn6
          have hfn7 : p7_ok E255 a0 (fun j => if j = (fv0_15.toInt).toNat then zi39.toInt else (tw_el E a0 7) j) := p7_ok_fr TH hst255 hm0 hk0 (by decide) (by decide) hfn7
          have hfn9 : p9_ok E255 a0 (fun j => if j = (fv0_15.toInt).toNat then 0 else (tw_el E a0 9) j) := p9_ok_fr TH hst255 hm0 hk0 (by decide) (by decide) hfn9
          have hgn76 : gk_ok E255 a0 := gk_ok_fr TH hst255 hm0 hk0 (by decide) (by decide) hgn76
          obtain ⟨qzfxc256_0_0, hqzfxc256_0_0, hqzfxc256_0_0a, hqzfxc256_0_0b⟩ := tw_rd TH hm0 hk0 (by decide) (by decide) (k := 2) rfl
          have eqzfxc256_0_0 : qzfxc256_0_0 = zfxc256_0_0 := by have q := hqzfxc256_0_0.symm.trans hzfxc256_0_0; injection q
          rw [eqzfxc256_0_0] at hqzfxc256_0_0a hqzfxc256_0_0b
          obtain ⟨qzfxc256_0_1, hqzfxc256_0_1, hqzfxc256_0_1a, hqzfxc256_0_1b⟩ := tw_rd TH hm0 hk0 (by decide) (by decide) (k := 3) rfl
          have eqzfxc256_0_1 : qzfxc256_0_1 = zfxc256_0_1 := by have q := hqzfxc256_0_1.symm.trans hzfxc256_0_1; injection q
          rw [eqzfxc256_0_1] at hqzfxc256_0_1a hqzfxc256_0_1b
          refine W.eq (g2 := F0 m 123 ls [.int xc256]) rfl ?_
          exact tw_zret hx hb hr hlocks (ia_bool (by omega) (by omega)) TH hS hex ⟨⟨_, rfl, (show 0 ≤ Int32.toInt xc256 from by  omega), (show Int32.toInt xc256 ≤ 1 from by  omega), (by  intro q; exact gy_3f hgy3 (by omega) (fun z => (by have w := hsg.2 z; have y := (hpoxc256_0.2 w).1; omega))), (by  intro q; exact tk_of TH hst255 hm0 hk0 (by decide) (by decide) (by decide) (tw_fi_of hmf246) (hpoxc256_0.2 (show xc254.toInt ≠ 0 from (fun z => (by have y := (hpoxc256_0.1 z).1; omega)))).2), (by  intro q; have hbb := (show xc254.toInt ≠ 0 from (fun z => (by have y := (hpoxc256_0.1 z).1; omega))); have hy := hsg.1 hbb; have hye := tk_one (c := 59) hgn252 (tw_fi_of hmf246) (tw_fi_of hzfxc245_0_0) (tw_fi_of hzfxc245_0_1) hy.1 (by rw [ft113]; exact hy.2) (by decide); have hw9 := (hpoxc256_0.2 hbb).2.1; rw [ft113] at hw9; rw [ip_fr TH hF93 hm0 hk0 (by decide) (by decide) (by omega), kp_fr TH hF93 hm0 hk0 (by decide) (by decide)]; exact gy_3 hgy3 (by omega) (by omega) hy (lx_WS_cast (by omega) hw9)), (by  intro q; exact (hpoxc256_0.1 (by (by_cases z : xc254.toInt = 0; exact z; (have y := (hpoxc256_0.2 z).1; omega)))).2), (by  intro _ x hx; rw [ip_fr TH hF93 hm0 hk0 (by decide) (by decide) (by omega), hipn] at hx; exact hpre1 x hx), (by  intro _; exact hgn76), ⟨zfxc256_0_0, zi64, hzfxc256_0_0, hmf261, by  omega⟩, hg3⟩, rfl, rfl, hF⟩ (Nat.le_of_ble_eq_true rfl) (Nat.le_of_ble_eq_true rfl) dX12_ruleRead_123
      · have hf263 : ¬ (xc24.toInt = (-1)) := fun q => hc25 ((fa_eq _ _).mpr (by have : (((-1) : Int32).toInt) = (-1) := (by decide); omega))
        refine lv_aload_n hx hb dX12_ruleRead_37 rfl (lv_at hl 0 rfl) ?_
        refine tw_Vc (o := a0) (ci := 12) (n := 0) (post := (fun v kq Lq Eq => (∃ x : Int32, v = some (.int x) ∧ 0 ≤ x.toInt ∧ x.toInt ≤ 0 ∧ (∃ z0 : Int32, tw_fv Eq a0 4 = .int z0 ∧ (z0.toInt ≠ -1))) ∧ kp = kq ∧ L = Lq ∧ tw_fr kp L [(12, 4)] [] E Eq)) (As := []) (rest := []) ⟨hx, hb, hml, hown, hB⟩ (fun sz => tX12_fails_vL l D cs a0 hm0 hk0 sz) cg_12_196_X12_fails rfl rfl (by decide +kernel) ⟨Nat.le_of_ble_eq_true rfl, Nat.le_of_ble_eq_true rfl⟩ hK hN TH hS hA rfl hm0 hk0 (by decide) rfl hl.1 rfl (Nat.le_of_ble_eq_true rfl) dX12_ruleRead_38 ⟨Nat.le_of_ble_eq_true rfl, Nat.le_of_ble_eq_true rfl⟩ (fun v264 kp264 L264 E264 H locs hq264 hx264 TH hS => ?_)
        obtain ⟨⟨xc265, rfl, hxc265a, hxc265b, ⟨zfxc265_0_0, hzfxc265_0_0, hzpxc265_0⟩⟩, rfl, rfl, hst264⟩ := hq264
        have hF := hF.tr hst264 (fun _ h => ⟨h, rfl⟩) (by decide) (by decide)
        have hmf266 : tw_fv E264 a0 1 = .int fv0_1 := (hst264.1 a0 1 hm0 (by rw [hk0]; decide)).trans hfv0_1
        have hmf267 : tw_fv E264 a0 2 = .int fv0_2 := (hst264.1 a0 2 hm0 (by rw [hk0]; decide)).trans hfv0_2
        have hmf268 : tw_fv E264 a0 15 = .int fv0_15 := (hst264.1 a0 15 hm0 (by rw [hk0]; decide)).trans hfv0_15
        have hmf269 : tw_fv E264 a0 3 = .int xi1 := (hst264.1 a0 3 hm0 (by rw [hk0]; decide)).trans hxi1
        have hg0 : tk_at E264 a0 := tk_at_fr TH hst264 hm0 hk0 (by decide) (by decide) hg0
        have hg1 : gt_ok E264 a0 := gt_ok_fr TH hst264 hm0 hk0 (by decide) (by decide) hg1
        have hg2 : gk_ok E264 a0 := gk_ok_fr TH hst264 hm0 hk0 (by decide) (by decide) hg2
        have hg3 : rg_ok E264 a0 := rg_ok_fr TH hst264 hm0 hk0 (by decide) (by decide) hg3
        obtain ⟨qzfxc265_0_0, hqzfxc265_0_0, hqzfxc265_0_0a, hqzfxc265_0_0b⟩ := tw_rd TH hm0 hk0 (by decide) (by decide) (k := 4) rfl
        have eqzfxc265_0_0 : qzfxc265_0_0 = zfxc265_0_0 := by have q := hqzfxc265_0_0.symm.trans hzfxc265_0_0; injection q
        rw [eqzfxc265_0_0] at hqzfxc265_0_0a hqzfxc265_0_0b
        refine W.eq (g2 := F0 m 41 ls [.int xc265]) rfl ?_
        exact tw_zret hx hb hr hlocks (ia_bool (by omega) (by omega)) TH hS hex ⟨⟨_, rfl, (show 0 ≤ Int32.toInt xc265 from by  omega), (show Int32.toInt xc265 ≤ 1 from by  omega), (by  intro _; exact gy_0f hpre0 htkE (by omega) (by omega) (fun z => (by have w := hpoxc24_0; rw [show (fv0_2.toInt : Int) + zi22.toInt = xi1.toInt by omega] at w; exact absurd (w.2 z.2.2) (by omega)))), (by  intro q; exfalso; omega), (by  intro q; exfalso; omega), (by  intro _; rw [tw_fi_of hzfxc265_0_0]; omega), (by  intro q; exfalso; omega), (by  intro q; exfalso; omega), ⟨fv0_2, fv0_15, hmf267, hmf268, by  omega⟩, hg3⟩, rfl, rfl, hF⟩ (Nat.le_of_ble_eq_true rfl) (Nat.le_of_ble_eq_true rfl) dX12_ruleRead_41
