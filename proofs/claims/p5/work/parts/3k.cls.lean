set_option maxHeartbeats 4000000 in
set_option maxRecDepth 100000 in
theorem tX12_merges (l : Launch) (D : va_G) (cs : Nat → ClassId) {kp : Nat → Nat} {L : List Nat} {E : Nat → va_E} (a0 : Nat) (x1 : Int32) (x2 : Int32) (x3 : Int32) (hm0 : a0 ∈ L) (hk0 : kp a0 = 12) (hp1a : 0 ≤ x1.toInt) (hp1b : x1.toInt ≤ 15) (hp2a : 0 ≤ x2.toInt) (hp2b : x2.toInt ≤ 15) (hp3a : 0 ≤ x3.toInt) (hp3b : x3.toInt ≤ 15) (hpre0 : x1.toInt ≠ 13) (hpre1 : x2.toInt ≠ 13) (hpre2 : x3.toInt ≠ 13) (hg0 : row_ok E a0 (x1.toInt)) (hg1 : row_ok E a0 (x2.toInt)) (hg2 : rd_ok E a0) (hg3 : ht_ok E a0) (sz : Nat) : Met l yX12_merges (.code yX12_merges cX12_merges 4 (some .boolean) :: cx_big) { frames := 5, cells := 0, slots := 0, locals := 132 } (tw_P D cs kp L E [.ref a0, .int x1, .int x2, .int x3] sz) (tw_Q D cs kp L (fun v kq Lq Eq => (∃ x : Int32, v = some (.int x) ∧ 0 ≤ x.toInt ∧ x.toInt ≤ 1 ∧ (ot_ok Eq a0 13 E) ∧ (x.toInt ≠ 0 → r2_ok E a0 x1.toInt x2.toInt → row_ok Eq a0 13) ∧ (x.toInt ≠ 0 → r2_ok E a0 x1.toInt x2.toInt → r2_ok Eq a0 13 x1.toInt ∧ r2_ok Eq a0 13 x2.toInt) ∧ rd_ok Eq a0 ∧ ht_ok Eq a0) ∧ kp = kq ∧ L = Lq ∧ tw_fr kp L [(12, 57)] [326, 327, 328, 329, 348, 349, 359, 363, 364] E Eq) (va_A (va_pl L E) sz)) 0 0 (va_A (va_pl L E) sz) := by
  refine tw_ofW (by decide) (Nat.le_of_ble_eq_true rfl) ?_
  intro p e s m below meth c A ls hx hb hr hml hB hown hlocks hK hN hA TH hS hl
  have hown : s.vm.findClass "TreeMergeModel" = some m.cls := hown
  have hl : lv_has ls 4 [(0, .ref a0), (1, .int x1), (2, .int x2), (3, .int x3)] := hl
  obtain ⟨kp0, ekp⟩ : ∃ z, z = kp := ⟨_, rfl⟩
  obtain ⟨L0, eL⟩ : ∃ z, z = L := ⟨_, rfl⟩
  rw [show tw_Q D cs kp L = tw_Q D cs kp0 L0 by rw [ekp, eL]]
  have hex : ∀ a : Nat, a ∈ L0 → a ∈ L ∧ kp a = kp0 a := fun a h => ⟨by rw [← eL]; exact h, by rw [ekp]⟩
  have hF : tw_fr kp L [(12, 57)] [326, 327, 328, 329, 348, 349, 359, 363, 364] E E := tw_fr.rf
  have hot : ot_ok E a0 13 E := ot_ok_rf
  refine lv_aload_n hx hb dX12_merges_0 rfl (lv_at hl 0 rfl) ?_
  refine lv_iload_n hx hb dX12_merges_1 rfl (lv_at hl 1 rfl) ?_
  refine lv_iload_n hx hb dX12_merges_2 rfl (lv_at hl 2 rfl) ?_
  refine lv_iload_n hx hb dX12_merges_3 rfl (lv_at hl 3 rfl) ?_
  refine tw_Vc (o := a0) (ci := 12) (n := 3) (post := (fun v kq Lq Eq => v = none ∧ kp = kq ∧ L = Lq ∧ tw_fr kp L [(12, 57)] [359] E Eq ∧ (tw_fi Eq a0 57 = 0 → fq_ok E a0 x1.toInt x2.toInt x3.toInt 4 0) ∧ (∃ z0 : Int32, tw_fv Eq a0 57 = .int z0 ∧ (z0.toInt ≤ 450)))) (As := [.int x1, .int x2, .int x3]) (rest := []) ⟨hx, hb, hml, hown, hB⟩ (fun sz => tX12_firstQuarrels l D cs a0 x1 x2 x3 hm0 hk0 (by omega) (by omega) (by omega) (by omega) (by omega) (by omega) hg0.1 hg1.1 sz) cg_12_500_X12_firstQuarrels rfl rfl (by decide +kernel) ⟨Nat.le_of_ble_eq_true rfl, Nat.le_of_ble_eq_true rfl⟩ hK hN TH hS hA rfl hm0 hk0 (by decide) rfl hl.1 rfl (Nat.le_of_ble_eq_true rfl) dX12_merges_4 ⟨Nat.le_of_ble_eq_true rfl, Nat.le_of_ble_eq_true rfl⟩ (fun v1 kp1 L1 E1 H locs hq1 hx1 TH hS => ?_)
  obtain ⟨rfl, rfl, rfl, hst1, hpoxc2_0, ⟨zfxc2_0_0, hzfxc2_0_0, hzpxc2_0⟩⟩ := hq1
  have hF := hF.tr hst1 (fun _ h => ⟨h, rfl⟩) (by decide) (by decide)
  have hg0_o := hg0
  have hg1_o := hg1
  have hg2_o := hg2
  have hg3_o := hg3
  have hot_o := hot
  have hg0 : row_ok E1 a0 (x1.toInt) := row_ok_fr TH hst1 hm0 hk0 (by decide) (by decide) (by omega) hg0
  have hg1 : row_ok E1 a0 (x2.toInt) := row_ok_fr TH hst1 hm0 hk0 (by decide) (by decide) (by omega) hg1
  have hg2 : rd_ok E1 a0 := rd_ok_fr TH hst1 hm0 hk0 (by decide) (by decide) hg2
  have hg3 : ht_ok E1 a0 := ht_ok_fr TH hst1 hm0 hk0 (by decide) (by decide) hg3
  have hot : ot_ok E1 a0 (13) E := ot_ok_fr TH hst1 hm0 hk0 (by decide) (by decide) hot_o
  obtain ⟨qzfxc2_0_0, hqzfxc2_0_0, hqzfxc2_0_0a, hqzfxc2_0_0b⟩ := tw_rd TH hm0 hk0 (by decide) (by decide) (k := 57) rfl
  have eqzfxc2_0_0 : qzfxc2_0_0 = zfxc2_0_0 := by have q := hqzfxc2_0_0.symm.trans hzfxc2_0_0; injection q
  rw [eqzfxc2_0_0] at hqzfxc2_0_0a hqzfxc2_0_0b
  refine W.eq (g2 := F0 m 7 ls []) rfl ?_
  have hfq4 : tw_fi E1 a0 57 = 0 → fq_ok E1 a0 (x1.toInt) (x2.toInt) (x3.toInt) 4 0 := fun z => fq_fr TH hst1 hm0 hk0 (by decide) (by decide) (by decide) (by omega) (by omega) (by omega) (hpoxc2_0 z)
  have hr2 : r2_ok E a0 (x1.toInt) (x2.toInt) → r2_ok E1 a0 (x1.toInt) (x2.toInt) := fun z => r2_fr TH hst1 hm0 hk0 (by decide) (by decide) (by omega) (by omega) z
  have hN4 : tw_fi E1 a0 26 = tw_fi E a0 26 := tw_fi_fr hst1 hm0 hk0 (by decide)
  have TH4 := TH
  have hot4 := hot
  refine lv_aload_n hx hb dX12_merges_7 rfl (lv_at hl 0 rfl) ?_
  refine tw_get (ci := 12) (C := RX12) (T := TX12) (N := 64) hx hb hB cx_inX12 hown hK TH hm0 hk0 rfl ⟨by decide, rfl⟩ 57 (by decide) cw_1250 (fun _ h9 => h9) dX12_merges_8 (fun hv => ?_)
  rw [hzfxc2_0_0]
  refine lv_if_le (tgt := 16) hx hb dX12_merges_11 (by decide) (fun hc3 => ?_) (fun hc3 => ?_)
  · have hf4 : zfxc2_0_0.toInt ≤ 0 := by have z := (fa_le _ _).mp hc3; have : ((0 : Int32).toInt) = 0 := (by decide); omega
    refine lv_aload_n hx hb dX12_merges_16 rfl (lv_at hl 0 rfl) ?_
    refine lv_iload_n hx hb dX12_merges_17 rfl (lv_at hl 1 rfl) ?_
    refine lv_iload_n hx hb dX12_merges_18 rfl (lv_at hl 2 rfl) ?_
    refine lv_iload_n hx hb dX12_merges_19 rfl (lv_at hl 3 rfl) ?_
    refine tw_Vc (o := a0) (ci := 12) (n := 3) (post := (fun v kq Lq Eq => v = none ∧ kp = kq ∧ L = Lq ∧ tw_fr kp L [] [326, 327, 328] E1 Eq ∧ (t1_ok Eq a0 13) ∧ (sx_ok Eq a0 E1 x1.toInt x2.toInt 150) ∧ (ot_ok Eq a0 13 E1) ∧ rd_ok Eq a0)) (As := [.int x1, .int x2, .int x3]) (rest := []) ⟨hx, hb, hml, hown, hB⟩ (fun sz => tX12_stacks l D cs a0 x1 x2 x3 hm0 hk0 (by omega) (by omega) (by omega) (by omega) (by omega) (by omega) (by  omega) (by  omega) (by  omega) (by  exact hfq4 (by rw [tw_fi_of hzfxc2_0_0]; omega)) hg0 hg1 hg2 sz) cg_12_503_X12_stacks rfl rfl (by decide +kernel) ⟨Nat.le_of_ble_eq_true rfl, Nat.le_of_ble_eq_true rfl⟩ hK hN TH hS hA rfl hm0 hk0 (by decide) rfl hl.1 rfl (Nat.le_of_ble_eq_true rfl) dX12_merges_20 ⟨Nat.le_of_ble_eq_true rfl, Nat.le_of_ble_eq_true rfl⟩ (fun v5 kp5 L5 E5 H locs hq5 hx5 TH hS => ?_)
    obtain ⟨rfl, rfl, rfl, hst5, hpoxc6_0, hpoxc6_1, hpoxc6_2, hgpxc6_0⟩ := hq5
    have hF := hF.tr hst5 (fun _ h => ⟨h, rfl⟩) (by decide) (by decide)
    have hmf7 : tw_fv E5 a0 57 = .int zfxc2_0_0 := (hst5.1 a0 57 hm0 (by rw [hk0]; decide)).trans hzfxc2_0_0
    have hg0_o := hg0
    have hg1_o := hg1
    have hg3_o := hg3
    have hot_o := hot
    have hg3 : ht_ok E5 a0 := ht_ok_ot hpoxc6_2 (by decide) hg3_o
    have hot : ot_ok E5 a0 (13) E := ot_ok_tr hpoxc6_2 hot_o
    have hgn8 : sx_ok E5 a0 E1 (x1.toInt) (x2.toInt) (150) := hpoxc6_1
    have hgn9 : t1_ok E5 a0 (13) := hpoxc6_0
    refine W.eq (g2 := F0 m 23 ls []) rfl ?_
    refine lv_aload_n hx hb dX12_merges_23 rfl (lv_at hl 0 rfl) ?_
    refine tw_Vc (o := a0) (ci := 12) (n := 0) (post := (fun v kq Lq Eq => v = none ∧ kp = kq ∧ L = Lq ∧ tw_fr kp L [(12, 57)] [359] E5 Eq ∧ (tw_fi Eq a0 57 = 0 → lr_all (rw_h E5 a0 13) (rw_p E5 a0 13) 150 ∧ rt_size (rw_h E5 a0 13) ≤ 40) ∧ (∃ z0 : Int32, tw_fv Eq a0 57 = .int z0 ∧ (z0.toInt ≤ 151)))) (As := []) (rest := []) ⟨hx, hb, hml, hown, hB⟩ (fun sz => tX12_secondQuarrels l D cs a0 zfxc2_0_0 hm0 hk0 hmf7 (by  omega) sz) cg_12_506_X12_secondQuarrels rfl rfl (by decide +kernel) ⟨Nat.le_of_ble_eq_true rfl, Nat.le_of_ble_eq_true rfl⟩ hK hN TH hS hA rfl hm0 hk0 (by decide) rfl hl.1 rfl (Nat.le_of_ble_eq_true rfl) dX12_merges_24 ⟨Nat.le_of_ble_eq_true rfl, Nat.le_of_ble_eq_true rfl⟩ (fun v10 kp10 L10 E10 H locs hq10 hx10 TH hS => ?_)
    obtain ⟨rfl, rfl, rfl, hst10, hpoxc11_0, ⟨zfxc11_0_0, hzfxc11_0_0, hzpxc11_0⟩⟩ := hq10
    have hF := hF.tr hst10 (fun _ h => ⟨h, rfl⟩) (by decide) (by decide)
    have hg3_o := hg3
    have hot_o := hot
    have hgn8_o := hgn8
    have hgn9_o := hgn9
    have hgpxc6_0_o := hgpxc6_0
    have hg3 : ht_ok E10 a0 := ht_ok_fr TH hst10 hm0 hk0 (by decide) (by decide) hg3
    have hot : ot_ok E10 a0 (13) E := ot_ok_fr TH hst10 hm0 hk0 (by decide) (by decide) hot_o
    have hgn8 : sx_ok E10 a0 E1 (x1.toInt) (x2.toInt) (150) := sx_ok_fr TH hst10 hm0 hk0 (by decide) (by decide) hgn8
    have hgn9 : t1_ok E10 a0 (13) := t1_ok_fr TH hst10 hm0 hk0 (by decide) (by decide) (by omega) hgn9
    have hgpxc6_0 : rd_ok E10 a0 := rd_ok_fr TH hst10 hm0 hk0 (by decide) (by decide) hgpxc6_0
    obtain ⟨qzfxc11_0_0, hqzfxc11_0_0, hqzfxc11_0_0a, hqzfxc11_0_0b⟩ := tw_rd TH hm0 hk0 (by decide) (by decide) (k := 57) rfl
    have eqzfxc11_0_0 : qzfxc11_0_0 = zfxc11_0_0 := by have q := hqzfxc11_0_0.symm.trans hzfxc11_0_0; injection q
    rw [eqzfxc11_0_0] at hqzfxc11_0_0a hqzfxc11_0_0b
    refine W.eq (g2 := F0 m 27 ls []) rfl ?_
    have hlr27 : tw_fi E10 a0 57 = 0 → lr_ok E10 a0 := fun z => (by unfold lr_ok; rw [rw_h_fr TH hst10 hm0 hk0 (by decide) (by decide) (by decide) (i := 13) (by decide), rw_p_fr TH hst10 hm0 hk0 (by decide) (by decide) (by decide) (i := 13) (by decide)]; exact hpoxc11_0 z)
    refine lv_aload_n hx hb dX12_merges_27 rfl (lv_at hl 0 rfl) ?_
    refine tw_get (ci := 12) (C := RX12) (T := TX12) (N := 64) hx hb hB cx_inX12 hown hK TH hm0 hk0 rfl ⟨by decide, rfl⟩ 57 (by decide) cw_1250 (fun _ h9 => h9) dX12_merges_28 (fun hv => ?_)
    rw [hzfxc11_0_0]
    refine lv_if_le (tgt := 36) hx hb dX12_merges_31 (by decide) (fun hc12 => ?_) (fun hc12 => ?_)
    · have hf13 : zfxc11_0_0.toInt ≤ 0 := by have z := (fa_le _ _).mp hc12; have : ((0 : Int32).toInt) = 0 := (by decide); omega
      have hlr36 : lr_ok E10 a0 := hlr27 (by rw [tw_fi_of hzfxc11_0_0]; omega)
      refine lv_aload_n hx hb dX12_merges_36 rfl (lv_at hl 0 rfl) ?_
      refine lv_iload_n hx hb dX12_merges_37 rfl (lv_at hl 1 rfl) ?_
      refine lv_iload_n hx hb dX12_merges_38 rfl (lv_at hl 2 rfl) ?_
      refine lv_iload_n hx hb dX12_merges_39 rfl (lv_at hl 3 rfl) ?_
      refine tw_Vc (o := a0) (ci := 12) (n := 3) (post := (fun v kq Lq Eq => v = none ∧ kp = kq ∧ L = Lq ∧ tw_fr kp L [(12, 57)] [329, 348, 349, 359, 363, 364] E10 Eq ∧ (tw_fi Eq a0 57 = 0 → rt_T3 (rw_h E10 a0 13) (rw_p E10 a0 13)) ∧ (∃ z0 : Int32, tw_fv Eq a0 57 = .int z0 ∧ (z0.toInt ≤ 450)) ∧ ht_ok Eq a0)) (As := [.int x1, .int x2, .int x3]) (rest := []) ⟨hx, hb, hml, hown, hB⟩ (fun sz => tX12_thirdQuarrels l D cs a0 x1 x2 x3 zfxc11_0_0 hm0 hk0 (by omega) (by omega) (by omega) (by omega) (by omega) (by omega) hzfxc11_0_0 (by  omega) hgn9 hg3 sz) cg_12_509_X12_thirdQuarrels rfl rfl (by decide +kernel) ⟨Nat.le_of_ble_eq_true rfl, Nat.le_of_ble_eq_true rfl⟩ hK hN TH hS hA rfl hm0 hk0 (by decide) rfl hl.1 rfl (Nat.le_of_ble_eq_true rfl) dX12_merges_40 ⟨Nat.le_of_ble_eq_true rfl, Nat.le_of_ble_eq_true rfl⟩ (fun v14 kp14 L14 E14 H locs hq14 hx14 TH hS => ?_)
      obtain ⟨rfl, rfl, rfl, hst14, hpoxc15_0, ⟨zfxc15_0_0, hzfxc15_0_0, hzpxc15_0⟩, hgpxc15_0⟩ := hq14
      have hF := hF.tr hst14 (fun _ h => ⟨h, rfl⟩) (by decide) (by decide)
      have hot_o := hot
      have hgn8_o := hgn8
      have hgn9_o := hgn9
      have hgpxc6_0_o := hgpxc6_0
      have hlr36_o := hlr36
      have hot : ot_ok E14 a0 (13) E := ot_ok_fr TH hst14 hm0 hk0 (by decide) (by decide) hot_o
      have hgn8 : sx_ok E14 a0 E1 (x1.toInt) (x2.toInt) (150) := sx_ok_fr TH hst14 hm0 hk0 (by decide) (by decide) hgn8
      have hgn9 : t1_ok E14 a0 (13) := t1_ok_fr TH hst14 hm0 hk0 (by decide) (by decide) (by omega) hgn9
      have hgpxc6_0 : rd_ok E14 a0 := rd_ok_fr TH hst14 hm0 hk0 (by decide) (by decide) hgpxc6_0
      have hlr36 : lr_ok E14 a0 := lr_ok_fr TH hst14 hm0 hk0 (by decide) (by decide) hlr36
      obtain ⟨qzfxc15_0_0, hqzfxc15_0_0, hqzfxc15_0_0a, hqzfxc15_0_0b⟩ := tw_rd TH hm0 hk0 (by decide) (by decide) (k := 57) rfl
      have eqzfxc15_0_0 : qzfxc15_0_0 = zfxc15_0_0 := by have q := hqzfxc15_0_0.symm.trans hzfxc15_0_0; injection q
      rw [eqzfxc15_0_0] at hqzfxc15_0_0a hqzfxc15_0_0b
      refine W.eq (g2 := F0 m 43 ls []) rfl ?_
      have ht43 : tw_fi E14 a0 57 = 0 → rt_T3 (rw_h E14 a0 13) (rw_p E14 a0 13) := fun z => (by rw [rw_h_fr TH hst14 hm0 hk0 (by decide) (by decide) (by decide) (i := 13) (by decide), rw_p_fr TH hst14 hm0 hk0 (by decide) (by decide) (by decide) (i := 13) (by decide)]; exact hpoxc15_0 z)
      refine lv_aload_n hx hb dX12_merges_43 rfl (lv_at hl 0 rfl) ?_
      refine tw_get (ci := 12) (C := RX12) (T := TX12) (N := 64) hx hb hB cx_inX12 hown hK TH hm0 hk0 rfl ⟨by decide, rfl⟩ 57 (by decide) cw_1250 (fun _ h9 => h9) dX12_merges_44 (fun hv => ?_)
      rw [hzfxc15_0_0]
      refine lv_if_ne (tgt := 54) hx hb dX12_merges_47 (by decide) (fun hc16 => ?_) (fun hc16 => ?_)
      · have hf17 : ¬ (zfxc15_0_0.toInt = 0) := fun q => hc16 ((fa_eq _ _).mpr (by have : ((0 : Int32).toInt) = 0 := (by decide); omega))
        refine lv_iconst (v := 0) hx hb dX12_merges_54 (by decide) ?_
        exact tw_zret hx hb hr hlocks (by decide) TH hS hex ⟨⟨_, rfl, (show 0 ≤ Int32.toInt 0 from by have : ((0 : Int32).toInt) = 0 := (by decide); omega), (show Int32.toInt 0 ≤ 1 from by have : ((0 : Int32).toInt) = 0 := (by decide); omega), (by have : ((0 : Int32).toInt) = 0 := (by decide); exact hot), (by have : ((0 : Int32).toInt) = 0 := (by decide); intro q; exfalso; exact q (by decide)), (by have : ((0 : Int32).toInt) = 0 := (by decide); intro q; exfalso; exact q (by decide)), hgpxc6_0, hgpxc15_0⟩, rfl, rfl, hF⟩ (Nat.le_of_ble_eq_true rfl) (Nat.le_of_ble_eq_true rfl) dX12_merges_55
      · have hf18 : zfxc15_0_0.toInt = 0 := by have z := (fa_eq _ _).mp hc16; have : ((0 : Int32).toInt) = 0 := (by decide); omega
        refine lv_iconst (v := 1) hx hb dX12_merges_50 (by decide) ?_
        refine lv_goto (tgt := 55) hx hb dX12_merges_51 (by decide) ?_
        exact tw_zret hx hb hr hlocks (by decide) TH hS hex ⟨⟨_, rfl, (show 0 ≤ Int32.toInt 1 from by have : ((1 : Int32).toInt) = 1 := (by decide); omega), (show Int32.toInt 1 ≤ 1 from by have : ((1 : Int32).toInt) = 1 := (by decide); omega), (by have : ((1 : Int32).toInt) = 1 := (by decide); exact hot), (by have : ((1 : Int32).toInt) = 1 := (by decide); intro _ r2; exact row_13 hgn9 hgn8 hlr36 (ht43 (by rw [tw_fi_of hzfxc15_0_0]; omega)) (Int.le_of_eq (hN4.trans (tw_fi_fr hF hm0 hk0 (by decide)).symm)) (hr2 r2)), (by have : ((1 : Int32).toInt) = 1 := (by decide); intro _ r2; have oa := hot (x1.toInt) (by omega) (by omega) (by omega); have ob := hot (x2.toInt) (by omega) (by omega) (by omega); have o4a := hot4 (x1.toInt) (by omega) (by omega) (by omega); have o4b := hot4 (x2.toInt) (by omega) (by omega) (by omega); exact r2_13 hgn8 ⟨oa.1.trans o4a.1.symm, oa.2.trans o4a.2.symm⟩ ⟨ob.1.trans o4b.1.symm, ob.2.trans o4b.2.symm⟩ (hr2 r2)), hgpxc6_0, hgpxc15_0⟩, rfl, rfl, hF⟩ (Nat.le_of_ble_eq_true rfl) (Nat.le_of_ble_eq_true rfl) dX12_merges_55
    · have hf19 : ¬ (zfxc11_0_0.toInt ≤ 0) := fun q => hc12 ((fa_le _ _).mpr (by have : ((0 : Int32).toInt) = 0 := (by decide); omega))
      refine lv_iconst (v := 0) hx hb dX12_merges_34 (by decide) ?_
      exact tw_zret hx hb hr hlocks (by decide) TH hS hex ⟨⟨_, rfl, (show 0 ≤ Int32.toInt 0 from by have : ((0 : Int32).toInt) = 0 := (by decide); omega), (show Int32.toInt 0 ≤ 1 from by have : ((0 : Int32).toInt) = 0 := (by decide); omega), (by have : ((0 : Int32).toInt) = 0 := (by decide); exact hot), (by have : ((0 : Int32).toInt) = 0 := (by decide); intro q; exfalso; exact q (by decide)), (by have : ((0 : Int32).toInt) = 0 := (by decide); intro q; exfalso; exact q (by decide)), hgpxc6_0, hg3⟩, rfl, rfl, hF⟩ (Nat.le_of_ble_eq_true rfl) (Nat.le_of_ble_eq_true rfl) dX12_merges_35
  · have hf20 : ¬ (zfxc2_0_0.toInt ≤ 0) := fun q => hc3 ((fa_le _ _).mpr (by have : ((0 : Int32).toInt) = 0 := (by decide); omega))
    refine lv_iconst (v := 0) hx hb dX12_merges_14 (by decide) ?_
    exact tw_zret hx hb hr hlocks (by decide) TH hS hex ⟨⟨_, rfl, (show 0 ≤ Int32.toInt 0 from by have : ((0 : Int32).toInt) = 0 := (by decide); omega), (show Int32.toInt 0 ≤ 1 from by have : ((0 : Int32).toInt) = 0 := (by decide); omega), (by have : ((0 : Int32).toInt) = 0 := (by decide); exact hot), (by have : ((0 : Int32).toInt) = 0 := (by decide); intro q; exfalso; exact q (by decide)), (by have : ((0 : Int32).toInt) = 0 := (by decide); intro q; exfalso; exact q (by decide)), hg2, hg3⟩, rfl, rfl, hF⟩ (Nat.le_of_ble_eq_true rfl) (Nat.le_of_ble_eq_true rfl) dX12_merges_15
set_option maxHeartbeats 4000000 in
set_option maxRecDepth 100000 in
theorem tX12_isFrom_v0 (l : Launch) (D : va_G) (cs : Nat → ClassId) {kp : Nat → Nat} {L : List Nat} {E : Nat → va_E} (a0 : Nat) (x1 : Int32) (x2 : Int32) (fv0_27 : Int32) (hm0 : a0 ∈ L) (hk0 : kp a0 = 12) (hp1a : 0 ≤ x1.toInt) (hp1b : x1.toInt ≤ 0) (hp2a : 0 ≤ x2.toInt) (hp2b : x2.toInt ≤ 11) (hfv0_27 : tw_fv E a0 27 = .int fv0_27) (hpre0 : x1.toInt < fv0_27.toInt) (hg0 : eo_ok E a0) (hg1 : ln_ok E a0) (sz : Nat) : Met l yX12_isFrom (.code yX12_isFrom cX12_isFrom 3 (some .boolean) :: cx_big) { frames := 0, cells := 0, slots := 0, locals := 0 } (tw_P D cs kp L E [.ref a0, .int x1, .int x2] sz) (tw_Q D cs kp L (fun v kq Lq Eq => (∃ x : Int32, v = some (.int x) ∧ 0 ≤ x.toInt ∧ x.toInt ≤ 1 ∧ (x.toInt ≠ 0 → r2_ok E a0 x1.toInt x2.toInt)) ∧ kp = kq ∧ L = Lq ∧ E = Eq) (va_A (va_pl L E) sz)) 0 0 (va_A (va_pl L E) sz) := by
  refine tw_ofW (by decide) (Nat.le_of_ble_eq_true rfl) ?_
  intro p e s m below meth c A ls hx hb hr hml hB hown hlocks hK hN hA TH hS hl
  have hown : s.vm.findClass "TreeMergeModel" = some m.cls := hown
  have hl : lv_has ls 3 [(0, .ref a0), (1, .int x1), (2, .int x2)] := hl
  obtain ⟨kp0, ekp⟩ : ∃ z, z = kp := ⟨_, rfl⟩
  obtain ⟨L0, eL⟩ : ∃ z, z = L := ⟨_, rfl⟩
  rw [show tw_Q D cs kp L = tw_Q D cs kp0 L0 by rw [ekp, eL]]
  have hex : ∀ a : Nat, a ∈ L0 → a ∈ L ∧ kp a = kp0 a := fun a h => ⟨by rw [← eL]; exact h, by rw [ekp]⟩
  obtain ⟨qfv0_27, hqfv0_27, hqfv0_27a, hqfv0_27b⟩ := tw_rd TH hm0 hk0 (by decide) (by decide) (k := 27) rfl
  have eqfv0_27 : qfv0_27 = fv0_27 := by have q := hqfv0_27.symm.trans hfv0_27; injection q
  rw [eqfv0_27] at hqfv0_27a hqfv0_27b
  refine lv_iload_n hx hb dX12_isFrom_0 rfl (lv_at hl 1 rfl) ?_
  refine lv_iload_n hx hb dX12_isFrom_1 rfl (lv_at hl 2 rfl) ?_
  refine lv_icmp_ne (tgt := 7) hx hb dX12_isFrom_2 (by decide) (fun hc1 => ?_) (fun hc1 => ?_)
  · have hf2 : ¬ (x1.toInt = x2.toInt) := fun q => hc1 ((fa_eq _ _).mpr (by  omega))
    refine lv_aload_n hx hb dX12_isFrom_7 rfl (lv_at hl 0 rfl) ?_
    refine tw_get (ci := 12) (C := RX12) (T := TX12) (N := 64) hx hb hB cx_inX12 hown hK TH hm0 hk0 rfl ⟨by decide, rfl⟩ 24 (by decide) cw_1217 (fun _ h9 => h9) dX12_isFrom_8 (fun hv => ?_)
    obtain ⟨xr3, hxr3, hmxr3, hkxr3⟩ : ∃ a : Nat, tw_fv E a0 24 = .ref a ∧ a ∈ L ∧ kp a = 334 := hv
    rw [hxr3]
    refine lv_iload_n hx hb dX12_isFrom_11 rfl (lv_at hl 1 rfl) ?_
    refine tw_iald (k := 334) (t0 := 0) (n := 12) (lo := (-1)) (hi := 11) hx hb hK TH hmxr3 hkxr3 (by decide) rfl rfl (i := x1) (vp_in_iff.mpr ⟨by  omega, by  omega⟩) dX12_isFrom_12 (fun hxe4a hxe4b => ?_)
    obtain ⟨xe4, exe4⟩ : ∃ z : Int32, tw_iv E xr3 (Int32.toNatClampNeg x1) = z := ⟨_, rfl⟩
    rw [exe4] at hxe4a hxe4b ⊢
    have hl13 : xe4.toInt = -1 ∨ (0 ≤ xe4.toInt ∧ xe4.toInt < x1.toInt ∧ r2_ok E a0 (x1.toInt) (xe4.toInt)) := (by have q := hg1 (x1.toInt).toNat (by rw [tw_fi_of hfv0_27]; omega) 24 (by decide); have w : tw_el E a0 24 (x1.toInt).toNat = xe4.toInt := (by rw [tw_el_of hxr3]; exact congrArg Int32.toInt exe4); rw [w, show (((x1.toInt).toNat : Nat) : Int) = x1.toInt by omega] at q; exact q)
    have hn13 : xe4.toInt = -1 ∨ (0 ≤ xe4.toInt ∧ xe4.toInt < x1.toInt) := hl13.imp id (fun q => ⟨q.1, q.2.1⟩)
    refine lv_iconst (v := (-1)) hx hb dX12_isFrom_13 (by decide) ?_
    refine lv_icmp_eq (tgt := 31) hx hb dX12_isFrom_14 (by decide) (fun hc5 => ?_) (fun hc5 => ?_)
    · have hf6 : xe4.toInt = (-1) := by have z := (fa_eq _ _).mp hc5; have : (((-1) : Int32).toInt) = (-1) := (by decide); omega
      refine lv_aload_n hx hb dX12_isFrom_31 rfl (lv_at hl 0 rfl) ?_
      refine tw_get (ci := 12) (C := RX12) (T := TX12) (N := 64) hx hb hB cx_inX12 hown hK TH hm0 hk0 rfl ⟨by decide, rfl⟩ 25 (by decide) cw_1218 (fun _ h9 => h9) dX12_isFrom_32 (fun hv => ?_)
      obtain ⟨xr7, hxr7, hmxr7, hkxr7⟩ : ∃ a : Nat, tw_fv E a0 25 = .ref a ∧ a ∈ L ∧ kp a = 335 := hv
      rw [hxr7]
      refine lv_iload_n hx hb dX12_isFrom_35 rfl (lv_at hl 1 rfl) ?_
      refine tw_iald (k := 335) (t0 := 0) (n := 12) (lo := (-1)) (hi := 11) hx hb hK TH hmxr7 hkxr7 (by decide) rfl rfl (i := x1) (vp_in_iff.mpr ⟨by  omega, by  omega⟩) dX12_isFrom_36 (fun hxe8a hxe8b => ?_)
      obtain ⟨xe8, exe8⟩ : ∃ z : Int32, tw_iv E xr7 (Int32.toNatClampNeg x1) = z := ⟨_, rfl⟩
      rw [exe8] at hxe8a hxe8b ⊢
      have hl37 : xe8.toInt = -1 ∨ (0 ≤ xe8.toInt ∧ xe8.toInt < x1.toInt ∧ r2_ok E a0 (x1.toInt) (xe8.toInt)) := (by have q := hg1 (x1.toInt).toNat (by rw [tw_fi_of hfv0_27]; omega) 25 (by decide); have w : tw_el E a0 25 (x1.toInt).toNat = xe8.toInt := (by rw [tw_el_of hxr7]; exact congrArg Int32.toInt exe8); rw [w, show (((x1.toInt).toNat : Nat) : Int) = x1.toInt by omega] at q; exact q)
      have hn37 : xe8.toInt = -1 ∨ (0 ≤ xe8.toInt ∧ xe8.toInt < x1.toInt) := hl37.imp id (fun q => ⟨q.1, q.2.1⟩)
      refine lv_iconst (v := (-1)) hx hb dX12_isFrom_37 (by decide) ?_
      refine lv_icmp_eq (tgt := 59) hx hb dX12_isFrom_38 (by decide) (fun hc9 => ?_) (fun hc9 => ?_)
      · have hf10 : xe8.toInt = (-1) := by have z := (fa_eq _ _).mp hc9; have : (((-1) : Int32).toInt) = (-1) := (by decide); omega
        refine lv_iconst (v := 0) hx hb dX12_isFrom_59 (by decide) ?_
        exact tw_zret hx hb hr hlocks (by decide) TH hS hex ⟨⟨_, rfl, (show 0 ≤ Int32.toInt 0 from by have : ((0 : Int32).toInt) = 0 := (by decide); omega), (show Int32.toInt 0 ≤ 1 from by have : ((0 : Int32).toInt) = 0 := (by decide); omega), (by have : ((0 : Int32).toInt) = 0 := (by decide); intro q; exfalso; exact q (by decide))⟩, rfl, rfl, rfl⟩ (Nat.le_of_ble_eq_true rfl) (Nat.le_of_ble_eq_true rfl) dX12_isFrom_60
      · have hf11 : ¬ (xe8.toInt = (-1)) := fun q => hc9 ((fa_eq _ _).mpr (by have : (((-1) : Int32).toInt) = (-1) := (by decide); omega))
        exfalso; omega
    · have hf12 : ¬ (xe4.toInt = (-1)) := fun q => hc5 ((fa_eq _ _).mpr (by have : (((-1) : Int32).toInt) = (-1) := (by decide); omega))
      exfalso; omega
  · have hf13 : x1.toInt = x2.toInt := by have z := (fa_eq _ _).mp hc1;  omega
    refine lv_iconst (v := 1) hx hb dX12_isFrom_5 (by decide) ?_
    exact tw_zret hx hb hr hlocks (by decide) TH hS hex ⟨⟨_, rfl, (show 0 ≤ Int32.toInt 1 from by have : ((1 : Int32).toInt) = 1 := (by decide); omega), (show Int32.toInt 1 ≤ 1 from by have : ((1 : Int32).toInt) = 1 := (by decide); omega), (by have : ((1 : Int32).toInt) = 1 := (by decide); intro _; rw [show x2.toInt = x1.toInt by omega]; exact r2_rf (hg0 (x1.toInt) (by omega) (by rw [tw_fi_of hfv0_27]; omega)))⟩, rfl, rfl, rfl⟩ (Nat.le_of_ble_eq_true rfl) (Nat.le_of_ble_eq_true rfl) dX12_isFrom_6
set_option maxHeartbeats 4000000 in
set_option maxRecDepth 100000 in
theorem tX12_isFrom_v1 (l : Launch) (D : va_G) (cs : Nat → ClassId) {kp : Nat → Nat} {L : List Nat} {E : Nat → va_E} (a0 : Nat) (x1 : Int32) (x2 : Int32) (fv0_27 : Int32) (hm0 : a0 ∈ L) (hk0 : kp a0 = 12) (hp1a : 0 ≤ x1.toInt) (hp1b : x1.toInt ≤ 1) (hp2a : 0 ≤ x2.toInt) (hp2b : x2.toInt ≤ 11) (hfv0_27 : tw_fv E a0 27 = .int fv0_27) (hpre0 : x1.toInt < fv0_27.toInt) (hg0 : eo_ok E a0) (hg1 : ln_ok E a0) (sz : Nat) : Met l yX12_isFrom (.code yX12_isFrom cX12_isFrom 3 (some .boolean) :: cx_big) { frames := 1, cells := 0, slots := 0, locals := 22 } (tw_P D cs kp L E [.ref a0, .int x1, .int x2] sz) (tw_Q D cs kp L (fun v kq Lq Eq => (∃ x : Int32, v = some (.int x) ∧ 0 ≤ x.toInt ∧ x.toInt ≤ 1 ∧ (x.toInt ≠ 0 → r2_ok E a0 x1.toInt x2.toInt)) ∧ kp = kq ∧ L = Lq ∧ E = Eq) (va_A (va_pl L E) sz)) 0 0 (va_A (va_pl L E) sz) := by
  refine tw_ofW (by decide) (Nat.le_of_ble_eq_true rfl) ?_
  intro p e s m below meth c A ls hx hb hr hml hB hown hlocks hK hN hA TH hS hl
  have hown : s.vm.findClass "TreeMergeModel" = some m.cls := hown
  have hl : lv_has ls 3 [(0, .ref a0), (1, .int x1), (2, .int x2)] := hl
  obtain ⟨kp0, ekp⟩ : ∃ z, z = kp := ⟨_, rfl⟩
  obtain ⟨L0, eL⟩ : ∃ z, z = L := ⟨_, rfl⟩
  rw [show tw_Q D cs kp L = tw_Q D cs kp0 L0 by rw [ekp, eL]]
  have hex : ∀ a : Nat, a ∈ L0 → a ∈ L ∧ kp a = kp0 a := fun a h => ⟨by rw [← eL]; exact h, by rw [ekp]⟩
  obtain ⟨qfv0_27, hqfv0_27, hqfv0_27a, hqfv0_27b⟩ := tw_rd TH hm0 hk0 (by decide) (by decide) (k := 27) rfl
  have eqfv0_27 : qfv0_27 = fv0_27 := by have q := hqfv0_27.symm.trans hfv0_27; injection q
  rw [eqfv0_27] at hqfv0_27a hqfv0_27b
  refine lv_iload_n hx hb dX12_isFrom_0 rfl (lv_at hl 1 rfl) ?_
  refine lv_iload_n hx hb dX12_isFrom_1 rfl (lv_at hl 2 rfl) ?_
  refine lv_icmp_ne (tgt := 7) hx hb dX12_isFrom_2 (by decide) (fun hc1 => ?_) (fun hc1 => ?_)
  · have hf2 : ¬ (x1.toInt = x2.toInt) := fun q => hc1 ((fa_eq _ _).mpr (by  omega))
    refine lv_aload_n hx hb dX12_isFrom_7 rfl (lv_at hl 0 rfl) ?_
    refine tw_get (ci := 12) (C := RX12) (T := TX12) (N := 64) hx hb hB cx_inX12 hown hK TH hm0 hk0 rfl ⟨by decide, rfl⟩ 24 (by decide) cw_1217 (fun _ h9 => h9) dX12_isFrom_8 (fun hv => ?_)
    obtain ⟨xr3, hxr3, hmxr3, hkxr3⟩ : ∃ a : Nat, tw_fv E a0 24 = .ref a ∧ a ∈ L ∧ kp a = 334 := hv
    rw [hxr3]
    refine lv_iload_n hx hb dX12_isFrom_11 rfl (lv_at hl 1 rfl) ?_
    refine tw_iald (k := 334) (t0 := 0) (n := 12) (lo := (-1)) (hi := 11) hx hb hK TH hmxr3 hkxr3 (by decide) rfl rfl (i := x1) (vp_in_iff.mpr ⟨by  omega, by  omega⟩) dX12_isFrom_12 (fun hxe4a hxe4b => ?_)
    obtain ⟨xe4, exe4⟩ : ∃ z : Int32, tw_iv E xr3 (Int32.toNatClampNeg x1) = z := ⟨_, rfl⟩
    rw [exe4] at hxe4a hxe4b ⊢
    have hl13 : xe4.toInt = -1 ∨ (0 ≤ xe4.toInt ∧ xe4.toInt < x1.toInt ∧ r2_ok E a0 (x1.toInt) (xe4.toInt)) := (by have q := hg1 (x1.toInt).toNat (by rw [tw_fi_of hfv0_27]; omega) 24 (by decide); have w : tw_el E a0 24 (x1.toInt).toNat = xe4.toInt := (by rw [tw_el_of hxr3]; exact congrArg Int32.toInt exe4); rw [w, show (((x1.toInt).toNat : Nat) : Int) = x1.toInt by omega] at q; exact q)
    have hn13 : xe4.toInt = -1 ∨ (0 ≤ xe4.toInt ∧ xe4.toInt < x1.toInt) := hl13.imp id (fun q => ⟨q.1, q.2.1⟩)
    refine lv_iconst (v := (-1)) hx hb dX12_isFrom_13 (by decide) ?_
    refine lv_icmp_eq (tgt := 31) hx hb dX12_isFrom_14 (by decide) (fun hc5 => ?_) (fun hc5 => ?_)
    · have hf6 : xe4.toInt = (-1) := by have z := (fa_eq _ _).mp hc5; have : (((-1) : Int32).toInt) = (-1) := (by decide); omega
      refine lv_aload_n hx hb dX12_isFrom_31 rfl (lv_at hl 0 rfl) ?_
      refine tw_get (ci := 12) (C := RX12) (T := TX12) (N := 64) hx hb hB cx_inX12 hown hK TH hm0 hk0 rfl ⟨by decide, rfl⟩ 25 (by decide) cw_1218 (fun _ h9 => h9) dX12_isFrom_32 (fun hv => ?_)
      obtain ⟨xr7, hxr7, hmxr7, hkxr7⟩ : ∃ a : Nat, tw_fv E a0 25 = .ref a ∧ a ∈ L ∧ kp a = 335 := hv
      rw [hxr7]
      refine lv_iload_n hx hb dX12_isFrom_35 rfl (lv_at hl 1 rfl) ?_
      refine tw_iald (k := 335) (t0 := 0) (n := 12) (lo := (-1)) (hi := 11) hx hb hK TH hmxr7 hkxr7 (by decide) rfl rfl (i := x1) (vp_in_iff.mpr ⟨by  omega, by  omega⟩) dX12_isFrom_36 (fun hxe8a hxe8b => ?_)
      obtain ⟨xe8, exe8⟩ : ∃ z : Int32, tw_iv E xr7 (Int32.toNatClampNeg x1) = z := ⟨_, rfl⟩
      rw [exe8] at hxe8a hxe8b ⊢
      have hl37 : xe8.toInt = -1 ∨ (0 ≤ xe8.toInt ∧ xe8.toInt < x1.toInt ∧ r2_ok E a0 (x1.toInt) (xe8.toInt)) := (by have q := hg1 (x1.toInt).toNat (by rw [tw_fi_of hfv0_27]; omega) 25 (by decide); have w : tw_el E a0 25 (x1.toInt).toNat = xe8.toInt := (by rw [tw_el_of hxr7]; exact congrArg Int32.toInt exe8); rw [w, show (((x1.toInt).toNat : Nat) : Int) = x1.toInt by omega] at q; exact q)
      have hn37 : xe8.toInt = -1 ∨ (0 ≤ xe8.toInt ∧ xe8.toInt < x1.toInt) := hl37.imp id (fun q => ⟨q.1, q.2.1⟩)
      refine lv_iconst (v := (-1)) hx hb dX12_isFrom_37 (by decide) ?_
      refine lv_icmp_eq (tgt := 59) hx hb dX12_isFrom_38 (by decide) (fun hc9 => ?_) (fun hc9 => ?_)
      · have hf10 : xe8.toInt = (-1) := by have z := (fa_eq _ _).mp hc9; have : (((-1) : Int32).toInt) = (-1) := (by decide); omega
        refine lv_iconst (v := 0) hx hb dX12_isFrom_59 (by decide) ?_
        exact tw_zret hx hb hr hlocks (by decide) TH hS hex ⟨⟨_, rfl, (show 0 ≤ Int32.toInt 0 from by have : ((0 : Int32).toInt) = 0 := (by decide); omega), (show Int32.toInt 0 ≤ 1 from by have : ((0 : Int32).toInt) = 0 := (by decide); omega), (by have : ((0 : Int32).toInt) = 0 := (by decide); intro q; exfalso; exact q (by decide))⟩, rfl, rfl, rfl⟩ (Nat.le_of_ble_eq_true rfl) (Nat.le_of_ble_eq_true rfl) dX12_isFrom_60
      · have hf11 : ¬ (xe8.toInt = (-1)) := fun q => hc9 ((fa_eq _ _).mpr (by have : (((-1) : Int32).toInt) = (-1) := (by decide); omega))
        refine lv_aload_n hx hb dX12_isFrom_41 rfl (lv_at hl 0 rfl) ?_
        refine lv_aload_n hx hb dX12_isFrom_42 rfl (lv_at hl 0 rfl) ?_
        refine tw_get (ci := 12) (C := RX12) (T := TX12) (N := 64) hx hb hB cx_inX12 hown hK TH hm0 hk0 rfl ⟨by decide, rfl⟩ 25 (by decide) cw_1218 (fun _ h9 => h9) dX12_isFrom_43 (fun hv => ?_)
        rw [hxr7]
        refine lv_iload_n hx hb dX12_isFrom_46 rfl (lv_at hl 1 rfl) ?_
        refine tw_iald (k := 335) (t0 := 0) (n := 12) (lo := (-1)) (hi := 11) hx hb hK TH hmxr7 hkxr7 (by decide) rfl rfl (i := x1) (vp_in_iff.mpr ⟨by  omega, by  omega⟩) dX12_isFrom_47 (fun hxe12a hxe12b => ?_)
        rw [exe8]
        refine lv_iload_n hx hb dX12_isFrom_48 rfl (lv_at hl 2 rfl) ?_
        refine tw_Vc (o := a0) (ci := 12) (n := 2) (post := (fun v kq Lq Eq => (∃ x : Int32, v = some (.int x) ∧ 0 ≤ x.toInt ∧ x.toInt ≤ 1 ∧ (x.toInt ≠ 0 → r2_ok E a0 xe8.toInt x2.toInt)) ∧ kp = kq ∧ L = Lq ∧ E = Eq)) (As := [.int xe8, .int x2]) (rest := []) ⟨hx, hb, hml, hown, hB⟩ (fun sz => tX12_isFrom_v0 l D cs a0 xe8 x2 fv0_27 hm0 hk0 (by omega) (by omega) (by omega) (by omega) hfv0_27 (by  omega) hg0 hg1 sz) cg_12_512_X12_isFrom rfl rfl (by decide +kernel) ⟨Nat.le_of_ble_eq_true rfl, Nat.le_of_ble_eq_true rfl⟩ hK hN TH hS hA rfl hm0 hk0 (by decide) rfl hl.1 rfl (Nat.le_of_ble_eq_true rfl) dX12_isFrom_49 ⟨Nat.le_of_ble_eq_true rfl, Nat.le_of_ble_eq_true rfl⟩ (fun v13 kp13 L13 E13 H locs hq13 hx13 TH hS => ?_)
        obtain ⟨⟨xc14, rfl, hxc14a, hxc14b, hpoxc14_0⟩, rfl, rfl, rfl⟩ := hq13
        refine W.eq (g2 := F0 m 52 ls [.int xc14]) rfl ?_
        refine lv_if_eq (tgt := 59) hx hb dX12_isFrom_52 (by decide) (fun hc15 => ?_) (fun hc15 => ?_)
        · have hf16 : xc14.toInt = 0 := by have z := (fa_eq _ _).mp hc15; have : ((0 : Int32).toInt) = 0 := (by decide); omega
          refine lv_iconst (v := 0) hx hb dX12_isFrom_59 (by decide) ?_
          exact tw_zret hx hb hr hlocks (by decide) TH hS hex ⟨⟨_, rfl, (show 0 ≤ Int32.toInt 0 from by have : ((0 : Int32).toInt) = 0 := (by decide); omega), (show Int32.toInt 0 ≤ 1 from by have : ((0 : Int32).toInt) = 0 := (by decide); omega), (by have : ((0 : Int32).toInt) = 0 := (by decide); intro q; exfalso; exact q (by decide))⟩, rfl, rfl, rfl⟩ (Nat.le_of_ble_eq_true rfl) (Nat.le_of_ble_eq_true rfl) dX12_isFrom_60
        · have hf17 : ¬ (xc14.toInt = 0) := fun q => hc15 ((fa_eq _ _).mpr (by have : ((0 : Int32).toInt) = 0 := (by decide); omega))
          refine lv_iconst (v := 1) hx hb dX12_isFrom_55 (by decide) ?_
          refine lv_goto (tgt := 60) hx hb dX12_isFrom_56 (by decide) ?_
          exact tw_zret hx hb hr hlocks (by decide) TH hS hex ⟨⟨_, rfl, (show 0 ≤ Int32.toInt 1 from by have : ((1 : Int32).toInt) = 1 := (by decide); omega), (show Int32.toInt 1 ≤ 1 from by have : ((1 : Int32).toInt) = 1 := (by decide); omega), (by have : ((1 : Int32).toInt) = 1 := (by decide); intro _; have hl := hl37.resolve_left (by omega); exact r2_tr (hg0 (xe8.toInt) (by omega) (by rw [tw_fi_of hfv0_27]; omega)).1 hl.2.2 (hpoxc14_0 (by omega)))⟩, rfl, rfl, rfl⟩ (Nat.le_of_ble_eq_true rfl) (Nat.le_of_ble_eq_true rfl) dX12_isFrom_60
    · have hf18 : ¬ (xe4.toInt = (-1)) := fun q => hc5 ((fa_eq _ _).mpr (by have : (((-1) : Int32).toInt) = (-1) := (by decide); omega))
      refine lv_aload_n hx hb dX12_isFrom_17 rfl (lv_at hl 0 rfl) ?_
      refine lv_aload_n hx hb dX12_isFrom_18 rfl (lv_at hl 0 rfl) ?_
      refine tw_get (ci := 12) (C := RX12) (T := TX12) (N := 64) hx hb hB cx_inX12 hown hK TH hm0 hk0 rfl ⟨by decide, rfl⟩ 24 (by decide) cw_1217 (fun _ h9 => h9) dX12_isFrom_19 (fun hv => ?_)
      rw [hxr3]
      refine lv_iload_n hx hb dX12_isFrom_22 rfl (lv_at hl 1 rfl) ?_
      refine tw_iald (k := 334) (t0 := 0) (n := 12) (lo := (-1)) (hi := 11) hx hb hK TH hmxr3 hkxr3 (by decide) rfl rfl (i := x1) (vp_in_iff.mpr ⟨by  omega, by  omega⟩) dX12_isFrom_23 (fun hxe19a hxe19b => ?_)
      rw [exe4]
      refine lv_iload_n hx hb dX12_isFrom_24 rfl (lv_at hl 2 rfl) ?_
      refine tw_Vc (o := a0) (ci := 12) (n := 2) (post := (fun v kq Lq Eq => (∃ x : Int32, v = some (.int x) ∧ 0 ≤ x.toInt ∧ x.toInt ≤ 1 ∧ (x.toInt ≠ 0 → r2_ok E a0 xe4.toInt x2.toInt)) ∧ kp = kq ∧ L = Lq ∧ E = Eq)) (As := [.int xe4, .int x2]) (rest := []) ⟨hx, hb, hml, hown, hB⟩ (fun sz => tX12_isFrom_v0 l D cs a0 xe4 x2 fv0_27 hm0 hk0 (by omega) (by omega) (by omega) (by omega) hfv0_27 (by  omega) hg0 hg1 sz) cg_12_512_X12_isFrom rfl rfl (by decide +kernel) ⟨Nat.le_of_ble_eq_true rfl, Nat.le_of_ble_eq_true rfl⟩ hK hN TH hS hA rfl hm0 hk0 (by decide) rfl hl.1 rfl (Nat.le_of_ble_eq_true rfl) dX12_isFrom_25 ⟨Nat.le_of_ble_eq_true rfl, Nat.le_of_ble_eq_true rfl⟩ (fun v20 kp20 L20 E20 H locs hq20 hx20 TH hS => ?_)
      obtain ⟨⟨xc21, rfl, hxc21a, hxc21b, hpoxc21_0⟩, rfl, rfl, rfl⟩ := hq20
      refine W.eq (g2 := F0 m 28 ls [.int xc21]) rfl ?_
      refine lv_if_ne (tgt := 55) hx hb dX12_isFrom_28 (by decide) (fun hc22 => ?_) (fun hc22 => ?_)
      · have hf23 : ¬ (xc21.toInt = 0) := fun q => hc22 ((fa_eq _ _).mpr (by have : ((0 : Int32).toInt) = 0 := (by decide); omega))
        refine lv_iconst (v := 1) hx hb dX12_isFrom_55 (by decide) ?_
        refine lv_goto (tgt := 60) hx hb dX12_isFrom_56 (by decide) ?_
        exact tw_zret hx hb hr hlocks (by decide) TH hS hex ⟨⟨_, rfl, (show 0 ≤ Int32.toInt 1 from by have : ((1 : Int32).toInt) = 1 := (by decide); omega), (show Int32.toInt 1 ≤ 1 from by have : ((1 : Int32).toInt) = 1 := (by decide); omega), (by have : ((1 : Int32).toInt) = 1 := (by decide); intro _; have hl := hl13.resolve_left (by omega); exact r2_tr (hg0 (xe4.toInt) (by omega) (by rw [tw_fi_of hfv0_27]; omega)).1 hl.2.2 (hpoxc21_0 (by omega)))⟩, rfl, rfl, rfl⟩ (Nat.le_of_ble_eq_true rfl) (Nat.le_of_ble_eq_true rfl) dX12_isFrom_60
      · have hf24 : xc21.toInt = 0 := by have z := (fa_eq _ _).mp hc22; have : ((0 : Int32).toInt) = 0 := (by decide); omega
        refine lv_aload_n hx hb dX12_isFrom_31 rfl (lv_at hl 0 rfl) ?_
        refine tw_get (ci := 12) (C := RX12) (T := TX12) (N := 64) hx hb hB cx_inX12 hown hK TH hm0 hk0 rfl ⟨by decide, rfl⟩ 25 (by decide) cw_1218 (fun _ h9 => h9) dX12_isFrom_32 (fun hv => ?_)
        obtain ⟨xr25, hxr25, hmxr25, hkxr25⟩ : ∃ a : Nat, tw_fv E a0 25 = .ref a ∧ a ∈ L ∧ kp a = 335 := hv
        rw [hxr25]
        refine lv_iload_n hx hb dX12_isFrom_35 rfl (lv_at hl 1 rfl) ?_
        refine tw_iald (k := 335) (t0 := 0) (n := 12) (lo := (-1)) (hi := 11) hx hb hK TH hmxr25 hkxr25 (by decide) rfl rfl (i := x1) (vp_in_iff.mpr ⟨by  omega, by  omega⟩) dX12_isFrom_36 (fun hxe26a hxe26b => ?_)
        obtain ⟨xe26, exe26⟩ : ∃ z : Int32, tw_iv E xr25 (Int32.toNatClampNeg x1) = z := ⟨_, rfl⟩
        rw [exe26] at hxe26a hxe26b ⊢
        have hl37 : xe26.toInt = -1 ∨ (0 ≤ xe26.toInt ∧ xe26.toInt < x1.toInt ∧ r2_ok E a0 (x1.toInt) (xe26.toInt)) := (by have q := hg1 (x1.toInt).toNat (by rw [tw_fi_of hfv0_27]; omega) 25 (by decide); have w : tw_el E a0 25 (x1.toInt).toNat = xe26.toInt := (by rw [tw_el_of hxr25]; exact congrArg Int32.toInt exe26); rw [w, show (((x1.toInt).toNat : Nat) : Int) = x1.toInt by omega] at q; exact q)
        have hn37 : xe26.toInt = -1 ∨ (0 ≤ xe26.toInt ∧ xe26.toInt < x1.toInt) := hl37.imp id (fun q => ⟨q.1, q.2.1⟩)
        refine lv_iconst (v := (-1)) hx hb dX12_isFrom_37 (by decide) ?_
        refine lv_icmp_eq (tgt := 59) hx hb dX12_isFrom_38 (by decide) (fun hc27 => ?_) (fun hc27 => ?_)
        · have hf28 : xe26.toInt = (-1) := by have z := (fa_eq _ _).mp hc27; have : (((-1) : Int32).toInt) = (-1) := (by decide); omega
          refine lv_iconst (v := 0) hx hb dX12_isFrom_59 (by decide) ?_
          exact tw_zret hx hb hr hlocks (by decide) TH hS hex ⟨⟨_, rfl, (show 0 ≤ Int32.toInt 0 from by have : ((0 : Int32).toInt) = 0 := (by decide); omega), (show Int32.toInt 0 ≤ 1 from by have : ((0 : Int32).toInt) = 0 := (by decide); omega), (by have : ((0 : Int32).toInt) = 0 := (by decide); intro q; exfalso; exact q (by decide))⟩, rfl, rfl, rfl⟩ (Nat.le_of_ble_eq_true rfl) (Nat.le_of_ble_eq_true rfl) dX12_isFrom_60
        · have hf29 : ¬ (xe26.toInt = (-1)) := fun q => hc27 ((fa_eq _ _).mpr (by have : (((-1) : Int32).toInt) = (-1) := (by decide); omega))
          refine lv_aload_n hx hb dX12_isFrom_41 rfl (lv_at hl 0 rfl) ?_
          refine lv_aload_n hx hb dX12_isFrom_42 rfl (lv_at hl 0 rfl) ?_
          refine tw_get (ci := 12) (C := RX12) (T := TX12) (N := 64) hx hb hB cx_inX12 hown hK TH hm0 hk0 rfl ⟨by decide, rfl⟩ 25 (by decide) cw_1218 (fun _ h9 => h9) dX12_isFrom_43 (fun hv => ?_)
          rw [hxr25]
          refine lv_iload_n hx hb dX12_isFrom_46 rfl (lv_at hl 1 rfl) ?_
          refine tw_iald (k := 335) (t0 := 0) (n := 12) (lo := (-1)) (hi := 11) hx hb hK TH hmxr25 hkxr25 (by decide) rfl rfl (i := x1) (vp_in_iff.mpr ⟨by  omega, by  omega⟩) dX12_isFrom_47 (fun hxe30a hxe30b => ?_)
          rw [exe26]
          refine lv_iload_n hx hb dX12_isFrom_48 rfl (lv_at hl 2 rfl) ?_
          refine tw_Vc (o := a0) (ci := 12) (n := 2) (post := (fun v kq Lq Eq => (∃ x : Int32, v = some (.int x) ∧ 0 ≤ x.toInt ∧ x.toInt ≤ 1 ∧ (x.toInt ≠ 0 → r2_ok E a0 xe26.toInt x2.toInt)) ∧ kp = kq ∧ L = Lq ∧ E = Eq)) (As := [.int xe26, .int x2]) (rest := []) ⟨hx, hb, hml, hown, hB⟩ (fun sz => tX12_isFrom_v0 l D cs a0 xe26 x2 fv0_27 hm0 hk0 (by omega) (by omega) (by omega) (by omega) hfv0_27 (by  omega) hg0 hg1 sz) cg_12_512_X12_isFrom rfl rfl (by decide +kernel) ⟨Nat.le_of_ble_eq_true rfl, Nat.le_of_ble_eq_true rfl⟩ hK hN TH hS hA rfl hm0 hk0 (by decide) rfl hl.1 rfl (Nat.le_of_ble_eq_true rfl) dX12_isFrom_49 ⟨Nat.le_of_ble_eq_true rfl, Nat.le_of_ble_eq_true rfl⟩ (fun v31 kp31 L31 E31 H locs hq31 hx31 TH hS => ?_)
          obtain ⟨⟨xc32, rfl, hxc32a, hxc32b, hpoxc32_0⟩, rfl, rfl, rfl⟩ := hq31
          refine W.eq (g2 := F0 m 52 ls [.int xc32]) rfl ?_
          refine lv_if_eq (tgt := 59) hx hb dX12_isFrom_52 (by decide) (fun hc33 => ?_) (fun hc33 => ?_)
          · have hf34 : xc32.toInt = 0 := by have z := (fa_eq _ _).mp hc33; have : ((0 : Int32).toInt) = 0 := (by decide); omega
            refine lv_iconst (v := 0) hx hb dX12_isFrom_59 (by decide) ?_
            exact tw_zret hx hb hr hlocks (by decide) TH hS hex ⟨⟨_, rfl, (show 0 ≤ Int32.toInt 0 from by have : ((0 : Int32).toInt) = 0 := (by decide); omega), (show Int32.toInt 0 ≤ 1 from by have : ((0 : Int32).toInt) = 0 := (by decide); omega), (by have : ((0 : Int32).toInt) = 0 := (by decide); intro q; exfalso; exact q (by decide))⟩, rfl, rfl, rfl⟩ (Nat.le_of_ble_eq_true rfl) (Nat.le_of_ble_eq_true rfl) dX12_isFrom_60
          · have hf35 : ¬ (xc32.toInt = 0) := fun q => hc33 ((fa_eq _ _).mpr (by have : ((0 : Int32).toInt) = 0 := (by decide); omega))
            refine lv_iconst (v := 1) hx hb dX12_isFrom_55 (by decide) ?_
            refine lv_goto (tgt := 60) hx hb dX12_isFrom_56 (by decide) ?_
            exact tw_zret hx hb hr hlocks (by decide) TH hS hex ⟨⟨_, rfl, (show 0 ≤ Int32.toInt 1 from by have : ((1 : Int32).toInt) = 1 := (by decide); omega), (show Int32.toInt 1 ≤ 1 from by have : ((1 : Int32).toInt) = 1 := (by decide); omega), (by have : ((1 : Int32).toInt) = 1 := (by decide); intro _; have hl := hl37.resolve_left (by omega); exact r2_tr (hg0 (xe26.toInt) (by omega) (by rw [tw_fi_of hfv0_27]; omega)).1 hl.2.2 (hpoxc32_0 (by omega)))⟩, rfl, rfl, rfl⟩ (Nat.le_of_ble_eq_true rfl) (Nat.le_of_ble_eq_true rfl) dX12_isFrom_60
  · have hf36 : x1.toInt = x2.toInt := by have z := (fa_eq _ _).mp hc1;  omega
    refine lv_iconst (v := 1) hx hb dX12_isFrom_5 (by decide) ?_
    exact tw_zret hx hb hr hlocks (by decide) TH hS hex ⟨⟨_, rfl, (show 0 ≤ Int32.toInt 1 from by have : ((1 : Int32).toInt) = 1 := (by decide); omega), (show Int32.toInt 1 ≤ 1 from by have : ((1 : Int32).toInt) = 1 := (by decide); omega), (by have : ((1 : Int32).toInt) = 1 := (by decide); intro _; rw [show x2.toInt = x1.toInt by omega]; exact r2_rf (hg0 (x1.toInt) (by omega) (by rw [tw_fi_of hfv0_27]; omega)))⟩, rfl, rfl, rfl⟩ (Nat.le_of_ble_eq_true rfl) (Nat.le_of_ble_eq_true rfl) dX12_isFrom_6
set_option maxHeartbeats 4000000 in
set_option maxRecDepth 100000 in
theorem tX12_isFrom_v2 (l : Launch) (D : va_G) (cs : Nat → ClassId) {kp : Nat → Nat} {L : List Nat} {E : Nat → va_E} (a0 : Nat) (x1 : Int32) (x2 : Int32) (fv0_27 : Int32) (hm0 : a0 ∈ L) (hk0 : kp a0 = 12) (hp1a : 0 ≤ x1.toInt) (hp1b : x1.toInt ≤ 2) (hp2a : 0 ≤ x2.toInt) (hp2b : x2.toInt ≤ 11) (hfv0_27 : tw_fv E a0 27 = .int fv0_27) (hpre0 : x1.toInt < fv0_27.toInt) (hg0 : eo_ok E a0) (hg1 : ln_ok E a0) (sz : Nat) : Met l yX12_isFrom (.code yX12_isFrom cX12_isFrom 3 (some .boolean) :: cx_big) { frames := 2, cells := 0, slots := 0, locals := 44 } (tw_P D cs kp L E [.ref a0, .int x1, .int x2] sz) (tw_Q D cs kp L (fun v kq Lq Eq => (∃ x : Int32, v = some (.int x) ∧ 0 ≤ x.toInt ∧ x.toInt ≤ 1 ∧ (x.toInt ≠ 0 → r2_ok E a0 x1.toInt x2.toInt)) ∧ kp = kq ∧ L = Lq ∧ E = Eq) (va_A (va_pl L E) sz)) 0 0 (va_A (va_pl L E) sz) := by
  refine tw_ofW (by decide) (Nat.le_of_ble_eq_true rfl) ?_
  intro p e s m below meth c A ls hx hb hr hml hB hown hlocks hK hN hA TH hS hl
  have hown : s.vm.findClass "TreeMergeModel" = some m.cls := hown
  have hl : lv_has ls 3 [(0, .ref a0), (1, .int x1), (2, .int x2)] := hl
  obtain ⟨kp0, ekp⟩ : ∃ z, z = kp := ⟨_, rfl⟩
  obtain ⟨L0, eL⟩ : ∃ z, z = L := ⟨_, rfl⟩
  rw [show tw_Q D cs kp L = tw_Q D cs kp0 L0 by rw [ekp, eL]]
  have hex : ∀ a : Nat, a ∈ L0 → a ∈ L ∧ kp a = kp0 a := fun a h => ⟨by rw [← eL]; exact h, by rw [ekp]⟩
  obtain ⟨qfv0_27, hqfv0_27, hqfv0_27a, hqfv0_27b⟩ := tw_rd TH hm0 hk0 (by decide) (by decide) (k := 27) rfl
  have eqfv0_27 : qfv0_27 = fv0_27 := by have q := hqfv0_27.symm.trans hfv0_27; injection q
  rw [eqfv0_27] at hqfv0_27a hqfv0_27b
  refine lv_iload_n hx hb dX12_isFrom_0 rfl (lv_at hl 1 rfl) ?_
  refine lv_iload_n hx hb dX12_isFrom_1 rfl (lv_at hl 2 rfl) ?_
  refine lv_icmp_ne (tgt := 7) hx hb dX12_isFrom_2 (by decide) (fun hc1 => ?_) (fun hc1 => ?_)
  · have hf2 : ¬ (x1.toInt = x2.toInt) := fun q => hc1 ((fa_eq _ _).mpr (by  omega))
    refine lv_aload_n hx hb dX12_isFrom_7 rfl (lv_at hl 0 rfl) ?_
    refine tw_get (ci := 12) (C := RX12) (T := TX12) (N := 64) hx hb hB cx_inX12 hown hK TH hm0 hk0 rfl ⟨by decide, rfl⟩ 24 (by decide) cw_1217 (fun _ h9 => h9) dX12_isFrom_8 (fun hv => ?_)
    obtain ⟨xr3, hxr3, hmxr3, hkxr3⟩ : ∃ a : Nat, tw_fv E a0 24 = .ref a ∧ a ∈ L ∧ kp a = 334 := hv
    rw [hxr3]
    refine lv_iload_n hx hb dX12_isFrom_11 rfl (lv_at hl 1 rfl) ?_
    refine tw_iald (k := 334) (t0 := 0) (n := 12) (lo := (-1)) (hi := 11) hx hb hK TH hmxr3 hkxr3 (by decide) rfl rfl (i := x1) (vp_in_iff.mpr ⟨by  omega, by  omega⟩) dX12_isFrom_12 (fun hxe4a hxe4b => ?_)
    obtain ⟨xe4, exe4⟩ : ∃ z : Int32, tw_iv E xr3 (Int32.toNatClampNeg x1) = z := ⟨_, rfl⟩
    rw [exe4] at hxe4a hxe4b ⊢
    have hl13 : xe4.toInt = -1 ∨ (0 ≤ xe4.toInt ∧ xe4.toInt < x1.toInt ∧ r2_ok E a0 (x1.toInt) (xe4.toInt)) := (by have q := hg1 (x1.toInt).toNat (by rw [tw_fi_of hfv0_27]; omega) 24 (by decide); have w : tw_el E a0 24 (x1.toInt).toNat = xe4.toInt := (by rw [tw_el_of hxr3]; exact congrArg Int32.toInt exe4); rw [w, show (((x1.toInt).toNat : Nat) : Int) = x1.toInt by omega] at q; exact q)
    have hn13 : xe4.toInt = -1 ∨ (0 ≤ xe4.toInt ∧ xe4.toInt < x1.toInt) := hl13.imp id (fun q => ⟨q.1, q.2.1⟩)
    refine lv_iconst (v := (-1)) hx hb dX12_isFrom_13 (by decide) ?_
    refine lv_icmp_eq (tgt := 31) hx hb dX12_isFrom_14 (by decide) (fun hc5 => ?_) (fun hc5 => ?_)
    · have hf6 : xe4.toInt = (-1) := by have z := (fa_eq _ _).mp hc5; have : (((-1) : Int32).toInt) = (-1) := (by decide); omega
      refine lv_aload_n hx hb dX12_isFrom_31 rfl (lv_at hl 0 rfl) ?_
      refine tw_get (ci := 12) (C := RX12) (T := TX12) (N := 64) hx hb hB cx_inX12 hown hK TH hm0 hk0 rfl ⟨by decide, rfl⟩ 25 (by decide) cw_1218 (fun _ h9 => h9) dX12_isFrom_32 (fun hv => ?_)
      obtain ⟨xr7, hxr7, hmxr7, hkxr7⟩ : ∃ a : Nat, tw_fv E a0 25 = .ref a ∧ a ∈ L ∧ kp a = 335 := hv
      rw [hxr7]
      refine lv_iload_n hx hb dX12_isFrom_35 rfl (lv_at hl 1 rfl) ?_
      refine tw_iald (k := 335) (t0 := 0) (n := 12) (lo := (-1)) (hi := 11) hx hb hK TH hmxr7 hkxr7 (by decide) rfl rfl (i := x1) (vp_in_iff.mpr ⟨by  omega, by  omega⟩) dX12_isFrom_36 (fun hxe8a hxe8b => ?_)
      obtain ⟨xe8, exe8⟩ : ∃ z : Int32, tw_iv E xr7 (Int32.toNatClampNeg x1) = z := ⟨_, rfl⟩
      rw [exe8] at hxe8a hxe8b ⊢
      have hl37 : xe8.toInt = -1 ∨ (0 ≤ xe8.toInt ∧ xe8.toInt < x1.toInt ∧ r2_ok E a0 (x1.toInt) (xe8.toInt)) := (by have q := hg1 (x1.toInt).toNat (by rw [tw_fi_of hfv0_27]; omega) 25 (by decide); have w : tw_el E a0 25 (x1.toInt).toNat = xe8.toInt := (by rw [tw_el_of hxr7]; exact congrArg Int32.toInt exe8); rw [w, show (((x1.toInt).toNat : Nat) : Int) = x1.toInt by omega] at q; exact q)
      have hn37 : xe8.toInt = -1 ∨ (0 ≤ xe8.toInt ∧ xe8.toInt < x1.toInt) := hl37.imp id (fun q => ⟨q.1, q.2.1⟩)
      refine lv_iconst (v := (-1)) hx hb dX12_isFrom_37 (by decide) ?_
      refine lv_icmp_eq (tgt := 59) hx hb dX12_isFrom_38 (by decide) (fun hc9 => ?_) (fun hc9 => ?_)
      · have hf10 : xe8.toInt = (-1) := by have z := (fa_eq _ _).mp hc9; have : (((-1) : Int32).toInt) = (-1) := (by decide); omega
        refine lv_iconst (v := 0) hx hb dX12_isFrom_59 (by decide) ?_
        exact tw_zret hx hb hr hlocks (by decide) TH hS hex ⟨⟨_, rfl, (show 0 ≤ Int32.toInt 0 from by have : ((0 : Int32).toInt) = 0 := (by decide); omega), (show Int32.toInt 0 ≤ 1 from by have : ((0 : Int32).toInt) = 0 := (by decide); omega), (by have : ((0 : Int32).toInt) = 0 := (by decide); intro q; exfalso; exact q (by decide))⟩, rfl, rfl, rfl⟩ (Nat.le_of_ble_eq_true rfl) (Nat.le_of_ble_eq_true rfl) dX12_isFrom_60
      · have hf11 : ¬ (xe8.toInt = (-1)) := fun q => hc9 ((fa_eq _ _).mpr (by have : (((-1) : Int32).toInt) = (-1) := (by decide); omega))
        refine lv_aload_n hx hb dX12_isFrom_41 rfl (lv_at hl 0 rfl) ?_
        refine lv_aload_n hx hb dX12_isFrom_42 rfl (lv_at hl 0 rfl) ?_
        refine tw_get (ci := 12) (C := RX12) (T := TX12) (N := 64) hx hb hB cx_inX12 hown hK TH hm0 hk0 rfl ⟨by decide, rfl⟩ 25 (by decide) cw_1218 (fun _ h9 => h9) dX12_isFrom_43 (fun hv => ?_)
        rw [hxr7]
        refine lv_iload_n hx hb dX12_isFrom_46 rfl (lv_at hl 1 rfl) ?_
        refine tw_iald (k := 335) (t0 := 0) (n := 12) (lo := (-1)) (hi := 11) hx hb hK TH hmxr7 hkxr7 (by decide) rfl rfl (i := x1) (vp_in_iff.mpr ⟨by  omega, by  omega⟩) dX12_isFrom_47 (fun hxe12a hxe12b => ?_)
        rw [exe8]
        refine lv_iload_n hx hb dX12_isFrom_48 rfl (lv_at hl 2 rfl) ?_
        refine tw_Vc (o := a0) (ci := 12) (n := 2) (post := (fun v kq Lq Eq => (∃ x : Int32, v = some (.int x) ∧ 0 ≤ x.toInt ∧ x.toInt ≤ 1 ∧ (x.toInt ≠ 0 → r2_ok E a0 xe8.toInt x2.toInt)) ∧ kp = kq ∧ L = Lq ∧ E = Eq)) (As := [.int xe8, .int x2]) (rest := []) ⟨hx, hb, hml, hown, hB⟩ (fun sz => tX12_isFrom_v1 l D cs a0 xe8 x2 fv0_27 hm0 hk0 (by omega) (by omega) (by omega) (by omega) hfv0_27 (by  omega) hg0 hg1 sz) cg_12_512_X12_isFrom rfl rfl (by decide +kernel) ⟨Nat.le_of_ble_eq_true rfl, Nat.le_of_ble_eq_true rfl⟩ hK hN TH hS hA rfl hm0 hk0 (by decide) rfl hl.1 rfl (Nat.le_of_ble_eq_true rfl) dX12_isFrom_49 ⟨Nat.le_of_ble_eq_true rfl, Nat.le_of_ble_eq_true rfl⟩ (fun v13 kp13 L13 E13 H locs hq13 hx13 TH hS => ?_)
        obtain ⟨⟨xc14, rfl, hxc14a, hxc14b, hpoxc14_0⟩, rfl, rfl, rfl⟩ := hq13
        refine W.eq (g2 := F0 m 52 ls [.int xc14]) rfl ?_
        refine lv_if_eq (tgt := 59) hx hb dX12_isFrom_52 (by decide) (fun hc15 => ?_) (fun hc15 => ?_)
        · have hf16 : xc14.toInt = 0 := by have z := (fa_eq _ _).mp hc15; have : ((0 : Int32).toInt) = 0 := (by decide); omega
          refine lv_iconst (v := 0) hx hb dX12_isFrom_59 (by decide) ?_
          exact tw_zret hx hb hr hlocks (by decide) TH hS hex ⟨⟨_, rfl, (show 0 ≤ Int32.toInt 0 from by have : ((0 : Int32).toInt) = 0 := (by decide); omega), (show Int32.toInt 0 ≤ 1 from by have : ((0 : Int32).toInt) = 0 := (by decide); omega), (by have : ((0 : Int32).toInt) = 0 := (by decide); intro q; exfalso; exact q (by decide))⟩, rfl, rfl, rfl⟩ (Nat.le_of_ble_eq_true rfl) (Nat.le_of_ble_eq_true rfl) dX12_isFrom_60
        · have hf17 : ¬ (xc14.toInt = 0) := fun q => hc15 ((fa_eq _ _).mpr (by have : ((0 : Int32).toInt) = 0 := (by decide); omega))
          refine lv_iconst (v := 1) hx hb dX12_isFrom_55 (by decide) ?_
          refine lv_goto (tgt := 60) hx hb dX12_isFrom_56 (by decide) ?_
          exact tw_zret hx hb hr hlocks (by decide) TH hS hex ⟨⟨_, rfl, (show 0 ≤ Int32.toInt 1 from by have : ((1 : Int32).toInt) = 1 := (by decide); omega), (show Int32.toInt 1 ≤ 1 from by have : ((1 : Int32).toInt) = 1 := (by decide); omega), (by have : ((1 : Int32).toInt) = 1 := (by decide); intro _; have hl := hl37.resolve_left (by omega); exact r2_tr (hg0 (xe8.toInt) (by omega) (by rw [tw_fi_of hfv0_27]; omega)).1 hl.2.2 (hpoxc14_0 (by omega)))⟩, rfl, rfl, rfl⟩ (Nat.le_of_ble_eq_true rfl) (Nat.le_of_ble_eq_true rfl) dX12_isFrom_60
    · have hf18 : ¬ (xe4.toInt = (-1)) := fun q => hc5 ((fa_eq _ _).mpr (by have : (((-1) : Int32).toInt) = (-1) := (by decide); omega))
      refine lv_aload_n hx hb dX12_isFrom_17 rfl (lv_at hl 0 rfl) ?_
      refine lv_aload_n hx hb dX12_isFrom_18 rfl (lv_at hl 0 rfl) ?_
      refine tw_get (ci := 12) (C := RX12) (T := TX12) (N := 64) hx hb hB cx_inX12 hown hK TH hm0 hk0 rfl ⟨by decide, rfl⟩ 24 (by decide) cw_1217 (fun _ h9 => h9) dX12_isFrom_19 (fun hv => ?_)
      rw [hxr3]
      refine lv_iload_n hx hb dX12_isFrom_22 rfl (lv_at hl 1 rfl) ?_
      refine tw_iald (k := 334) (t0 := 0) (n := 12) (lo := (-1)) (hi := 11) hx hb hK TH hmxr3 hkxr3 (by decide) rfl rfl (i := x1) (vp_in_iff.mpr ⟨by  omega, by  omega⟩) dX12_isFrom_23 (fun hxe19a hxe19b => ?_)
      rw [exe4]
      refine lv_iload_n hx hb dX12_isFrom_24 rfl (lv_at hl 2 rfl) ?_
      refine tw_Vc (o := a0) (ci := 12) (n := 2) (post := (fun v kq Lq Eq => (∃ x : Int32, v = some (.int x) ∧ 0 ≤ x.toInt ∧ x.toInt ≤ 1 ∧ (x.toInt ≠ 0 → r2_ok E a0 xe4.toInt x2.toInt)) ∧ kp = kq ∧ L = Lq ∧ E = Eq)) (As := [.int xe4, .int x2]) (rest := []) ⟨hx, hb, hml, hown, hB⟩ (fun sz => tX12_isFrom_v1 l D cs a0 xe4 x2 fv0_27 hm0 hk0 (by omega) (by omega) (by omega) (by omega) hfv0_27 (by  omega) hg0 hg1 sz) cg_12_512_X12_isFrom rfl rfl (by decide +kernel) ⟨Nat.le_of_ble_eq_true rfl, Nat.le_of_ble_eq_true rfl⟩ hK hN TH hS hA rfl hm0 hk0 (by decide) rfl hl.1 rfl (Nat.le_of_ble_eq_true rfl) dX12_isFrom_25 ⟨Nat.le_of_ble_eq_true rfl, Nat.le_of_ble_eq_true rfl⟩ (fun v20 kp20 L20 E20 H locs hq20 hx20 TH hS => ?_)
      obtain ⟨⟨xc21, rfl, hxc21a, hxc21b, hpoxc21_0⟩, rfl, rfl, rfl⟩ := hq20
      refine W.eq (g2 := F0 m 28 ls [.int xc21]) rfl ?_
      refine lv_if_ne (tgt := 55) hx hb dX12_isFrom_28 (by decide) (fun hc22 => ?_) (fun hc22 => ?_)
      · have hf23 : ¬ (xc21.toInt = 0) := fun q => hc22 ((fa_eq _ _).mpr (by have : ((0 : Int32).toInt) = 0 := (by decide); omega))
        refine lv_iconst (v := 1) hx hb dX12_isFrom_55 (by decide) ?_
        refine lv_goto (tgt := 60) hx hb dX12_isFrom_56 (by decide) ?_
        exact tw_zret hx hb hr hlocks (by decide) TH hS hex ⟨⟨_, rfl, (show 0 ≤ Int32.toInt 1 from by have : ((1 : Int32).toInt) = 1 := (by decide); omega), (show Int32.toInt 1 ≤ 1 from by have : ((1 : Int32).toInt) = 1 := (by decide); omega), (by have : ((1 : Int32).toInt) = 1 := (by decide); intro _; have hl := hl13.resolve_left (by omega); exact r2_tr (hg0 (xe4.toInt) (by omega) (by rw [tw_fi_of hfv0_27]; omega)).1 hl.2.2 (hpoxc21_0 (by omega)))⟩, rfl, rfl, rfl⟩ (Nat.le_of_ble_eq_true rfl) (Nat.le_of_ble_eq_true rfl) dX12_isFrom_60
      · have hf24 : xc21.toInt = 0 := by have z := (fa_eq _ _).mp hc22; have : ((0 : Int32).toInt) = 0 := (by decide); omega
        refine lv_aload_n hx hb dX12_isFrom_31 rfl (lv_at hl 0 rfl) ?_
        refine tw_get (ci := 12) (C := RX12) (T := TX12) (N := 64) hx hb hB cx_inX12 hown hK TH hm0 hk0 rfl ⟨by decide, rfl⟩ 25 (by decide) cw_1218 (fun _ h9 => h9) dX12_isFrom_32 (fun hv => ?_)
        obtain ⟨xr25, hxr25, hmxr25, hkxr25⟩ : ∃ a : Nat, tw_fv E a0 25 = .ref a ∧ a ∈ L ∧ kp a = 335 := hv
        rw [hxr25]
        refine lv_iload_n hx hb dX12_isFrom_35 rfl (lv_at hl 1 rfl) ?_
        refine tw_iald (k := 335) (t0 := 0) (n := 12) (lo := (-1)) (hi := 11) hx hb hK TH hmxr25 hkxr25 (by decide) rfl rfl (i := x1) (vp_in_iff.mpr ⟨by  omega, by  omega⟩) dX12_isFrom_36 (fun hxe26a hxe26b => ?_)
        obtain ⟨xe26, exe26⟩ : ∃ z : Int32, tw_iv E xr25 (Int32.toNatClampNeg x1) = z := ⟨_, rfl⟩
        rw [exe26] at hxe26a hxe26b ⊢
        have hl37 : xe26.toInt = -1 ∨ (0 ≤ xe26.toInt ∧ xe26.toInt < x1.toInt ∧ r2_ok E a0 (x1.toInt) (xe26.toInt)) := (by have q := hg1 (x1.toInt).toNat (by rw [tw_fi_of hfv0_27]; omega) 25 (by decide); have w : tw_el E a0 25 (x1.toInt).toNat = xe26.toInt := (by rw [tw_el_of hxr25]; exact congrArg Int32.toInt exe26); rw [w, show (((x1.toInt).toNat : Nat) : Int) = x1.toInt by omega] at q; exact q)
        have hn37 : xe26.toInt = -1 ∨ (0 ≤ xe26.toInt ∧ xe26.toInt < x1.toInt) := hl37.imp id (fun q => ⟨q.1, q.2.1⟩)
        refine lv_iconst (v := (-1)) hx hb dX12_isFrom_37 (by decide) ?_
        refine lv_icmp_eq (tgt := 59) hx hb dX12_isFrom_38 (by decide) (fun hc27 => ?_) (fun hc27 => ?_)
        · have hf28 : xe26.toInt = (-1) := by have z := (fa_eq _ _).mp hc27; have : (((-1) : Int32).toInt) = (-1) := (by decide); omega
          refine lv_iconst (v := 0) hx hb dX12_isFrom_59 (by decide) ?_
          exact tw_zret hx hb hr hlocks (by decide) TH hS hex ⟨⟨_, rfl, (show 0 ≤ Int32.toInt 0 from by have : ((0 : Int32).toInt) = 0 := (by decide); omega), (show Int32.toInt 0 ≤ 1 from by have : ((0 : Int32).toInt) = 0 := (by decide); omega), (by have : ((0 : Int32).toInt) = 0 := (by decide); intro q; exfalso; exact q (by decide))⟩, rfl, rfl, rfl⟩ (Nat.le_of_ble_eq_true rfl) (Nat.le_of_ble_eq_true rfl) dX12_isFrom_60
        · have hf29 : ¬ (xe26.toInt = (-1)) := fun q => hc27 ((fa_eq _ _).mpr (by have : (((-1) : Int32).toInt) = (-1) := (by decide); omega))
          refine lv_aload_n hx hb dX12_isFrom_41 rfl (lv_at hl 0 rfl) ?_
          refine lv_aload_n hx hb dX12_isFrom_42 rfl (lv_at hl 0 rfl) ?_
          refine tw_get (ci := 12) (C := RX12) (T := TX12) (N := 64) hx hb hB cx_inX12 hown hK TH hm0 hk0 rfl ⟨by decide, rfl⟩ 25 (by decide) cw_1218 (fun _ h9 => h9) dX12_isFrom_43 (fun hv => ?_)
          rw [hxr25]
          refine lv_iload_n hx hb dX12_isFrom_46 rfl (lv_at hl 1 rfl) ?_
          refine tw_iald (k := 335) (t0 := 0) (n := 12) (lo := (-1)) (hi := 11) hx hb hK TH hmxr25 hkxr25 (by decide) rfl rfl (i := x1) (vp_in_iff.mpr ⟨by  omega, by  omega⟩) dX12_isFrom_47 (fun hxe30a hxe30b => ?_)
          rw [exe26]
          refine lv_iload_n hx hb dX12_isFrom_48 rfl (lv_at hl 2 rfl) ?_
          refine tw_Vc (o := a0) (ci := 12) (n := 2) (post := (fun v kq Lq Eq => (∃ x : Int32, v = some (.int x) ∧ 0 ≤ x.toInt ∧ x.toInt ≤ 1 ∧ (x.toInt ≠ 0 → r2_ok E a0 xe26.toInt x2.toInt)) ∧ kp = kq ∧ L = Lq ∧ E = Eq)) (As := [.int xe26, .int x2]) (rest := []) ⟨hx, hb, hml, hown, hB⟩ (fun sz => tX12_isFrom_v1 l D cs a0 xe26 x2 fv0_27 hm0 hk0 (by omega) (by omega) (by omega) (by omega) hfv0_27 (by  omega) hg0 hg1 sz) cg_12_512_X12_isFrom rfl rfl (by decide +kernel) ⟨Nat.le_of_ble_eq_true rfl, Nat.le_of_ble_eq_true rfl⟩ hK hN TH hS hA rfl hm0 hk0 (by decide) rfl hl.1 rfl (Nat.le_of_ble_eq_true rfl) dX12_isFrom_49 ⟨Nat.le_of_ble_eq_true rfl, Nat.le_of_ble_eq_true rfl⟩ (fun v31 kp31 L31 E31 H locs hq31 hx31 TH hS => ?_)
          obtain ⟨⟨xc32, rfl, hxc32a, hxc32b, hpoxc32_0⟩, rfl, rfl, rfl⟩ := hq31
          refine W.eq (g2 := F0 m 52 ls [.int xc32]) rfl ?_
          refine lv_if_eq (tgt := 59) hx hb dX12_isFrom_52 (by decide) (fun hc33 => ?_) (fun hc33 => ?_)
          · have hf34 : xc32.toInt = 0 := by have z := (fa_eq _ _).mp hc33; have : ((0 : Int32).toInt) = 0 := (by decide); omega
            refine lv_iconst (v := 0) hx hb dX12_isFrom_59 (by decide) ?_
            exact tw_zret hx hb hr hlocks (by decide) TH hS hex ⟨⟨_, rfl, (show 0 ≤ Int32.toInt 0 from by have : ((0 : Int32).toInt) = 0 := (by decide); omega), (show Int32.toInt 0 ≤ 1 from by have : ((0 : Int32).toInt) = 0 := (by decide); omega), (by have : ((0 : Int32).toInt) = 0 := (by decide); intro q; exfalso; exact q (by decide))⟩, rfl, rfl, rfl⟩ (Nat.le_of_ble_eq_true rfl) (Nat.le_of_ble_eq_true rfl) dX12_isFrom_60
          · have hf35 : ¬ (xc32.toInt = 0) := fun q => hc33 ((fa_eq _ _).mpr (by have : ((0 : Int32).toInt) = 0 := (by decide); omega))
            refine lv_iconst (v := 1) hx hb dX12_isFrom_55 (by decide) ?_
            refine lv_goto (tgt := 60) hx hb dX12_isFrom_56 (by decide) ?_
            exact tw_zret hx hb hr hlocks (by decide) TH hS hex ⟨⟨_, rfl, (show 0 ≤ Int32.toInt 1 from by have : ((1 : Int32).toInt) = 1 := (by decide); omega), (show Int32.toInt 1 ≤ 1 from by have : ((1 : Int32).toInt) = 1 := (by decide); omega), (by have : ((1 : Int32).toInt) = 1 := (by decide); intro _; have hl := hl37.resolve_left (by omega); exact r2_tr (hg0 (xe26.toInt) (by omega) (by rw [tw_fi_of hfv0_27]; omega)).1 hl.2.2 (hpoxc32_0 (by omega)))⟩, rfl, rfl, rfl⟩ (Nat.le_of_ble_eq_true rfl) (Nat.le_of_ble_eq_true rfl) dX12_isFrom_60
  · have hf36 : x1.toInt = x2.toInt := by have z := (fa_eq _ _).mp hc1;  omega
    refine lv_iconst (v := 1) hx hb dX12_isFrom_5 (by decide) ?_
    exact tw_zret hx hb hr hlocks (by decide) TH hS hex ⟨⟨_, rfl, (show 0 ≤ Int32.toInt 1 from by have : ((1 : Int32).toInt) = 1 := (by decide); omega), (show Int32.toInt 1 ≤ 1 from by have : ((1 : Int32).toInt) = 1 := (by decide); omega), (by have : ((1 : Int32).toInt) = 1 := (by decide); intro _; rw [show x2.toInt = x1.toInt by omega]; exact r2_rf (hg0 (x1.toInt) (by omega) (by rw [tw_fi_of hfv0_27]; omega)))⟩, rfl, rfl, rfl⟩ (Nat.le_of_ble_eq_true rfl) (Nat.le_of_ble_eq_true rfl) dX12_isFrom_6
set_option maxHeartbeats 4000000 in
set_option maxRecDepth 100000 in
theorem tX12_isFrom_v3 (l : Launch) (D : va_G) (cs : Nat → ClassId) {kp : Nat → Nat} {L : List Nat} {E : Nat → va_E} (a0 : Nat) (x1 : Int32) (x2 : Int32) (fv0_27 : Int32) (hm0 : a0 ∈ L) (hk0 : kp a0 = 12) (hp1a : 0 ≤ x1.toInt) (hp1b : x1.toInt ≤ 3) (hp2a : 0 ≤ x2.toInt) (hp2b : x2.toInt ≤ 11) (hfv0_27 : tw_fv E a0 27 = .int fv0_27) (hpre0 : x1.toInt < fv0_27.toInt) (hg0 : eo_ok E a0) (hg1 : ln_ok E a0) (sz : Nat) : Met l yX12_isFrom (.code yX12_isFrom cX12_isFrom 3 (some .boolean) :: cx_big) { frames := 3, cells := 0, slots := 0, locals := 66 } (tw_P D cs kp L E [.ref a0, .int x1, .int x2] sz) (tw_Q D cs kp L (fun v kq Lq Eq => (∃ x : Int32, v = some (.int x) ∧ 0 ≤ x.toInt ∧ x.toInt ≤ 1 ∧ (x.toInt ≠ 0 → r2_ok E a0 x1.toInt x2.toInt)) ∧ kp = kq ∧ L = Lq ∧ E = Eq) (va_A (va_pl L E) sz)) 0 0 (va_A (va_pl L E) sz) := by
  refine tw_ofW (by decide) (Nat.le_of_ble_eq_true rfl) ?_
  intro p e s m below meth c A ls hx hb hr hml hB hown hlocks hK hN hA TH hS hl
  have hown : s.vm.findClass "TreeMergeModel" = some m.cls := hown
  have hl : lv_has ls 3 [(0, .ref a0), (1, .int x1), (2, .int x2)] := hl
  obtain ⟨kp0, ekp⟩ : ∃ z, z = kp := ⟨_, rfl⟩
  obtain ⟨L0, eL⟩ : ∃ z, z = L := ⟨_, rfl⟩
  rw [show tw_Q D cs kp L = tw_Q D cs kp0 L0 by rw [ekp, eL]]
  have hex : ∀ a : Nat, a ∈ L0 → a ∈ L ∧ kp a = kp0 a := fun a h => ⟨by rw [← eL]; exact h, by rw [ekp]⟩
  obtain ⟨qfv0_27, hqfv0_27, hqfv0_27a, hqfv0_27b⟩ := tw_rd TH hm0 hk0 (by decide) (by decide) (k := 27) rfl
  have eqfv0_27 : qfv0_27 = fv0_27 := by have q := hqfv0_27.symm.trans hfv0_27; injection q
  rw [eqfv0_27] at hqfv0_27a hqfv0_27b
  refine lv_iload_n hx hb dX12_isFrom_0 rfl (lv_at hl 1 rfl) ?_
  refine lv_iload_n hx hb dX12_isFrom_1 rfl (lv_at hl 2 rfl) ?_
  refine lv_icmp_ne (tgt := 7) hx hb dX12_isFrom_2 (by decide) (fun hc1 => ?_) (fun hc1 => ?_)
  · have hf2 : ¬ (x1.toInt = x2.toInt) := fun q => hc1 ((fa_eq _ _).mpr (by  omega))
    refine lv_aload_n hx hb dX12_isFrom_7 rfl (lv_at hl 0 rfl) ?_
    refine tw_get (ci := 12) (C := RX12) (T := TX12) (N := 64) hx hb hB cx_inX12 hown hK TH hm0 hk0 rfl ⟨by decide, rfl⟩ 24 (by decide) cw_1217 (fun _ h9 => h9) dX12_isFrom_8 (fun hv => ?_)
    obtain ⟨xr3, hxr3, hmxr3, hkxr3⟩ : ∃ a : Nat, tw_fv E a0 24 = .ref a ∧ a ∈ L ∧ kp a = 334 := hv
    rw [hxr3]
    refine lv_iload_n hx hb dX12_isFrom_11 rfl (lv_at hl 1 rfl) ?_
    refine tw_iald (k := 334) (t0 := 0) (n := 12) (lo := (-1)) (hi := 11) hx hb hK TH hmxr3 hkxr3 (by decide) rfl rfl (i := x1) (vp_in_iff.mpr ⟨by  omega, by  omega⟩) dX12_isFrom_12 (fun hxe4a hxe4b => ?_)
    obtain ⟨xe4, exe4⟩ : ∃ z : Int32, tw_iv E xr3 (Int32.toNatClampNeg x1) = z := ⟨_, rfl⟩
    rw [exe4] at hxe4a hxe4b ⊢
    have hl13 : xe4.toInt = -1 ∨ (0 ≤ xe4.toInt ∧ xe4.toInt < x1.toInt ∧ r2_ok E a0 (x1.toInt) (xe4.toInt)) := (by have q := hg1 (x1.toInt).toNat (by rw [tw_fi_of hfv0_27]; omega) 24 (by decide); have w : tw_el E a0 24 (x1.toInt).toNat = xe4.toInt := (by rw [tw_el_of hxr3]; exact congrArg Int32.toInt exe4); rw [w, show (((x1.toInt).toNat : Nat) : Int) = x1.toInt by omega] at q; exact q)
    have hn13 : xe4.toInt = -1 ∨ (0 ≤ xe4.toInt ∧ xe4.toInt < x1.toInt) := hl13.imp id (fun q => ⟨q.1, q.2.1⟩)
    refine lv_iconst (v := (-1)) hx hb dX12_isFrom_13 (by decide) ?_
    refine lv_icmp_eq (tgt := 31) hx hb dX12_isFrom_14 (by decide) (fun hc5 => ?_) (fun hc5 => ?_)
    · have hf6 : xe4.toInt = (-1) := by have z := (fa_eq _ _).mp hc5; have : (((-1) : Int32).toInt) = (-1) := (by decide); omega
      refine lv_aload_n hx hb dX12_isFrom_31 rfl (lv_at hl 0 rfl) ?_
      refine tw_get (ci := 12) (C := RX12) (T := TX12) (N := 64) hx hb hB cx_inX12 hown hK TH hm0 hk0 rfl ⟨by decide, rfl⟩ 25 (by decide) cw_1218 (fun _ h9 => h9) dX12_isFrom_32 (fun hv => ?_)
      obtain ⟨xr7, hxr7, hmxr7, hkxr7⟩ : ∃ a : Nat, tw_fv E a0 25 = .ref a ∧ a ∈ L ∧ kp a = 335 := hv
      rw [hxr7]
      refine lv_iload_n hx hb dX12_isFrom_35 rfl (lv_at hl 1 rfl) ?_
      refine tw_iald (k := 335) (t0 := 0) (n := 12) (lo := (-1)) (hi := 11) hx hb hK TH hmxr7 hkxr7 (by decide) rfl rfl (i := x1) (vp_in_iff.mpr ⟨by  omega, by  omega⟩) dX12_isFrom_36 (fun hxe8a hxe8b => ?_)
      obtain ⟨xe8, exe8⟩ : ∃ z : Int32, tw_iv E xr7 (Int32.toNatClampNeg x1) = z := ⟨_, rfl⟩
      rw [exe8] at hxe8a hxe8b ⊢
      have hl37 : xe8.toInt = -1 ∨ (0 ≤ xe8.toInt ∧ xe8.toInt < x1.toInt ∧ r2_ok E a0 (x1.toInt) (xe8.toInt)) := (by have q := hg1 (x1.toInt).toNat (by rw [tw_fi_of hfv0_27]; omega) 25 (by decide); have w : tw_el E a0 25 (x1.toInt).toNat = xe8.toInt := (by rw [tw_el_of hxr7]; exact congrArg Int32.toInt exe8); rw [w, show (((x1.toInt).toNat : Nat) : Int) = x1.toInt by omega] at q; exact q)
      have hn37 : xe8.toInt = -1 ∨ (0 ≤ xe8.toInt ∧ xe8.toInt < x1.toInt) := hl37.imp id (fun q => ⟨q.1, q.2.1⟩)
      refine lv_iconst (v := (-1)) hx hb dX12_isFrom_37 (by decide) ?_
      refine lv_icmp_eq (tgt := 59) hx hb dX12_isFrom_38 (by decide) (fun hc9 => ?_) (fun hc9 => ?_)
      · have hf10 : xe8.toInt = (-1) := by have z := (fa_eq _ _).mp hc9; have : (((-1) : Int32).toInt) = (-1) := (by decide); omega
        refine lv_iconst (v := 0) hx hb dX12_isFrom_59 (by decide) ?_
        exact tw_zret hx hb hr hlocks (by decide) TH hS hex ⟨⟨_, rfl, (show 0 ≤ Int32.toInt 0 from by have : ((0 : Int32).toInt) = 0 := (by decide); omega), (show Int32.toInt 0 ≤ 1 from by have : ((0 : Int32).toInt) = 0 := (by decide); omega), (by have : ((0 : Int32).toInt) = 0 := (by decide); intro q; exfalso; exact q (by decide))⟩, rfl, rfl, rfl⟩ (Nat.le_of_ble_eq_true rfl) (Nat.le_of_ble_eq_true rfl) dX12_isFrom_60
      · have hf11 : ¬ (xe8.toInt = (-1)) := fun q => hc9 ((fa_eq _ _).mpr (by have : (((-1) : Int32).toInt) = (-1) := (by decide); omega))
        refine lv_aload_n hx hb dX12_isFrom_41 rfl (lv_at hl 0 rfl) ?_
        refine lv_aload_n hx hb dX12_isFrom_42 rfl (lv_at hl 0 rfl) ?_
        refine tw_get (ci := 12) (C := RX12) (T := TX12) (N := 64) hx hb hB cx_inX12 hown hK TH hm0 hk0 rfl ⟨by decide, rfl⟩ 25 (by decide) cw_1218 (fun _ h9 => h9) dX12_isFrom_43 (fun hv => ?_)
        rw [hxr7]
        refine lv_iload_n hx hb dX12_isFrom_46 rfl (lv_at hl 1 rfl) ?_
        refine tw_iald (k := 335) (t0 := 0) (n := 12) (lo := (-1)) (hi := 11) hx hb hK TH hmxr7 hkxr7 (by decide) rfl rfl (i := x1) (vp_in_iff.mpr ⟨by  omega, by  omega⟩) dX12_isFrom_47 (fun hxe12a hxe12b => ?_)
        rw [exe8]
        refine lv_iload_n hx hb dX12_isFrom_48 rfl (lv_at hl 2 rfl) ?_
        refine tw_Vc (o := a0) (ci := 12) (n := 2) (post := (fun v kq Lq Eq => (∃ x : Int32, v = some (.int x) ∧ 0 ≤ x.toInt ∧ x.toInt ≤ 1 ∧ (x.toInt ≠ 0 → r2_ok E a0 xe8.toInt x2.toInt)) ∧ kp = kq ∧ L = Lq ∧ E = Eq)) (As := [.int xe8, .int x2]) (rest := []) ⟨hx, hb, hml, hown, hB⟩ (fun sz => tX12_isFrom_v2 l D cs a0 xe8 x2 fv0_27 hm0 hk0 (by omega) (by omega) (by omega) (by omega) hfv0_27 (by  omega) hg0 hg1 sz) cg_12_512_X12_isFrom rfl rfl (by decide +kernel) ⟨Nat.le_of_ble_eq_true rfl, Nat.le_of_ble_eq_true rfl⟩ hK hN TH hS hA rfl hm0 hk0 (by decide) rfl hl.1 rfl (Nat.le_of_ble_eq_true rfl) dX12_isFrom_49 ⟨Nat.le_of_ble_eq_true rfl, Nat.le_of_ble_eq_true rfl⟩ (fun v13 kp13 L13 E13 H locs hq13 hx13 TH hS => ?_)
        obtain ⟨⟨xc14, rfl, hxc14a, hxc14b, hpoxc14_0⟩, rfl, rfl, rfl⟩ := hq13
        refine W.eq (g2 := F0 m 52 ls [.int xc14]) rfl ?_
        refine lv_if_eq (tgt := 59) hx hb dX12_isFrom_52 (by decide) (fun hc15 => ?_) (fun hc15 => ?_)
        · have hf16 : xc14.toInt = 0 := by have z := (fa_eq _ _).mp hc15; have : ((0 : Int32).toInt) = 0 := (by decide); omega
          refine lv_iconst (v := 0) hx hb dX12_isFrom_59 (by decide) ?_
          exact tw_zret hx hb hr hlocks (by decide) TH hS hex ⟨⟨_, rfl, (show 0 ≤ Int32.toInt 0 from by have : ((0 : Int32).toInt) = 0 := (by decide); omega), (show Int32.toInt 0 ≤ 1 from by have : ((0 : Int32).toInt) = 0 := (by decide); omega), (by have : ((0 : Int32).toInt) = 0 := (by decide); intro q; exfalso; exact q (by decide))⟩, rfl, rfl, rfl⟩ (Nat.le_of_ble_eq_true rfl) (Nat.le_of_ble_eq_true rfl) dX12_isFrom_60
        · have hf17 : ¬ (xc14.toInt = 0) := fun q => hc15 ((fa_eq _ _).mpr (by have : ((0 : Int32).toInt) = 0 := (by decide); omega))
          refine lv_iconst (v := 1) hx hb dX12_isFrom_55 (by decide) ?_
          refine lv_goto (tgt := 60) hx hb dX12_isFrom_56 (by decide) ?_
          exact tw_zret hx hb hr hlocks (by decide) TH hS hex ⟨⟨_, rfl, (show 0 ≤ Int32.toInt 1 from by have : ((1 : Int32).toInt) = 1 := (by decide); omega), (show Int32.toInt 1 ≤ 1 from by have : ((1 : Int32).toInt) = 1 := (by decide); omega), (by have : ((1 : Int32).toInt) = 1 := (by decide); intro _; have hl := hl37.resolve_left (by omega); exact r2_tr (hg0 (xe8.toInt) (by omega) (by rw [tw_fi_of hfv0_27]; omega)).1 hl.2.2 (hpoxc14_0 (by omega)))⟩, rfl, rfl, rfl⟩ (Nat.le_of_ble_eq_true rfl) (Nat.le_of_ble_eq_true rfl) dX12_isFrom_60
    · have hf18 : ¬ (xe4.toInt = (-1)) := fun q => hc5 ((fa_eq _ _).mpr (by have : (((-1) : Int32).toInt) = (-1) := (by decide); omega))
      refine lv_aload_n hx hb dX12_isFrom_17 rfl (lv_at hl 0 rfl) ?_
      refine lv_aload_n hx hb dX12_isFrom_18 rfl (lv_at hl 0 rfl) ?_
      refine tw_get (ci := 12) (C := RX12) (T := TX12) (N := 64) hx hb hB cx_inX12 hown hK TH hm0 hk0 rfl ⟨by decide, rfl⟩ 24 (by decide) cw_1217 (fun _ h9 => h9) dX12_isFrom_19 (fun hv => ?_)
      rw [hxr3]
      refine lv_iload_n hx hb dX12_isFrom_22 rfl (lv_at hl 1 rfl) ?_
      refine tw_iald (k := 334) (t0 := 0) (n := 12) (lo := (-1)) (hi := 11) hx hb hK TH hmxr3 hkxr3 (by decide) rfl rfl (i := x1) (vp_in_iff.mpr ⟨by  omega, by  omega⟩) dX12_isFrom_23 (fun hxe19a hxe19b => ?_)
      rw [exe4]
      refine lv_iload_n hx hb dX12_isFrom_24 rfl (lv_at hl 2 rfl) ?_
      refine tw_Vc (o := a0) (ci := 12) (n := 2) (post := (fun v kq Lq Eq => (∃ x : Int32, v = some (.int x) ∧ 0 ≤ x.toInt ∧ x.toInt ≤ 1 ∧ (x.toInt ≠ 0 → r2_ok E a0 xe4.toInt x2.toInt)) ∧ kp = kq ∧ L = Lq ∧ E = Eq)) (As := [.int xe4, .int x2]) (rest := []) ⟨hx, hb, hml, hown, hB⟩ (fun sz => tX12_isFrom_v2 l D cs a0 xe4 x2 fv0_27 hm0 hk0 (by omega) (by omega) (by omega) (by omega) hfv0_27 (by  omega) hg0 hg1 sz) cg_12_512_X12_isFrom rfl rfl (by decide +kernel) ⟨Nat.le_of_ble_eq_true rfl, Nat.le_of_ble_eq_true rfl⟩ hK hN TH hS hA rfl hm0 hk0 (by decide) rfl hl.1 rfl (Nat.le_of_ble_eq_true rfl) dX12_isFrom_25 ⟨Nat.le_of_ble_eq_true rfl, Nat.le_of_ble_eq_true rfl⟩ (fun v20 kp20 L20 E20 H locs hq20 hx20 TH hS => ?_)
      obtain ⟨⟨xc21, rfl, hxc21a, hxc21b, hpoxc21_0⟩, rfl, rfl, rfl⟩ := hq20
      refine W.eq (g2 := F0 m 28 ls [.int xc21]) rfl ?_
      refine lv_if_ne (tgt := 55) hx hb dX12_isFrom_28 (by decide) (fun hc22 => ?_) (fun hc22 => ?_)
      · have hf23 : ¬ (xc21.toInt = 0) := fun q => hc22 ((fa_eq _ _).mpr (by have : ((0 : Int32).toInt) = 0 := (by decide); omega))
        refine lv_iconst (v := 1) hx hb dX12_isFrom_55 (by decide) ?_
        refine lv_goto (tgt := 60) hx hb dX12_isFrom_56 (by decide) ?_
        exact tw_zret hx hb hr hlocks (by decide) TH hS hex ⟨⟨_, rfl, (show 0 ≤ Int32.toInt 1 from by have : ((1 : Int32).toInt) = 1 := (by decide); omega), (show Int32.toInt 1 ≤ 1 from by have : ((1 : Int32).toInt) = 1 := (by decide); omega), (by have : ((1 : Int32).toInt) = 1 := (by decide); intro _; have hl := hl13.resolve_left (by omega); exact r2_tr (hg0 (xe4.toInt) (by omega) (by rw [tw_fi_of hfv0_27]; omega)).1 hl.2.2 (hpoxc21_0 (by omega)))⟩, rfl, rfl, rfl⟩ (Nat.le_of_ble_eq_true rfl) (Nat.le_of_ble_eq_true rfl) dX12_isFrom_60
      · have hf24 : xc21.toInt = 0 := by have z := (fa_eq _ _).mp hc22; have : ((0 : Int32).toInt) = 0 := (by decide); omega
        refine lv_aload_n hx hb dX12_isFrom_31 rfl (lv_at hl 0 rfl) ?_
        refine tw_get (ci := 12) (C := RX12) (T := TX12) (N := 64) hx hb hB cx_inX12 hown hK TH hm0 hk0 rfl ⟨by decide, rfl⟩ 25 (by decide) cw_1218 (fun _ h9 => h9) dX12_isFrom_32 (fun hv => ?_)
        obtain ⟨xr25, hxr25, hmxr25, hkxr25⟩ : ∃ a : Nat, tw_fv E a0 25 = .ref a ∧ a ∈ L ∧ kp a = 335 := hv
        rw [hxr25]
        refine lv_iload_n hx hb dX12_isFrom_35 rfl (lv_at hl 1 rfl) ?_
        refine tw_iald (k := 335) (t0 := 0) (n := 12) (lo := (-1)) (hi := 11) hx hb hK TH hmxr25 hkxr25 (by decide) rfl rfl (i := x1) (vp_in_iff.mpr ⟨by  omega, by  omega⟩) dX12_isFrom_36 (fun hxe26a hxe26b => ?_)
        obtain ⟨xe26, exe26⟩ : ∃ z : Int32, tw_iv E xr25 (Int32.toNatClampNeg x1) = z := ⟨_, rfl⟩
        rw [exe26] at hxe26a hxe26b ⊢
        have hl37 : xe26.toInt = -1 ∨ (0 ≤ xe26.toInt ∧ xe26.toInt < x1.toInt ∧ r2_ok E a0 (x1.toInt) (xe26.toInt)) := (by have q := hg1 (x1.toInt).toNat (by rw [tw_fi_of hfv0_27]; omega) 25 (by decide); have w : tw_el E a0 25 (x1.toInt).toNat = xe26.toInt := (by rw [tw_el_of hxr25]; exact congrArg Int32.toInt exe26); rw [w, show (((x1.toInt).toNat : Nat) : Int) = x1.toInt by omega] at q; exact q)
        have hn37 : xe26.toInt = -1 ∨ (0 ≤ xe26.toInt ∧ xe26.toInt < x1.toInt) := hl37.imp id (fun q => ⟨q.1, q.2.1⟩)
        refine lv_iconst (v := (-1)) hx hb dX12_isFrom_37 (by decide) ?_
        refine lv_icmp_eq (tgt := 59) hx hb dX12_isFrom_38 (by decide) (fun hc27 => ?_) (fun hc27 => ?_)
        · have hf28 : xe26.toInt = (-1) := by have z := (fa_eq _ _).mp hc27; have : (((-1) : Int32).toInt) = (-1) := (by decide); omega
          refine lv_iconst (v := 0) hx hb dX12_isFrom_59 (by decide) ?_
          exact tw_zret hx hb hr hlocks (by decide) TH hS hex ⟨⟨_, rfl, (show 0 ≤ Int32.toInt 0 from by have : ((0 : Int32).toInt) = 0 := (by decide); omega), (show Int32.toInt 0 ≤ 1 from by have : ((0 : Int32).toInt) = 0 := (by decide); omega), (by have : ((0 : Int32).toInt) = 0 := (by decide); intro q; exfalso; exact q (by decide))⟩, rfl, rfl, rfl⟩ (Nat.le_of_ble_eq_true rfl) (Nat.le_of_ble_eq_true rfl) dX12_isFrom_60
        · have hf29 : ¬ (xe26.toInt = (-1)) := fun q => hc27 ((fa_eq _ _).mpr (by have : (((-1) : Int32).toInt) = (-1) := (by decide); omega))
          refine lv_aload_n hx hb dX12_isFrom_41 rfl (lv_at hl 0 rfl) ?_
          refine lv_aload_n hx hb dX12_isFrom_42 rfl (lv_at hl 0 rfl) ?_
          refine tw_get (ci := 12) (C := RX12) (T := TX12) (N := 64) hx hb hB cx_inX12 hown hK TH hm0 hk0 rfl ⟨by decide, rfl⟩ 25 (by decide) cw_1218 (fun _ h9 => h9) dX12_isFrom_43 (fun hv => ?_)
          rw [hxr25]
          refine lv_iload_n hx hb dX12_isFrom_46 rfl (lv_at hl 1 rfl) ?_
          refine tw_iald (k := 335) (t0 := 0) (n := 12) (lo := (-1)) (hi := 11) hx hb hK TH hmxr25 hkxr25 (by decide) rfl rfl (i := x1) (vp_in_iff.mpr ⟨by  omega, by  omega⟩) dX12_isFrom_47 (fun hxe30a hxe30b => ?_)
          rw [exe26]
          refine lv_iload_n hx hb dX12_isFrom_48 rfl (lv_at hl 2 rfl) ?_
          refine tw_Vc (o := a0) (ci := 12) (n := 2) (post := (fun v kq Lq Eq => (∃ x : Int32, v = some (.int x) ∧ 0 ≤ x.toInt ∧ x.toInt ≤ 1 ∧ (x.toInt ≠ 0 → r2_ok E a0 xe26.toInt x2.toInt)) ∧ kp = kq ∧ L = Lq ∧ E = Eq)) (As := [.int xe26, .int x2]) (rest := []) ⟨hx, hb, hml, hown, hB⟩ (fun sz => tX12_isFrom_v2 l D cs a0 xe26 x2 fv0_27 hm0 hk0 (by omega) (by omega) (by omega) (by omega) hfv0_27 (by  omega) hg0 hg1 sz) cg_12_512_X12_isFrom rfl rfl (by decide +kernel) ⟨Nat.le_of_ble_eq_true rfl, Nat.le_of_ble_eq_true rfl⟩ hK hN TH hS hA rfl hm0 hk0 (by decide) rfl hl.1 rfl (Nat.le_of_ble_eq_true rfl) dX12_isFrom_49 ⟨Nat.le_of_ble_eq_true rfl, Nat.le_of_ble_eq_true rfl⟩ (fun v31 kp31 L31 E31 H locs hq31 hx31 TH hS => ?_)
          obtain ⟨⟨xc32, rfl, hxc32a, hxc32b, hpoxc32_0⟩, rfl, rfl, rfl⟩ := hq31
          refine W.eq (g2 := F0 m 52 ls [.int xc32]) rfl ?_
          refine lv_if_eq (tgt := 59) hx hb dX12_isFrom_52 (by decide) (fun hc33 => ?_) (fun hc33 => ?_)
          · have hf34 : xc32.toInt = 0 := by have z := (fa_eq _ _).mp hc33; have : ((0 : Int32).toInt) = 0 := (by decide); omega
            refine lv_iconst (v := 0) hx hb dX12_isFrom_59 (by decide) ?_
            exact tw_zret hx hb hr hlocks (by decide) TH hS hex ⟨⟨_, rfl, (show 0 ≤ Int32.toInt 0 from by have : ((0 : Int32).toInt) = 0 := (by decide); omega), (show Int32.toInt 0 ≤ 1 from by have : ((0 : Int32).toInt) = 0 := (by decide); omega), (by have : ((0 : Int32).toInt) = 0 := (by decide); intro q; exfalso; exact q (by decide))⟩, rfl, rfl, rfl⟩ (Nat.le_of_ble_eq_true rfl) (Nat.le_of_ble_eq_true rfl) dX12_isFrom_60
          · have hf35 : ¬ (xc32.toInt = 0) := fun q => hc33 ((fa_eq _ _).mpr (by have : ((0 : Int32).toInt) = 0 := (by decide); omega))
            refine lv_iconst (v := 1) hx hb dX12_isFrom_55 (by decide) ?_
            refine lv_goto (tgt := 60) hx hb dX12_isFrom_56 (by decide) ?_
            exact tw_zret hx hb hr hlocks (by decide) TH hS hex ⟨⟨_, rfl, (show 0 ≤ Int32.toInt 1 from by have : ((1 : Int32).toInt) = 1 := (by decide); omega), (show Int32.toInt 1 ≤ 1 from by have : ((1 : Int32).toInt) = 1 := (by decide); omega), (by have : ((1 : Int32).toInt) = 1 := (by decide); intro _; have hl := hl37.resolve_left (by omega); exact r2_tr (hg0 (xe26.toInt) (by omega) (by rw [tw_fi_of hfv0_27]; omega)).1 hl.2.2 (hpoxc32_0 (by omega)))⟩, rfl, rfl, rfl⟩ (Nat.le_of_ble_eq_true rfl) (Nat.le_of_ble_eq_true rfl) dX12_isFrom_60
  · have hf36 : x1.toInt = x2.toInt := by have z := (fa_eq _ _).mp hc1;  omega
    refine lv_iconst (v := 1) hx hb dX12_isFrom_5 (by decide) ?_
    exact tw_zret hx hb hr hlocks (by decide) TH hS hex ⟨⟨_, rfl, (show 0 ≤ Int32.toInt 1 from by have : ((1 : Int32).toInt) = 1 := (by decide); omega), (show Int32.toInt 1 ≤ 1 from by have : ((1 : Int32).toInt) = 1 := (by decide); omega), (by have : ((1 : Int32).toInt) = 1 := (by decide); intro _; rw [show x2.toInt = x1.toInt by omega]; exact r2_rf (hg0 (x1.toInt) (by omega) (by rw [tw_fi_of hfv0_27]; omega)))⟩, rfl, rfl, rfl⟩ (Nat.le_of_ble_eq_true rfl) (Nat.le_of_ble_eq_true rfl) dX12_isFrom_6
set_option maxHeartbeats 4000000 in
set_option maxRecDepth 100000 in
theorem tX12_isFrom_v4 (l : Launch) (D : va_G) (cs : Nat → ClassId) {kp : Nat → Nat} {L : List Nat} {E : Nat → va_E} (a0 : Nat) (x1 : Int32) (x2 : Int32) (fv0_27 : Int32) (hm0 : a0 ∈ L) (hk0 : kp a0 = 12) (hp1a : 0 ≤ x1.toInt) (hp1b : x1.toInt ≤ 4) (hp2a : 0 ≤ x2.toInt) (hp2b : x2.toInt ≤ 11) (hfv0_27 : tw_fv E a0 27 = .int fv0_27) (hpre0 : x1.toInt < fv0_27.toInt) (hg0 : eo_ok E a0) (hg1 : ln_ok E a0) (sz : Nat) : Met l yX12_isFrom (.code yX12_isFrom cX12_isFrom 3 (some .boolean) :: cx_big) { frames := 4, cells := 0, slots := 0, locals := 88 } (tw_P D cs kp L E [.ref a0, .int x1, .int x2] sz) (tw_Q D cs kp L (fun v kq Lq Eq => (∃ x : Int32, v = some (.int x) ∧ 0 ≤ x.toInt ∧ x.toInt ≤ 1 ∧ (x.toInt ≠ 0 → r2_ok E a0 x1.toInt x2.toInt)) ∧ kp = kq ∧ L = Lq ∧ E = Eq) (va_A (va_pl L E) sz)) 0 0 (va_A (va_pl L E) sz) := by
  refine tw_ofW (by decide) (Nat.le_of_ble_eq_true rfl) ?_
  intro p e s m below meth c A ls hx hb hr hml hB hown hlocks hK hN hA TH hS hl
  have hown : s.vm.findClass "TreeMergeModel" = some m.cls := hown
  have hl : lv_has ls 3 [(0, .ref a0), (1, .int x1), (2, .int x2)] := hl
  obtain ⟨kp0, ekp⟩ : ∃ z, z = kp := ⟨_, rfl⟩
  obtain ⟨L0, eL⟩ : ∃ z, z = L := ⟨_, rfl⟩
  rw [show tw_Q D cs kp L = tw_Q D cs kp0 L0 by rw [ekp, eL]]
  have hex : ∀ a : Nat, a ∈ L0 → a ∈ L ∧ kp a = kp0 a := fun a h => ⟨by rw [← eL]; exact h, by rw [ekp]⟩
  obtain ⟨qfv0_27, hqfv0_27, hqfv0_27a, hqfv0_27b⟩ := tw_rd TH hm0 hk0 (by decide) (by decide) (k := 27) rfl
  have eqfv0_27 : qfv0_27 = fv0_27 := by have q := hqfv0_27.symm.trans hfv0_27; injection q
  rw [eqfv0_27] at hqfv0_27a hqfv0_27b
  refine lv_iload_n hx hb dX12_isFrom_0 rfl (lv_at hl 1 rfl) ?_
  refine lv_iload_n hx hb dX12_isFrom_1 rfl (lv_at hl 2 rfl) ?_
  refine lv_icmp_ne (tgt := 7) hx hb dX12_isFrom_2 (by decide) (fun hc1 => ?_) (fun hc1 => ?_)
  · have hf2 : ¬ (x1.toInt = x2.toInt) := fun q => hc1 ((fa_eq _ _).mpr (by  omega))
    refine lv_aload_n hx hb dX12_isFrom_7 rfl (lv_at hl 0 rfl) ?_
    refine tw_get (ci := 12) (C := RX12) (T := TX12) (N := 64) hx hb hB cx_inX12 hown hK TH hm0 hk0 rfl ⟨by decide, rfl⟩ 24 (by decide) cw_1217 (fun _ h9 => h9) dX12_isFrom_8 (fun hv => ?_)
    obtain ⟨xr3, hxr3, hmxr3, hkxr3⟩ : ∃ a : Nat, tw_fv E a0 24 = .ref a ∧ a ∈ L ∧ kp a = 334 := hv
    rw [hxr3]
    refine lv_iload_n hx hb dX12_isFrom_11 rfl (lv_at hl 1 rfl) ?_
    refine tw_iald (k := 334) (t0 := 0) (n := 12) (lo := (-1)) (hi := 11) hx hb hK TH hmxr3 hkxr3 (by decide) rfl rfl (i := x1) (vp_in_iff.mpr ⟨by  omega, by  omega⟩) dX12_isFrom_12 (fun hxe4a hxe4b => ?_)
    obtain ⟨xe4, exe4⟩ : ∃ z : Int32, tw_iv E xr3 (Int32.toNatClampNeg x1) = z := ⟨_, rfl⟩
    rw [exe4] at hxe4a hxe4b ⊢
    have hl13 : xe4.toInt = -1 ∨ (0 ≤ xe4.toInt ∧ xe4.toInt < x1.toInt ∧ r2_ok E a0 (x1.toInt) (xe4.toInt)) := (by have q := hg1 (x1.toInt).toNat (by rw [tw_fi_of hfv0_27]; omega) 24 (by decide); have w : tw_el E a0 24 (x1.toInt).toNat = xe4.toInt := (by rw [tw_el_of hxr3]; exact congrArg Int32.toInt exe4); rw [w, show (((x1.toInt).toNat : Nat) : Int) = x1.toInt by omega] at q; exact q)
    have hn13 : xe4.toInt = -1 ∨ (0 ≤ xe4.toInt ∧ xe4.toInt < x1.toInt) := hl13.imp id (fun q => ⟨q.1, q.2.1⟩)
    refine lv_iconst (v := (-1)) hx hb dX12_isFrom_13 (by decide) ?_
    refine lv_icmp_eq (tgt := 31) hx hb dX12_isFrom_14 (by decide) (fun hc5 => ?_) (fun hc5 => ?_)
    · have hf6 : xe4.toInt = (-1) := by have z := (fa_eq _ _).mp hc5; have : (((-1) : Int32).toInt) = (-1) := (by decide); omega
      refine lv_aload_n hx hb dX12_isFrom_31 rfl (lv_at hl 0 rfl) ?_
      refine tw_get (ci := 12) (C := RX12) (T := TX12) (N := 64) hx hb hB cx_inX12 hown hK TH hm0 hk0 rfl ⟨by decide, rfl⟩ 25 (by decide) cw_1218 (fun _ h9 => h9) dX12_isFrom_32 (fun hv => ?_)
      obtain ⟨xr7, hxr7, hmxr7, hkxr7⟩ : ∃ a : Nat, tw_fv E a0 25 = .ref a ∧ a ∈ L ∧ kp a = 335 := hv
      rw [hxr7]
      refine lv_iload_n hx hb dX12_isFrom_35 rfl (lv_at hl 1 rfl) ?_
      refine tw_iald (k := 335) (t0 := 0) (n := 12) (lo := (-1)) (hi := 11) hx hb hK TH hmxr7 hkxr7 (by decide) rfl rfl (i := x1) (vp_in_iff.mpr ⟨by  omega, by  omega⟩) dX12_isFrom_36 (fun hxe8a hxe8b => ?_)
      obtain ⟨xe8, exe8⟩ : ∃ z : Int32, tw_iv E xr7 (Int32.toNatClampNeg x1) = z := ⟨_, rfl⟩
      rw [exe8] at hxe8a hxe8b ⊢
      have hl37 : xe8.toInt = -1 ∨ (0 ≤ xe8.toInt ∧ xe8.toInt < x1.toInt ∧ r2_ok E a0 (x1.toInt) (xe8.toInt)) := (by have q := hg1 (x1.toInt).toNat (by rw [tw_fi_of hfv0_27]; omega) 25 (by decide); have w : tw_el E a0 25 (x1.toInt).toNat = xe8.toInt := (by rw [tw_el_of hxr7]; exact congrArg Int32.toInt exe8); rw [w, show (((x1.toInt).toNat : Nat) : Int) = x1.toInt by omega] at q; exact q)
      have hn37 : xe8.toInt = -1 ∨ (0 ≤ xe8.toInt ∧ xe8.toInt < x1.toInt) := hl37.imp id (fun q => ⟨q.1, q.2.1⟩)
      refine lv_iconst (v := (-1)) hx hb dX12_isFrom_37 (by decide) ?_
      refine lv_icmp_eq (tgt := 59) hx hb dX12_isFrom_38 (by decide) (fun hc9 => ?_) (fun hc9 => ?_)
      · have hf10 : xe8.toInt = (-1) := by have z := (fa_eq _ _).mp hc9; have : (((-1) : Int32).toInt) = (-1) := (by decide); omega
        refine lv_iconst (v := 0) hx hb dX12_isFrom_59 (by decide) ?_
        exact tw_zret hx hb hr hlocks (by decide) TH hS hex ⟨⟨_, rfl, (show 0 ≤ Int32.toInt 0 from by have : ((0 : Int32).toInt) = 0 := (by decide); omega), (show Int32.toInt 0 ≤ 1 from by have : ((0 : Int32).toInt) = 0 := (by decide); omega), (by have : ((0 : Int32).toInt) = 0 := (by decide); intro q; exfalso; exact q (by decide))⟩, rfl, rfl, rfl⟩ (Nat.le_of_ble_eq_true rfl) (Nat.le_of_ble_eq_true rfl) dX12_isFrom_60
      · have hf11 : ¬ (xe8.toInt = (-1)) := fun q => hc9 ((fa_eq _ _).mpr (by have : (((-1) : Int32).toInt) = (-1) := (by decide); omega))
        refine lv_aload_n hx hb dX12_isFrom_41 rfl (lv_at hl 0 rfl) ?_
        refine lv_aload_n hx hb dX12_isFrom_42 rfl (lv_at hl 0 rfl) ?_
        refine tw_get (ci := 12) (C := RX12) (T := TX12) (N := 64) hx hb hB cx_inX12 hown hK TH hm0 hk0 rfl ⟨by decide, rfl⟩ 25 (by decide) cw_1218 (fun _ h9 => h9) dX12_isFrom_43 (fun hv => ?_)
        rw [hxr7]
        refine lv_iload_n hx hb dX12_isFrom_46 rfl (lv_at hl 1 rfl) ?_
        refine tw_iald (k := 335) (t0 := 0) (n := 12) (lo := (-1)) (hi := 11) hx hb hK TH hmxr7 hkxr7 (by decide) rfl rfl (i := x1) (vp_in_iff.mpr ⟨by  omega, by  omega⟩) dX12_isFrom_47 (fun hxe12a hxe12b => ?_)
        rw [exe8]
        refine lv_iload_n hx hb dX12_isFrom_48 rfl (lv_at hl 2 rfl) ?_
        refine tw_Vc (o := a0) (ci := 12) (n := 2) (post := (fun v kq Lq Eq => (∃ x : Int32, v = some (.int x) ∧ 0 ≤ x.toInt ∧ x.toInt ≤ 1 ∧ (x.toInt ≠ 0 → r2_ok E a0 xe8.toInt x2.toInt)) ∧ kp = kq ∧ L = Lq ∧ E = Eq)) (As := [.int xe8, .int x2]) (rest := []) ⟨hx, hb, hml, hown, hB⟩ (fun sz => tX12_isFrom_v3 l D cs a0 xe8 x2 fv0_27 hm0 hk0 (by omega) (by omega) (by omega) (by omega) hfv0_27 (by  omega) hg0 hg1 sz) cg_12_512_X12_isFrom rfl rfl (by decide +kernel) ⟨Nat.le_of_ble_eq_true rfl, Nat.le_of_ble_eq_true rfl⟩ hK hN TH hS hA rfl hm0 hk0 (by decide) rfl hl.1 rfl (Nat.le_of_ble_eq_true rfl) dX12_isFrom_49 ⟨Nat.le_of_ble_eq_true rfl, Nat.le_of_ble_eq_true rfl⟩ (fun v13 kp13 L13 E13 H locs hq13 hx13 TH hS => ?_)
        obtain ⟨⟨xc14, rfl, hxc14a, hxc14b, hpoxc14_0⟩, rfl, rfl, rfl⟩ := hq13
        refine W.eq (g2 := F0 m 52 ls [.int xc14]) rfl ?_
        refine lv_if_eq (tgt := 59) hx hb dX12_isFrom_52 (by decide) (fun hc15 => ?_) (fun hc15 => ?_)
        · have hf16 : xc14.toInt = 0 := by have z := (fa_eq _ _).mp hc15; have : ((0 : Int32).toInt) = 0 := (by decide); omega
          refine lv_iconst (v := 0) hx hb dX12_isFrom_59 (by decide) ?_
          exact tw_zret hx hb hr hlocks (by decide) TH hS hex ⟨⟨_, rfl, (show 0 ≤ Int32.toInt 0 from by have : ((0 : Int32).toInt) = 0 := (by decide); omega), (show Int32.toInt 0 ≤ 1 from by have : ((0 : Int32).toInt) = 0 := (by decide); omega), (by have : ((0 : Int32).toInt) = 0 := (by decide); intro q; exfalso; exact q (by decide))⟩, rfl, rfl, rfl⟩ (Nat.le_of_ble_eq_true rfl) (Nat.le_of_ble_eq_true rfl) dX12_isFrom_60
        · have hf17 : ¬ (xc14.toInt = 0) := fun q => hc15 ((fa_eq _ _).mpr (by have : ((0 : Int32).toInt) = 0 := (by decide); omega))
          refine lv_iconst (v := 1) hx hb dX12_isFrom_55 (by decide) ?_
          refine lv_goto (tgt := 60) hx hb dX12_isFrom_56 (by decide) ?_
          exact tw_zret hx hb hr hlocks (by decide) TH hS hex ⟨⟨_, rfl, (show 0 ≤ Int32.toInt 1 from by have : ((1 : Int32).toInt) = 1 := (by decide); omega), (show Int32.toInt 1 ≤ 1 from by have : ((1 : Int32).toInt) = 1 := (by decide); omega), (by have : ((1 : Int32).toInt) = 1 := (by decide); intro _; have hl := hl37.resolve_left (by omega); exact r2_tr (hg0 (xe8.toInt) (by omega) (by rw [tw_fi_of hfv0_27]; omega)).1 hl.2.2 (hpoxc14_0 (by omega)))⟩, rfl, rfl, rfl⟩ (Nat.le_of_ble_eq_true rfl) (Nat.le_of_ble_eq_true rfl) dX12_isFrom_60
    · have hf18 : ¬ (xe4.toInt = (-1)) := fun q => hc5 ((fa_eq _ _).mpr (by have : (((-1) : Int32).toInt) = (-1) := (by decide); omega))
      refine lv_aload_n hx hb dX12_isFrom_17 rfl (lv_at hl 0 rfl) ?_
      refine lv_aload_n hx hb dX12_isFrom_18 rfl (lv_at hl 0 rfl) ?_
      refine tw_get (ci := 12) (C := RX12) (T := TX12) (N := 64) hx hb hB cx_inX12 hown hK TH hm0 hk0 rfl ⟨by decide, rfl⟩ 24 (by decide) cw_1217 (fun _ h9 => h9) dX12_isFrom_19 (fun hv => ?_)
      rw [hxr3]
      refine lv_iload_n hx hb dX12_isFrom_22 rfl (lv_at hl 1 rfl) ?_
      refine tw_iald (k := 334) (t0 := 0) (n := 12) (lo := (-1)) (hi := 11) hx hb hK TH hmxr3 hkxr3 (by decide) rfl rfl (i := x1) (vp_in_iff.mpr ⟨by  omega, by  omega⟩) dX12_isFrom_23 (fun hxe19a hxe19b => ?_)
      rw [exe4]
      refine lv_iload_n hx hb dX12_isFrom_24 rfl (lv_at hl 2 rfl) ?_
      refine tw_Vc (o := a0) (ci := 12) (n := 2) (post := (fun v kq Lq Eq => (∃ x : Int32, v = some (.int x) ∧ 0 ≤ x.toInt ∧ x.toInt ≤ 1 ∧ (x.toInt ≠ 0 → r2_ok E a0 xe4.toInt x2.toInt)) ∧ kp = kq ∧ L = Lq ∧ E = Eq)) (As := [.int xe4, .int x2]) (rest := []) ⟨hx, hb, hml, hown, hB⟩ (fun sz => tX12_isFrom_v3 l D cs a0 xe4 x2 fv0_27 hm0 hk0 (by omega) (by omega) (by omega) (by omega) hfv0_27 (by  omega) hg0 hg1 sz) cg_12_512_X12_isFrom rfl rfl (by decide +kernel) ⟨Nat.le_of_ble_eq_true rfl, Nat.le_of_ble_eq_true rfl⟩ hK hN TH hS hA rfl hm0 hk0 (by decide) rfl hl.1 rfl (Nat.le_of_ble_eq_true rfl) dX12_isFrom_25 ⟨Nat.le_of_ble_eq_true rfl, Nat.le_of_ble_eq_true rfl⟩ (fun v20 kp20 L20 E20 H locs hq20 hx20 TH hS => ?_)
      obtain ⟨⟨xc21, rfl, hxc21a, hxc21b, hpoxc21_0⟩, rfl, rfl, rfl⟩ := hq20
      refine W.eq (g2 := F0 m 28 ls [.int xc21]) rfl ?_
      refine lv_if_ne (tgt := 55) hx hb dX12_isFrom_28 (by decide) (fun hc22 => ?_) (fun hc22 => ?_)
      · have hf23 : ¬ (xc21.toInt = 0) := fun q => hc22 ((fa_eq _ _).mpr (by have : ((0 : Int32).toInt) = 0 := (by decide); omega))
        refine lv_iconst (v := 1) hx hb dX12_isFrom_55 (by decide) ?_
        refine lv_goto (tgt := 60) hx hb dX12_isFrom_56 (by decide) ?_
        exact tw_zret hx hb hr hlocks (by decide) TH hS hex ⟨⟨_, rfl, (show 0 ≤ Int32.toInt 1 from by have : ((1 : Int32).toInt) = 1 := (by decide); omega), (show Int32.toInt 1 ≤ 1 from by have : ((1 : Int32).toInt) = 1 := (by decide); omega), (by have : ((1 : Int32).toInt) = 1 := (by decide); intro _; have hl := hl13.resolve_left (by omega); exact r2_tr (hg0 (xe4.toInt) (by omega) (by rw [tw_fi_of hfv0_27]; omega)).1 hl.2.2 (hpoxc21_0 (by omega)))⟩, rfl, rfl, rfl⟩ (Nat.le_of_ble_eq_true rfl) (Nat.le_of_ble_eq_true rfl) dX12_isFrom_60
      · have hf24 : xc21.toInt = 0 := by have z := (fa_eq _ _).mp hc22; have : ((0 : Int32).toInt) = 0 := (by decide); omega
        refine lv_aload_n hx hb dX12_isFrom_31 rfl (lv_at hl 0 rfl) ?_
        refine tw_get (ci := 12) (C := RX12) (T := TX12) (N := 64) hx hb hB cx_inX12 hown hK TH hm0 hk0 rfl ⟨by decide, rfl⟩ 25 (by decide) cw_1218 (fun _ h9 => h9) dX12_isFrom_32 (fun hv => ?_)
        obtain ⟨xr25, hxr25, hmxr25, hkxr25⟩ : ∃ a : Nat, tw_fv E a0 25 = .ref a ∧ a ∈ L ∧ kp a = 335 := hv
        rw [hxr25]
        refine lv_iload_n hx hb dX12_isFrom_35 rfl (lv_at hl 1 rfl) ?_
        refine tw_iald (k := 335) (t0 := 0) (n := 12) (lo := (-1)) (hi := 11) hx hb hK TH hmxr25 hkxr25 (by decide) rfl rfl (i := x1) (vp_in_iff.mpr ⟨by  omega, by  omega⟩) dX12_isFrom_36 (fun hxe26a hxe26b => ?_)
        obtain ⟨xe26, exe26⟩ : ∃ z : Int32, tw_iv E xr25 (Int32.toNatClampNeg x1) = z := ⟨_, rfl⟩
        rw [exe26] at hxe26a hxe26b ⊢
        have hl37 : xe26.toInt = -1 ∨ (0 ≤ xe26.toInt ∧ xe26.toInt < x1.toInt ∧ r2_ok E a0 (x1.toInt) (xe26.toInt)) := (by have q := hg1 (x1.toInt).toNat (by rw [tw_fi_of hfv0_27]; omega) 25 (by decide); have w : tw_el E a0 25 (x1.toInt).toNat = xe26.toInt := (by rw [tw_el_of hxr25]; exact congrArg Int32.toInt exe26); rw [w, show (((x1.toInt).toNat : Nat) : Int) = x1.toInt by omega] at q; exact q)
        have hn37 : xe26.toInt = -1 ∨ (0 ≤ xe26.toInt ∧ xe26.toInt < x1.toInt) := hl37.imp id (fun q => ⟨q.1, q.2.1⟩)
        refine lv_iconst (v := (-1)) hx hb dX12_isFrom_37 (by decide) ?_
        refine lv_icmp_eq (tgt := 59) hx hb dX12_isFrom_38 (by decide) (fun hc27 => ?_) (fun hc27 => ?_)
        · have hf28 : xe26.toInt = (-1) := by have z := (fa_eq _ _).mp hc27; have : (((-1) : Int32).toInt) = (-1) := (by decide); omega
          refine lv_iconst (v := 0) hx hb dX12_isFrom_59 (by decide) ?_
          exact tw_zret hx hb hr hlocks (by decide) TH hS hex ⟨⟨_, rfl, (show 0 ≤ Int32.toInt 0 from by have : ((0 : Int32).toInt) = 0 := (by decide); omega), (show Int32.toInt 0 ≤ 1 from by have : ((0 : Int32).toInt) = 0 := (by decide); omega), (by have : ((0 : Int32).toInt) = 0 := (by decide); intro q; exfalso; exact q (by decide))⟩, rfl, rfl, rfl⟩ (Nat.le_of_ble_eq_true rfl) (Nat.le_of_ble_eq_true rfl) dX12_isFrom_60
        · have hf29 : ¬ (xe26.toInt = (-1)) := fun q => hc27 ((fa_eq _ _).mpr (by have : (((-1) : Int32).toInt) = (-1) := (by decide); omega))
          refine lv_aload_n hx hb dX12_isFrom_41 rfl (lv_at hl 0 rfl) ?_
          refine lv_aload_n hx hb dX12_isFrom_42 rfl (lv_at hl 0 rfl) ?_
          refine tw_get (ci := 12) (C := RX12) (T := TX12) (N := 64) hx hb hB cx_inX12 hown hK TH hm0 hk0 rfl ⟨by decide, rfl⟩ 25 (by decide) cw_1218 (fun _ h9 => h9) dX12_isFrom_43 (fun hv => ?_)
          rw [hxr25]
          refine lv_iload_n hx hb dX12_isFrom_46 rfl (lv_at hl 1 rfl) ?_
          refine tw_iald (k := 335) (t0 := 0) (n := 12) (lo := (-1)) (hi := 11) hx hb hK TH hmxr25 hkxr25 (by decide) rfl rfl (i := x1) (vp_in_iff.mpr ⟨by  omega, by  omega⟩) dX12_isFrom_47 (fun hxe30a hxe30b => ?_)
          rw [exe26]
          refine lv_iload_n hx hb dX12_isFrom_48 rfl (lv_at hl 2 rfl) ?_
          refine tw_Vc (o := a0) (ci := 12) (n := 2) (post := (fun v kq Lq Eq => (∃ x : Int32, v = some (.int x) ∧ 0 ≤ x.toInt ∧ x.toInt ≤ 1 ∧ (x.toInt ≠ 0 → r2_ok E a0 xe26.toInt x2.toInt)) ∧ kp = kq ∧ L = Lq ∧ E = Eq)) (As := [.int xe26, .int x2]) (rest := []) ⟨hx, hb, hml, hown, hB⟩ (fun sz => tX12_isFrom_v3 l D cs a0 xe26 x2 fv0_27 hm0 hk0 (by omega) (by omega) (by omega) (by omega) hfv0_27 (by  omega) hg0 hg1 sz) cg_12_512_X12_isFrom rfl rfl (by decide +kernel) ⟨Nat.le_of_ble_eq_true rfl, Nat.le_of_ble_eq_true rfl⟩ hK hN TH hS hA rfl hm0 hk0 (by decide) rfl hl.1 rfl (Nat.le_of_ble_eq_true rfl) dX12_isFrom_49 ⟨Nat.le_of_ble_eq_true rfl, Nat.le_of_ble_eq_true rfl⟩ (fun v31 kp31 L31 E31 H locs hq31 hx31 TH hS => ?_)
          obtain ⟨⟨xc32, rfl, hxc32a, hxc32b, hpoxc32_0⟩, rfl, rfl, rfl⟩ := hq31
          refine W.eq (g2 := F0 m 52 ls [.int xc32]) rfl ?_
          refine lv_if_eq (tgt := 59) hx hb dX12_isFrom_52 (by decide) (fun hc33 => ?_) (fun hc33 => ?_)
          · have hf34 : xc32.toInt = 0 := by have z := (fa_eq _ _).mp hc33; have : ((0 : Int32).toInt) = 0 := (by decide); omega
            refine lv_iconst (v := 0) hx hb dX12_isFrom_59 (by decide) ?_
            exact tw_zret hx hb hr hlocks (by decide) TH hS hex ⟨⟨_, rfl, (show 0 ≤ Int32.toInt 0 from by have : ((0 : Int32).toInt) = 0 := (by decide); omega), (show Int32.toInt 0 ≤ 1 from by have : ((0 : Int32).toInt) = 0 := (by decide); omega), (by have : ((0 : Int32).toInt) = 0 := (by decide); intro q; exfalso; exact q (by decide))⟩, rfl, rfl, rfl⟩ (Nat.le_of_ble_eq_true rfl) (Nat.le_of_ble_eq_true rfl) dX12_isFrom_60
          · have hf35 : ¬ (xc32.toInt = 0) := fun q => hc33 ((fa_eq _ _).mpr (by have : ((0 : Int32).toInt) = 0 := (by decide); omega))
            refine lv_iconst (v := 1) hx hb dX12_isFrom_55 (by decide) ?_
            refine lv_goto (tgt := 60) hx hb dX12_isFrom_56 (by decide) ?_
            exact tw_zret hx hb hr hlocks (by decide) TH hS hex ⟨⟨_, rfl, (show 0 ≤ Int32.toInt 1 from by have : ((1 : Int32).toInt) = 1 := (by decide); omega), (show Int32.toInt 1 ≤ 1 from by have : ((1 : Int32).toInt) = 1 := (by decide); omega), (by have : ((1 : Int32).toInt) = 1 := (by decide); intro _; have hl := hl37.resolve_left (by omega); exact r2_tr (hg0 (xe26.toInt) (by omega) (by rw [tw_fi_of hfv0_27]; omega)).1 hl.2.2 (hpoxc32_0 (by omega)))⟩, rfl, rfl, rfl⟩ (Nat.le_of_ble_eq_true rfl) (Nat.le_of_ble_eq_true rfl) dX12_isFrom_60
  · have hf36 : x1.toInt = x2.toInt := by have z := (fa_eq _ _).mp hc1;  omega
    refine lv_iconst (v := 1) hx hb dX12_isFrom_5 (by decide) ?_
    exact tw_zret hx hb hr hlocks (by decide) TH hS hex ⟨⟨_, rfl, (show 0 ≤ Int32.toInt 1 from by have : ((1 : Int32).toInt) = 1 := (by decide); omega), (show Int32.toInt 1 ≤ 1 from by have : ((1 : Int32).toInt) = 1 := (by decide); omega), (by have : ((1 : Int32).toInt) = 1 := (by decide); intro _; rw [show x2.toInt = x1.toInt by omega]; exact r2_rf (hg0 (x1.toInt) (by omega) (by rw [tw_fi_of hfv0_27]; omega)))⟩, rfl, rfl, rfl⟩ (Nat.le_of_ble_eq_true rfl) (Nat.le_of_ble_eq_true rfl) dX12_isFrom_6
set_option maxHeartbeats 4000000 in
set_option maxRecDepth 100000 in
theorem tX12_isFrom_v5 (l : Launch) (D : va_G) (cs : Nat → ClassId) {kp : Nat → Nat} {L : List Nat} {E : Nat → va_E} (a0 : Nat) (x1 : Int32) (x2 : Int32) (fv0_27 : Int32) (hm0 : a0 ∈ L) (hk0 : kp a0 = 12) (hp1a : 0 ≤ x1.toInt) (hp1b : x1.toInt ≤ 5) (hp2a : 0 ≤ x2.toInt) (hp2b : x2.toInt ≤ 11) (hfv0_27 : tw_fv E a0 27 = .int fv0_27) (hpre0 : x1.toInt < fv0_27.toInt) (hg0 : eo_ok E a0) (hg1 : ln_ok E a0) (sz : Nat) : Met l yX12_isFrom (.code yX12_isFrom cX12_isFrom 3 (some .boolean) :: cx_big) { frames := 5, cells := 0, slots := 0, locals := 110 } (tw_P D cs kp L E [.ref a0, .int x1, .int x2] sz) (tw_Q D cs kp L (fun v kq Lq Eq => (∃ x : Int32, v = some (.int x) ∧ 0 ≤ x.toInt ∧ x.toInt ≤ 1 ∧ (x.toInt ≠ 0 → r2_ok E a0 x1.toInt x2.toInt)) ∧ kp = kq ∧ L = Lq ∧ E = Eq) (va_A (va_pl L E) sz)) 0 0 (va_A (va_pl L E) sz) := by
  refine tw_ofW (by decide) (Nat.le_of_ble_eq_true rfl) ?_
  intro p e s m below meth c A ls hx hb hr hml hB hown hlocks hK hN hA TH hS hl
  have hown : s.vm.findClass "TreeMergeModel" = some m.cls := hown
  have hl : lv_has ls 3 [(0, .ref a0), (1, .int x1), (2, .int x2)] := hl
  obtain ⟨kp0, ekp⟩ : ∃ z, z = kp := ⟨_, rfl⟩
  obtain ⟨L0, eL⟩ : ∃ z, z = L := ⟨_, rfl⟩
  rw [show tw_Q D cs kp L = tw_Q D cs kp0 L0 by rw [ekp, eL]]
  have hex : ∀ a : Nat, a ∈ L0 → a ∈ L ∧ kp a = kp0 a := fun a h => ⟨by rw [← eL]; exact h, by rw [ekp]⟩
  obtain ⟨qfv0_27, hqfv0_27, hqfv0_27a, hqfv0_27b⟩ := tw_rd TH hm0 hk0 (by decide) (by decide) (k := 27) rfl
  have eqfv0_27 : qfv0_27 = fv0_27 := by have q := hqfv0_27.symm.trans hfv0_27; injection q
  rw [eqfv0_27] at hqfv0_27a hqfv0_27b
  refine lv_iload_n hx hb dX12_isFrom_0 rfl (lv_at hl 1 rfl) ?_
  refine lv_iload_n hx hb dX12_isFrom_1 rfl (lv_at hl 2 rfl) ?_
  refine lv_icmp_ne (tgt := 7) hx hb dX12_isFrom_2 (by decide) (fun hc1 => ?_) (fun hc1 => ?_)
  · have hf2 : ¬ (x1.toInt = x2.toInt) := fun q => hc1 ((fa_eq _ _).mpr (by  omega))
    refine lv_aload_n hx hb dX12_isFrom_7 rfl (lv_at hl 0 rfl) ?_
    refine tw_get (ci := 12) (C := RX12) (T := TX12) (N := 64) hx hb hB cx_inX12 hown hK TH hm0 hk0 rfl ⟨by decide, rfl⟩ 24 (by decide) cw_1217 (fun _ h9 => h9) dX12_isFrom_8 (fun hv => ?_)
    obtain ⟨xr3, hxr3, hmxr3, hkxr3⟩ : ∃ a : Nat, tw_fv E a0 24 = .ref a ∧ a ∈ L ∧ kp a = 334 := hv
    rw [hxr3]
    refine lv_iload_n hx hb dX12_isFrom_11 rfl (lv_at hl 1 rfl) ?_
    refine tw_iald (k := 334) (t0 := 0) (n := 12) (lo := (-1)) (hi := 11) hx hb hK TH hmxr3 hkxr3 (by decide) rfl rfl (i := x1) (vp_in_iff.mpr ⟨by  omega, by  omega⟩) dX12_isFrom_12 (fun hxe4a hxe4b => ?_)
    obtain ⟨xe4, exe4⟩ : ∃ z : Int32, tw_iv E xr3 (Int32.toNatClampNeg x1) = z := ⟨_, rfl⟩
    rw [exe4] at hxe4a hxe4b ⊢
    have hl13 : xe4.toInt = -1 ∨ (0 ≤ xe4.toInt ∧ xe4.toInt < x1.toInt ∧ r2_ok E a0 (x1.toInt) (xe4.toInt)) := (by have q := hg1 (x1.toInt).toNat (by rw [tw_fi_of hfv0_27]; omega) 24 (by decide); have w : tw_el E a0 24 (x1.toInt).toNat = xe4.toInt := (by rw [tw_el_of hxr3]; exact congrArg Int32.toInt exe4); rw [w, show (((x1.toInt).toNat : Nat) : Int) = x1.toInt by omega] at q; exact q)
    have hn13 : xe4.toInt = -1 ∨ (0 ≤ xe4.toInt ∧ xe4.toInt < x1.toInt) := hl13.imp id (fun q => ⟨q.1, q.2.1⟩)
    refine lv_iconst (v := (-1)) hx hb dX12_isFrom_13 (by decide) ?_
    refine lv_icmp_eq (tgt := 31) hx hb dX12_isFrom_14 (by decide) (fun hc5 => ?_) (fun hc5 => ?_)
    · have hf6 : xe4.toInt = (-1) := by have z := (fa_eq _ _).mp hc5; have : (((-1) : Int32).toInt) = (-1) := (by decide); omega
      refine lv_aload_n hx hb dX12_isFrom_31 rfl (lv_at hl 0 rfl) ?_
      refine tw_get (ci := 12) (C := RX12) (T := TX12) (N := 64) hx hb hB cx_inX12 hown hK TH hm0 hk0 rfl ⟨by decide, rfl⟩ 25 (by decide) cw_1218 (fun _ h9 => h9) dX12_isFrom_32 (fun hv => ?_)
      obtain ⟨xr7, hxr7, hmxr7, hkxr7⟩ : ∃ a : Nat, tw_fv E a0 25 = .ref a ∧ a ∈ L ∧ kp a = 335 := hv
      rw [hxr7]
      refine lv_iload_n hx hb dX12_isFrom_35 rfl (lv_at hl 1 rfl) ?_
      refine tw_iald (k := 335) (t0 := 0) (n := 12) (lo := (-1)) (hi := 11) hx hb hK TH hmxr7 hkxr7 (by decide) rfl rfl (i := x1) (vp_in_iff.mpr ⟨by  omega, by  omega⟩) dX12_isFrom_36 (fun hxe8a hxe8b => ?_)
      obtain ⟨xe8, exe8⟩ : ∃ z : Int32, tw_iv E xr7 (Int32.toNatClampNeg x1) = z := ⟨_, rfl⟩
      rw [exe8] at hxe8a hxe8b ⊢
      have hl37 : xe8.toInt = -1 ∨ (0 ≤ xe8.toInt ∧ xe8.toInt < x1.toInt ∧ r2_ok E a0 (x1.toInt) (xe8.toInt)) := (by have q := hg1 (x1.toInt).toNat (by rw [tw_fi_of hfv0_27]; omega) 25 (by decide); have w : tw_el E a0 25 (x1.toInt).toNat = xe8.toInt := (by rw [tw_el_of hxr7]; exact congrArg Int32.toInt exe8); rw [w, show (((x1.toInt).toNat : Nat) : Int) = x1.toInt by omega] at q; exact q)
      have hn37 : xe8.toInt = -1 ∨ (0 ≤ xe8.toInt ∧ xe8.toInt < x1.toInt) := hl37.imp id (fun q => ⟨q.1, q.2.1⟩)
      refine lv_iconst (v := (-1)) hx hb dX12_isFrom_37 (by decide) ?_
      refine lv_icmp_eq (tgt := 59) hx hb dX12_isFrom_38 (by decide) (fun hc9 => ?_) (fun hc9 => ?_)
      · have hf10 : xe8.toInt = (-1) := by have z := (fa_eq _ _).mp hc9; have : (((-1) : Int32).toInt) = (-1) := (by decide); omega
        refine lv_iconst (v := 0) hx hb dX12_isFrom_59 (by decide) ?_
        exact tw_zret hx hb hr hlocks (by decide) TH hS hex ⟨⟨_, rfl, (show 0 ≤ Int32.toInt 0 from by have : ((0 : Int32).toInt) = 0 := (by decide); omega), (show Int32.toInt 0 ≤ 1 from by have : ((0 : Int32).toInt) = 0 := (by decide); omega), (by have : ((0 : Int32).toInt) = 0 := (by decide); intro q; exfalso; exact q (by decide))⟩, rfl, rfl, rfl⟩ (Nat.le_of_ble_eq_true rfl) (Nat.le_of_ble_eq_true rfl) dX12_isFrom_60
      · have hf11 : ¬ (xe8.toInt = (-1)) := fun q => hc9 ((fa_eq _ _).mpr (by have : (((-1) : Int32).toInt) = (-1) := (by decide); omega))
        refine lv_aload_n hx hb dX12_isFrom_41 rfl (lv_at hl 0 rfl) ?_
        refine lv_aload_n hx hb dX12_isFrom_42 rfl (lv_at hl 0 rfl) ?_
        refine tw_get (ci := 12) (C := RX12) (T := TX12) (N := 64) hx hb hB cx_inX12 hown hK TH hm0 hk0 rfl ⟨by decide, rfl⟩ 25 (by decide) cw_1218 (fun _ h9 => h9) dX12_isFrom_43 (fun hv => ?_)
        rw [hxr7]
        refine lv_iload_n hx hb dX12_isFrom_46 rfl (lv_at hl 1 rfl) ?_
        refine tw_iald (k := 335) (t0 := 0) (n := 12) (lo := (-1)) (hi := 11) hx hb hK TH hmxr7 hkxr7 (by decide) rfl rfl (i := x1) (vp_in_iff.mpr ⟨by  omega, by  omega⟩) dX12_isFrom_47 (fun hxe12a hxe12b => ?_)
        rw [exe8]
        refine lv_iload_n hx hb dX12_isFrom_48 rfl (lv_at hl 2 rfl) ?_
        refine tw_Vc (o := a0) (ci := 12) (n := 2) (post := (fun v kq Lq Eq => (∃ x : Int32, v = some (.int x) ∧ 0 ≤ x.toInt ∧ x.toInt ≤ 1 ∧ (x.toInt ≠ 0 → r2_ok E a0 xe8.toInt x2.toInt)) ∧ kp = kq ∧ L = Lq ∧ E = Eq)) (As := [.int xe8, .int x2]) (rest := []) ⟨hx, hb, hml, hown, hB⟩ (fun sz => tX12_isFrom_v4 l D cs a0 xe8 x2 fv0_27 hm0 hk0 (by omega) (by omega) (by omega) (by omega) hfv0_27 (by  omega) hg0 hg1 sz) cg_12_512_X12_isFrom rfl rfl (by decide +kernel) ⟨Nat.le_of_ble_eq_true rfl, Nat.le_of_ble_eq_true rfl⟩ hK hN TH hS hA rfl hm0 hk0 (by decide) rfl hl.1 rfl (Nat.le_of_ble_eq_true rfl) dX12_isFrom_49 ⟨Nat.le_of_ble_eq_true rfl, Nat.le_of_ble_eq_true rfl⟩ (fun v13 kp13 L13 E13 H locs hq13 hx13 TH hS => ?_)
        obtain ⟨⟨xc14, rfl, hxc14a, hxc14b, hpoxc14_0⟩, rfl, rfl, rfl⟩ := hq13
        refine W.eq (g2 := F0 m 52 ls [.int xc14]) rfl ?_
        refine lv_if_eq (tgt := 59) hx hb dX12_isFrom_52 (by decide) (fun hc15 => ?_) (fun hc15 => ?_)
        · have hf16 : xc14.toInt = 0 := by have z := (fa_eq _ _).mp hc15; have : ((0 : Int32).toInt) = 0 := (by decide); omega
          refine lv_iconst (v := 0) hx hb dX12_isFrom_59 (by decide) ?_
          exact tw_zret hx hb hr hlocks (by decide) TH hS hex ⟨⟨_, rfl, (show 0 ≤ Int32.toInt 0 from by have : ((0 : Int32).toInt) = 0 := (by decide); omega), (show Int32.toInt 0 ≤ 1 from by have : ((0 : Int32).toInt) = 0 := (by decide); omega), (by have : ((0 : Int32).toInt) = 0 := (by decide); intro q; exfalso; exact q (by decide))⟩, rfl, rfl, rfl⟩ (Nat.le_of_ble_eq_true rfl) (Nat.le_of_ble_eq_true rfl) dX12_isFrom_60
        · have hf17 : ¬ (xc14.toInt = 0) := fun q => hc15 ((fa_eq _ _).mpr (by have : ((0 : Int32).toInt) = 0 := (by decide); omega))
          refine lv_iconst (v := 1) hx hb dX12_isFrom_55 (by decide) ?_
          refine lv_goto (tgt := 60) hx hb dX12_isFrom_56 (by decide) ?_
          exact tw_zret hx hb hr hlocks (by decide) TH hS hex ⟨⟨_, rfl, (show 0 ≤ Int32.toInt 1 from by have : ((1 : Int32).toInt) = 1 := (by decide); omega), (show Int32.toInt 1 ≤ 1 from by have : ((1 : Int32).toInt) = 1 := (by decide); omega), (by have : ((1 : Int32).toInt) = 1 := (by decide); intro _; have hl := hl37.resolve_left (by omega); exact r2_tr (hg0 (xe8.toInt) (by omega) (by rw [tw_fi_of hfv0_27]; omega)).1 hl.2.2 (hpoxc14_0 (by omega)))⟩, rfl, rfl, rfl⟩ (Nat.le_of_ble_eq_true rfl) (Nat.le_of_ble_eq_true rfl) dX12_isFrom_60
    · have hf18 : ¬ (xe4.toInt = (-1)) := fun q => hc5 ((fa_eq _ _).mpr (by have : (((-1) : Int32).toInt) = (-1) := (by decide); omega))
      refine lv_aload_n hx hb dX12_isFrom_17 rfl (lv_at hl 0 rfl) ?_
      refine lv_aload_n hx hb dX12_isFrom_18 rfl (lv_at hl 0 rfl) ?_
      refine tw_get (ci := 12) (C := RX12) (T := TX12) (N := 64) hx hb hB cx_inX12 hown hK TH hm0 hk0 rfl ⟨by decide, rfl⟩ 24 (by decide) cw_1217 (fun _ h9 => h9) dX12_isFrom_19 (fun hv => ?_)
      rw [hxr3]
      refine lv_iload_n hx hb dX12_isFrom_22 rfl (lv_at hl 1 rfl) ?_
      refine tw_iald (k := 334) (t0 := 0) (n := 12) (lo := (-1)) (hi := 11) hx hb hK TH hmxr3 hkxr3 (by decide) rfl rfl (i := x1) (vp_in_iff.mpr ⟨by  omega, by  omega⟩) dX12_isFrom_23 (fun hxe19a hxe19b => ?_)
      rw [exe4]
      refine lv_iload_n hx hb dX12_isFrom_24 rfl (lv_at hl 2 rfl) ?_
      refine tw_Vc (o := a0) (ci := 12) (n := 2) (post := (fun v kq Lq Eq => (∃ x : Int32, v = some (.int x) ∧ 0 ≤ x.toInt ∧ x.toInt ≤ 1 ∧ (x.toInt ≠ 0 → r2_ok E a0 xe4.toInt x2.toInt)) ∧ kp = kq ∧ L = Lq ∧ E = Eq)) (As := [.int xe4, .int x2]) (rest := []) ⟨hx, hb, hml, hown, hB⟩ (fun sz => tX12_isFrom_v4 l D cs a0 xe4 x2 fv0_27 hm0 hk0 (by omega) (by omega) (by omega) (by omega) hfv0_27 (by  omega) hg0 hg1 sz) cg_12_512_X12_isFrom rfl rfl (by decide +kernel) ⟨Nat.le_of_ble_eq_true rfl, Nat.le_of_ble_eq_true rfl⟩ hK hN TH hS hA rfl hm0 hk0 (by decide) rfl hl.1 rfl (Nat.le_of_ble_eq_true rfl) dX12_isFrom_25 ⟨Nat.le_of_ble_eq_true rfl, Nat.le_of_ble_eq_true rfl⟩ (fun v20 kp20 L20 E20 H locs hq20 hx20 TH hS => ?_)
      obtain ⟨⟨xc21, rfl, hxc21a, hxc21b, hpoxc21_0⟩, rfl, rfl, rfl⟩ := hq20
      refine W.eq (g2 := F0 m 28 ls [.int xc21]) rfl ?_
      refine lv_if_ne (tgt := 55) hx hb dX12_isFrom_28 (by decide) (fun hc22 => ?_) (fun hc22 => ?_)
      · have hf23 : ¬ (xc21.toInt = 0) := fun q => hc22 ((fa_eq _ _).mpr (by have : ((0 : Int32).toInt) = 0 := (by decide); omega))
        refine lv_iconst (v := 1) hx hb dX12_isFrom_55 (by decide) ?_
        refine lv_goto (tgt := 60) hx hb dX12_isFrom_56 (by decide) ?_
        exact tw_zret hx hb hr hlocks (by decide) TH hS hex ⟨⟨_, rfl, (show 0 ≤ Int32.toInt 1 from by have : ((1 : Int32).toInt) = 1 := (by decide); omega), (show Int32.toInt 1 ≤ 1 from by have : ((1 : Int32).toInt) = 1 := (by decide); omega), (by have : ((1 : Int32).toInt) = 1 := (by decide); intro _; have hl := hl13.resolve_left (by omega); exact r2_tr (hg0 (xe4.toInt) (by omega) (by rw [tw_fi_of hfv0_27]; omega)).1 hl.2.2 (hpoxc21_0 (by omega)))⟩, rfl, rfl, rfl⟩ (Nat.le_of_ble_eq_true rfl) (Nat.le_of_ble_eq_true rfl) dX12_isFrom_60
      · have hf24 : xc21.toInt = 0 := by have z := (fa_eq _ _).mp hc22; have : ((0 : Int32).toInt) = 0 := (by decide); omega
        refine lv_aload_n hx hb dX12_isFrom_31 rfl (lv_at hl 0 rfl) ?_
        refine tw_get (ci := 12) (C := RX12) (T := TX12) (N := 64) hx hb hB cx_inX12 hown hK TH hm0 hk0 rfl ⟨by decide, rfl⟩ 25 (by decide) cw_1218 (fun _ h9 => h9) dX12_isFrom_32 (fun hv => ?_)
        obtain ⟨xr25, hxr25, hmxr25, hkxr25⟩ : ∃ a : Nat, tw_fv E a0 25 = .ref a ∧ a ∈ L ∧ kp a = 335 := hv
        rw [hxr25]
        refine lv_iload_n hx hb dX12_isFrom_35 rfl (lv_at hl 1 rfl) ?_
        refine tw_iald (k := 335) (t0 := 0) (n := 12) (lo := (-1)) (hi := 11) hx hb hK TH hmxr25 hkxr25 (by decide) rfl rfl (i := x1) (vp_in_iff.mpr ⟨by  omega, by  omega⟩) dX12_isFrom_36 (fun hxe26a hxe26b => ?_)
        obtain ⟨xe26, exe26⟩ : ∃ z : Int32, tw_iv E xr25 (Int32.toNatClampNeg x1) = z := ⟨_, rfl⟩
        rw [exe26] at hxe26a hxe26b ⊢
        have hl37 : xe26.toInt = -1 ∨ (0 ≤ xe26.toInt ∧ xe26.toInt < x1.toInt ∧ r2_ok E a0 (x1.toInt) (xe26.toInt)) := (by have q := hg1 (x1.toInt).toNat (by rw [tw_fi_of hfv0_27]; omega) 25 (by decide); have w : tw_el E a0 25 (x1.toInt).toNat = xe26.toInt := (by rw [tw_el_of hxr25]; exact congrArg Int32.toInt exe26); rw [w, show (((x1.toInt).toNat : Nat) : Int) = x1.toInt by omega] at q; exact q)
        have hn37 : xe26.toInt = -1 ∨ (0 ≤ xe26.toInt ∧ xe26.toInt < x1.toInt) := hl37.imp id (fun q => ⟨q.1, q.2.1⟩)
        refine lv_iconst (v := (-1)) hx hb dX12_isFrom_37 (by decide) ?_
        refine lv_icmp_eq (tgt := 59) hx hb dX12_isFrom_38 (by decide) (fun hc27 => ?_) (fun hc27 => ?_)
        · have hf28 : xe26.toInt = (-1) := by have z := (fa_eq _ _).mp hc27; have : (((-1) : Int32).toInt) = (-1) := (by decide); omega
          refine lv_iconst (v := 0) hx hb dX12_isFrom_59 (by decide) ?_
          exact tw_zret hx hb hr hlocks (by decide) TH hS hex ⟨⟨_, rfl, (show 0 ≤ Int32.toInt 0 from by have : ((0 : Int32).toInt) = 0 := (by decide); omega), (show Int32.toInt 0 ≤ 1 from by have : ((0 : Int32).toInt) = 0 := (by decide); omega), (by have : ((0 : Int32).toInt) = 0 := (by decide); intro q; exfalso; exact q (by decide))⟩, rfl, rfl, rfl⟩ (Nat.le_of_ble_eq_true rfl) (Nat.le_of_ble_eq_true rfl) dX12_isFrom_60
        · have hf29 : ¬ (xe26.toInt = (-1)) := fun q => hc27 ((fa_eq _ _).mpr (by have : (((-1) : Int32).toInt) = (-1) := (by decide); omega))
          refine lv_aload_n hx hb dX12_isFrom_41 rfl (lv_at hl 0 rfl) ?_
          refine lv_aload_n hx hb dX12_isFrom_42 rfl (lv_at hl 0 rfl) ?_
          refine tw_get (ci := 12) (C := RX12) (T := TX12) (N := 64) hx hb hB cx_inX12 hown hK TH hm0 hk0 rfl ⟨by decide, rfl⟩ 25 (by decide) cw_1218 (fun _ h9 => h9) dX12_isFrom_43 (fun hv => ?_)
          rw [hxr25]
          refine lv_iload_n hx hb dX12_isFrom_46 rfl (lv_at hl 1 rfl) ?_
          refine tw_iald (k := 335) (t0 := 0) (n := 12) (lo := (-1)) (hi := 11) hx hb hK TH hmxr25 hkxr25 (by decide) rfl rfl (i := x1) (vp_in_iff.mpr ⟨by  omega, by  omega⟩) dX12_isFrom_47 (fun hxe30a hxe30b => ?_)
          rw [exe26]
          refine lv_iload_n hx hb dX12_isFrom_48 rfl (lv_at hl 2 rfl) ?_
          refine tw_Vc (o := a0) (ci := 12) (n := 2) (post := (fun v kq Lq Eq => (∃ x : Int32, v = some (.int x) ∧ 0 ≤ x.toInt ∧ x.toInt ≤ 1 ∧ (x.toInt ≠ 0 → r2_ok E a0 xe26.toInt x2.toInt)) ∧ kp = kq ∧ L = Lq ∧ E = Eq)) (As := [.int xe26, .int x2]) (rest := []) ⟨hx, hb, hml, hown, hB⟩ (fun sz => tX12_isFrom_v4 l D cs a0 xe26 x2 fv0_27 hm0 hk0 (by omega) (by omega) (by omega) (by omega) hfv0_27 (by  omega) hg0 hg1 sz) cg_12_512_X12_isFrom rfl rfl (by decide +kernel) ⟨Nat.le_of_ble_eq_true rfl, Nat.le_of_ble_eq_true rfl⟩ hK hN TH hS hA rfl hm0 hk0 (by decide) rfl hl.1 rfl (Nat.le_of_ble_eq_true rfl) dX12_isFrom_49 ⟨Nat.le_of_ble_eq_true rfl, Nat.le_of_ble_eq_true rfl⟩ (fun v31 kp31 L31 E31 H locs hq31 hx31 TH hS => ?_)
          obtain ⟨⟨xc32, rfl, hxc32a, hxc32b, hpoxc32_0⟩, rfl, rfl, rfl⟩ := hq31
          refine W.eq (g2 := F0 m 52 ls [.int xc32]) rfl ?_
          refine lv_if_eq (tgt := 59) hx hb dX12_isFrom_52 (by decide) (fun hc33 => ?_) (fun hc33 => ?_)
          · have hf34 : xc32.toInt = 0 := by have z := (fa_eq _ _).mp hc33; have : ((0 : Int32).toInt) = 0 := (by decide); omega
            refine lv_iconst (v := 0) hx hb dX12_isFrom_59 (by decide) ?_
            exact tw_zret hx hb hr hlocks (by decide) TH hS hex ⟨⟨_, rfl, (show 0 ≤ Int32.toInt 0 from by have : ((0 : Int32).toInt) = 0 := (by decide); omega), (show Int32.toInt 0 ≤ 1 from by have : ((0 : Int32).toInt) = 0 := (by decide); omega), (by have : ((0 : Int32).toInt) = 0 := (by decide); intro q; exfalso; exact q (by decide))⟩, rfl, rfl, rfl⟩ (Nat.le_of_ble_eq_true rfl) (Nat.le_of_ble_eq_true rfl) dX12_isFrom_60
          · have hf35 : ¬ (xc32.toInt = 0) := fun q => hc33 ((fa_eq _ _).mpr (by have : ((0 : Int32).toInt) = 0 := (by decide); omega))
            refine lv_iconst (v := 1) hx hb dX12_isFrom_55 (by decide) ?_
            refine lv_goto (tgt := 60) hx hb dX12_isFrom_56 (by decide) ?_
            exact tw_zret hx hb hr hlocks (by decide) TH hS hex ⟨⟨_, rfl, (show 0 ≤ Int32.toInt 1 from by have : ((1 : Int32).toInt) = 1 := (by decide); omega), (show Int32.toInt 1 ≤ 1 from by have : ((1 : Int32).toInt) = 1 := (by decide); omega), (by have : ((1 : Int32).toInt) = 1 := (by decide); intro _; have hl := hl37.resolve_left (by omega); exact r2_tr (hg0 (xe26.toInt) (by omega) (by rw [tw_fi_of hfv0_27]; omega)).1 hl.2.2 (hpoxc32_0 (by omega)))⟩, rfl, rfl, rfl⟩ (Nat.le_of_ble_eq_true rfl) (Nat.le_of_ble_eq_true rfl) dX12_isFrom_60
  · have hf36 : x1.toInt = x2.toInt := by have z := (fa_eq _ _).mp hc1;  omega
    refine lv_iconst (v := 1) hx hb dX12_isFrom_5 (by decide) ?_
    exact tw_zret hx hb hr hlocks (by decide) TH hS hex ⟨⟨_, rfl, (show 0 ≤ Int32.toInt 1 from by have : ((1 : Int32).toInt) = 1 := (by decide); omega), (show Int32.toInt 1 ≤ 1 from by have : ((1 : Int32).toInt) = 1 := (by decide); omega), (by have : ((1 : Int32).toInt) = 1 := (by decide); intro _; rw [show x2.toInt = x1.toInt by omega]; exact r2_rf (hg0 (x1.toInt) (by omega) (by rw [tw_fi_of hfv0_27]; omega)))⟩, rfl, rfl, rfl⟩ (Nat.le_of_ble_eq_true rfl) (Nat.le_of_ble_eq_true rfl) dX12_isFrom_6
set_option maxHeartbeats 4000000 in
set_option maxRecDepth 100000 in
theorem tX12_isFrom_v6 (l : Launch) (D : va_G) (cs : Nat → ClassId) {kp : Nat → Nat} {L : List Nat} {E : Nat → va_E} (a0 : Nat) (x1 : Int32) (x2 : Int32) (fv0_27 : Int32) (hm0 : a0 ∈ L) (hk0 : kp a0 = 12) (hp1a : 0 ≤ x1.toInt) (hp1b : x1.toInt ≤ 6) (hp2a : 0 ≤ x2.toInt) (hp2b : x2.toInt ≤ 11) (hfv0_27 : tw_fv E a0 27 = .int fv0_27) (hpre0 : x1.toInt < fv0_27.toInt) (hg0 : eo_ok E a0) (hg1 : ln_ok E a0) (sz : Nat) : Met l yX12_isFrom (.code yX12_isFrom cX12_isFrom 3 (some .boolean) :: cx_big) { frames := 6, cells := 0, slots := 0, locals := 132 } (tw_P D cs kp L E [.ref a0, .int x1, .int x2] sz) (tw_Q D cs kp L (fun v kq Lq Eq => (∃ x : Int32, v = some (.int x) ∧ 0 ≤ x.toInt ∧ x.toInt ≤ 1 ∧ (x.toInt ≠ 0 → r2_ok E a0 x1.toInt x2.toInt)) ∧ kp = kq ∧ L = Lq ∧ E = Eq) (va_A (va_pl L E) sz)) 0 0 (va_A (va_pl L E) sz) := by
  refine tw_ofW (by decide) (Nat.le_of_ble_eq_true rfl) ?_
  intro p e s m below meth c A ls hx hb hr hml hB hown hlocks hK hN hA TH hS hl
  have hown : s.vm.findClass "TreeMergeModel" = some m.cls := hown
  have hl : lv_has ls 3 [(0, .ref a0), (1, .int x1), (2, .int x2)] := hl
  obtain ⟨kp0, ekp⟩ : ∃ z, z = kp := ⟨_, rfl⟩
  obtain ⟨L0, eL⟩ : ∃ z, z = L := ⟨_, rfl⟩
  rw [show tw_Q D cs kp L = tw_Q D cs kp0 L0 by rw [ekp, eL]]
  have hex : ∀ a : Nat, a ∈ L0 → a ∈ L ∧ kp a = kp0 a := fun a h => ⟨by rw [← eL]; exact h, by rw [ekp]⟩
  obtain ⟨qfv0_27, hqfv0_27, hqfv0_27a, hqfv0_27b⟩ := tw_rd TH hm0 hk0 (by decide) (by decide) (k := 27) rfl
  have eqfv0_27 : qfv0_27 = fv0_27 := by have q := hqfv0_27.symm.trans hfv0_27; injection q
  rw [eqfv0_27] at hqfv0_27a hqfv0_27b
  refine lv_iload_n hx hb dX12_isFrom_0 rfl (lv_at hl 1 rfl) ?_
  refine lv_iload_n hx hb dX12_isFrom_1 rfl (lv_at hl 2 rfl) ?_
  refine lv_icmp_ne (tgt := 7) hx hb dX12_isFrom_2 (by decide) (fun hc1 => ?_) (fun hc1 => ?_)
  · have hf2 : ¬ (x1.toInt = x2.toInt) := fun q => hc1 ((fa_eq _ _).mpr (by  omega))
    refine lv_aload_n hx hb dX12_isFrom_7 rfl (lv_at hl 0 rfl) ?_
    refine tw_get (ci := 12) (C := RX12) (T := TX12) (N := 64) hx hb hB cx_inX12 hown hK TH hm0 hk0 rfl ⟨by decide, rfl⟩ 24 (by decide) cw_1217 (fun _ h9 => h9) dX12_isFrom_8 (fun hv => ?_)
    obtain ⟨xr3, hxr3, hmxr3, hkxr3⟩ : ∃ a : Nat, tw_fv E a0 24 = .ref a ∧ a ∈ L ∧ kp a = 334 := hv
    rw [hxr3]
    refine lv_iload_n hx hb dX12_isFrom_11 rfl (lv_at hl 1 rfl) ?_
    refine tw_iald (k := 334) (t0 := 0) (n := 12) (lo := (-1)) (hi := 11) hx hb hK TH hmxr3 hkxr3 (by decide) rfl rfl (i := x1) (vp_in_iff.mpr ⟨by  omega, by  omega⟩) dX12_isFrom_12 (fun hxe4a hxe4b => ?_)
    obtain ⟨xe4, exe4⟩ : ∃ z : Int32, tw_iv E xr3 (Int32.toNatClampNeg x1) = z := ⟨_, rfl⟩
    rw [exe4] at hxe4a hxe4b ⊢
    have hl13 : xe4.toInt = -1 ∨ (0 ≤ xe4.toInt ∧ xe4.toInt < x1.toInt ∧ r2_ok E a0 (x1.toInt) (xe4.toInt)) := (by have q := hg1 (x1.toInt).toNat (by rw [tw_fi_of hfv0_27]; omega) 24 (by decide); have w : tw_el E a0 24 (x1.toInt).toNat = xe4.toInt := (by rw [tw_el_of hxr3]; exact congrArg Int32.toInt exe4); rw [w, show (((x1.toInt).toNat : Nat) : Int) = x1.toInt by omega] at q; exact q)
    have hn13 : xe4.toInt = -1 ∨ (0 ≤ xe4.toInt ∧ xe4.toInt < x1.toInt) := hl13.imp id (fun q => ⟨q.1, q.2.1⟩)
    refine lv_iconst (v := (-1)) hx hb dX12_isFrom_13 (by decide) ?_
    refine lv_icmp_eq (tgt := 31) hx hb dX12_isFrom_14 (by decide) (fun hc5 => ?_) (fun hc5 => ?_)
    · have hf6 : xe4.toInt = (-1) := by have z := (fa_eq _ _).mp hc5; have : (((-1) : Int32).toInt) = (-1) := (by decide); omega
      refine lv_aload_n hx hb dX12_isFrom_31 rfl (lv_at hl 0 rfl) ?_
      refine tw_get (ci := 12) (C := RX12) (T := TX12) (N := 64) hx hb hB cx_inX12 hown hK TH hm0 hk0 rfl ⟨by decide, rfl⟩ 25 (by decide) cw_1218 (fun _ h9 => h9) dX12_isFrom_32 (fun hv => ?_)
      obtain ⟨xr7, hxr7, hmxr7, hkxr7⟩ : ∃ a : Nat, tw_fv E a0 25 = .ref a ∧ a ∈ L ∧ kp a = 335 := hv
      rw [hxr7]
      refine lv_iload_n hx hb dX12_isFrom_35 rfl (lv_at hl 1 rfl) ?_
      refine tw_iald (k := 335) (t0 := 0) (n := 12) (lo := (-1)) (hi := 11) hx hb hK TH hmxr7 hkxr7 (by decide) rfl rfl (i := x1) (vp_in_iff.mpr ⟨by  omega, by  omega⟩) dX12_isFrom_36 (fun hxe8a hxe8b => ?_)
      obtain ⟨xe8, exe8⟩ : ∃ z : Int32, tw_iv E xr7 (Int32.toNatClampNeg x1) = z := ⟨_, rfl⟩
      rw [exe8] at hxe8a hxe8b ⊢
      have hl37 : xe8.toInt = -1 ∨ (0 ≤ xe8.toInt ∧ xe8.toInt < x1.toInt ∧ r2_ok E a0 (x1.toInt) (xe8.toInt)) := (by have q := hg1 (x1.toInt).toNat (by rw [tw_fi_of hfv0_27]; omega) 25 (by decide); have w : tw_el E a0 25 (x1.toInt).toNat = xe8.toInt := (by rw [tw_el_of hxr7]; exact congrArg Int32.toInt exe8); rw [w, show (((x1.toInt).toNat : Nat) : Int) = x1.toInt by omega] at q; exact q)
      have hn37 : xe8.toInt = -1 ∨ (0 ≤ xe8.toInt ∧ xe8.toInt < x1.toInt) := hl37.imp id (fun q => ⟨q.1, q.2.1⟩)
      refine lv_iconst (v := (-1)) hx hb dX12_isFrom_37 (by decide) ?_
      refine lv_icmp_eq (tgt := 59) hx hb dX12_isFrom_38 (by decide) (fun hc9 => ?_) (fun hc9 => ?_)
      · have hf10 : xe8.toInt = (-1) := by have z := (fa_eq _ _).mp hc9; have : (((-1) : Int32).toInt) = (-1) := (by decide); omega
        refine lv_iconst (v := 0) hx hb dX12_isFrom_59 (by decide) ?_
        exact tw_zret hx hb hr hlocks (by decide) TH hS hex ⟨⟨_, rfl, (show 0 ≤ Int32.toInt 0 from by have : ((0 : Int32).toInt) = 0 := (by decide); omega), (show Int32.toInt 0 ≤ 1 from by have : ((0 : Int32).toInt) = 0 := (by decide); omega), (by have : ((0 : Int32).toInt) = 0 := (by decide); intro q; exfalso; exact q (by decide))⟩, rfl, rfl, rfl⟩ (Nat.le_of_ble_eq_true rfl) (Nat.le_of_ble_eq_true rfl) dX12_isFrom_60
      · have hf11 : ¬ (xe8.toInt = (-1)) := fun q => hc9 ((fa_eq _ _).mpr (by have : (((-1) : Int32).toInt) = (-1) := (by decide); omega))
        refine lv_aload_n hx hb dX12_isFrom_41 rfl (lv_at hl 0 rfl) ?_
        refine lv_aload_n hx hb dX12_isFrom_42 rfl (lv_at hl 0 rfl) ?_
        refine tw_get (ci := 12) (C := RX12) (T := TX12) (N := 64) hx hb hB cx_inX12 hown hK TH hm0 hk0 rfl ⟨by decide, rfl⟩ 25 (by decide) cw_1218 (fun _ h9 => h9) dX12_isFrom_43 (fun hv => ?_)
        rw [hxr7]
        refine lv_iload_n hx hb dX12_isFrom_46 rfl (lv_at hl 1 rfl) ?_
        refine tw_iald (k := 335) (t0 := 0) (n := 12) (lo := (-1)) (hi := 11) hx hb hK TH hmxr7 hkxr7 (by decide) rfl rfl (i := x1) (vp_in_iff.mpr ⟨by  omega, by  omega⟩) dX12_isFrom_47 (fun hxe12a hxe12b => ?_)
        rw [exe8]
        refine lv_iload_n hx hb dX12_isFrom_48 rfl (lv_at hl 2 rfl) ?_
        refine tw_Vc (o := a0) (ci := 12) (n := 2) (post := (fun v kq Lq Eq => (∃ x : Int32, v = some (.int x) ∧ 0 ≤ x.toInt ∧ x.toInt ≤ 1 ∧ (x.toInt ≠ 0 → r2_ok E a0 xe8.toInt x2.toInt)) ∧ kp = kq ∧ L = Lq ∧ E = Eq)) (As := [.int xe8, .int x2]) (rest := []) ⟨hx, hb, hml, hown, hB⟩ (fun sz => tX12_isFrom_v5 l D cs a0 xe8 x2 fv0_27 hm0 hk0 (by omega) (by omega) (by omega) (by omega) hfv0_27 (by  omega) hg0 hg1 sz) cg_12_512_X12_isFrom rfl rfl (by decide +kernel) ⟨Nat.le_of_ble_eq_true rfl, Nat.le_of_ble_eq_true rfl⟩ hK hN TH hS hA rfl hm0 hk0 (by decide) rfl hl.1 rfl (Nat.le_of_ble_eq_true rfl) dX12_isFrom_49 ⟨Nat.le_of_ble_eq_true rfl, Nat.le_of_ble_eq_true rfl⟩ (fun v13 kp13 L13 E13 H locs hq13 hx13 TH hS => ?_)
        obtain ⟨⟨xc14, rfl, hxc14a, hxc14b, hpoxc14_0⟩, rfl, rfl, rfl⟩ := hq13
        refine W.eq (g2 := F0 m 52 ls [.int xc14]) rfl ?_
        refine lv_if_eq (tgt := 59) hx hb dX12_isFrom_52 (by decide) (fun hc15 => ?_) (fun hc15 => ?_)
        · have hf16 : xc14.toInt = 0 := by have z := (fa_eq _ _).mp hc15; have : ((0 : Int32).toInt) = 0 := (by decide); omega
          refine lv_iconst (v := 0) hx hb dX12_isFrom_59 (by decide) ?_
          exact tw_zret hx hb hr hlocks (by decide) TH hS hex ⟨⟨_, rfl, (show 0 ≤ Int32.toInt 0 from by have : ((0 : Int32).toInt) = 0 := (by decide); omega), (show Int32.toInt 0 ≤ 1 from by have : ((0 : Int32).toInt) = 0 := (by decide); omega), (by have : ((0 : Int32).toInt) = 0 := (by decide); intro q; exfalso; exact q (by decide))⟩, rfl, rfl, rfl⟩ (Nat.le_of_ble_eq_true rfl) (Nat.le_of_ble_eq_true rfl) dX12_isFrom_60
        · have hf17 : ¬ (xc14.toInt = 0) := fun q => hc15 ((fa_eq _ _).mpr (by have : ((0 : Int32).toInt) = 0 := (by decide); omega))
          refine lv_iconst (v := 1) hx hb dX12_isFrom_55 (by decide) ?_
          refine lv_goto (tgt := 60) hx hb dX12_isFrom_56 (by decide) ?_
          exact tw_zret hx hb hr hlocks (by decide) TH hS hex ⟨⟨_, rfl, (show 0 ≤ Int32.toInt 1 from by have : ((1 : Int32).toInt) = 1 := (by decide); omega), (show Int32.toInt 1 ≤ 1 from by have : ((1 : Int32).toInt) = 1 := (by decide); omega), (by have : ((1 : Int32).toInt) = 1 := (by decide); intro _; have hl := hl37.resolve_left (by omega); exact r2_tr (hg0 (xe8.toInt) (by omega) (by rw [tw_fi_of hfv0_27]; omega)).1 hl.2.2 (hpoxc14_0 (by omega)))⟩, rfl, rfl, rfl⟩ (Nat.le_of_ble_eq_true rfl) (Nat.le_of_ble_eq_true rfl) dX12_isFrom_60
    · have hf18 : ¬ (xe4.toInt = (-1)) := fun q => hc5 ((fa_eq _ _).mpr (by have : (((-1) : Int32).toInt) = (-1) := (by decide); omega))
      refine lv_aload_n hx hb dX12_isFrom_17 rfl (lv_at hl 0 rfl) ?_
      refine lv_aload_n hx hb dX12_isFrom_18 rfl (lv_at hl 0 rfl) ?_
      refine tw_get (ci := 12) (C := RX12) (T := TX12) (N := 64) hx hb hB cx_inX12 hown hK TH hm0 hk0 rfl ⟨by decide, rfl⟩ 24 (by decide) cw_1217 (fun _ h9 => h9) dX12_isFrom_19 (fun hv => ?_)
      rw [hxr3]
      refine lv_iload_n hx hb dX12_isFrom_22 rfl (lv_at hl 1 rfl) ?_
      refine tw_iald (k := 334) (t0 := 0) (n := 12) (lo := (-1)) (hi := 11) hx hb hK TH hmxr3 hkxr3 (by decide) rfl rfl (i := x1) (vp_in_iff.mpr ⟨by  omega, by  omega⟩) dX12_isFrom_23 (fun hxe19a hxe19b => ?_)
      rw [exe4]
      refine lv_iload_n hx hb dX12_isFrom_24 rfl (lv_at hl 2 rfl) ?_
      refine tw_Vc (o := a0) (ci := 12) (n := 2) (post := (fun v kq Lq Eq => (∃ x : Int32, v = some (.int x) ∧ 0 ≤ x.toInt ∧ x.toInt ≤ 1 ∧ (x.toInt ≠ 0 → r2_ok E a0 xe4.toInt x2.toInt)) ∧ kp = kq ∧ L = Lq ∧ E = Eq)) (As := [.int xe4, .int x2]) (rest := []) ⟨hx, hb, hml, hown, hB⟩ (fun sz => tX12_isFrom_v5 l D cs a0 xe4 x2 fv0_27 hm0 hk0 (by omega) (by omega) (by omega) (by omega) hfv0_27 (by  omega) hg0 hg1 sz) cg_12_512_X12_isFrom rfl rfl (by decide +kernel) ⟨Nat.le_of_ble_eq_true rfl, Nat.le_of_ble_eq_true rfl⟩ hK hN TH hS hA rfl hm0 hk0 (by decide) rfl hl.1 rfl (Nat.le_of_ble_eq_true rfl) dX12_isFrom_25 ⟨Nat.le_of_ble_eq_true rfl, Nat.le_of_ble_eq_true rfl⟩ (fun v20 kp20 L20 E20 H locs hq20 hx20 TH hS => ?_)
      obtain ⟨⟨xc21, rfl, hxc21a, hxc21b, hpoxc21_0⟩, rfl, rfl, rfl⟩ := hq20
      refine W.eq (g2 := F0 m 28 ls [.int xc21]) rfl ?_
      refine lv_if_ne (tgt := 55) hx hb dX12_isFrom_28 (by decide) (fun hc22 => ?_) (fun hc22 => ?_)
      · have hf23 : ¬ (xc21.toInt = 0) := fun q => hc22 ((fa_eq _ _).mpr (by have : ((0 : Int32).toInt) = 0 := (by decide); omega))
        refine lv_iconst (v := 1) hx hb dX12_isFrom_55 (by decide) ?_
        refine lv_goto (tgt := 60) hx hb dX12_isFrom_56 (by decide) ?_
        exact tw_zret hx hb hr hlocks (by decide) TH hS hex ⟨⟨_, rfl, (show 0 ≤ Int32.toInt 1 from by have : ((1 : Int32).toInt) = 1 := (by decide); omega), (show Int32.toInt 1 ≤ 1 from by have : ((1 : Int32).toInt) = 1 := (by decide); omega), (by have : ((1 : Int32).toInt) = 1 := (by decide); intro _; have hl := hl13.resolve_left (by omega); exact r2_tr (hg0 (xe4.toInt) (by omega) (by rw [tw_fi_of hfv0_27]; omega)).1 hl.2.2 (hpoxc21_0 (by omega)))⟩, rfl, rfl, rfl⟩ (Nat.le_of_ble_eq_true rfl) (Nat.le_of_ble_eq_true rfl) dX12_isFrom_60
      · have hf24 : xc21.toInt = 0 := by have z := (fa_eq _ _).mp hc22; have : ((0 : Int32).toInt) = 0 := (by decide); omega
        refine lv_aload_n hx hb dX12_isFrom_31 rfl (lv_at hl 0 rfl) ?_
        refine tw_get (ci := 12) (C := RX12) (T := TX12) (N := 64) hx hb hB cx_inX12 hown hK TH hm0 hk0 rfl ⟨by decide, rfl⟩ 25 (by decide) cw_1218 (fun _ h9 => h9) dX12_isFrom_32 (fun hv => ?_)
        obtain ⟨xr25, hxr25, hmxr25, hkxr25⟩ : ∃ a : Nat, tw_fv E a0 25 = .ref a ∧ a ∈ L ∧ kp a = 335 := hv
        rw [hxr25]
        refine lv_iload_n hx hb dX12_isFrom_35 rfl (lv_at hl 1 rfl) ?_
        refine tw_iald (k := 335) (t0 := 0) (n := 12) (lo := (-1)) (hi := 11) hx hb hK TH hmxr25 hkxr25 (by decide) rfl rfl (i := x1) (vp_in_iff.mpr ⟨by  omega, by  omega⟩) dX12_isFrom_36 (fun hxe26a hxe26b => ?_)
        obtain ⟨xe26, exe26⟩ : ∃ z : Int32, tw_iv E xr25 (Int32.toNatClampNeg x1) = z := ⟨_, rfl⟩
        rw [exe26] at hxe26a hxe26b ⊢
        have hl37 : xe26.toInt = -1 ∨ (0 ≤ xe26.toInt ∧ xe26.toInt < x1.toInt ∧ r2_ok E a0 (x1.toInt) (xe26.toInt)) := (by have q := hg1 (x1.toInt).toNat (by rw [tw_fi_of hfv0_27]; omega) 25 (by decide); have w : tw_el E a0 25 (x1.toInt).toNat = xe26.toInt := (by rw [tw_el_of hxr25]; exact congrArg Int32.toInt exe26); rw [w, show (((x1.toInt).toNat : Nat) : Int) = x1.toInt by omega] at q; exact q)
        have hn37 : xe26.toInt = -1 ∨ (0 ≤ xe26.toInt ∧ xe26.toInt < x1.toInt) := hl37.imp id (fun q => ⟨q.1, q.2.1⟩)
        refine lv_iconst (v := (-1)) hx hb dX12_isFrom_37 (by decide) ?_
        refine lv_icmp_eq (tgt := 59) hx hb dX12_isFrom_38 (by decide) (fun hc27 => ?_) (fun hc27 => ?_)
        · have hf28 : xe26.toInt = (-1) := by have z := (fa_eq _ _).mp hc27; have : (((-1) : Int32).toInt) = (-1) := (by decide); omega
          refine lv_iconst (v := 0) hx hb dX12_isFrom_59 (by decide) ?_
          exact tw_zret hx hb hr hlocks (by decide) TH hS hex ⟨⟨_, rfl, (show 0 ≤ Int32.toInt 0 from by have : ((0 : Int32).toInt) = 0 := (by decide); omega), (show Int32.toInt 0 ≤ 1 from by have : ((0 : Int32).toInt) = 0 := (by decide); omega), (by have : ((0 : Int32).toInt) = 0 := (by decide); intro q; exfalso; exact q (by decide))⟩, rfl, rfl, rfl⟩ (Nat.le_of_ble_eq_true rfl) (Nat.le_of_ble_eq_true rfl) dX12_isFrom_60
        · have hf29 : ¬ (xe26.toInt = (-1)) := fun q => hc27 ((fa_eq _ _).mpr (by have : (((-1) : Int32).toInt) = (-1) := (by decide); omega))
          refine lv_aload_n hx hb dX12_isFrom_41 rfl (lv_at hl 0 rfl) ?_
          refine lv_aload_n hx hb dX12_isFrom_42 rfl (lv_at hl 0 rfl) ?_
          refine tw_get (ci := 12) (C := RX12) (T := TX12) (N := 64) hx hb hB cx_inX12 hown hK TH hm0 hk0 rfl ⟨by decide, rfl⟩ 25 (by decide) cw_1218 (fun _ h9 => h9) dX12_isFrom_43 (fun hv => ?_)
          rw [hxr25]
          refine lv_iload_n hx hb dX12_isFrom_46 rfl (lv_at hl 1 rfl) ?_
          refine tw_iald (k := 335) (t0 := 0) (n := 12) (lo := (-1)) (hi := 11) hx hb hK TH hmxr25 hkxr25 (by decide) rfl rfl (i := x1) (vp_in_iff.mpr ⟨by  omega, by  omega⟩) dX12_isFrom_47 (fun hxe30a hxe30b => ?_)
          rw [exe26]
          refine lv_iload_n hx hb dX12_isFrom_48 rfl (lv_at hl 2 rfl) ?_
          refine tw_Vc (o := a0) (ci := 12) (n := 2) (post := (fun v kq Lq Eq => (∃ x : Int32, v = some (.int x) ∧ 0 ≤ x.toInt ∧ x.toInt ≤ 1 ∧ (x.toInt ≠ 0 → r2_ok E a0 xe26.toInt x2.toInt)) ∧ kp = kq ∧ L = Lq ∧ E = Eq)) (As := [.int xe26, .int x2]) (rest := []) ⟨hx, hb, hml, hown, hB⟩ (fun sz => tX12_isFrom_v5 l D cs a0 xe26 x2 fv0_27 hm0 hk0 (by omega) (by omega) (by omega) (by omega) hfv0_27 (by  omega) hg0 hg1 sz) cg_12_512_X12_isFrom rfl rfl (by decide +kernel) ⟨Nat.le_of_ble_eq_true rfl, Nat.le_of_ble_eq_true rfl⟩ hK hN TH hS hA rfl hm0 hk0 (by decide) rfl hl.1 rfl (Nat.le_of_ble_eq_true rfl) dX12_isFrom_49 ⟨Nat.le_of_ble_eq_true rfl, Nat.le_of_ble_eq_true rfl⟩ (fun v31 kp31 L31 E31 H locs hq31 hx31 TH hS => ?_)
          obtain ⟨⟨xc32, rfl, hxc32a, hxc32b, hpoxc32_0⟩, rfl, rfl, rfl⟩ := hq31
          refine W.eq (g2 := F0 m 52 ls [.int xc32]) rfl ?_
          refine lv_if_eq (tgt := 59) hx hb dX12_isFrom_52 (by decide) (fun hc33 => ?_) (fun hc33 => ?_)
          · have hf34 : xc32.toInt = 0 := by have z := (fa_eq _ _).mp hc33; have : ((0 : Int32).toInt) = 0 := (by decide); omega
            refine lv_iconst (v := 0) hx hb dX12_isFrom_59 (by decide) ?_
            exact tw_zret hx hb hr hlocks (by decide) TH hS hex ⟨⟨_, rfl, (show 0 ≤ Int32.toInt 0 from by have : ((0 : Int32).toInt) = 0 := (by decide); omega), (show Int32.toInt 0 ≤ 1 from by have : ((0 : Int32).toInt) = 0 := (by decide); omega), (by have : ((0 : Int32).toInt) = 0 := (by decide); intro q; exfalso; exact q (by decide))⟩, rfl, rfl, rfl⟩ (Nat.le_of_ble_eq_true rfl) (Nat.le_of_ble_eq_true rfl) dX12_isFrom_60
          · have hf35 : ¬ (xc32.toInt = 0) := fun q => hc33 ((fa_eq _ _).mpr (by have : ((0 : Int32).toInt) = 0 := (by decide); omega))
            refine lv_iconst (v := 1) hx hb dX12_isFrom_55 (by decide) ?_
            refine lv_goto (tgt := 60) hx hb dX12_isFrom_56 (by decide) ?_
            exact tw_zret hx hb hr hlocks (by decide) TH hS hex ⟨⟨_, rfl, (show 0 ≤ Int32.toInt 1 from by have : ((1 : Int32).toInt) = 1 := (by decide); omega), (show Int32.toInt 1 ≤ 1 from by have : ((1 : Int32).toInt) = 1 := (by decide); omega), (by have : ((1 : Int32).toInt) = 1 := (by decide); intro _; have hl := hl37.resolve_left (by omega); exact r2_tr (hg0 (xe26.toInt) (by omega) (by rw [tw_fi_of hfv0_27]; omega)).1 hl.2.2 (hpoxc32_0 (by omega)))⟩, rfl, rfl, rfl⟩ (Nat.le_of_ble_eq_true rfl) (Nat.le_of_ble_eq_true rfl) dX12_isFrom_60
  · have hf36 : x1.toInt = x2.toInt := by have z := (fa_eq _ _).mp hc1;  omega
    refine lv_iconst (v := 1) hx hb dX12_isFrom_5 (by decide) ?_
    exact tw_zret hx hb hr hlocks (by decide) TH hS hex ⟨⟨_, rfl, (show 0 ≤ Int32.toInt 1 from by have : ((1 : Int32).toInt) = 1 := (by decide); omega), (show Int32.toInt 1 ≤ 1 from by have : ((1 : Int32).toInt) = 1 := (by decide); omega), (by have : ((1 : Int32).toInt) = 1 := (by decide); intro _; rw [show x2.toInt = x1.toInt by omega]; exact r2_rf (hg0 (x1.toInt) (by omega) (by rw [tw_fi_of hfv0_27]; omega)))⟩, rfl, rfl, rfl⟩ (Nat.le_of_ble_eq_true rfl) (Nat.le_of_ble_eq_true rfl) dX12_isFrom_6
set_option maxHeartbeats 4000000 in
set_option maxRecDepth 100000 in
theorem tX12_isFrom_v7 (l : Launch) (D : va_G) (cs : Nat → ClassId) {kp : Nat → Nat} {L : List Nat} {E : Nat → va_E} (a0 : Nat) (x1 : Int32) (x2 : Int32) (fv0_27 : Int32) (hm0 : a0 ∈ L) (hk0 : kp a0 = 12) (hp1a : 0 ≤ x1.toInt) (hp1b : x1.toInt ≤ 7) (hp2a : 0 ≤ x2.toInt) (hp2b : x2.toInt ≤ 11) (hfv0_27 : tw_fv E a0 27 = .int fv0_27) (hpre0 : x1.toInt < fv0_27.toInt) (hg0 : eo_ok E a0) (hg1 : ln_ok E a0) (sz : Nat) : Met l yX12_isFrom (.code yX12_isFrom cX12_isFrom 3 (some .boolean) :: cx_big) { frames := 7, cells := 0, slots := 0, locals := 154 } (tw_P D cs kp L E [.ref a0, .int x1, .int x2] sz) (tw_Q D cs kp L (fun v kq Lq Eq => (∃ x : Int32, v = some (.int x) ∧ 0 ≤ x.toInt ∧ x.toInt ≤ 1 ∧ (x.toInt ≠ 0 → r2_ok E a0 x1.toInt x2.toInt)) ∧ kp = kq ∧ L = Lq ∧ E = Eq) (va_A (va_pl L E) sz)) 0 0 (va_A (va_pl L E) sz) := by
  refine tw_ofW (by decide) (Nat.le_of_ble_eq_true rfl) ?_
  intro p e s m below meth c A ls hx hb hr hml hB hown hlocks hK hN hA TH hS hl
  have hown : s.vm.findClass "TreeMergeModel" = some m.cls := hown
  have hl : lv_has ls 3 [(0, .ref a0), (1, .int x1), (2, .int x2)] := hl
  obtain ⟨kp0, ekp⟩ : ∃ z, z = kp := ⟨_, rfl⟩
  obtain ⟨L0, eL⟩ : ∃ z, z = L := ⟨_, rfl⟩
  rw [show tw_Q D cs kp L = tw_Q D cs kp0 L0 by rw [ekp, eL]]
  have hex : ∀ a : Nat, a ∈ L0 → a ∈ L ∧ kp a = kp0 a := fun a h => ⟨by rw [← eL]; exact h, by rw [ekp]⟩
  obtain ⟨qfv0_27, hqfv0_27, hqfv0_27a, hqfv0_27b⟩ := tw_rd TH hm0 hk0 (by decide) (by decide) (k := 27) rfl
  have eqfv0_27 : qfv0_27 = fv0_27 := by have q := hqfv0_27.symm.trans hfv0_27; injection q
  rw [eqfv0_27] at hqfv0_27a hqfv0_27b
  refine lv_iload_n hx hb dX12_isFrom_0 rfl (lv_at hl 1 rfl) ?_
  refine lv_iload_n hx hb dX12_isFrom_1 rfl (lv_at hl 2 rfl) ?_
  refine lv_icmp_ne (tgt := 7) hx hb dX12_isFrom_2 (by decide) (fun hc1 => ?_) (fun hc1 => ?_)
  · have hf2 : ¬ (x1.toInt = x2.toInt) := fun q => hc1 ((fa_eq _ _).mpr (by  omega))
    refine lv_aload_n hx hb dX12_isFrom_7 rfl (lv_at hl 0 rfl) ?_
    refine tw_get (ci := 12) (C := RX12) (T := TX12) (N := 64) hx hb hB cx_inX12 hown hK TH hm0 hk0 rfl ⟨by decide, rfl⟩ 24 (by decide) cw_1217 (fun _ h9 => h9) dX12_isFrom_8 (fun hv => ?_)
    obtain ⟨xr3, hxr3, hmxr3, hkxr3⟩ : ∃ a : Nat, tw_fv E a0 24 = .ref a ∧ a ∈ L ∧ kp a = 334 := hv
    rw [hxr3]
    refine lv_iload_n hx hb dX12_isFrom_11 rfl (lv_at hl 1 rfl) ?_
    refine tw_iald (k := 334) (t0 := 0) (n := 12) (lo := (-1)) (hi := 11) hx hb hK TH hmxr3 hkxr3 (by decide) rfl rfl (i := x1) (vp_in_iff.mpr ⟨by  omega, by  omega⟩) dX12_isFrom_12 (fun hxe4a hxe4b => ?_)
    obtain ⟨xe4, exe4⟩ : ∃ z : Int32, tw_iv E xr3 (Int32.toNatClampNeg x1) = z := ⟨_, rfl⟩
    rw [exe4] at hxe4a hxe4b ⊢
    have hl13 : xe4.toInt = -1 ∨ (0 ≤ xe4.toInt ∧ xe4.toInt < x1.toInt ∧ r2_ok E a0 (x1.toInt) (xe4.toInt)) := (by have q := hg1 (x1.toInt).toNat (by rw [tw_fi_of hfv0_27]; omega) 24 (by decide); have w : tw_el E a0 24 (x1.toInt).toNat = xe4.toInt := (by rw [tw_el_of hxr3]; exact congrArg Int32.toInt exe4); rw [w, show (((x1.toInt).toNat : Nat) : Int) = x1.toInt by omega] at q; exact q)
    have hn13 : xe4.toInt = -1 ∨ (0 ≤ xe4.toInt ∧ xe4.toInt < x1.toInt) := hl13.imp id (fun q => ⟨q.1, q.2.1⟩)
    refine lv_iconst (v := (-1)) hx hb dX12_isFrom_13 (by decide) ?_
    refine lv_icmp_eq (tgt := 31) hx hb dX12_isFrom_14 (by decide) (fun hc5 => ?_) (fun hc5 => ?_)
    · have hf6 : xe4.toInt = (-1) := by have z := (fa_eq _ _).mp hc5; have : (((-1) : Int32).toInt) = (-1) := (by decide); omega
      refine lv_aload_n hx hb dX12_isFrom_31 rfl (lv_at hl 0 rfl) ?_
      refine tw_get (ci := 12) (C := RX12) (T := TX12) (N := 64) hx hb hB cx_inX12 hown hK TH hm0 hk0 rfl ⟨by decide, rfl⟩ 25 (by decide) cw_1218 (fun _ h9 => h9) dX12_isFrom_32 (fun hv => ?_)
      obtain ⟨xr7, hxr7, hmxr7, hkxr7⟩ : ∃ a : Nat, tw_fv E a0 25 = .ref a ∧ a ∈ L ∧ kp a = 335 := hv
      rw [hxr7]
      refine lv_iload_n hx hb dX12_isFrom_35 rfl (lv_at hl 1 rfl) ?_
      refine tw_iald (k := 335) (t0 := 0) (n := 12) (lo := (-1)) (hi := 11) hx hb hK TH hmxr7 hkxr7 (by decide) rfl rfl (i := x1) (vp_in_iff.mpr ⟨by  omega, by  omega⟩) dX12_isFrom_36 (fun hxe8a hxe8b => ?_)
      obtain ⟨xe8, exe8⟩ : ∃ z : Int32, tw_iv E xr7 (Int32.toNatClampNeg x1) = z := ⟨_, rfl⟩
      rw [exe8] at hxe8a hxe8b ⊢
      have hl37 : xe8.toInt = -1 ∨ (0 ≤ xe8.toInt ∧ xe8.toInt < x1.toInt ∧ r2_ok E a0 (x1.toInt) (xe8.toInt)) := (by have q := hg1 (x1.toInt).toNat (by rw [tw_fi_of hfv0_27]; omega) 25 (by decide); have w : tw_el E a0 25 (x1.toInt).toNat = xe8.toInt := (by rw [tw_el_of hxr7]; exact congrArg Int32.toInt exe8); rw [w, show (((x1.toInt).toNat : Nat) : Int) = x1.toInt by omega] at q; exact q)
      have hn37 : xe8.toInt = -1 ∨ (0 ≤ xe8.toInt ∧ xe8.toInt < x1.toInt) := hl37.imp id (fun q => ⟨q.1, q.2.1⟩)
      refine lv_iconst (v := (-1)) hx hb dX12_isFrom_37 (by decide) ?_
      refine lv_icmp_eq (tgt := 59) hx hb dX12_isFrom_38 (by decide) (fun hc9 => ?_) (fun hc9 => ?_)
      · have hf10 : xe8.toInt = (-1) := by have z := (fa_eq _ _).mp hc9; have : (((-1) : Int32).toInt) = (-1) := (by decide); omega
        refine lv_iconst (v := 0) hx hb dX12_isFrom_59 (by decide) ?_
        exact tw_zret hx hb hr hlocks (by decide) TH hS hex ⟨⟨_, rfl, (show 0 ≤ Int32.toInt 0 from by have : ((0 : Int32).toInt) = 0 := (by decide); omega), (show Int32.toInt 0 ≤ 1 from by have : ((0 : Int32).toInt) = 0 := (by decide); omega), (by have : ((0 : Int32).toInt) = 0 := (by decide); intro q; exfalso; exact q (by decide))⟩, rfl, rfl, rfl⟩ (Nat.le_of_ble_eq_true rfl) (Nat.le_of_ble_eq_true rfl) dX12_isFrom_60
      · have hf11 : ¬ (xe8.toInt = (-1)) := fun q => hc9 ((fa_eq _ _).mpr (by have : (((-1) : Int32).toInt) = (-1) := (by decide); omega))
        refine lv_aload_n hx hb dX12_isFrom_41 rfl (lv_at hl 0 rfl) ?_
        refine lv_aload_n hx hb dX12_isFrom_42 rfl (lv_at hl 0 rfl) ?_
        refine tw_get (ci := 12) (C := RX12) (T := TX12) (N := 64) hx hb hB cx_inX12 hown hK TH hm0 hk0 rfl ⟨by decide, rfl⟩ 25 (by decide) cw_1218 (fun _ h9 => h9) dX12_isFrom_43 (fun hv => ?_)
        rw [hxr7]
        refine lv_iload_n hx hb dX12_isFrom_46 rfl (lv_at hl 1 rfl) ?_
        refine tw_iald (k := 335) (t0 := 0) (n := 12) (lo := (-1)) (hi := 11) hx hb hK TH hmxr7 hkxr7 (by decide) rfl rfl (i := x1) (vp_in_iff.mpr ⟨by  omega, by  omega⟩) dX12_isFrom_47 (fun hxe12a hxe12b => ?_)
        rw [exe8]
        refine lv_iload_n hx hb dX12_isFrom_48 rfl (lv_at hl 2 rfl) ?_
        refine tw_Vc (o := a0) (ci := 12) (n := 2) (post := (fun v kq Lq Eq => (∃ x : Int32, v = some (.int x) ∧ 0 ≤ x.toInt ∧ x.toInt ≤ 1 ∧ (x.toInt ≠ 0 → r2_ok E a0 xe8.toInt x2.toInt)) ∧ kp = kq ∧ L = Lq ∧ E = Eq)) (As := [.int xe8, .int x2]) (rest := []) ⟨hx, hb, hml, hown, hB⟩ (fun sz => tX12_isFrom_v6 l D cs a0 xe8 x2 fv0_27 hm0 hk0 (by omega) (by omega) (by omega) (by omega) hfv0_27 (by  omega) hg0 hg1 sz) cg_12_512_X12_isFrom rfl rfl (by decide +kernel) ⟨Nat.le_of_ble_eq_true rfl, Nat.le_of_ble_eq_true rfl⟩ hK hN TH hS hA rfl hm0 hk0 (by decide) rfl hl.1 rfl (Nat.le_of_ble_eq_true rfl) dX12_isFrom_49 ⟨Nat.le_of_ble_eq_true rfl, Nat.le_of_ble_eq_true rfl⟩ (fun v13 kp13 L13 E13 H locs hq13 hx13 TH hS => ?_)
        obtain ⟨⟨xc14, rfl, hxc14a, hxc14b, hpoxc14_0⟩, rfl, rfl, rfl⟩ := hq13
        refine W.eq (g2 := F0 m 52 ls [.int xc14]) rfl ?_
        refine lv_if_eq (tgt := 59) hx hb dX12_isFrom_52 (by decide) (fun hc15 => ?_) (fun hc15 => ?_)
        · have hf16 : xc14.toInt = 0 := by have z := (fa_eq _ _).mp hc15; have : ((0 : Int32).toInt) = 0 := (by decide); omega
          refine lv_iconst (v := 0) hx hb dX12_isFrom_59 (by decide) ?_
          exact tw_zret hx hb hr hlocks (by decide) TH hS hex ⟨⟨_, rfl, (show 0 ≤ Int32.toInt 0 from by have : ((0 : Int32).toInt) = 0 := (by decide); omega), (show Int32.toInt 0 ≤ 1 from by have : ((0 : Int32).toInt) = 0 := (by decide); omega), (by have : ((0 : Int32).toInt) = 0 := (by decide); intro q; exfalso; exact q (by decide))⟩, rfl, rfl, rfl⟩ (Nat.le_of_ble_eq_true rfl) (Nat.le_of_ble_eq_true rfl) dX12_isFrom_60
        · have hf17 : ¬ (xc14.toInt = 0) := fun q => hc15 ((fa_eq _ _).mpr (by have : ((0 : Int32).toInt) = 0 := (by decide); omega))
          refine lv_iconst (v := 1) hx hb dX12_isFrom_55 (by decide) ?_
          refine lv_goto (tgt := 60) hx hb dX12_isFrom_56 (by decide) ?_
          exact tw_zret hx hb hr hlocks (by decide) TH hS hex ⟨⟨_, rfl, (show 0 ≤ Int32.toInt 1 from by have : ((1 : Int32).toInt) = 1 := (by decide); omega), (show Int32.toInt 1 ≤ 1 from by have : ((1 : Int32).toInt) = 1 := (by decide); omega), (by have : ((1 : Int32).toInt) = 1 := (by decide); intro _; have hl := hl37.resolve_left (by omega); exact r2_tr (hg0 (xe8.toInt) (by omega) (by rw [tw_fi_of hfv0_27]; omega)).1 hl.2.2 (hpoxc14_0 (by omega)))⟩, rfl, rfl, rfl⟩ (Nat.le_of_ble_eq_true rfl) (Nat.le_of_ble_eq_true rfl) dX12_isFrom_60
    · have hf18 : ¬ (xe4.toInt = (-1)) := fun q => hc5 ((fa_eq _ _).mpr (by have : (((-1) : Int32).toInt) = (-1) := (by decide); omega))
      refine lv_aload_n hx hb dX12_isFrom_17 rfl (lv_at hl 0 rfl) ?_
      refine lv_aload_n hx hb dX12_isFrom_18 rfl (lv_at hl 0 rfl) ?_
      refine tw_get (ci := 12) (C := RX12) (T := TX12) (N := 64) hx hb hB cx_inX12 hown hK TH hm0 hk0 rfl ⟨by decide, rfl⟩ 24 (by decide) cw_1217 (fun _ h9 => h9) dX12_isFrom_19 (fun hv => ?_)
      rw [hxr3]
      refine lv_iload_n hx hb dX12_isFrom_22 rfl (lv_at hl 1 rfl) ?_
      refine tw_iald (k := 334) (t0 := 0) (n := 12) (lo := (-1)) (hi := 11) hx hb hK TH hmxr3 hkxr3 (by decide) rfl rfl (i := x1) (vp_in_iff.mpr ⟨by  omega, by  omega⟩) dX12_isFrom_23 (fun hxe19a hxe19b => ?_)
      rw [exe4]
      refine lv_iload_n hx hb dX12_isFrom_24 rfl (lv_at hl 2 rfl) ?_
      refine tw_Vc (o := a0) (ci := 12) (n := 2) (post := (fun v kq Lq Eq => (∃ x : Int32, v = some (.int x) ∧ 0 ≤ x.toInt ∧ x.toInt ≤ 1 ∧ (x.toInt ≠ 0 → r2_ok E a0 xe4.toInt x2.toInt)) ∧ kp = kq ∧ L = Lq ∧ E = Eq)) (As := [.int xe4, .int x2]) (rest := []) ⟨hx, hb, hml, hown, hB⟩ (fun sz => tX12_isFrom_v6 l D cs a0 xe4 x2 fv0_27 hm0 hk0 (by omega) (by omega) (by omega) (by omega) hfv0_27 (by  omega) hg0 hg1 sz) cg_12_512_X12_isFrom rfl rfl (by decide +kernel) ⟨Nat.le_of_ble_eq_true rfl, Nat.le_of_ble_eq_true rfl⟩ hK hN TH hS hA rfl hm0 hk0 (by decide) rfl hl.1 rfl (Nat.le_of_ble_eq_true rfl) dX12_isFrom_25 ⟨Nat.le_of_ble_eq_true rfl, Nat.le_of_ble_eq_true rfl⟩ (fun v20 kp20 L20 E20 H locs hq20 hx20 TH hS => ?_)
      obtain ⟨⟨xc21, rfl, hxc21a, hxc21b, hpoxc21_0⟩, rfl, rfl, rfl⟩ := hq20
      refine W.eq (g2 := F0 m 28 ls [.int xc21]) rfl ?_
      refine lv_if_ne (tgt := 55) hx hb dX12_isFrom_28 (by decide) (fun hc22 => ?_) (fun hc22 => ?_)
      · have hf23 : ¬ (xc21.toInt = 0) := fun q => hc22 ((fa_eq _ _).mpr (by have : ((0 : Int32).toInt) = 0 := (by decide); omega))
        refine lv_iconst (v := 1) hx hb dX12_isFrom_55 (by decide) ?_
        refine lv_goto (tgt := 60) hx hb dX12_isFrom_56 (by decide) ?_
        exact tw_zret hx hb hr hlocks (by decide) TH hS hex ⟨⟨_, rfl, (show 0 ≤ Int32.toInt 1 from by have : ((1 : Int32).toInt) = 1 := (by decide); omega), (show Int32.toInt 1 ≤ 1 from by have : ((1 : Int32).toInt) = 1 := (by decide); omega), (by have : ((1 : Int32).toInt) = 1 := (by decide); intro _; have hl := hl13.resolve_left (by omega); exact r2_tr (hg0 (xe4.toInt) (by omega) (by rw [tw_fi_of hfv0_27]; omega)).1 hl.2.2 (hpoxc21_0 (by omega)))⟩, rfl, rfl, rfl⟩ (Nat.le_of_ble_eq_true rfl) (Nat.le_of_ble_eq_true rfl) dX12_isFrom_60
      · have hf24 : xc21.toInt = 0 := by have z := (fa_eq _ _).mp hc22; have : ((0 : Int32).toInt) = 0 := (by decide); omega
        refine lv_aload_n hx hb dX12_isFrom_31 rfl (lv_at hl 0 rfl) ?_
        refine tw_get (ci := 12) (C := RX12) (T := TX12) (N := 64) hx hb hB cx_inX12 hown hK TH hm0 hk0 rfl ⟨by decide, rfl⟩ 25 (by decide) cw_1218 (fun _ h9 => h9) dX12_isFrom_32 (fun hv => ?_)
        obtain ⟨xr25, hxr25, hmxr25, hkxr25⟩ : ∃ a : Nat, tw_fv E a0 25 = .ref a ∧ a ∈ L ∧ kp a = 335 := hv
        rw [hxr25]
        refine lv_iload_n hx hb dX12_isFrom_35 rfl (lv_at hl 1 rfl) ?_
        refine tw_iald (k := 335) (t0 := 0) (n := 12) (lo := (-1)) (hi := 11) hx hb hK TH hmxr25 hkxr25 (by decide) rfl rfl (i := x1) (vp_in_iff.mpr ⟨by  omega, by  omega⟩) dX12_isFrom_36 (fun hxe26a hxe26b => ?_)
        obtain ⟨xe26, exe26⟩ : ∃ z : Int32, tw_iv E xr25 (Int32.toNatClampNeg x1) = z := ⟨_, rfl⟩
        rw [exe26] at hxe26a hxe26b ⊢
        have hl37 : xe26.toInt = -1 ∨ (0 ≤ xe26.toInt ∧ xe26.toInt < x1.toInt ∧ r2_ok E a0 (x1.toInt) (xe26.toInt)) := (by have q := hg1 (x1.toInt).toNat (by rw [tw_fi_of hfv0_27]; omega) 25 (by decide); have w : tw_el E a0 25 (x1.toInt).toNat = xe26.toInt := (by rw [tw_el_of hxr25]; exact congrArg Int32.toInt exe26); rw [w, show (((x1.toInt).toNat : Nat) : Int) = x1.toInt by omega] at q; exact q)
        have hn37 : xe26.toInt = -1 ∨ (0 ≤ xe26.toInt ∧ xe26.toInt < x1.toInt) := hl37.imp id (fun q => ⟨q.1, q.2.1⟩)
        refine lv_iconst (v := (-1)) hx hb dX12_isFrom_37 (by decide) ?_
        refine lv_icmp_eq (tgt := 59) hx hb dX12_isFrom_38 (by decide) (fun hc27 => ?_) (fun hc27 => ?_)
        · have hf28 : xe26.toInt = (-1) := by have z := (fa_eq _ _).mp hc27; have : (((-1) : Int32).toInt) = (-1) := (by decide); omega
          refine lv_iconst (v := 0) hx hb dX12_isFrom_59 (by decide) ?_
          exact tw_zret hx hb hr hlocks (by decide) TH hS hex ⟨⟨_, rfl, (show 0 ≤ Int32.toInt 0 from by have : ((0 : Int32).toInt) = 0 := (by decide); omega), (show Int32.toInt 0 ≤ 1 from by have : ((0 : Int32).toInt) = 0 := (by decide); omega), (by have : ((0 : Int32).toInt) = 0 := (by decide); intro q; exfalso; exact q (by decide))⟩, rfl, rfl, rfl⟩ (Nat.le_of_ble_eq_true rfl) (Nat.le_of_ble_eq_true rfl) dX12_isFrom_60
        · have hf29 : ¬ (xe26.toInt = (-1)) := fun q => hc27 ((fa_eq _ _).mpr (by have : (((-1) : Int32).toInt) = (-1) := (by decide); omega))
          refine lv_aload_n hx hb dX12_isFrom_41 rfl (lv_at hl 0 rfl) ?_
          refine lv_aload_n hx hb dX12_isFrom_42 rfl (lv_at hl 0 rfl) ?_
          refine tw_get (ci := 12) (C := RX12) (T := TX12) (N := 64) hx hb hB cx_inX12 hown hK TH hm0 hk0 rfl ⟨by decide, rfl⟩ 25 (by decide) cw_1218 (fun _ h9 => h9) dX12_isFrom_43 (fun hv => ?_)
          rw [hxr25]
          refine lv_iload_n hx hb dX12_isFrom_46 rfl (lv_at hl 1 rfl) ?_
          refine tw_iald (k := 335) (t0 := 0) (n := 12) (lo := (-1)) (hi := 11) hx hb hK TH hmxr25 hkxr25 (by decide) rfl rfl (i := x1) (vp_in_iff.mpr ⟨by  omega, by  omega⟩) dX12_isFrom_47 (fun hxe30a hxe30b => ?_)
          rw [exe26]
          refine lv_iload_n hx hb dX12_isFrom_48 rfl (lv_at hl 2 rfl) ?_
          refine tw_Vc (o := a0) (ci := 12) (n := 2) (post := (fun v kq Lq Eq => (∃ x : Int32, v = some (.int x) ∧ 0 ≤ x.toInt ∧ x.toInt ≤ 1 ∧ (x.toInt ≠ 0 → r2_ok E a0 xe26.toInt x2.toInt)) ∧ kp = kq ∧ L = Lq ∧ E = Eq)) (As := [.int xe26, .int x2]) (rest := []) ⟨hx, hb, hml, hown, hB⟩ (fun sz => tX12_isFrom_v6 l D cs a0 xe26 x2 fv0_27 hm0 hk0 (by omega) (by omega) (by omega) (by omega) hfv0_27 (by  omega) hg0 hg1 sz) cg_12_512_X12_isFrom rfl rfl (by decide +kernel) ⟨Nat.le_of_ble_eq_true rfl, Nat.le_of_ble_eq_true rfl⟩ hK hN TH hS hA rfl hm0 hk0 (by decide) rfl hl.1 rfl (Nat.le_of_ble_eq_true rfl) dX12_isFrom_49 ⟨Nat.le_of_ble_eq_true rfl, Nat.le_of_ble_eq_true rfl⟩ (fun v31 kp31 L31 E31 H locs hq31 hx31 TH hS => ?_)
          obtain ⟨⟨xc32, rfl, hxc32a, hxc32b, hpoxc32_0⟩, rfl, rfl, rfl⟩ := hq31
          refine W.eq (g2 := F0 m 52 ls [.int xc32]) rfl ?_
          refine lv_if_eq (tgt := 59) hx hb dX12_isFrom_52 (by decide) (fun hc33 => ?_) (fun hc33 => ?_)
          · have hf34 : xc32.toInt = 0 := by have z := (fa_eq _ _).mp hc33; have : ((0 : Int32).toInt) = 0 := (by decide); omega
            refine lv_iconst (v := 0) hx hb dX12_isFrom_59 (by decide) ?_
            exact tw_zret hx hb hr hlocks (by decide) TH hS hex ⟨⟨_, rfl, (show 0 ≤ Int32.toInt 0 from by have : ((0 : Int32).toInt) = 0 := (by decide); omega), (show Int32.toInt 0 ≤ 1 from by have : ((0 : Int32).toInt) = 0 := (by decide); omega), (by have : ((0 : Int32).toInt) = 0 := (by decide); intro q; exfalso; exact q (by decide))⟩, rfl, rfl, rfl⟩ (Nat.le_of_ble_eq_true rfl) (Nat.le_of_ble_eq_true rfl) dX12_isFrom_60
          · have hf35 : ¬ (xc32.toInt = 0) := fun q => hc33 ((fa_eq _ _).mpr (by have : ((0 : Int32).toInt) = 0 := (by decide); omega))
            refine lv_iconst (v := 1) hx hb dX12_isFrom_55 (by decide) ?_
            refine lv_goto (tgt := 60) hx hb dX12_isFrom_56 (by decide) ?_
            exact tw_zret hx hb hr hlocks (by decide) TH hS hex ⟨⟨_, rfl, (show 0 ≤ Int32.toInt 1 from by have : ((1 : Int32).toInt) = 1 := (by decide); omega), (show Int32.toInt 1 ≤ 1 from by have : ((1 : Int32).toInt) = 1 := (by decide); omega), (by have : ((1 : Int32).toInt) = 1 := (by decide); intro _; have hl := hl37.resolve_left (by omega); exact r2_tr (hg0 (xe26.toInt) (by omega) (by rw [tw_fi_of hfv0_27]; omega)).1 hl.2.2 (hpoxc32_0 (by omega)))⟩, rfl, rfl, rfl⟩ (Nat.le_of_ble_eq_true rfl) (Nat.le_of_ble_eq_true rfl) dX12_isFrom_60
  · have hf36 : x1.toInt = x2.toInt := by have z := (fa_eq _ _).mp hc1;  omega
    refine lv_iconst (v := 1) hx hb dX12_isFrom_5 (by decide) ?_
    exact tw_zret hx hb hr hlocks (by decide) TH hS hex ⟨⟨_, rfl, (show 0 ≤ Int32.toInt 1 from by have : ((1 : Int32).toInt) = 1 := (by decide); omega), (show Int32.toInt 1 ≤ 1 from by have : ((1 : Int32).toInt) = 1 := (by decide); omega), (by have : ((1 : Int32).toInt) = 1 := (by decide); intro _; rw [show x2.toInt = x1.toInt by omega]; exact r2_rf (hg0 (x1.toInt) (by omega) (by rw [tw_fi_of hfv0_27]; omega)))⟩, rfl, rfl, rfl⟩ (Nat.le_of_ble_eq_true rfl) (Nat.le_of_ble_eq_true rfl) dX12_isFrom_6
set_option maxHeartbeats 4000000 in
set_option maxRecDepth 100000 in
theorem tX12_isFrom_v8 (l : Launch) (D : va_G) (cs : Nat → ClassId) {kp : Nat → Nat} {L : List Nat} {E : Nat → va_E} (a0 : Nat) (x1 : Int32) (x2 : Int32) (fv0_27 : Int32) (hm0 : a0 ∈ L) (hk0 : kp a0 = 12) (hp1a : 0 ≤ x1.toInt) (hp1b : x1.toInt ≤ 8) (hp2a : 0 ≤ x2.toInt) (hp2b : x2.toInt ≤ 11) (hfv0_27 : tw_fv E a0 27 = .int fv0_27) (hpre0 : x1.toInt < fv0_27.toInt) (hg0 : eo_ok E a0) (hg1 : ln_ok E a0) (sz : Nat) : Met l yX12_isFrom (.code yX12_isFrom cX12_isFrom 3 (some .boolean) :: cx_big) { frames := 8, cells := 0, slots := 0, locals := 176 } (tw_P D cs kp L E [.ref a0, .int x1, .int x2] sz) (tw_Q D cs kp L (fun v kq Lq Eq => (∃ x : Int32, v = some (.int x) ∧ 0 ≤ x.toInt ∧ x.toInt ≤ 1 ∧ (x.toInt ≠ 0 → r2_ok E a0 x1.toInt x2.toInt)) ∧ kp = kq ∧ L = Lq ∧ E = Eq) (va_A (va_pl L E) sz)) 0 0 (va_A (va_pl L E) sz) := by
  refine tw_ofW (by decide) (Nat.le_of_ble_eq_true rfl) ?_
  intro p e s m below meth c A ls hx hb hr hml hB hown hlocks hK hN hA TH hS hl
  have hown : s.vm.findClass "TreeMergeModel" = some m.cls := hown
  have hl : lv_has ls 3 [(0, .ref a0), (1, .int x1), (2, .int x2)] := hl
  obtain ⟨kp0, ekp⟩ : ∃ z, z = kp := ⟨_, rfl⟩
  obtain ⟨L0, eL⟩ : ∃ z, z = L := ⟨_, rfl⟩
  rw [show tw_Q D cs kp L = tw_Q D cs kp0 L0 by rw [ekp, eL]]
  have hex : ∀ a : Nat, a ∈ L0 → a ∈ L ∧ kp a = kp0 a := fun a h => ⟨by rw [← eL]; exact h, by rw [ekp]⟩
  obtain ⟨qfv0_27, hqfv0_27, hqfv0_27a, hqfv0_27b⟩ := tw_rd TH hm0 hk0 (by decide) (by decide) (k := 27) rfl
  have eqfv0_27 : qfv0_27 = fv0_27 := by have q := hqfv0_27.symm.trans hfv0_27; injection q
  rw [eqfv0_27] at hqfv0_27a hqfv0_27b
  refine lv_iload_n hx hb dX12_isFrom_0 rfl (lv_at hl 1 rfl) ?_
  refine lv_iload_n hx hb dX12_isFrom_1 rfl (lv_at hl 2 rfl) ?_
  refine lv_icmp_ne (tgt := 7) hx hb dX12_isFrom_2 (by decide) (fun hc1 => ?_) (fun hc1 => ?_)
  · have hf2 : ¬ (x1.toInt = x2.toInt) := fun q => hc1 ((fa_eq _ _).mpr (by  omega))
    refine lv_aload_n hx hb dX12_isFrom_7 rfl (lv_at hl 0 rfl) ?_
    refine tw_get (ci := 12) (C := RX12) (T := TX12) (N := 64) hx hb hB cx_inX12 hown hK TH hm0 hk0 rfl ⟨by decide, rfl⟩ 24 (by decide) cw_1217 (fun _ h9 => h9) dX12_isFrom_8 (fun hv => ?_)
    obtain ⟨xr3, hxr3, hmxr3, hkxr3⟩ : ∃ a : Nat, tw_fv E a0 24 = .ref a ∧ a ∈ L ∧ kp a = 334 := hv
    rw [hxr3]
    refine lv_iload_n hx hb dX12_isFrom_11 rfl (lv_at hl 1 rfl) ?_
    refine tw_iald (k := 334) (t0 := 0) (n := 12) (lo := (-1)) (hi := 11) hx hb hK TH hmxr3 hkxr3 (by decide) rfl rfl (i := x1) (vp_in_iff.mpr ⟨by  omega, by  omega⟩) dX12_isFrom_12 (fun hxe4a hxe4b => ?_)
    obtain ⟨xe4, exe4⟩ : ∃ z : Int32, tw_iv E xr3 (Int32.toNatClampNeg x1) = z := ⟨_, rfl⟩
    rw [exe4] at hxe4a hxe4b ⊢
    have hl13 : xe4.toInt = -1 ∨ (0 ≤ xe4.toInt ∧ xe4.toInt < x1.toInt ∧ r2_ok E a0 (x1.toInt) (xe4.toInt)) := (by have q := hg1 (x1.toInt).toNat (by rw [tw_fi_of hfv0_27]; omega) 24 (by decide); have w : tw_el E a0 24 (x1.toInt).toNat = xe4.toInt := (by rw [tw_el_of hxr3]; exact congrArg Int32.toInt exe4); rw [w, show (((x1.toInt).toNat : Nat) : Int) = x1.toInt by omega] at q; exact q)
    have hn13 : xe4.toInt = -1 ∨ (0 ≤ xe4.toInt ∧ xe4.toInt < x1.toInt) := hl13.imp id (fun q => ⟨q.1, q.2.1⟩)
    refine lv_iconst (v := (-1)) hx hb dX12_isFrom_13 (by decide) ?_
    refine lv_icmp_eq (tgt := 31) hx hb dX12_isFrom_14 (by decide) (fun hc5 => ?_) (fun hc5 => ?_)
    · have hf6 : xe4.toInt = (-1) := by have z := (fa_eq _ _).mp hc5; have : (((-1) : Int32).toInt) = (-1) := (by decide); omega
      refine lv_aload_n hx hb dX12_isFrom_31 rfl (lv_at hl 0 rfl) ?_
      refine tw_get (ci := 12) (C := RX12) (T := TX12) (N := 64) hx hb hB cx_inX12 hown hK TH hm0 hk0 rfl ⟨by decide, rfl⟩ 25 (by decide) cw_1218 (fun _ h9 => h9) dX12_isFrom_32 (fun hv => ?_)
      obtain ⟨xr7, hxr7, hmxr7, hkxr7⟩ : ∃ a : Nat, tw_fv E a0 25 = .ref a ∧ a ∈ L ∧ kp a = 335 := hv
      rw [hxr7]
      refine lv_iload_n hx hb dX12_isFrom_35 rfl (lv_at hl 1 rfl) ?_
      refine tw_iald (k := 335) (t0 := 0) (n := 12) (lo := (-1)) (hi := 11) hx hb hK TH hmxr7 hkxr7 (by decide) rfl rfl (i := x1) (vp_in_iff.mpr ⟨by  omega, by  omega⟩) dX12_isFrom_36 (fun hxe8a hxe8b => ?_)
      obtain ⟨xe8, exe8⟩ : ∃ z : Int32, tw_iv E xr7 (Int32.toNatClampNeg x1) = z := ⟨_, rfl⟩
      rw [exe8] at hxe8a hxe8b ⊢
      have hl37 : xe8.toInt = -1 ∨ (0 ≤ xe8.toInt ∧ xe8.toInt < x1.toInt ∧ r2_ok E a0 (x1.toInt) (xe8.toInt)) := (by have q := hg1 (x1.toInt).toNat (by rw [tw_fi_of hfv0_27]; omega) 25 (by decide); have w : tw_el E a0 25 (x1.toInt).toNat = xe8.toInt := (by rw [tw_el_of hxr7]; exact congrArg Int32.toInt exe8); rw [w, show (((x1.toInt).toNat : Nat) : Int) = x1.toInt by omega] at q; exact q)
      have hn37 : xe8.toInt = -1 ∨ (0 ≤ xe8.toInt ∧ xe8.toInt < x1.toInt) := hl37.imp id (fun q => ⟨q.1, q.2.1⟩)
      refine lv_iconst (v := (-1)) hx hb dX12_isFrom_37 (by decide) ?_
      refine lv_icmp_eq (tgt := 59) hx hb dX12_isFrom_38 (by decide) (fun hc9 => ?_) (fun hc9 => ?_)
      · have hf10 : xe8.toInt = (-1) := by have z := (fa_eq _ _).mp hc9; have : (((-1) : Int32).toInt) = (-1) := (by decide); omega
        refine lv_iconst (v := 0) hx hb dX12_isFrom_59 (by decide) ?_
        exact tw_zret hx hb hr hlocks (by decide) TH hS hex ⟨⟨_, rfl, (show 0 ≤ Int32.toInt 0 from by have : ((0 : Int32).toInt) = 0 := (by decide); omega), (show Int32.toInt 0 ≤ 1 from by have : ((0 : Int32).toInt) = 0 := (by decide); omega), (by have : ((0 : Int32).toInt) = 0 := (by decide); intro q; exfalso; exact q (by decide))⟩, rfl, rfl, rfl⟩ (Nat.le_of_ble_eq_true rfl) (Nat.le_of_ble_eq_true rfl) dX12_isFrom_60
      · have hf11 : ¬ (xe8.toInt = (-1)) := fun q => hc9 ((fa_eq _ _).mpr (by have : (((-1) : Int32).toInt) = (-1) := (by decide); omega))
        refine lv_aload_n hx hb dX12_isFrom_41 rfl (lv_at hl 0 rfl) ?_
        refine lv_aload_n hx hb dX12_isFrom_42 rfl (lv_at hl 0 rfl) ?_
        refine tw_get (ci := 12) (C := RX12) (T := TX12) (N := 64) hx hb hB cx_inX12 hown hK TH hm0 hk0 rfl ⟨by decide, rfl⟩ 25 (by decide) cw_1218 (fun _ h9 => h9) dX12_isFrom_43 (fun hv => ?_)
        rw [hxr7]
        refine lv_iload_n hx hb dX12_isFrom_46 rfl (lv_at hl 1 rfl) ?_
        refine tw_iald (k := 335) (t0 := 0) (n := 12) (lo := (-1)) (hi := 11) hx hb hK TH hmxr7 hkxr7 (by decide) rfl rfl (i := x1) (vp_in_iff.mpr ⟨by  omega, by  omega⟩) dX12_isFrom_47 (fun hxe12a hxe12b => ?_)
        rw [exe8]
        refine lv_iload_n hx hb dX12_isFrom_48 rfl (lv_at hl 2 rfl) ?_
        refine tw_Vc (o := a0) (ci := 12) (n := 2) (post := (fun v kq Lq Eq => (∃ x : Int32, v = some (.int x) ∧ 0 ≤ x.toInt ∧ x.toInt ≤ 1 ∧ (x.toInt ≠ 0 → r2_ok E a0 xe8.toInt x2.toInt)) ∧ kp = kq ∧ L = Lq ∧ E = Eq)) (As := [.int xe8, .int x2]) (rest := []) ⟨hx, hb, hml, hown, hB⟩ (fun sz => tX12_isFrom_v7 l D cs a0 xe8 x2 fv0_27 hm0 hk0 (by omega) (by omega) (by omega) (by omega) hfv0_27 (by  omega) hg0 hg1 sz) cg_12_512_X12_isFrom rfl rfl (by decide +kernel) ⟨Nat.le_of_ble_eq_true rfl, Nat.le_of_ble_eq_true rfl⟩ hK hN TH hS hA rfl hm0 hk0 (by decide) rfl hl.1 rfl (Nat.le_of_ble_eq_true rfl) dX12_isFrom_49 ⟨Nat.le_of_ble_eq_true rfl, Nat.le_of_ble_eq_true rfl⟩ (fun v13 kp13 L13 E13 H locs hq13 hx13 TH hS => ?_)
        obtain ⟨⟨xc14, rfl, hxc14a, hxc14b, hpoxc14_0⟩, rfl, rfl, rfl⟩ := hq13
        refine W.eq (g2 := F0 m 52 ls [.int xc14]) rfl ?_
        refine lv_if_eq (tgt := 59) hx hb dX12_isFrom_52 (by decide) (fun hc15 => ?_) (fun hc15 => ?_)
        · have hf16 : xc14.toInt = 0 := by have z := (fa_eq _ _).mp hc15; have : ((0 : Int32).toInt) = 0 := (by decide); omega
          refine lv_iconst (v := 0) hx hb dX12_isFrom_59 (by decide) ?_
          exact tw_zret hx hb hr hlocks (by decide) TH hS hex ⟨⟨_, rfl, (show 0 ≤ Int32.toInt 0 from by have : ((0 : Int32).toInt) = 0 := (by decide); omega), (show Int32.toInt 0 ≤ 1 from by have : ((0 : Int32).toInt) = 0 := (by decide); omega), (by have : ((0 : Int32).toInt) = 0 := (by decide); intro q; exfalso; exact q (by decide))⟩, rfl, rfl, rfl⟩ (Nat.le_of_ble_eq_true rfl) (Nat.le_of_ble_eq_true rfl) dX12_isFrom_60
        · have hf17 : ¬ (xc14.toInt = 0) := fun q => hc15 ((fa_eq _ _).mpr (by have : ((0 : Int32).toInt) = 0 := (by decide); omega))
          refine lv_iconst (v := 1) hx hb dX12_isFrom_55 (by decide) ?_
          refine lv_goto (tgt := 60) hx hb dX12_isFrom_56 (by decide) ?_
          exact tw_zret hx hb hr hlocks (by decide) TH hS hex ⟨⟨_, rfl, (show 0 ≤ Int32.toInt 1 from by have : ((1 : Int32).toInt) = 1 := (by decide); omega), (show Int32.toInt 1 ≤ 1 from by have : ((1 : Int32).toInt) = 1 := (by decide); omega), (by have : ((1 : Int32).toInt) = 1 := (by decide); intro _; have hl := hl37.resolve_left (by omega); exact r2_tr (hg0 (xe8.toInt) (by omega) (by rw [tw_fi_of hfv0_27]; omega)).1 hl.2.2 (hpoxc14_0 (by omega)))⟩, rfl, rfl, rfl⟩ (Nat.le_of_ble_eq_true rfl) (Nat.le_of_ble_eq_true rfl) dX12_isFrom_60
    · have hf18 : ¬ (xe4.toInt = (-1)) := fun q => hc5 ((fa_eq _ _).mpr (by have : (((-1) : Int32).toInt) = (-1) := (by decide); omega))
      refine lv_aload_n hx hb dX12_isFrom_17 rfl (lv_at hl 0 rfl) ?_
      refine lv_aload_n hx hb dX12_isFrom_18 rfl (lv_at hl 0 rfl) ?_
      refine tw_get (ci := 12) (C := RX12) (T := TX12) (N := 64) hx hb hB cx_inX12 hown hK TH hm0 hk0 rfl ⟨by decide, rfl⟩ 24 (by decide) cw_1217 (fun _ h9 => h9) dX12_isFrom_19 (fun hv => ?_)
      rw [hxr3]
      refine lv_iload_n hx hb dX12_isFrom_22 rfl (lv_at hl 1 rfl) ?_
      refine tw_iald (k := 334) (t0 := 0) (n := 12) (lo := (-1)) (hi := 11) hx hb hK TH hmxr3 hkxr3 (by decide) rfl rfl (i := x1) (vp_in_iff.mpr ⟨by  omega, by  omega⟩) dX12_isFrom_23 (fun hxe19a hxe19b => ?_)
      rw [exe4]
      refine lv_iload_n hx hb dX12_isFrom_24 rfl (lv_at hl 2 rfl) ?_
      refine tw_Vc (o := a0) (ci := 12) (n := 2) (post := (fun v kq Lq Eq => (∃ x : Int32, v = some (.int x) ∧ 0 ≤ x.toInt ∧ x.toInt ≤ 1 ∧ (x.toInt ≠ 0 → r2_ok E a0 xe4.toInt x2.toInt)) ∧ kp = kq ∧ L = Lq ∧ E = Eq)) (As := [.int xe4, .int x2]) (rest := []) ⟨hx, hb, hml, hown, hB⟩ (fun sz => tX12_isFrom_v7 l D cs a0 xe4 x2 fv0_27 hm0 hk0 (by omega) (by omega) (by omega) (by omega) hfv0_27 (by  omega) hg0 hg1 sz) cg_12_512_X12_isFrom rfl rfl (by decide +kernel) ⟨Nat.le_of_ble_eq_true rfl, Nat.le_of_ble_eq_true rfl⟩ hK hN TH hS hA rfl hm0 hk0 (by decide) rfl hl.1 rfl (Nat.le_of_ble_eq_true rfl) dX12_isFrom_25 ⟨Nat.le_of_ble_eq_true rfl, Nat.le_of_ble_eq_true rfl⟩ (fun v20 kp20 L20 E20 H locs hq20 hx20 TH hS => ?_)
      obtain ⟨⟨xc21, rfl, hxc21a, hxc21b, hpoxc21_0⟩, rfl, rfl, rfl⟩ := hq20
      refine W.eq (g2 := F0 m 28 ls [.int xc21]) rfl ?_
      refine lv_if_ne (tgt := 55) hx hb dX12_isFrom_28 (by decide) (fun hc22 => ?_) (fun hc22 => ?_)
      · have hf23 : ¬ (xc21.toInt = 0) := fun q => hc22 ((fa_eq _ _).mpr (by have : ((0 : Int32).toInt) = 0 := (by decide); omega))
        refine lv_iconst (v := 1) hx hb dX12_isFrom_55 (by decide) ?_
        refine lv_goto (tgt := 60) hx hb dX12_isFrom_56 (by decide) ?_
        exact tw_zret hx hb hr hlocks (by decide) TH hS hex ⟨⟨_, rfl, (show 0 ≤ Int32.toInt 1 from by have : ((1 : Int32).toInt) = 1 := (by decide); omega), (show Int32.toInt 1 ≤ 1 from by have : ((1 : Int32).toInt) = 1 := (by decide); omega), (by have : ((1 : Int32).toInt) = 1 := (by decide); intro _; have hl := hl13.resolve_left (by omega); exact r2_tr (hg0 (xe4.toInt) (by omega) (by rw [tw_fi_of hfv0_27]; omega)).1 hl.2.2 (hpoxc21_0 (by omega)))⟩, rfl, rfl, rfl⟩ (Nat.le_of_ble_eq_true rfl) (Nat.le_of_ble_eq_true rfl) dX12_isFrom_60
      · have hf24 : xc21.toInt = 0 := by have z := (fa_eq _ _).mp hc22; have : ((0 : Int32).toInt) = 0 := (by decide); omega
        refine lv_aload_n hx hb dX12_isFrom_31 rfl (lv_at hl 0 rfl) ?_
        refine tw_get (ci := 12) (C := RX12) (T := TX12) (N := 64) hx hb hB cx_inX12 hown hK TH hm0 hk0 rfl ⟨by decide, rfl⟩ 25 (by decide) cw_1218 (fun _ h9 => h9) dX12_isFrom_32 (fun hv => ?_)
        obtain ⟨xr25, hxr25, hmxr25, hkxr25⟩ : ∃ a : Nat, tw_fv E a0 25 = .ref a ∧ a ∈ L ∧ kp a = 335 := hv
        rw [hxr25]
        refine lv_iload_n hx hb dX12_isFrom_35 rfl (lv_at hl 1 rfl) ?_
        refine tw_iald (k := 335) (t0 := 0) (n := 12) (lo := (-1)) (hi := 11) hx hb hK TH hmxr25 hkxr25 (by decide) rfl rfl (i := x1) (vp_in_iff.mpr ⟨by  omega, by  omega⟩) dX12_isFrom_36 (fun hxe26a hxe26b => ?_)
        obtain ⟨xe26, exe26⟩ : ∃ z : Int32, tw_iv E xr25 (Int32.toNatClampNeg x1) = z := ⟨_, rfl⟩
        rw [exe26] at hxe26a hxe26b ⊢
        have hl37 : xe26.toInt = -1 ∨ (0 ≤ xe26.toInt ∧ xe26.toInt < x1.toInt ∧ r2_ok E a0 (x1.toInt) (xe26.toInt)) := (by have q := hg1 (x1.toInt).toNat (by rw [tw_fi_of hfv0_27]; omega) 25 (by decide); have w : tw_el E a0 25 (x1.toInt).toNat = xe26.toInt := (by rw [tw_el_of hxr25]; exact congrArg Int32.toInt exe26); rw [w, show (((x1.toInt).toNat : Nat) : Int) = x1.toInt by omega] at q; exact q)
        have hn37 : xe26.toInt = -1 ∨ (0 ≤ xe26.toInt ∧ xe26.toInt < x1.toInt) := hl37.imp id (fun q => ⟨q.1, q.2.1⟩)
        refine lv_iconst (v := (-1)) hx hb dX12_isFrom_37 (by decide) ?_
        refine lv_icmp_eq (tgt := 59) hx hb dX12_isFrom_38 (by decide) (fun hc27 => ?_) (fun hc27 => ?_)
        · have hf28 : xe26.toInt = (-1) := by have z := (fa_eq _ _).mp hc27; have : (((-1) : Int32).toInt) = (-1) := (by decide); omega
          refine lv_iconst (v := 0) hx hb dX12_isFrom_59 (by decide) ?_
          exact tw_zret hx hb hr hlocks (by decide) TH hS hex ⟨⟨_, rfl, (show 0 ≤ Int32.toInt 0 from by have : ((0 : Int32).toInt) = 0 := (by decide); omega), (show Int32.toInt 0 ≤ 1 from by have : ((0 : Int32).toInt) = 0 := (by decide); omega), (by have : ((0 : Int32).toInt) = 0 := (by decide); intro q; exfalso; exact q (by decide))⟩, rfl, rfl, rfl⟩ (Nat.le_of_ble_eq_true rfl) (Nat.le_of_ble_eq_true rfl) dX12_isFrom_60
        · have hf29 : ¬ (xe26.toInt = (-1)) := fun q => hc27 ((fa_eq _ _).mpr (by have : (((-1) : Int32).toInt) = (-1) := (by decide); omega))
          refine lv_aload_n hx hb dX12_isFrom_41 rfl (lv_at hl 0 rfl) ?_
          refine lv_aload_n hx hb dX12_isFrom_42 rfl (lv_at hl 0 rfl) ?_
          refine tw_get (ci := 12) (C := RX12) (T := TX12) (N := 64) hx hb hB cx_inX12 hown hK TH hm0 hk0 rfl ⟨by decide, rfl⟩ 25 (by decide) cw_1218 (fun _ h9 => h9) dX12_isFrom_43 (fun hv => ?_)
          rw [hxr25]
          refine lv_iload_n hx hb dX12_isFrom_46 rfl (lv_at hl 1 rfl) ?_
          refine tw_iald (k := 335) (t0 := 0) (n := 12) (lo := (-1)) (hi := 11) hx hb hK TH hmxr25 hkxr25 (by decide) rfl rfl (i := x1) (vp_in_iff.mpr ⟨by  omega, by  omega⟩) dX12_isFrom_47 (fun hxe30a hxe30b => ?_)
          rw [exe26]
          refine lv_iload_n hx hb dX12_isFrom_48 rfl (lv_at hl 2 rfl) ?_
          refine tw_Vc (o := a0) (ci := 12) (n := 2) (post := (fun v kq Lq Eq => (∃ x : Int32, v = some (.int x) ∧ 0 ≤ x.toInt ∧ x.toInt ≤ 1 ∧ (x.toInt ≠ 0 → r2_ok E a0 xe26.toInt x2.toInt)) ∧ kp = kq ∧ L = Lq ∧ E = Eq)) (As := [.int xe26, .int x2]) (rest := []) ⟨hx, hb, hml, hown, hB⟩ (fun sz => tX12_isFrom_v7 l D cs a0 xe26 x2 fv0_27 hm0 hk0 (by omega) (by omega) (by omega) (by omega) hfv0_27 (by  omega) hg0 hg1 sz) cg_12_512_X12_isFrom rfl rfl (by decide +kernel) ⟨Nat.le_of_ble_eq_true rfl, Nat.le_of_ble_eq_true rfl⟩ hK hN TH hS hA rfl hm0 hk0 (by decide) rfl hl.1 rfl (Nat.le_of_ble_eq_true rfl) dX12_isFrom_49 ⟨Nat.le_of_ble_eq_true rfl, Nat.le_of_ble_eq_true rfl⟩ (fun v31 kp31 L31 E31 H locs hq31 hx31 TH hS => ?_)
          obtain ⟨⟨xc32, rfl, hxc32a, hxc32b, hpoxc32_0⟩, rfl, rfl, rfl⟩ := hq31
          refine W.eq (g2 := F0 m 52 ls [.int xc32]) rfl ?_
          refine lv_if_eq (tgt := 59) hx hb dX12_isFrom_52 (by decide) (fun hc33 => ?_) (fun hc33 => ?_)
          · have hf34 : xc32.toInt = 0 := by have z := (fa_eq _ _).mp hc33; have : ((0 : Int32).toInt) = 0 := (by decide); omega
            refine lv_iconst (v := 0) hx hb dX12_isFrom_59 (by decide) ?_
            exact tw_zret hx hb hr hlocks (by decide) TH hS hex ⟨⟨_, rfl, (show 0 ≤ Int32.toInt 0 from by have : ((0 : Int32).toInt) = 0 := (by decide); omega), (show Int32.toInt 0 ≤ 1 from by have : ((0 : Int32).toInt) = 0 := (by decide); omega), (by have : ((0 : Int32).toInt) = 0 := (by decide); intro q; exfalso; exact q (by decide))⟩, rfl, rfl, rfl⟩ (Nat.le_of_ble_eq_true rfl) (Nat.le_of_ble_eq_true rfl) dX12_isFrom_60
          · have hf35 : ¬ (xc32.toInt = 0) := fun q => hc33 ((fa_eq _ _).mpr (by have : ((0 : Int32).toInt) = 0 := (by decide); omega))
            refine lv_iconst (v := 1) hx hb dX12_isFrom_55 (by decide) ?_
            refine lv_goto (tgt := 60) hx hb dX12_isFrom_56 (by decide) ?_
            exact tw_zret hx hb hr hlocks (by decide) TH hS hex ⟨⟨_, rfl, (show 0 ≤ Int32.toInt 1 from by have : ((1 : Int32).toInt) = 1 := (by decide); omega), (show Int32.toInt 1 ≤ 1 from by have : ((1 : Int32).toInt) = 1 := (by decide); omega), (by have : ((1 : Int32).toInt) = 1 := (by decide); intro _; have hl := hl37.resolve_left (by omega); exact r2_tr (hg0 (xe26.toInt) (by omega) (by rw [tw_fi_of hfv0_27]; omega)).1 hl.2.2 (hpoxc32_0 (by omega)))⟩, rfl, rfl, rfl⟩ (Nat.le_of_ble_eq_true rfl) (Nat.le_of_ble_eq_true rfl) dX12_isFrom_60
  · have hf36 : x1.toInt = x2.toInt := by have z := (fa_eq _ _).mp hc1;  omega
    refine lv_iconst (v := 1) hx hb dX12_isFrom_5 (by decide) ?_
    exact tw_zret hx hb hr hlocks (by decide) TH hS hex ⟨⟨_, rfl, (show 0 ≤ Int32.toInt 1 from by have : ((1 : Int32).toInt) = 1 := (by decide); omega), (show Int32.toInt 1 ≤ 1 from by have : ((1 : Int32).toInt) = 1 := (by decide); omega), (by have : ((1 : Int32).toInt) = 1 := (by decide); intro _; rw [show x2.toInt = x1.toInt by omega]; exact r2_rf (hg0 (x1.toInt) (by omega) (by rw [tw_fi_of hfv0_27]; omega)))⟩, rfl, rfl, rfl⟩ (Nat.le_of_ble_eq_true rfl) (Nat.le_of_ble_eq_true rfl) dX12_isFrom_6
