set_option maxHeartbeats 4000000 in
set_option maxRecDepth 100000 in
theorem tX12_merges (l : Launch) (D : va_G) (cs : Nat → ClassId) {kp : Nat → Nat} {L : List Nat} {E : Nat → va_E} (a0 : Nat) (x1 : Int32) (x2 : Int32) (x3 : Int32) (hm0 : a0 ∈ L) (hk0 : kp a0 = 12) (hp1a : 0 ≤ x1.toInt) (hp1b : x1.toInt ≤ 15) (hp2a : 0 ≤ x2.toInt) (hp2b : x2.toInt ≤ 15) (hp3a : 0 ≤ x3.toInt) (hp3b : x3.toInt ≤ 15) (hpre0 : x1.toInt ≠ 13) (hpre1 : x2.toInt ≠ 13) (hpre2 : x3.toInt ≠ 13) (hg0 : row_ok E a0 (x1.toInt)) (hg1 : row_ok E a0 (x2.toInt)) (hg2 : rd_ok E a0) (hg3 : ht_ok E a0) (sz : Nat) : Met l yX12_merges (.code yX12_merges cX12_merges 4 (some .boolean) :: cx_big) { frames := 5, cells := 0, slots := 0, locals := 132 } (tw_P D cs kp L E [.ref a0, .int x1, .int x2, .int x3] sz) (tw_Q D cs kp L (fun v kq Lq Eq => (∃ x : Int32, v = some (.int x) ∧ 0 ≤ x.toInt ∧ x.toInt ≤ 1 ∧ (ot_ok Eq a0 13 E) ∧ (x.toInt ≠ 0 → r2_ok E a0 x1.toInt x2.toInt → row_ok Eq a0 13) ∧ rd_ok Eq a0 ∧ ht_ok Eq a0) ∧ kp = kq ∧ L = Lq ∧ tw_fr kp L [(12, 57)] [326, 327, 328, 329, 348, 349, 359, 363, 364] E Eq) (va_A (va_pl L E) sz)) 0 0 (va_A (va_pl L E) sz) := by
  refine tw_ofW (by decide) (Nat.le_of_ble_eq_true rfl) ?_
  intro p e s m below meth c A ls hx hb hr hml hB hown hlocks hK hN hA TH hS hl
  have hown : s.vm.findClass "TreeMergeModel" = some m.cls := hown
  have hl : lv_has ls 4 [(0, .ref a0), (1, .int x1), (2, .int x2), (3, .int x3)] := hl
  obtain ⟨kp0, ekp⟩ : ∃ z, z = kp := ⟨_, rfl⟩
  obtain ⟨L0, eL⟩ : ∃ z, z = L := ⟨_, rfl⟩
  rw [show tw_Q D cs kp L = tw_Q D cs kp0 L0 by rw [ekp, eL]]
  have hex : ∀ a : Nat, a ∈ L0 → a ∈ L ∧ kp a = kp0 a := fun a h => ⟨by rw [← eL]; exact h, by rw [ekp]⟩
  have hF : tw_fr kp L [(12, 57)] [326, 327, 328, 329, 348, 349, 359, 363, 364] E E := tw_fr.rf
  have hot : ot_ok E a0 13 E := ot_ok_rf
  refine lv_aload_n hx hb dX12_merges_0 rfl (lv_at hl 0 rfl) ?_
  refine lv_iload_n hx hb dX12_merges_1 rfl (lv_at hl 1 rfl) ?_
  refine lv_iload_n hx hb dX12_merges_2 rfl (lv_at hl 2 rfl) ?_
  refine lv_iload_n hx hb dX12_merges_3 rfl (lv_at hl 3 rfl) ?_
  refine tw_Vc (o := a0) (ci := 12) (n := 3) (post := (fun v kq Lq Eq => v = none ∧ kp = kq ∧ L = Lq ∧ tw_fr kp L [(12, 57)] [359] E Eq ∧ (tw_fi Eq a0 57 = 0 → fq_ok E a0 x1.toInt x2.toInt x3.toInt 4 0) ∧ (∃ z0 : Int32, tw_fv Eq a0 57 = .int z0 ∧ (z0.toInt ≤ 450)))) (As := [.int x1, .int x2, .int x3]) (rest := []) ⟨hx, hb, hml, hown, hB⟩ (fun sz => tX12_firstQuarrels l D cs a0 x1 x2 x3 hm0 hk0 (by omega) (by omega) (by omega) (by omega) (by omega) (by omega) hg0.1 hg1.1 sz) cg_12_500_X12_firstQuarrels rfl rfl (by decide +kernel) ⟨Nat.le_of_ble_eq_true rfl, Nat.le_of_ble_eq_true rfl⟩ hK hN TH hS hA rfl hm0 hk0 (by decide) rfl hl.1 rfl (Nat.le_of_ble_eq_true rfl) dX12_merges_4 ⟨Nat.le_of_ble_eq_true rfl, Nat.le_of_ble_eq_true rfl⟩ (fun v1 kp1 L1 E1 H locs hq1 hx1 TH hS => ?_)
  obtain ⟨rfl, rfl, rfl, hst1, hpoxc2_0, ⟨zfxc2_0_0, hzfxc2_0_0, hzpxc2_0⟩⟩ := hq1
  have hF := hF.tr hst1 (fun _ h => ⟨h, rfl⟩) (by decide) (by decide)
  have hg0_o := hg0
  have hg1_o := hg1
  have hg2_o := hg2
  have hg3_o := hg3
  have hot_o := hot
  have hg0 : row_ok E1 a0 (x1.toInt) := row_ok_fr TH hst1 hm0 hk0 (by decide) (by decide) (by omega) hg0
  have hg1 : row_ok E1 a0 (x2.toInt) := row_ok_fr TH hst1 hm0 hk0 (by decide) (by decide) (by omega) hg1
  have hg2 : rd_ok E1 a0 := rd_ok_fr TH hst1 hm0 hk0 (by decide) (by decide) hg2
  have hg3 : ht_ok E1 a0 := ht_ok_fr TH hst1 hm0 hk0 (by decide) (by decide) hg3
  have hot : ot_ok E1 a0 (13) E := ot_ok_fr TH hst1 hm0 hk0 (by decide) (by decide) hot_o
  obtain ⟨qzfxc2_0_0, hqzfxc2_0_0, hqzfxc2_0_0a, hqzfxc2_0_0b⟩ := tw_rd TH hm0 hk0 (by decide) (by decide) (k := 57) rfl
  have eqzfxc2_0_0 : qzfxc2_0_0 = zfxc2_0_0 := by have q := hqzfxc2_0_0.symm.trans hzfxc2_0_0; injection q
  rw [eqzfxc2_0_0] at hqzfxc2_0_0a hqzfxc2_0_0b
  refine W.eq (g2 := F0 m 7 ls []) rfl ?_
  have hfq4 : tw_fi E1 a0 57 = 0 → fq_ok E1 a0 (x1.toInt) (x2.toInt) (x3.toInt) 4 0 := fun z => fq_fr TH hst1 hm0 hk0 (by decide) (by decide) (by decide) (by omega) (by omega) (by omega) (hpoxc2_0 z)
  have hr2 : r2_ok E a0 (x1.toInt) (x2.toInt) → r2_ok E1 a0 (x1.toInt) (x2.toInt) := fun z => r2_fr TH hst1 hm0 hk0 (by decide) (by decide) (by omega) (by omega) z
  have hN4 : tw_fi E1 a0 26 = tw_fi E a0 26 := tw_fi_fr hst1 hm0 hk0 (by decide)
  have TH4 := TH
  refine lv_aload_n hx hb dX12_merges_7 rfl (lv_at hl 0 rfl) ?_
  refine tw_get (ci := 12) (C := RX12) (T := TX12) (N := 64) hx hb hB cx_inX12 hown hK TH hm0 hk0 rfl ⟨by decide, rfl⟩ 57 (by decide) cw_1250 (fun _ h9 => h9) dX12_merges_8 (fun hv => ?_)
  rw [hzfxc2_0_0]
  refine lv_if_le (tgt := 16) hx hb dX12_merges_11 (by decide) (fun hc3 => ?_) (fun hc3 => ?_)
  · have hf4 : zfxc2_0_0.toInt ≤ 0 := by have z := (fa_le _ _).mp hc3; have : ((0 : Int32).toInt) = 0 := (by decide); omega
    refine lv_aload_n hx hb dX12_merges_16 rfl (lv_at hl 0 rfl) ?_
    refine lv_iload_n hx hb dX12_merges_17 rfl (lv_at hl 1 rfl) ?_
    refine lv_iload_n hx hb dX12_merges_18 rfl (lv_at hl 2 rfl) ?_
    refine lv_iload_n hx hb dX12_merges_19 rfl (lv_at hl 3 rfl) ?_
    refine tw_Vc (o := a0) (ci := 12) (n := 3) (post := (fun v kq Lq Eq => v = none ∧ kp = kq ∧ L = Lq ∧ tw_fr kp L [] [326, 327, 328] E1 Eq ∧ (t1_ok Eq a0 13) ∧ (sx_ok Eq a0 E1 x1.toInt x2.toInt 150) ∧ (ot_ok Eq a0 13 E1) ∧ rd_ok Eq a0)) (As := [.int x1, .int x2, .int x3]) (rest := []) ⟨hx, hb, hml, hown, hB⟩ (fun sz => tX12_stacks l D cs a0 x1 x2 x3 hm0 hk0 (by omega) (by omega) (by omega) (by omega) (by omega) (by omega) (by  omega) (by  omega) (by  omega) (by  exact hfq4 (by rw [tw_fi_of hzfxc2_0_0]; omega)) hg0 hg1 hg2 sz) cg_12_503_X12_stacks rfl rfl (by decide +kernel) ⟨Nat.le_of_ble_eq_true rfl, Nat.le_of_ble_eq_true rfl⟩ hK hN TH hS hA rfl hm0 hk0 (by decide) rfl hl.1 rfl (Nat.le_of_ble_eq_true rfl) dX12_merges_20 ⟨Nat.le_of_ble_eq_true rfl, Nat.le_of_ble_eq_true rfl⟩ (fun v5 kp5 L5 E5 H locs hq5 hx5 TH hS => ?_)
    obtain ⟨rfl, rfl, rfl, hst5, hpoxc6_0, hpoxc6_1, hpoxc6_2, hgpxc6_0⟩ := hq5
    have hF := hF.tr hst5 (fun _ h => ⟨h, rfl⟩) (by decide) (by decide)
    have hmf7 : tw_fv E5 a0 57 = .int zfxc2_0_0 := (hst5.1 a0 57 hm0 (by rw [hk0]; decide)).trans hzfxc2_0_0
    have hg0_o := hg0
    have hg1_o := hg1
    have hg3_o := hg3
    have hot_o := hot
    have hg3 : ht_ok E5 a0 := ht_ok_ot hpoxc6_2 (by decide) hg3_o
    have hot : ot_ok E5 a0 (13) E := ot_ok_tr hpoxc6_2 hot_o
    have hgn8 : sx_ok E5 a0 E1 (x1.toInt) (x2.toInt) (150) := hpoxc6_1
    have hgn9 : t1_ok E5 a0 (13) := hpoxc6_0
    refine W.eq (g2 := F0 m 23 ls []) rfl ?_
    refine lv_aload_n hx hb dX12_merges_23 rfl (lv_at hl 0 rfl) ?_
    refine tw_Vc (o := a0) (ci := 12) (n := 0) (post := (fun v kq Lq Eq => v = none ∧ kp = kq ∧ L = Lq ∧ tw_fr kp L [(12, 57)] [359] E5 Eq ∧ (tw_fi Eq a0 57 = 0 → lr_all (rw_h E5 a0 13) (rw_p E5 a0 13) 150 ∧ rt_size (rw_h E5 a0 13) ≤ 40) ∧ (∃ z0 : Int32, tw_fv Eq a0 57 = .int z0 ∧ (z0.toInt ≤ 151)))) (As := []) (rest := []) ⟨hx, hb, hml, hown, hB⟩ (fun sz => tX12_secondQuarrels l D cs a0 zfxc2_0_0 hm0 hk0 hmf7 (by  omega) sz) cg_12_506_X12_secondQuarrels rfl rfl (by decide +kernel) ⟨Nat.le_of_ble_eq_true rfl, Nat.le_of_ble_eq_true rfl⟩ hK hN TH hS hA rfl hm0 hk0 (by decide) rfl hl.1 rfl (Nat.le_of_ble_eq_true rfl) dX12_merges_24 ⟨Nat.le_of_ble_eq_true rfl, Nat.le_of_ble_eq_true rfl⟩ (fun v10 kp10 L10 E10 H locs hq10 hx10 TH hS => ?_)
    obtain ⟨rfl, rfl, rfl, hst10, hpoxc11_0, ⟨zfxc11_0_0, hzfxc11_0_0, hzpxc11_0⟩⟩ := hq10
    have hF := hF.tr hst10 (fun _ h => ⟨h, rfl⟩) (by decide) (by decide)
    have hg3_o := hg3
    have hot_o := hot
    have hgn8_o := hgn8
    have hgn9_o := hgn9
    have hgpxc6_0_o := hgpxc6_0
    have hg3 : ht_ok E10 a0 := ht_ok_fr TH hst10 hm0 hk0 (by decide) (by decide) hg3
    have hot : ot_ok E10 a0 (13) E := ot_ok_fr TH hst10 hm0 hk0 (by decide) (by decide) hot_o
    have hgn8 : sx_ok E10 a0 E1 (x1.toInt) (x2.toInt) (150) := sx_ok_fr TH hst10 hm0 hk0 (by decide) (by decide) hgn8
    have hgn9 : t1_ok E10 a0 (13) := t1_ok_fr TH hst10 hm0 hk0 (by decide) (by decide) (by omega) hgn9
    have hgpxc6_0 : rd_ok E10 a0 := rd_ok_fr TH hst10 hm0 hk0 (by decide) (by decide) hgpxc6_0
    obtain ⟨qzfxc11_0_0, hqzfxc11_0_0, hqzfxc11_0_0a, hqzfxc11_0_0b⟩ := tw_rd TH hm0 hk0 (by decide) (by decide) (k := 57) rfl
    have eqzfxc11_0_0 : qzfxc11_0_0 = zfxc11_0_0 := by have q := hqzfxc11_0_0.symm.trans hzfxc11_0_0; injection q
    rw [eqzfxc11_0_0] at hqzfxc11_0_0a hqzfxc11_0_0b
    refine W.eq (g2 := F0 m 27 ls []) rfl ?_
    have hlr27 : tw_fi E10 a0 57 = 0 → lr_ok E10 a0 := fun z => (by unfold lr_ok; rw [rw_h_fr TH hst10 hm0 hk0 (by decide) (by decide) (by decide) (i := 13) (by decide), rw_p_fr TH hst10 hm0 hk0 (by decide) (by decide) (by decide) (i := 13) (by decide)]; exact hpoxc11_0 z)
    refine lv_aload_n hx hb dX12_merges_27 rfl (lv_at hl 0 rfl) ?_
    refine tw_get (ci := 12) (C := RX12) (T := TX12) (N := 64) hx hb hB cx_inX12 hown hK TH hm0 hk0 rfl ⟨by decide, rfl⟩ 57 (by decide) cw_1250 (fun _ h9 => h9) dX12_merges_28 (fun hv => ?_)
    rw [hzfxc11_0_0]
    refine lv_if_le (tgt := 36) hx hb dX12_merges_31 (by decide) (fun hc12 => ?_) (fun hc12 => ?_)
    · have hf13 : zfxc11_0_0.toInt ≤ 0 := by have z := (fa_le _ _).mp hc12; have : ((0 : Int32).toInt) = 0 := (by decide); omega
      have hlr36 : lr_ok E10 a0 := hlr27 (by rw [tw_fi_of hzfxc11_0_0]; omega)
      refine lv_aload_n hx hb dX12_merges_36 rfl (lv_at hl 0 rfl) ?_
      refine lv_iload_n hx hb dX12_merges_37 rfl (lv_at hl 1 rfl) ?_
      refine lv_iload_n hx hb dX12_merges_38 rfl (lv_at hl 2 rfl) ?_
      refine lv_iload_n hx hb dX12_merges_39 rfl (lv_at hl 3 rfl) ?_
      refine tw_Vc (o := a0) (ci := 12) (n := 3) (post := (fun v kq Lq Eq => v = none ∧ kp = kq ∧ L = Lq ∧ tw_fr kp L [(12, 57)] [329, 348, 349, 359, 363, 364] E10 Eq ∧ (tw_fi Eq a0 57 = 0 → rt_T3 (rw_h E10 a0 13) (rw_p E10 a0 13)) ∧ (∃ z0 : Int32, tw_fv Eq a0 57 = .int z0 ∧ (z0.toInt ≤ 450)) ∧ ht_ok Eq a0)) (As := [.int x1, .int x2, .int x3]) (rest := []) ⟨hx, hb, hml, hown, hB⟩ (fun sz => tX12_thirdQuarrels l D cs a0 x1 x2 x3 zfxc11_0_0 hm0 hk0 (by omega) (by omega) (by omega) (by omega) (by omega) (by omega) hzfxc11_0_0 (by  omega) hgn9 hg3 sz) cg_12_509_X12_thirdQuarrels rfl rfl (by decide +kernel) ⟨Nat.le_of_ble_eq_true rfl, Nat.le_of_ble_eq_true rfl⟩ hK hN TH hS hA rfl hm0 hk0 (by decide) rfl hl.1 rfl (Nat.le_of_ble_eq_true rfl) dX12_merges_40 ⟨Nat.le_of_ble_eq_true rfl, Nat.le_of_ble_eq_true rfl⟩ (fun v14 kp14 L14 E14 H locs hq14 hx14 TH hS => ?_)
      obtain ⟨rfl, rfl, rfl, hst14, hpoxc15_0, ⟨zfxc15_0_0, hzfxc15_0_0, hzpxc15_0⟩, hgpxc15_0⟩ := hq14
      have hF := hF.tr hst14 (fun _ h => ⟨h, rfl⟩) (by decide) (by decide)
      have hot_o := hot
      have hgn8_o := hgn8
      have hgn9_o := hgn9
      have hgpxc6_0_o := hgpxc6_0
      have hlr36_o := hlr36
      have hot : ot_ok E14 a0 (13) E := ot_ok_fr TH hst14 hm0 hk0 (by decide) (by decide) hot_o
      have hgn8 : sx_ok E14 a0 E1 (x1.toInt) (x2.toInt) (150) := sx_ok_fr TH hst14 hm0 hk0 (by decide) (by decide) hgn8
      have hgn9 : t1_ok E14 a0 (13) := t1_ok_fr TH hst14 hm0 hk0 (by decide) (by decide) (by omega) hgn9
      have hgpxc6_0 : rd_ok E14 a0 := rd_ok_fr TH hst14 hm0 hk0 (by decide) (by decide) hgpxc6_0
      have hlr36 : lr_ok E14 a0 := lr_ok_fr TH hst14 hm0 hk0 (by decide) (by decide) hlr36
      obtain ⟨qzfxc15_0_0, hqzfxc15_0_0, hqzfxc15_0_0a, hqzfxc15_0_0b⟩ := tw_rd TH hm0 hk0 (by decide) (by decide) (k := 57) rfl
      have eqzfxc15_0_0 : qzfxc15_0_0 = zfxc15_0_0 := by have q := hqzfxc15_0_0.symm.trans hzfxc15_0_0; injection q
      rw [eqzfxc15_0_0] at hqzfxc15_0_0a hqzfxc15_0_0b
      refine W.eq (g2 := F0 m 43 ls []) rfl ?_
      have ht43 : tw_fi E14 a0 57 = 0 → rt_T3 (rw_h E14 a0 13) (rw_p E14 a0 13) := fun z => (by rw [rw_h_fr TH hst14 hm0 hk0 (by decide) (by decide) (by decide) (i := 13) (by decide), rw_p_fr TH hst14 hm0 hk0 (by decide) (by decide) (by decide) (i := 13) (by decide)]; exact hpoxc15_0 z)
      refine lv_aload_n hx hb dX12_merges_43 rfl (lv_at hl 0 rfl) ?_
      refine tw_get (ci := 12) (C := RX12) (T := TX12) (N := 64) hx hb hB cx_inX12 hown hK TH hm0 hk0 rfl ⟨by decide, rfl⟩ 57 (by decide) cw_1250 (fun _ h9 => h9) dX12_merges_44 (fun hv => ?_)
      rw [hzfxc15_0_0]
      refine lv_if_ne (tgt := 54) hx hb dX12_merges_47 (by decide) (fun hc16 => ?_) (fun hc16 => ?_)
      · have hf17 : ¬ (zfxc15_0_0.toInt = 0) := fun q => hc16 ((fa_eq _ _).mpr (by have : ((0 : Int32).toInt) = 0 := (by decide); omega))
        refine lv_iconst (v := 0) hx hb dX12_merges_54 (by decide) ?_
        exact tw_zret hx hb hr hlocks (by decide) TH hS hex ⟨⟨_, rfl, (show 0 ≤ Int32.toInt 0 from by have : ((0 : Int32).toInt) = 0 := (by decide); omega), (show Int32.toInt 0 ≤ 1 from by have : ((0 : Int32).toInt) = 0 := (by decide); omega), (by have : ((0 : Int32).toInt) = 0 := (by decide); exact hot), (by have : ((0 : Int32).toInt) = 0 := (by decide); intro q; exfalso; exact q (by decide)), hgpxc6_0, hgpxc15_0⟩, rfl, rfl, hF⟩ (Nat.le_of_ble_eq_true rfl) (Nat.le_of_ble_eq_true rfl) dX12_merges_55
      · have hf18 : zfxc15_0_0.toInt = 0 := by have z := (fa_eq _ _).mp hc16; have : ((0 : Int32).toInt) = 0 := (by decide); omega
        refine lv_iconst (v := 1) hx hb dX12_merges_50 (by decide) ?_
        refine lv_goto (tgt := 55) hx hb dX12_merges_51 (by decide) ?_
        exact tw_zret hx hb hr hlocks (by decide) TH hS hex ⟨⟨_, rfl, (show 0 ≤ Int32.toInt 1 from by have : ((1 : Int32).toInt) = 1 := (by decide); omega), (show Int32.toInt 1 ≤ 1 from by have : ((1 : Int32).toInt) = 1 := (by decide); omega), (by have : ((1 : Int32).toInt) = 1 := (by decide); exact hot), (by have : ((1 : Int32).toInt) = 1 := (by decide); intro _ r2; exact row_13 hgn9 hgn8 hlr36 (ht43 (by rw [tw_fi_of hzfxc15_0_0]; omega)) (Int.le_of_eq (hN4.trans (tw_fi_fr hF hm0 hk0 (by decide)).symm)) (hr2 r2)), hgpxc6_0, hgpxc15_0⟩, rfl, rfl, hF⟩ (Nat.le_of_ble_eq_true rfl) (Nat.le_of_ble_eq_true rfl) dX12_merges_55
    · have hf19 : ¬ (zfxc11_0_0.toInt ≤ 0) := fun q => hc12 ((fa_le _ _).mpr (by have : ((0 : Int32).toInt) = 0 := (by decide); omega))
      refine lv_iconst (v := 0) hx hb dX12_merges_34 (by decide) ?_
      exact tw_zret hx hb hr hlocks (by decide) TH hS hex ⟨⟨_, rfl, (show 0 ≤ Int32.toInt 0 from by have : ((0 : Int32).toInt) = 0 := (by decide); omega), (show Int32.toInt 0 ≤ 1 from by have : ((0 : Int32).toInt) = 0 := (by decide); omega), (by have : ((0 : Int32).toInt) = 0 := (by decide); exact hot), (by have : ((0 : Int32).toInt) = 0 := (by decide); intro q; exfalso; exact q (by decide)), hgpxc6_0, hg3⟩, rfl, rfl, hF⟩ (Nat.le_of_ble_eq_true rfl) (Nat.le_of_ble_eq_true rfl) dX12_merges_35
  · have hf20 : ¬ (zfxc2_0_0.toInt ≤ 0) := fun q => hc3 ((fa_le _ _).mpr (by have : ((0 : Int32).toInt) = 0 := (by decide); omega))
    refine lv_iconst (v := 0) hx hb dX12_merges_14 (by decide) ?_
    exact tw_zret hx hb hr hlocks (by decide) TH hS hex ⟨⟨_, rfl, (show 0 ≤ Int32.toInt 0 from by have : ((0 : Int32).toInt) = 0 := (by decide); omega), (show Int32.toInt 0 ≤ 1 from by have : ((0 : Int32).toInt) = 0 := (by decide); omega), (by have : ((0 : Int32).toInt) = 0 := (by decide); exact hot), (by have : ((0 : Int32).toInt) = 0 := (by decide); intro q; exfalso; exact q (by decide)), hg2, hg3⟩, rfl, rfl, hF⟩ (Nat.le_of_ble_eq_true rfl) (Nat.le_of_ble_eq_true rfl) dX12_merges_15
