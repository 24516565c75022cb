theorem cg_12_348_X12_canCome : GoodIn cx_big (wsV "TreeMergeModel" 348 "TreeMergeModel" yX12_canCome (.code yX12_canCome cX12_canCome 1 (some .boolean) :: cx_big)) := cx_gV cw_1571 cw_1573 cp_94 cw_13 cw_1574
theorem cg_12_351_X12_comes : GoodIn cx_big (wsV "TreeMergeModel" 351 "TreeMergeModel" yX12_comes (.code yX12_comes cX12_comes 5 (some .int) :: cx_big)) := cx_gV cw_1575 cw_1577 cp_95 cw_13 cw_1578
set_option maxHeartbeats 4000000 in
set_option maxRecDepth 100000 in
theorem tX12_comes (l : Launch) (D : va_G) (cs : Nat → ClassId) {kp : Nat → Nat} {L : List Nat} {E : Nat → va_E} (a0 : Nat) (x1 : Int32) (fv0_27 : Int32) (fv0_26 : Int32) (hm0 : a0 ∈ L) (hk0 : kp a0 = 12) (hp1a : (-1) ≤ x1.toInt) (hp1b : x1.toInt ≤ 11) (hfv0_27 : tw_fv E a0 27 = .int fv0_27) (hfv0_26 : tw_fv E a0 26 = .int fv0_26) (hpre0 : fv0_27.toInt ≤ 11) (hpre1 : x1.toInt = -1 ∨ (x1.toInt < fv0_27.toInt ∧ 0 ≤ tw_el E a0 44 0 ∧ rw_h E a0 x1.toInt (tw_el E a0 44 0).toNat ≠ 0 ∧ rw_p E a0 x1.toInt (tw_el E a0 44 0).toNat = -1)) (hg0 : tt_ok E a0) (hg1 : nbp_ok E a0 (fv0_26.toInt)) (hg2 : nc2_ok E a0) (hg3 : rd_ok E a0) (hg4 : eo_ok E a0) (hg5 : ht_ok E a0) (hg6 : dr_ok E a0) (hg7 : ln_ok E a0) (hg8 : dl_ok E a0) (hg9 : fw_ok E a0) (sz : Nat) : Met l yX12_comes (.code yX12_comes cX12_comes 5 (some .int) :: cx_big) { frames := 4, cells := 0, slots := 0, locals := 98 } (tw_P D cs kp L E [.ref a0, .int x1] sz) (tw_Q D cs kp L (fun v kq Lq Eq => (∃ x : Int32, v = some (.int x) ∧ 0 ≤ x.toInt ∧ x.toInt ≤ 11 ∧ rd_ok Eq a0 ∧ eo_ok Eq a0 ∧ ht_ok Eq a0 ∧ dr_ok Eq a0 ∧ ln_ok Eq a0 ∧ dl_ok Eq a0 ∧ fw_ok Eq a0) ∧ kp = kq ∧ L = Lq ∧ tw_fr kp L [(12, 1), (12, 26), (12, 27)] [326, 327, 328, 329, 330, 331, 334, 335, 353] E Eq) (va_A (va_pl L E) sz)) 0 0 (va_A (va_pl L E) sz) := by
  refine tw_ofW (by decide) (Nat.le_of_ble_eq_true rfl) ?_
  intro p e s m below meth c A ls hx hb hr hml hB hown hlocks hK hN hA TH hS hl
  have hown : s.vm.findClass "TreeMergeModel" = some m.cls := hown
  have hl : lv_has ls 5 [(0, .ref a0), (1, .int x1)] := hl
  obtain ⟨kp0, ekp⟩ : ∃ z, z = kp := ⟨_, rfl⟩
  obtain ⟨L0, eL⟩ : ∃ z, z = L := ⟨_, rfl⟩
  rw [show tw_Q D cs kp L = tw_Q D cs kp0 L0 by rw [ekp, eL]]
  have hex : ∀ a : Nat, a ∈ L0 → a ∈ L ∧ kp a = kp0 a := fun a h => ⟨by rw [← eL]; exact h, by rw [ekp]⟩
  have hF : tw_fr kp L [(12, 1), (12, 26), (12, 27)] [326, 327, 328, 329, 330, 331, 334, 335, 353] E E := tw_fr.rf
  obtain ⟨qfv0_27, hqfv0_27, hqfv0_27a, hqfv0_27b⟩ := tw_rd TH hm0 hk0 (by decide) (by decide) (k := 27) rfl
  have eqfv0_27 : qfv0_27 = fv0_27 := by have q := hqfv0_27.symm.trans hfv0_27; injection q
  rw [eqfv0_27] at hqfv0_27a hqfv0_27b
  obtain ⟨qfv0_26, hqfv0_26, hqfv0_26a, hqfv0_26b⟩ := tw_rd TH hm0 hk0 (by decide) (by decide) (k := 26) rfl
  have eqfv0_26 : qfv0_26 = fv0_26 := by have q := hqfv0_26.symm.trans hfv0_26; injection q
  rw [eqfv0_26] at hqfv0_26a hqfv0_26b
  obtain ⟨xi1, hxi1, hxi1a, hxi1b⟩ := tw_rd TH hm0 hk0 (by decide) (by decide) (k := 28) rfl
  have h0_eo_ok := hg4
  have h0_ht_ok := hg5
  have h0_dr_ok := hg6
  have h0_ln_ok := hg7
  have h0_dl_ok := hg8
  have h0_fw_ok := hg9
  have h0_tt_ok := hg0
  have hF7 : tw_fr kp L [(12, 26)] [330, 331, 353] E E := tw_fr.rf
  have hFc : tw_fr kp L [(12, 26)] [326, 327, 328, 329, 330, 331, 353] E E := tw_fr.rf
  have hot : ot_ok E a0 (fv0_27.toInt) E := ot_ok_rf
  have hnz0 : nz_ok E a0 (0) := fun j hj => absurd hj (by omega)
  have hn00 : n0_ok E a0 (tw_el E a0 44 0) := Or.inl rfl
  refine lv_aload_n hx hb dX12_comes_0 rfl (lv_at hl 0 rfl) ?_
  refine tw_get (ci := 12) (C := RX12) (T := TX12) (N := 64) hx hb hB cx_inX12 hown hK TH hm0 hk0 rfl ⟨by decide, rfl⟩ 27 (by decide) cw_1220 (fun _ h9 => h9) dX12_comes_1 (fun hv => ?_)
  rw [hfv0_27]
  refine lv_istore_n (lv' := [(2, .int fv0_27), (0, .ref a0), (1, .int x1)]) hx hb dX12_comes_4 rfl hl (by decide) rfl (fun ls hl => ?_)
  refine lv_iconst (v := 0) hx hb dX12_comes_5 (by decide) ?_
  refine lv_istore_n (lv' := [(3, .int 0), (2, .int fv0_27), (0, .ref a0), (1, .int x1)]) hx hb dX12_comes_6 rfl hl (by decide) rfl (fun ls hl => ?_)
  have hJ7 : ∀ (n7 : Nat) (y7_3 : Int32) (u7_0_26 : Int32) (Eg7 : Nat → va_E) (H : Heap) (locs : List Loc) (ls : Array Slot), 0 ≤ y7_3.toInt → y7_3.toInt ≤ 24 → 0 ≤ u7_0_26.toInt → u7_0_26.toInt ≤ 150 → (y7_3.toInt ≤ xi1.toInt) → (fv0_26.toInt ≤ u7_0_26.toInt) → 24 - y7_3.toInt ≤ (n7 : Int) → tw_fv Eg7 a0 26 = .int u7_0_26 → tw_fr kp L [(12, 26)] [330, 331, 353] E Eg7 → rd_ok Eg7 a0 → ot_ok Eg7 a0 (fv0_27.toInt) E → nbp_ok Eg7 a0 (u7_0_26.toInt) → nc2_ok Eg7 a0 → nz_ok Eg7 a0 (y7_3.toInt) → n0_ok Eg7 a0 (tw_el E a0 44 0) → tw_H D cs kp L Eg7 A H → va_S A s.heap H locs → lv_has ls 5 [(3, .int y7_3), (2, .int fv0_27), (0, .ref a0), (1, .int x1)] → W p l e { frames := 4, cells := 0, slots := 0, locals := 98 } s m [.ref a0, .int x1].toArray below meth c H locs 0 0 (MQ below (tw_Q D cs kp0 L0 (fun v kq Lq Eq => (∃ x : Int32, v = some (.int x) ∧ 0 ≤ x.toInt ∧ x.toInt ≤ 11 ∧ rd_ok Eq a0 ∧ eo_ok Eq a0 ∧ ht_ok Eq a0 ∧ dr_ok Eq a0 ∧ ln_ok Eq a0 ∧ dl_ok Eq a0 ∧ fw_ok Eq a0) ∧ kp = kq ∧ L = Lq ∧ tw_fr kp L [(12, 1), (12, 26), (12, 27)] [326, 327, 328, 329, 330, 331, 334, 335, 353] E Eq) A) [.ref a0, .int x1].toArray s 0 0 A) (F0 m 7 ls []) := by
    intro n7
    induction n7 using Nat.strongRecOn with
    | _ n7 ih7 =>
      intro y7_3 u7_0_26 Eg7 H locs ls hy7_3a hy7_3b hu7_0_26a hu7_0_26b hin7_0 hin7_1 hmeas7 hfm7_0 hG7 hcg7_0 hcg7_1 hcg7_2 hcg7_3 hcg7_4 hcg7_5 TH hS hl
      have hF := hF.tr hG7 (fun _ h => ⟨h, rfl⟩) (by decide) (by decide)
      have hF7 := hF7.tr hG7 (fun _ h => ⟨h, rfl⟩) (by decide) (by decide)
      have hFc := hFc.tr hG7 (fun _ h => ⟨h, rfl⟩) (by decide) (by decide)
      have hmf2 : tw_fv Eg7 a0 27 = .int fv0_27 := (hG7.1 a0 27 hm0 (by rw [hk0]; decide)).trans hfv0_27
      have hmf3 : tw_fv Eg7 a0 28 = .int xi1 := (hG7.1 a0 28 hm0 (by rw [hk0]; decide)).trans hxi1
      refine lv_iload_n hx hb dX12_comes_7 rfl (lv_at hl 0 rfl) ?_
      refine lv_aload_n hx hb dX12_comes_8 rfl (lv_at hl 2 rfl) ?_
      refine tw_get (ci := 12) (C := RX12) (T := TX12) (N := 64) hx hb hB cx_inX12 hown hK TH hm0 hk0 rfl ⟨by decide, rfl⟩ 28 (by decide) cw_1221 (fun _ h9 => h9) dX12_comes_9 (fun hv => ?_)
      rw [hmf3]
      refine lv_icmp_ge (tgt := 48) hx hb dX12_comes_12 (by decide) (fun hc4 => ?_) (fun hc4 => ?_)
      · have hf5 : xi1.toInt ≤ y7_3.toInt := by have z := (fa_le _ _).mp hc4;  omega
        have hch48 : ch_ok Eg7 a0 (fv0_27.toInt) (0) := ch_zero rfl (fun c hc => (by rw [rw_h_fr TH hF7 hm0 hk0 (by decide) (by decide) (by decide) (i := fv0_27.toInt) (by omega)]; exact h0_fw_ok (fv0_27.toInt) (by rw [tw_fi_of hfv0_27]; omega) (by omega) c hc))
        have hcq48 : cq_ok Eg7 a0 (fv0_27.toInt) (0) := fun j hj => absurd hj (by omega)
        refine lv_iconst (v := 0) hx hb dX12_comes_48 (by decide) ?_
        refine lv_istore_n (lv' := [(3, .int 0), (2, .int fv0_27), (0, .ref a0), (1, .int x1)]) hx hb dX12_comes_49 rfl hl (by decide) rfl (fun ls hl => ?_)
        have hJ50 : ∀ (n50 : Nat) (y50_3 : Int32) (Eg50 : Nat → va_E) (H : Heap) (locs : List Loc) (ls : Array Slot), 0 ≤ y50_3.toInt → y50_3.toInt ≤ 24 → (y50_3.toInt ≤ xi1.toInt) → (fv0_26.toInt ≤ u7_0_26.toInt) → 24 - y50_3.toInt ≤ (n50 : Int) → tw_fr kp L [] [326, 327, 328, 329] Eg7 Eg50 → rd_ok Eg50 a0 → ot_ok Eg50 a0 (fv0_27.toInt) E → nbp_ok Eg50 a0 (u7_0_26.toInt) → nz_ok Eg50 a0 (xi1.toInt) → n0_ok Eg50 a0 (tw_el E a0 44 0) → ch_ok Eg50 a0 (fv0_27.toInt) (y50_3.toInt) → cq_ok Eg50 a0 (fv0_27.toInt) (y50_3.toInt) → tw_H D cs kp L Eg50 A H → va_S A s.heap H locs → lv_has ls 5 [(3, .int y50_3), (2, .int fv0_27), (0, .ref a0), (1, .int x1)] → W p l e { frames := 4, cells := 0, slots := 0, locals := 98 } s m [.ref a0, .int x1].toArray below meth c H locs 0 0 (MQ below (tw_Q D cs kp0 L0 (fun v kq Lq Eq => (∃ x : Int32, v = some (.int x) ∧ 0 ≤ x.toInt ∧ x.toInt ≤ 11 ∧ rd_ok Eq a0 ∧ eo_ok Eq a0 ∧ ht_ok Eq a0 ∧ dr_ok Eq a0 ∧ ln_ok Eq a0 ∧ dl_ok Eq a0 ∧ fw_ok Eq a0) ∧ kp = kq ∧ L = Lq ∧ tw_fr kp L [(12, 1), (12, 26), (12, 27)] [326, 327, 328, 329, 330, 331, 334, 335, 353] E Eq) A) [.ref a0, .int x1].toArray s 0 0 A) (F0 m 50 ls []) := by
          intro n50
          induction n50 using Nat.strongRecOn with
          | _ n50 ih50 =>
            intro y50_3 Eg50 H locs ls hy50_3a hy50_3b hin50_0 hin50_1 hmeas50 hG50 hcg50_0 hcg50_1 hcg50_2 hcg50_3 hcg50_4 hcg50_5 hcg50_6 TH hS hl
            have hF := hF.tr hG50 (fun _ h => ⟨h, rfl⟩) (by decide) (by decide)
            have hFc := hFc.tr hG50 (fun _ h => ⟨h, rfl⟩) (by decide) (by decide)
            have hmf6 : tw_fv Eg50 a0 27 = .int fv0_27 := (hG50.1 a0 27 hm0 (by rw [hk0]; decide)).trans hmf2
            have hmf7 : tw_fv Eg50 a0 28 = .int xi1 := (hG50.1 a0 28 hm0 (by rw [hk0]; decide)).trans hmf3
            have hmf8 : tw_fv Eg50 a0 26 = .int u7_0_26 := (hG50.1 a0 26 hm0 (by rw [hk0]; decide)).trans hfm7_0
            refine lv_iload_n hx hb dX12_comes_50 rfl (lv_at hl 0 rfl) ?_
            refine lv_aload_n hx hb dX12_comes_51 rfl (lv_at hl 2 rfl) ?_
            refine tw_get (ci := 12) (C := RX12) (T := TX12) (N := 64) hx hb hB cx_inX12 hown hK TH hm0 hk0 rfl ⟨by decide, rfl⟩ 28 (by decide) cw_1221 (fun _ h9 => h9) dX12_comes_52 (fun hv => ?_)
            rw [hmf7]
            refine lv_icmp_ge (tgt := 150) hx hb dX12_comes_55 (by decide) (fun hc9 => ?_) (fun hc9 => ?_)
            · have hf10 : xi1.toInt ≤ y50_3.toInt := by have z := (fa_le _ _).mp hc9;  omega
              have hpre1b : x1.toInt = -1 ∨ (0 ≤ tw_el E a0 44 0 ∧ rw_h E a0 (x1.toInt) (tw_el E a0 44 0).toNat ≠ 0 ∧ rw_p E a0 (x1.toInt) (tw_el E a0 44 0).toNat = -1) := hpre1.imp id (fun z => z.2)
              have hcm := cm_row (e := fv0_27.toInt) (B := u7_0_26.toInt) (by rw [(tw_fi_fr hFc hm0 hk0 (k := 28) (by decide))]; exact h0_tt_ok.1) (by rw [(tw_fi_fr hFc hm0 hk0 (k := 28) (by decide)), (hcg50_1 15 (by decide) (by decide) (by omega)).2]; exact h0_tt_ok.2.2.1) (nbp_ok_cast (by omega) hcg50_2) (by rw [tw_fi_of hmf8]; omega) (by rw [tw_fi_of hmf8]; omega) (by rw [tw_fi_of hmf7]; exact nz_ok_cast (by omega) hcg50_3) (by rw [tw_fi_of hmf7]; exact ch_ok_cast (by omega) hcg50_5) (by rw [tw_fi_of hmf7]; exact cq_ok_cast (by omega) hcg50_6)
              have hrowN : row_ok Eg50 a0 (fv0_27.toInt) := hcm.1
              have hr2c : r2c_ok Eg50 a0 (fv0_27.toInt) (x1.toInt) := cm_r2 hcg50_1 (by omega) (by omega) (by omega) hcg50_4 rfl hcm.2 hpre1b
              have heoN : eo_ok Eg50 a0 := eo_ot2 TH hm0 hk0 hcg50_1 (tw_fi_fr hFc hm0 hk0 (k := 27) (by decide)) (by rw [tw_fi_of hfv0_26, tw_fi_of hmf8]; omega) (by rw [tw_fi_of hfv0_27]; omega) h0_eo_ok
              have hdrN : dr_ok Eg50 a0 := dr_ot2 hcg50_1 (tw_fi_fr hFc hm0 hk0 (k := 29) (by decide)) (by rw [tw_fi_of hfv0_26, tw_fi_of hmf8]; omega) (by omega) h0_dr_ok
              have hhtN : ht_ok Eg50 a0 := ht_ok_ot hcg50_1 (by omega) h0_ht_ok
              have hlnN : ln_ok Eg50 a0 := ln_ok_ot TH hFc hm0 hk0 (by decide) (by decide) hcg50_1 (by rw [tw_fi_of hfv0_27]; omega) h0_ln_ok
              have hdlN : dl_ok Eg50 a0 := dl_ok_ot TH hFc hm0 hk0 (by decide) hcg50_1 (by omega) (by rw [tw_fi_of hfv0_27]; omega) h0_dl_ok
              have hfxN : fx_ok Eg50 a0 (fv0_27.toInt) := fx_of_ot hcg50_1 (by omega) (tw_fi_of hfv0_27) h0_fw_ok
              refine lv_aload_n hx hb dX12_comes_150 rfl (lv_at hl 2 rfl) ?_
              refine lv_iload_n hx hb dX12_comes_151 rfl (lv_at hl 1 rfl) ?_
              refine tw_Vc (o := a0) (ci := 12) (n := 1) (post := (fun v kq Lq Eq => v = none ∧ kp = kq ∧ L = Lq ∧ tw_fr kp L [] [329] Eg50 Eq ∧ ht_ok Eq a0 ∧ t1_ok Eq a0 (fv0_27.toInt))) (As := [.int fv0_27]) (rest := []) ⟨hx, hb, hml, hown, hB⟩ (fun sz => tX12_orders l D cs a0 fv0_27 hm0 hk0 (by omega) (by omega) hhtN (hrowN).1.1 sz) cg_12_275_X12_orders rfl rfl (by decide +kernel) ⟨Nat.le_of_ble_eq_true rfl, Nat.le_of_ble_eq_true rfl⟩ hK hN TH hS hA rfl hm0 hk0 (by decide) rfl hl.1 rfl (Nat.le_of_ble_eq_true rfl) dX12_comes_152 ⟨Nat.le_of_ble_eq_true rfl, Nat.le_of_ble_eq_true rfl⟩ (fun v11 kp11 L11 E11 H locs hq11 hx11 TH hS => ?_)
              obtain ⟨rfl, rfl, rfl, hst11, hgpxc12_0, hgpxc12_1⟩ := hq11
              have hF := hF.tr hst11 (fun _ h => ⟨h, rfl⟩) (by decide) (by decide)
              have hFc := hFc.tr hst11 (fun _ h => ⟨h, rfl⟩) (by decide) (by decide)
              have hG50 := hG50.tr hst11 (fun _ h => ⟨h, rfl⟩) (by decide) (by decide)
              have hmf13 : tw_fv E11 a0 27 = .int fv0_27 := (hst11.1 a0 27 hm0 (by rw [hk0]; decide)).trans hmf6
              have hmf14 : tw_fv E11 a0 28 = .int xi1 := (hst11.1 a0 28 hm0 (by rw [hk0]; decide)).trans hmf7
              have hmf15 : tw_fv E11 a0 26 = .int u7_0_26 := (hst11.1 a0 26 hm0 (by rw [hk0]; decide)).trans hmf8
              have hcg50_0 : rd_ok E11 a0 := rd_ok_fr TH hst11 hm0 hk0 (by decide) (by decide) hcg50_0
              have hrowN : row_ok E11 a0 (fv0_27.toInt) := row_ok_fr TH hst11 hm0 hk0 (by decide) (by decide) (by omega) hrowN
              have hr2c : r2c_ok E11 a0 (fv0_27.toInt) (x1.toInt) := r2c_ok_fr TH hst11 hm0 hk0 (by decide) (by decide) (by omega) hr2c
              have heoN : eo_ok E11 a0 := eo_ok_fr TH hst11 hm0 hk0 (by decide) (by decide) heoN
              have hdrN : dr_ok E11 a0 := dr_ok_fr TH hst11 hm0 hk0 (by decide) (by decide) hdrN
              have hlnN : ln_ok E11 a0 := ln_ok_fr TH hst11 hm0 hk0 (by decide) (by decide) hlnN
              have hdlN : dl_ok E11 a0 := dl_ok_fr TH hst11 hm0 hk0 (by decide) (by decide) hdlN
              have hfxN : fx_ok E11 a0 (fv0_27.toInt) := fx_ok_fr TH hst11 hm0 hk0 (by decide) (by decide) hfxN
              refine W.eq (g2 := F0 m 155 ls []) rfl ?_
              refine lv_aload_n hx hb dX12_comes_155 rfl (lv_at hl 2 rfl) ?_
              refine lv_iconst (v := 0) hx hb dX12_comes_156 (by decide) ?_
              refine tw_put (ci := 12) (v := .int 0) (ty := .int) (C := RX12) (T := TX12) (N := 64) hx hb hB cx_inX12 tyX12 tyX12_ok nmX12 hown hK TH hS hm0 hk0 rfl ⟨by decide, rfl⟩ 1 (by decide) cw_1194 (fun _ h9 => h9) rfl (by decide +kernel) rfl rfl ⟨_, rfl, (show 0 ≤ Int32.toInt 0 from by have : ((0 : Int32).toInt) = 0 := (by decide); omega), (show Int32.toInt 0 ≤ 500 from by have : ((0 : Int32).toInt) = 0 := (by decide); omega)⟩ dX12_comes_157 (fun H locs E16 TH hS hmf20 hp17 hp18 => ?_)
              have hst19 : tw_fr kp L [(12, 1)] [] E11 E16 := tw_fr.put tw_fr.rf (fun _ => hk0) (by decide) hp17 hp18 (by decide)
              have hF := hF.tr hst19 (fun _ h => ⟨h, rfl⟩) (by decide) (by decide)
              have hmf21 : tw_fv E16 a0 27 = .int fv0_27 := (hst19.1 a0 27 hm0 (by rw [hk0]; decide)).trans hmf13
              have hmf22 : tw_fv E16 a0 28 = .int xi1 := (hst19.1 a0 28 hm0 (by rw [hk0]; decide)).trans hmf14
              have hmf23 : tw_fv E16 a0 26 = .int u7_0_26 := (hst19.1 a0 26 hm0 (by rw [hk0]; decide)).trans hmf15
              have hcg50_0 : rd_ok E16 a0 := rd_ok_fr TH hst19 hm0 hk0 (by decide) (by decide) hcg50_0
              have hrowN : row_ok E16 a0 (fv0_27.toInt) := row_ok_fr TH hst19 hm0 hk0 (by decide) (by decide) (by omega) hrowN
              have hr2c : r2c_ok E16 a0 (fv0_27.toInt) (x1.toInt) := r2c_ok_fr TH hst19 hm0 hk0 (by decide) (by decide) (by omega) hr2c
              have heoN : eo_ok E16 a0 := eo_ok_fr TH hst19 hm0 hk0 (by decide) (by decide) heoN
              have hdrN : dr_ok E16 a0 := dr_ok_fr TH hst19 hm0 hk0 (by decide) (by decide) hdrN
              have hlnN : ln_ok E16 a0 := ln_ok_fr TH hst19 hm0 hk0 (by decide) (by decide) hlnN
              have hdlN : dl_ok E16 a0 := dl_ok_fr TH hst19 hm0 hk0 (by decide) (by decide) hdlN
              have hfxN : fx_ok E16 a0 (fv0_27.toInt) := fx_ok_fr TH hst19 hm0 hk0 (by decide) (by decide) hfxN
              have hgpxc12_0 : ht_ok E16 a0 := ht_ok_fr TH hst19 hm0 hk0 (by decide) (by decide) hgpxc12_0
              have hgpxc12_1 : t1_ok E16 a0 (fv0_27.toInt) := t1_ok_fr TH hst19 hm0 hk0 (by decide) (by decide) (by omega) hgpxc12_1
              refine lv_aload_n hx hb dX12_comes_160 rfl (lv_at hl 2 rfl) ?_
              refine lv_iload_n hx hb dX12_comes_161 rfl (lv_at hl 3 rfl) ?_
              refine lv_iconst (v := (-1)) hx hb dX12_comes_162 (by decide) ?_
              refine tw_Vc (o := a0) (ci := 12) (n := 2) (post := (fun v kq Lq Eq => (∃ x : Int32, v = some (.int x) ∧ 0 ≤ x.toInt ∧ x.toInt ≤ 11 ∧ (x.toInt = fv0_27.toInt) ∧ (∀ j : Nat, tw_el Eq a0 24 j = if j = (fv0_27.toInt).toNat then x1.toInt else tw_el E16 a0 24 j) ∧ (∀ j : Nat, tw_el Eq a0 25 j = if j = (fv0_27.toInt).toNat then ((-1) : Int32).toInt else tw_el E16 a0 25 j) ∧ (∃ z0 : Int32, tw_fv Eq a0 27 = .int z0 ∧ (z0.toInt = fv0_27.toInt + 1))) ∧ kp = kq ∧ L = Lq ∧ tw_fr kp L [(12, 27)] [334, 335] E16 Eq)) (As := [.int x1, .int (-1)]) (rest := []) ⟨hx, hb, hml, hown, hB⟩ (fun sz => tX12_edition l D cs a0 x1 ((-1) : Int32) fv0_27 hm0 hk0 (by omega) (by omega) (by have : (((-1) : Int32).toInt) = (-1) := (by decide); omega) (by have : (((-1) : Int32).toInt) = (-1) := (by decide); omega) hmf21 (by have : (((-1) : Int32).toInt) = (-1) := (by decide); omega) sz) cg_12_345_X12_edition rfl rfl (by decide +kernel) ⟨Nat.le_of_ble_eq_true rfl, Nat.le_of_ble_eq_true rfl⟩ hK hN TH hS hA rfl hm0 hk0 (by decide) rfl hl.1 rfl (Nat.le_of_ble_eq_true rfl) dX12_comes_163 ⟨Nat.le_of_ble_eq_true rfl, Nat.le_of_ble_eq_true rfl⟩ (fun v24 kp24 L24 E24 H locs hq24 hx24 TH hS => ?_)
              obtain ⟨⟨xc25, rfl, hxc25a, hxc25b, hpoxc25_0, hpoxc25_1, hpoxc25_2, ⟨zfxc25_0_0, hzfxc25_0_0, hzpxc25_0⟩⟩, rfl, rfl, hst24⟩ := hq24
              have hF := hF.tr hst24 (fun _ h => ⟨h, rfl⟩) (by decide) (by decide)
              have hmf26 : tw_fv E24 a0 28 = .int xi1 := (hst24.1 a0 28 hm0 (by rw [hk0]; decide)).trans hmf22
              have hmf27 : tw_fv E24 a0 26 = .int u7_0_26 := (hst24.1 a0 26 hm0 (by rw [hk0]; decide)).trans hmf23
              have hmf28 : tw_fv E24 a0 1 = .int 0 := (hst24.1 a0 1 hm0 (by rw [hk0]; decide)).trans hmf20
              have hcg50_0_o := hcg50_0
              have hrowN_o := hrowN
              have hr2c_o := hr2c
              have heoN_o := heoN
              have hdrN_o := hdrN
              have hlnN_o := hlnN
              have hdlN_o := hdlN
              have hfxN_o := hfxN
              have hgpxc12_0_o := hgpxc12_0
              have hgpxc12_1_o := hgpxc12_1
              have hcg50_0 : rd_ok E24 a0 := rd_ok_fr TH hst24 hm0 hk0 (by decide) (by decide) hcg50_0
              have hrowN : row_ok E24 a0 (fv0_27.toInt) := row_ok_fr TH hst24 hm0 hk0 (by decide) (by decide) (by omega) hrowN
              have hr2c : r2c_ok E24 a0 (fv0_27.toInt) (x1.toInt) := r2c_ok_fr TH hst24 hm0 hk0 (by decide) (by decide) (by omega) hr2c
              have heoN : eo_ok E24 a0 := eo_ok_inc (r := fv0_27.toInt) TH hst24 hm0 hk0 (by decide) (by decide) (tw_fi_of hmf21) (by rw [tw_fi_of hzfxc25_0_0]; omega) hrowN_o heoN_o
              have hdrN : dr_ok E24 a0 := dr_ok_fr TH hst24 hm0 hk0 (by decide) (by decide) hdrN
              have hlnN : ln_ok E24 a0 := (by have hrr := hr2c_o; refine ln_ok_inc (r := fv0_27.toInt) TH hst24 hm0 hk0 (by decide) (by decide) (tw_fi_of hmf21) (by rw [tw_fi_of hzfxc25_0_0]; omega) (fun f hf j hj => ?_) (fun f hf => ?_) hlnN_o; (have hf : f = 24 ∨ f = 25 := (by simpa using hf); rcases hf with rfl | rfl; (rw [hpoxc25_1, if_neg (by omega)]); (rw [hpoxc25_2, if_neg (by omega)])); (have hf : f = 24 ∨ f = 25 := (by simpa using hf); rcases hf with rfl | rfl; (rw [hpoxc25_1, if_pos rfl]; (by_cases hq : x1.toInt = -1; exact Or.inl hq; exact Or.inr ⟨by omega, by omega, hrr hq⟩)); (rw [hpoxc25_2, if_pos rfl]; exact Or.inl (by decide))))
              have hdlN : dl_ok E24 a0 := dl_ok_inc TH hst24 hm0 hk0 (by decide) (by decide) (by rw [tw_fi_of hmf21, tw_fi_of hzfxc25_0_0]; omega) hdlN_o
              have hfxN : fx_ok E24 a0 (fv0_27.toInt) := fx_ok_fr TH hst24 hm0 hk0 (by decide) (by decide) hfxN
              have hgpxc12_0 : ht_ok E24 a0 := ht_ok_fr TH hst24 hm0 hk0 (by decide) (by decide) hgpxc12_0
              have hgpxc12_1 : t1_ok E24 a0 (fv0_27.toInt) := t1_ok_fr TH hst24 hm0 hk0 (by decide) (by decide) (by omega) hgpxc12_1
              have hgn29 : fw_ok E24 a0 := fw_of_fx (by rw [tw_fi_of hzfxc25_0_0]; omega) hfxN
              obtain ⟨qzfxc25_0_0, hqzfxc25_0_0, hqzfxc25_0_0a, hqzfxc25_0_0b⟩ := tw_rd TH hm0 hk0 (by decide) (by decide) (k := 27) rfl
              have eqzfxc25_0_0 : qzfxc25_0_0 = zfxc25_0_0 := by have q := hqzfxc25_0_0.symm.trans hzfxc25_0_0; injection q
              rw [eqzfxc25_0_0] at hqzfxc25_0_0a hqzfxc25_0_0b
              refine W.eq (g2 := F0 m 166 ls [.int xc25]) rfl ?_
              exact tw_iret hx hb hr hlocks TH hS hex ⟨⟨_, rfl, (show 0 ≤ Int32.toInt xc25 from by  omega), (show Int32.toInt xc25 ≤ 11 from by  omega), hcg50_0, heoN, hgpxc12_0, hdrN, hlnN, hdlN, hgn29⟩, rfl, rfl, hF⟩ (Nat.le_of_ble_eq_true rfl) (Nat.le_of_ble_eq_true rfl) dX12_comes_166
            · have hf30 : ¬ (xi1.toInt ≤ y50_3.toInt) := fun q => hc9 ((fa_le _ _).mpr (by  omega))
              refine lv_aload_n hx hb dX12_comes_58 rfl (lv_at hl 2 rfl) ?_
              refine tw_get (ci := 12) (C := RX12) (T := TX12) (N := 64) hx hb hB cx_inX12 hown hK TH hm0 hk0 rfl ⟨by decide, rfl⟩ 44 (by decide) cw_1237 (fun _ h9 => h9) dX12_comes_59 (fun hv => ?_)
              obtain ⟨xr31, hxr31, hmxr31, hkxr31⟩ : ∃ a : Nat, tw_fv Eg50 a0 44 = .ref a ∧ a ∈ L ∧ kp a = 353 := hv
              rw [hxr31]
              refine lv_iload_n hx hb dX12_comes_62 rfl (lv_at hl 0 rfl) ?_
              refine tw_iald (k := 353) (t0 := 0) (n := 24) (lo := (-1)) (hi := 149) hx hb hK TH hmxr31 hkxr31 (by decide) rfl rfl (i := y50_3) (vp_in_iff.mpr ⟨by  omega, by  omega⟩) dX12_comes_63 (fun hxe32a hxe32b => ?_)
              obtain ⟨xe32, exe32⟩ : ∃ z : Int32, tw_iv Eg50 xr31 (Int32.toNatClampNeg y50_3) = z := ⟨_, rfl⟩
              rw [exe32] at hxe32a hxe32b ⊢
              refine lv_istore (lv' := [(4, .int xe32), (3, .int y50_3), (2, .int fv0_27), (0, .ref a0), (1, .int x1)]) hx hb dX12_comes_64 hl (by decide) rfl (fun ls hl => ?_)
              have rf_xe32 : tw_el Eg50 a0 44 (y50_3.toInt).toNat = xe32.toInt := (by rw [tw_el_of hxr31]; exact congrArg Int32.toInt exe32)
              have hnn := hcg50_3 (y50_3.toInt).toNat (by omega)
              rw [rf_xe32] at hnn
              have hF66 : tw_fr kp L [] [326, 327] Eg50 Eg50 := tw_fr.rf
              refine lv_aload_n hx hb dX12_comes_66 rfl (lv_at hl 3 rfl) ?_
              refine tw_get (ci := 12) (C := RX12) (T := TX12) (N := 64) hx hb hB cx_inX12 hown hK TH hm0 hk0 rfl ⟨by decide, rfl⟩ 16 (by decide) cw_1209 (fun _ h9 => h9) dX12_comes_67 (fun hv => ?_)
              obtain ⟨xr33, hxr33, hmxr33, hkxr33⟩ : ∃ a : Nat, tw_fv Eg50 a0 16 = .ref a ∧ a ∈ L ∧ kp a = 316 := hv
              rw [hxr33]
              refine lv_iload_n hx hb dX12_comes_70 rfl (lv_at hl 2 rfl) ?_
              refine tw_aald (k := 316) (t0 := 5) (n := 16) (lo := 326) (hi := 0) (ty := .boolean) hx hb hK TH hmxr33 hkxr33 (by decide) rfl rfl (i := fv0_27) (vp_in_iff.mpr ⟨by  omega, by  omega⟩) dX12_comes_71 (fun xr34 exr34 hmxr34 hkxr34 => ?_)
              have hkxr34 : kp xr34 = 326 := hkxr34
              refine lv_iload hx hb dX12_comes_72 (lv_at hl 0 rfl) ?_
              refine lv_iconst (v := 1) hx hb dX12_comes_74 (by decide) ?_
              refine tw_zast (k := 326) (n := 150) (lo := 0) (hi := 1) hx hb hK TH hS hmxr34 hkxr34 (by decide) rfl (i := xe32) (x := 1) (vp_in_iff.mpr ⟨by  omega, by  omega⟩) (by have : ((1 : Int32).toInt) = 1 := (by decide); omega) (by have : ((1 : Int32).toInt) = 1 := (by decide); omega) (by have : ((1 : Int32).toInt) = 1 := (by decide); omega) (by have : ((1 : Int32).toInt) = 1 := (by decide); omega) dX12_comes_75 (fun H locs E35 TH hS hp36 hp37 hp38 => ?_)
              have hst39 : tw_fr kp L [] [326] Eg50 E35 := tw_fr.ast tw_fr.rf (fun _ => hkxr34) hp36 hp37 (by decide)
              have hF := hF.tr hst39 (fun _ h => ⟨h, rfl⟩) (by decide) (by decide)
              have hFc := hFc.tr hst39 (fun _ h => ⟨h, rfl⟩) (by decide) (by decide)
              have hG50 := hG50.tr hst39 (fun _ h => ⟨h, rfl⟩) (by decide) (by decide)
              have hF66 := hF66.tr hst39 (fun _ h => ⟨h, rfl⟩) (by decide) (by decide)
              have hmf40 : tw_fv E35 a0 27 = .int fv0_27 := (hst39.1 a0 27 hm0 (by rw [hk0]; decide)).trans hmf6
              have hmf41 : tw_fv E35 a0 28 = .int xi1 := (hst39.1 a0 28 hm0 (by rw [hk0]; decide)).trans hmf7
              have hmf42 : tw_fv E35 a0 26 = .int u7_0_26 := (hst39.1 a0 26 hm0 (by rw [hk0]; decide)).trans hmf8
              have hmf43 : tw_fv E35 a0 44 = .ref xr31 := (hst39.1 a0 44 hm0 (by rw [hk0]; decide)).trans hxr31
              have hmf44 : tw_fv E35 a0 16 = .ref xr33 := (hst39.1 a0 16 hm0 (by rw [hk0]; decide)).trans hxr33
              have hcg50_0_o := hcg50_0
              have hcg50_1_o := hcg50_1
              have hcg50_2_o := hcg50_2
              have hcg50_3_o := hcg50_3
              have hcg50_4_o := hcg50_4
              have hcg50_5_o := hcg50_5
              have hcg50_6_o := hcg50_6
              have hcg50_0 : rd_ok E35 a0 := rd_ok_fr TH hst39 hm0 hk0 (by decide) (by decide) hcg50_0
              have hcg50_1 : ot_ok E35 a0 (fv0_27.toInt) E := ot_ok_h (i := fv0_27) TH hm0 hk0 hcg50_0_o hxr33 exr34 hkxr33 hkxr34 hp36 hp37 (by omega) (by omega) hcg50_1_o
              have hcg50_2 : nbp_ok E35 a0 (u7_0_26.toInt) := nbp_ok_fr TH hst39 hm0 hk0 (by decide) (by decide) hcg50_2
              have hcg50_3 : nz_ok E35 a0 (xi1.toInt) := nz_ok_fr TH hst39 hm0 hk0 (by decide) (by decide) hcg50_3
              have hcg50_4 : n0_ok E35 a0 (tw_el E a0 44 0) := n0_ok_fr TH hst39 hm0 hk0 (by decide) (by decide) hcg50_4
              have hcg50_5 : ch_ok E35 a0 (fv0_27.toInt) (y50_3.toInt + 1) := ch_push (n := xe32.toInt) hcg50_5_o (by omega) rfl (by omega) rf_xe32 (tw_el_fr TH hst39 hm0 hk0 (by decide) (by decide) (k := 44) rfl (by decide) (by decide) (by decide)) (by intro c; have w := rw_h_st (m := a0) (i := fv0_27) (c := xe32) hxr33 exr34 hkxr33 hkxr34 hp36 hp37 hp38 c; rw [w]; (by_cases e : c = (xe32.toInt).toNat; (rw [if_pos e, if_pos e]; decide); (rw [if_neg e, if_neg e])))
              have hcg50_6 : cq_ok E35 a0 (fv0_27.toInt) (y50_3.toInt) := cq_ok_fr TH hst39 hm0 hk0 (by decide) (by decide) (by omega) hcg50_6
              refine lv_aload_n hx hb dX12_comes_76 rfl (lv_at hl 3 rfl) ?_
              refine tw_get (ci := 12) (C := RX12) (T := TX12) (N := 64) hx hb hB cx_inX12 hown hK TH hm0 hk0 rfl ⟨by decide, rfl⟩ 17 (by decide) cw_1210 (fun _ h9 => h9) dX12_comes_77 (fun hv => ?_)
              obtain ⟨xr45, hxr45, hmxr45, hkxr45⟩ : ∃ a : Nat, tw_fv E35 a0 17 = .ref a ∧ a ∈ L ∧ kp a = 317 := hv
              rw [hxr45]
              refine lv_iload_n hx hb dX12_comes_80 rfl (lv_at hl 2 rfl) ?_
              refine tw_aald (k := 317) (t0 := 6) (n := 16) (lo := 327) (hi := 0) (ty := .long) hx hb hK TH hmxr45 hkxr45 (by decide) rfl rfl (i := fv0_27) (vp_in_iff.mpr ⟨by  omega, by  omega⟩) dX12_comes_81 (fun xr46 exr46 hmxr46 hkxr46 => ?_)
              have hkxr46 : kp xr46 = 327 := hkxr46
              refine lv_iload hx hb dX12_comes_82 (lv_at hl 0 rfl) ?_
              refine lv_aload_n hx hb dX12_comes_84 rfl (lv_at hl 3 rfl) ?_
              refine tw_get (ci := 12) (C := RX12) (T := TX12) (N := 64) hx hb hB cx_inX12 hown hK TH hm0 hk0 rfl ⟨by decide, rfl⟩ 17 (by decide) cw_1210 (fun _ h9 => h9) dX12_comes_85 (fun hv => ?_)
              rw [hxr45]
              refine lv_bipush (v := 15) hx hb dX12_comes_88 (by decide) ?_
              refine tw_aald (k := 317) (t0 := 6) (n := 16) (lo := 327) (hi := 0) (ty := .long) hx hb hK TH hmxr45 hkxr45 (by decide) rfl rfl (i := 15) (vp_in_iff.mpr ⟨by have : ((15 : Int32).toInt) = 15 := (by decide); omega, by have : ((15 : Int32).toInt) = 15 := (by decide); omega⟩) dX12_comes_90 (fun xr47 exr47 hmxr47 hkxr47 => ?_)
              have hkxr47 : kp xr47 = 327 := hkxr47
              refine lv_iload_n hx hb dX12_comes_91 rfl (lv_at hl 1 rfl) ?_
              refine tw_lald2 (k := 327) (n := 150) (lo := 0) (hi := 0) hx hb hK TH hmxr47 hkxr47 (by decide) rfl (i := y50_3) (vp_in_iff.mpr ⟨by  omega, by  omega⟩) dX12_comes_92 (fun xl48 exl48 => ?_)
              refine tw_last2 (k := 327) (n := 150) (lo := 0) (hi := 0) hx hb hK TH hS hmxr46 hkxr46 (by decide) rfl (i := xe32) (x := xl48) (vp_in_iff.mpr ⟨by  omega, by  omega⟩) dX12_comes_93 (fun H locs E49 TH hS hp50 hp51 hp53 => ?_)
              have hst52 : tw_fr kp L [] [327] E35 E49 := tw_fr.ast tw_fr.rf (fun _ => hkxr46) hp50 hp51 (by decide)
              have hF := hF.tr hst52 (fun _ h => ⟨h, rfl⟩) (by decide) (by decide)
              have hFc := hFc.tr hst52 (fun _ h => ⟨h, rfl⟩) (by decide) (by decide)
              have hG50 := hG50.tr hst52 (fun _ h => ⟨h, rfl⟩) (by decide) (by decide)
              have hF66 := hF66.tr hst52 (fun _ h => ⟨h, rfl⟩) (by decide) (by decide)
              have hmf54 : tw_fv E49 a0 27 = .int fv0_27 := (hst52.1 a0 27 hm0 (by rw [hk0]; decide)).trans hmf40
              have hmf55 : tw_fv E49 a0 28 = .int xi1 := (hst52.1 a0 28 hm0 (by rw [hk0]; decide)).trans hmf41
              have hmf56 : tw_fv E49 a0 26 = .int u7_0_26 := (hst52.1 a0 26 hm0 (by rw [hk0]; decide)).trans hmf42
              have hmf57 : tw_fv E49 a0 44 = .ref xr31 := (hst52.1 a0 44 hm0 (by rw [hk0]; decide)).trans hmf43
              have hmf58 : tw_fv E49 a0 16 = .ref xr33 := (hst52.1 a0 16 hm0 (by rw [hk0]; decide)).trans hmf44
              have hmf59 : tw_fv E49 a0 17 = .ref xr45 := (hst52.1 a0 17 hm0 (by rw [hk0]; decide)).trans hxr45
              have hcg50_0 : rd_ok E49 a0 := rd_ok_fr TH hst52 hm0 hk0 (by decide) (by decide) hcg50_0
              have hcg50_1 : ot_ok E49 a0 (fv0_27.toInt) E := ot_ok_fr TH hst52 hm0 hk0 (by decide) (by decide) hcg50_1
              have hcg50_2 : nbp_ok E49 a0 (u7_0_26.toInt) := nbp_ok_fr TH hst52 hm0 hk0 (by decide) (by decide) hcg50_2
              have hcg50_3 : nz_ok E49 a0 (xi1.toInt) := nz_ok_fr TH hst52 hm0 hk0 (by decide) (by decide) hcg50_3
              have hcg50_4 : n0_ok E49 a0 (tw_el E a0 44 0) := n0_ok_fr TH hst52 hm0 hk0 (by decide) (by decide) hcg50_4
              have hcg50_5 : ch_ok E49 a0 (fv0_27.toInt) (y50_3.toInt + 1) := ch_ok_fr TH hst52 hm0 hk0 (by decide) (by decide) (by omega) hcg50_5
              have hcg50_6 : cq_ok E49 a0 (fv0_27.toInt) (y50_3.toInt) := cq_ok_fr TH hst52 hm0 hk0 (by decide) (by decide) (by omega) hcg50_6
              refine lv_aload_n hx hb dX12_comes_94 rfl (lv_at hl 3 rfl) ?_
              refine tw_get (ci := 12) (C := RX12) (T := TX12) (N := 64) hx hb hB cx_inX12 hown hK TH hm0 hk0 rfl ⟨by decide, rfl⟩ 18 (by decide) cw_1211 (fun _ h9 => h9) dX12_comes_95 (fun hv => ?_)
              obtain ⟨xr60, hxr60, hmxr60, hkxr60⟩ : ∃ a : Nat, tw_fv E49 a0 18 = .ref a ∧ a ∈ L ∧ kp a = 318 := hv
              rw [hxr60]
              refine lv_iload_n hx hb dX12_comes_98 rfl (lv_at hl 2 rfl) ?_
              refine tw_aald (k := 318) (t0 := 4) (n := 16) (lo := 328) (hi := 0) (ty := .int) hx hb hK TH hmxr60 hkxr60 (by decide) rfl rfl (i := fv0_27) (vp_in_iff.mpr ⟨by  omega, by  omega⟩) dX12_comes_99 (fun xr61 exr61 hmxr61 hkxr61 => ?_)
              have hkxr61 : kp xr61 = 328 := hkxr61
              refine lv_iload hx hb dX12_comes_100 (lv_at hl 0 rfl) ?_
              refine lv_aload_n hx hb dX12_comes_102 rfl (lv_at hl 3 rfl) ?_
              refine tw_get (ci := 12) (C := RX12) (T := TX12) (N := 64) hx hb hB cx_inX12 hown hK TH hm0 hk0 rfl ⟨by decide, rfl⟩ 18 (by decide) cw_1211 (fun _ h9 => h9) dX12_comes_103 (fun hv => ?_)
              rw [hxr60]
              refine lv_bipush (v := 15) hx hb dX12_comes_106 (by decide) ?_
              refine tw_aald (k := 318) (t0 := 4) (n := 16) (lo := 328) (hi := 0) (ty := .int) hx hb hK TH hmxr60 hkxr60 (by decide) rfl rfl (i := 15) (vp_in_iff.mpr ⟨by have : ((15 : Int32).toInt) = 15 := (by decide); omega, by have : ((15 : Int32).toInt) = 15 := (by decide); omega⟩) dX12_comes_108 (fun xr62 exr62 hmxr62 hkxr62 => ?_)
              have hkxr62 : kp xr62 = 328 := hkxr62
              refine lv_iload_n hx hb dX12_comes_109 rfl (lv_at hl 1 rfl) ?_
              refine tw_iald (k := 328) (t0 := 0) (n := 150) (lo := (-1)) (hi := 149) hx hb hK TH hmxr62 hkxr62 (by decide) rfl rfl (i := y50_3) (vp_in_iff.mpr ⟨by  omega, by  omega⟩) dX12_comes_110 (fun hxe63a hxe63b => ?_)
              obtain ⟨xe63, exe63⟩ : ∃ z : Int32, tw_iv E49 xr62 (Int32.toNatClampNeg y50_3) = z := ⟨_, rfl⟩
              rw [exe63] at hxe63a hxe63b ⊢
              refine lv_iconst (v := (-1)) hx hb dX12_comes_111 (by decide) ?_
              refine lv_icmp_ne (tgt := 119) hx hb dX12_comes_112 (by decide) (fun hc64 => ?_) (fun hc64 => ?_)
              · have hf65 : ¬ (xe63.toInt = (-1)) := fun q => hc64 ((fa_eq _ _).mpr (by have : (((-1) : Int32).toInt) = (-1) := (by decide); omega))
                have rf_xe63 : rw_p E49 a0 (15) (y50_3.toInt).toNat = xe63.toInt := (by have q := rw_p_of (m := a0) (i := (15 : Int32)) (c := y50_3) hxr60 exr62 exe63; rw [show ((15 : Int32).toInt) = 15 from (by decide)] at q; exact q)
                have hp119 := h0_tt_ok.2.2.1 (y50_3.toInt).toNat (by rw [← tw_fi_fr hFc hm0 hk0 (k := 28) (by decide), tw_fi_of hmf55]; omega)
                rw [← (hcg50_1 15 (by decide) (by decide) (by omega)).2, rf_xe63] at hp119
                refine lv_aload_n hx hb dX12_comes_119 rfl (lv_at hl 3 rfl) ?_
                refine tw_get (ci := 12) (C := RX12) (T := TX12) (N := 64) hx hb hB cx_inX12 hown hK TH hm0 hk0 rfl ⟨by decide, rfl⟩ 44 (by decide) cw_1237 (fun _ h9 => h9) dX12_comes_120 (fun hv => ?_)
                rw [hmf57]
                refine lv_aload_n hx hb dX12_comes_123 rfl (lv_at hl 3 rfl) ?_
                refine tw_get (ci := 12) (C := RX12) (T := TX12) (N := 64) hx hb hB cx_inX12 hown hK TH hm0 hk0 rfl ⟨by decide, rfl⟩ 18 (by decide) cw_1211 (fun _ h9 => h9) dX12_comes_124 (fun hv => ?_)
                rw [hxr60]
                refine lv_bipush (v := 15) hx hb dX12_comes_127 (by decide) ?_
                refine tw_aald (k := 318) (t0 := 4) (n := 16) (lo := 328) (hi := 0) (ty := .int) hx hb hK TH hmxr60 hkxr60 (by decide) rfl rfl (i := 15) (vp_in_iff.mpr ⟨by have : ((15 : Int32).toInt) = 15 := (by decide); omega, by have : ((15 : Int32).toInt) = 15 := (by decide); omega⟩) dX12_comes_129 (fun xr66 exr66 hmxr66 hkxr66 => ?_)
                have ezxr66 : xr62 = xr66 := exr62.symm.trans exr66
                subst ezxr66
                refine lv_iload_n hx hb dX12_comes_130 rfl (lv_at hl 1 rfl) ?_
                refine tw_iald (k := 328) (t0 := 0) (n := 150) (lo := (-1)) (hi := 149) hx hb hK TH hmxr62 hkxr62 (by decide) rfl rfl (i := y50_3) (vp_in_iff.mpr ⟨by  omega, by  omega⟩) dX12_comes_131 (fun hxe67a hxe67b => ?_)
                rw [exe63]
                refine tw_iald (k := 353) (t0 := 0) (n := 24) (lo := (-1)) (hi := 149) hx hb hK TH hmxr31 hkxr31 (by decide) rfl rfl (i := xe63) (vp_in_iff.mpr ⟨by  omega, by  omega⟩) dX12_comes_132 (fun hxe68a hxe68b => ?_)
                obtain ⟨xe68, exe68⟩ : ∃ z : Int32, tw_iv E49 xr31 (Int32.toNatClampNeg xe63) = z := ⟨_, rfl⟩
                rw [exe68] at hxe68a hxe68b ⊢
                have TH0 := TH
                refine tw_iast (k := 328) (n := 150) (lo := (-1)) (hi := 149) hx hb hK TH hS hmxr61 hkxr61 (by decide) rfl (i := xe32) (x := xe68) (vp_in_iff.mpr ⟨by  omega, by  omega⟩) (by omega) (by omega) dX12_comes_133 (fun H locs E69 TH hS hp70 hp71 hp72 => ?_)
                have hst73 : tw_fr kp L [] [328] E49 E69 := tw_fr.ast tw_fr.rf (fun _ => hkxr61) hp70 hp71 (by decide)
                have hF := hF.tr hst73 (fun _ h => ⟨h, rfl⟩) (by decide) (by decide)
                have hFc := hFc.tr hst73 (fun _ h => ⟨h, rfl⟩) (by decide) (by decide)
                have hG50 := hG50.tr hst73 (fun _ h => ⟨h, rfl⟩) (by decide) (by decide)
                have hmf74 : tw_fv E69 a0 27 = .int fv0_27 := (hst73.1 a0 27 hm0 (by rw [hk0]; decide)).trans hmf54
                have hmf75 : tw_fv E69 a0 28 = .int xi1 := (hst73.1 a0 28 hm0 (by rw [hk0]; decide)).trans hmf55
                have hmf76 : tw_fv E69 a0 26 = .int u7_0_26 := (hst73.1 a0 26 hm0 (by rw [hk0]; decide)).trans hmf56
                have hmf77 : tw_fv E69 a0 44 = .ref xr31 := (hst73.1 a0 44 hm0 (by rw [hk0]; decide)).trans hmf57
                have hmf78 : tw_fv E69 a0 16 = .ref xr33 := (hst73.1 a0 16 hm0 (by rw [hk0]; decide)).trans hmf58
                have hmf79 : tw_fv E69 a0 17 = .ref xr45 := (hst73.1 a0 17 hm0 (by rw [hk0]; decide)).trans hmf59
                have hmf80 : tw_fv E69 a0 18 = .ref xr60 := (hst73.1 a0 18 hm0 (by rw [hk0]; decide)).trans hxr60
                have hcg50_0_o := hcg50_0
                have hcg50_1_o := hcg50_1
                have hcg50_2_o := hcg50_2
                have hcg50_3_o := hcg50_3
                have hcg50_4_o := hcg50_4
                have hcg50_5_o := hcg50_5
                have hcg50_6_o := hcg50_6
                have hcg50_0 : rd_ok E69 a0 := rd_ok_fr TH hst73 hm0 hk0 (by decide) (by decide) hcg50_0
                have hcg50_1 : ot_ok E69 a0 (fv0_27.toInt) E := ot_ok_p (i := fv0_27) TH hm0 hk0 hcg50_0_o hxr60 exr61 hkxr60 hkxr61 hp70 hp71 (by omega) (by omega) hcg50_1_o
                have hcg50_2 : nbp_ok E69 a0 (u7_0_26.toInt) := nbp_ok_fr TH hst73 hm0 hk0 (by decide) (by decide) hcg50_2
                have hcg50_3 : nz_ok E69 a0 (xi1.toInt) := nz_ok_fr TH hst73 hm0 hk0 (by decide) (by decide) hcg50_3
                have hcg50_4 : n0_ok E69 a0 (tw_el E a0 44 0) := n0_ok_fr TH hst73 hm0 hk0 (by decide) (by decide) hcg50_4
                have hcg50_5 : ch_ok E69 a0 (fv0_27.toInt) (y50_3.toInt + 1) := ch_ok_fr TH hst73 hm0 hk0 (by decide) (by decide) (by omega) hcg50_5
                have hcg50_6 : cq_ok E69 a0 (fv0_27.toInt) (y50_3.toInt + 1) := (by have rf_xe63 : rw_p E49 a0 (15) (y50_3.toInt).toNat = xe63.toInt := (by have q := rw_p_of (m := a0) (i := (15 : Int32)) (c := y50_3) hxr60 exr62 exe63; rw [show ((15 : Int32).toInt) = 15 from (by decide)] at q; exact q); have rf_xe68 : tw_el E49 a0 44 (xe63.toInt).toNat = xe68.toInt := (by rw [tw_el_of hmf57]; exact congrArg Int32.toInt exe68); have f44 := el_fr TH0 hF66 hm0 hk0 (k := 44) (by decide) rfl (by decide) (by decide) (by decide);  exact cq_push (n := xe32.toInt) (v := xe68.toInt) hcg50_6_o hcg50_2_o (by rw [tw_fi_of hmf55]; exact nz_ok_cast (by omega) hcg50_3_o) (by rw [tw_fi_of hmf55]; omega) (by omega) rfl (by rw [f44]; exact rf_xe32) (by rw [rf_xe63]; rw [if_neg (by omega), rf_xe68]) (tw_el_fr TH hst73 hm0 hk0 (by decide) (by decide) (k := 44) rfl (by decide) (by decide) (by decide)) (rw_p_oth (j := 15) hcg50_0_o hxr60 exr61 hkxr60 hkxr61 hp70 hp71 (by have hcl : (fv0_27).toNatClampNeg = (fv0_27).toInt.toNat := rfl; omega) (by decide) (by have hcl : (fv0_27).toNatClampNeg = (fv0_27).toInt.toNat := rfl; omega)) (by intro c; have w := rw_p_st (m := a0) (i := fv0_27) (c := xe32) hxr60 exr61 hkxr60 hkxr61 hp70 hp71 hp72 c; rw [w]))
                refine lv_aload_n hx hb dX12_comes_134 rfl (lv_at hl 3 rfl) ?_
                refine tw_get (ci := 12) (C := RX12) (T := TX12) (N := 64) hx hb hB cx_inX12 hown hK TH hm0 hk0 rfl ⟨by decide, rfl⟩ 19 (by decide) cw_1212 (fun _ h9 => h9) dX12_comes_135 (fun hv => ?_)
                obtain ⟨xr81, hxr81, hmxr81, hkxr81⟩ : ∃ a : Nat, tw_fv E69 a0 19 = .ref a ∧ a ∈ L ∧ kp a = 319 := hv
                rw [hxr81]
                refine lv_iload_n hx hb dX12_comes_138 rfl (lv_at hl 2 rfl) ?_
                refine tw_aald (k := 319) (t0 := 4) (n := 16) (lo := 329) (hi := 0) (ty := .int) hx hb hK TH hmxr81 hkxr81 (by decide) rfl rfl (i := fv0_27) (vp_in_iff.mpr ⟨by  omega, by  omega⟩) dX12_comes_139 (fun xr82 exr82 hmxr82 hkxr82 => ?_)
                have hkxr82 : kp xr82 = 329 := hkxr82
                refine lv_iload hx hb dX12_comes_140 (lv_at hl 0 rfl) ?_
                refine lv_iload_n hx hb dX12_comes_142 rfl (lv_at hl 1 rfl) ?_
                refine tw_iast (k := 329) (n := 150) (lo := (-2147483648)) (hi := 2147483647) hx hb hK TH hS hmxr82 hkxr82 (by decide) rfl (i := xe32) (x := y50_3) (vp_in_iff.mpr ⟨by  omega, by  omega⟩) (ia_lo _) (ia_hi _) dX12_comes_143 (fun H locs E83 TH hS hp84 hp85 hp86 => ?_)
                have hst87 : tw_fr kp L [] [329] E69 E83 := tw_fr.ast tw_fr.rf (fun _ => hkxr82) hp84 hp85 (by decide)
                have hF := hF.tr hst87 (fun _ h => ⟨h, rfl⟩) (by decide) (by decide)
                have hFc := hFc.tr hst87 (fun _ h => ⟨h, rfl⟩) (by decide) (by decide)
                have hG50 := hG50.tr hst87 (fun _ h => ⟨h, rfl⟩) (by decide) (by decide)
                have hmf88 : tw_fv E83 a0 27 = .int fv0_27 := (hst87.1 a0 27 hm0 (by rw [hk0]; decide)).trans hmf74
                have hmf89 : tw_fv E83 a0 28 = .int xi1 := (hst87.1 a0 28 hm0 (by rw [hk0]; decide)).trans hmf75
                have hmf90 : tw_fv E83 a0 26 = .int u7_0_26 := (hst87.1 a0 26 hm0 (by rw [hk0]; decide)).trans hmf76
                have hmf91 : tw_fv E83 a0 44 = .ref xr31 := (hst87.1 a0 44 hm0 (by rw [hk0]; decide)).trans hmf77
                have hmf92 : tw_fv E83 a0 16 = .ref xr33 := (hst87.1 a0 16 hm0 (by rw [hk0]; decide)).trans hmf78
                have hmf93 : tw_fv E83 a0 17 = .ref xr45 := (hst87.1 a0 17 hm0 (by rw [hk0]; decide)).trans hmf79
                have hmf94 : tw_fv E83 a0 18 = .ref xr60 := (hst87.1 a0 18 hm0 (by rw [hk0]; decide)).trans hmf80
                have hmf95 : tw_fv E83 a0 19 = .ref xr81 := (hst87.1 a0 19 hm0 (by rw [hk0]; decide)).trans hxr81
                have hcg50_0 : rd_ok E83 a0 := rd_ok_fr TH hst87 hm0 hk0 (by decide) (by decide) hcg50_0
                have hcg50_1 : ot_ok E83 a0 (fv0_27.toInt) E := ot_ok_fr TH hst87 hm0 hk0 (by decide) (by decide) hcg50_1
                have hcg50_2 : nbp_ok E83 a0 (u7_0_26.toInt) := nbp_ok_fr TH hst87 hm0 hk0 (by decide) (by decide) hcg50_2
                have hcg50_3 : nz_ok E83 a0 (xi1.toInt) := nz_ok_fr TH hst87 hm0 hk0 (by decide) (by decide) hcg50_3
                have hcg50_4 : n0_ok E83 a0 (tw_el E a0 44 0) := n0_ok_fr TH hst87 hm0 hk0 (by decide) (by decide) hcg50_4
                have hcg50_5 : ch_ok E83 a0 (fv0_27.toInt) (y50_3.toInt + 1) := ch_ok_fr TH hst87 hm0 hk0 (by decide) (by decide) (by omega) hcg50_5
                have hcg50_6 : cq_ok E83 a0 (fv0_27.toInt) (y50_3.toInt + 1) := cq_ok_fr TH hst87 hm0 hk0 (by decide) (by decide) (by omega) hcg50_6
                obtain ⟨zi96, ezi96⟩ : ∃ z : Int32, z = y50_3 + Int32.ofInt 1 := ⟨_, rfl⟩
                have hzi96 : zi96.toInt = y50_3.toInt + 1 := by rw [ezi96]; have : ((Int32.ofInt 1).toInt) = 1 := (by decide);  exact (ia_add (by omega) (by omega)).trans (by omega)
                refine lv_iinc (v := zi96) (lv' := [(3, .int zi96), (4, .int xe32), (2, .int fv0_27), (0, .ref a0), (1, .int x1)]) hx hb dX12_comes_144 hl (k := 1) rfl ezi96.symm (by decide) rfl (fun ls hl => ?_)
                refine lv_goto (tgt := 50) hx hb dX12_comes_147 (by decide) ?_
                exact ih50 (n50 - 1) (by   omega) zi96 _ _ _ ls (by omega) (by omega) (by  omega) (by  omega) (by   omega) hG50 hcg50_0 hcg50_1 hcg50_2 hcg50_3 hcg50_4 (ch_ok_cast (by  omega) hcg50_5) (cq_ok_cast (by  omega) hcg50_6) TH hS (lv_sub hl [0, 2, 3, 4] rfl)
              · have hf97 : xe63.toInt = (-1) := by have z := (fa_eq _ _).mp hc64; have : (((-1) : Int32).toInt) = (-1) := (by decide); omega
                refine lv_iconst (v := (-1)) hx hb dX12_comes_115 (by decide) ?_
                refine lv_goto (tgt := 133) hx hb dX12_comes_116 (by decide) ?_
                have TH0 := TH
                refine tw_iast (k := 328) (n := 150) (lo := (-1)) (hi := 149) hx hb hK TH hS hmxr61 hkxr61 (by decide) rfl (i := xe32) (x := (-1)) (vp_in_iff.mpr ⟨by  omega, by  omega⟩) (by have : (((-1) : Int32).toInt) = (-1) := (by decide); omega) (by have : (((-1) : Int32).toInt) = (-1) := (by decide); omega) dX12_comes_133 (fun H locs E98 TH hS hp99 hp100 hp101 => ?_)
                have hst102 : tw_fr kp L [] [328] E49 E98 := tw_fr.ast tw_fr.rf (fun _ => hkxr61) hp99 hp100 (by decide)
                have hF := hF.tr hst102 (fun _ h => ⟨h, rfl⟩) (by decide) (by decide)
                have hFc := hFc.tr hst102 (fun _ h => ⟨h, rfl⟩) (by decide) (by decide)
                have hG50 := hG50.tr hst102 (fun _ h => ⟨h, rfl⟩) (by decide) (by decide)
                have hmf103 : tw_fv E98 a0 27 = .int fv0_27 := (hst102.1 a0 27 hm0 (by rw [hk0]; decide)).trans hmf54
                have hmf104 : tw_fv E98 a0 28 = .int xi1 := (hst102.1 a0 28 hm0 (by rw [hk0]; decide)).trans hmf55
                have hmf105 : tw_fv E98 a0 26 = .int u7_0_26 := (hst102.1 a0 26 hm0 (by rw [hk0]; decide)).trans hmf56
                have hmf106 : tw_fv E98 a0 44 = .ref xr31 := (hst102.1 a0 44 hm0 (by rw [hk0]; decide)).trans hmf57
                have hmf107 : tw_fv E98 a0 16 = .ref xr33 := (hst102.1 a0 16 hm0 (by rw [hk0]; decide)).trans hmf58
                have hmf108 : tw_fv E98 a0 17 = .ref xr45 := (hst102.1 a0 17 hm0 (by rw [hk0]; decide)).trans hmf59
                have hmf109 : tw_fv E98 a0 18 = .ref xr60 := (hst102.1 a0 18 hm0 (by rw [hk0]; decide)).trans hxr60
                have hcg50_0_o := hcg50_0
                have hcg50_1_o := hcg50_1
                have hcg50_2_o := hcg50_2
                have hcg50_3_o := hcg50_3
                have hcg50_4_o := hcg50_4
                have hcg50_5_o := hcg50_5
                have hcg50_6_o := hcg50_6
                have hcg50_0 : rd_ok E98 a0 := rd_ok_fr TH hst102 hm0 hk0 (by decide) (by decide) hcg50_0
                have hcg50_1 : ot_ok E98 a0 (fv0_27.toInt) E := ot_ok_p (i := fv0_27) TH hm0 hk0 hcg50_0_o hxr60 exr61 hkxr60 hkxr61 hp99 hp100 (by omega) (by omega) hcg50_1_o
                have hcg50_2 : nbp_ok E98 a0 (u7_0_26.toInt) := nbp_ok_fr TH hst102 hm0 hk0 (by decide) (by decide) hcg50_2
                have hcg50_3 : nz_ok E98 a0 (xi1.toInt) := nz_ok_fr TH hst102 hm0 hk0 (by decide) (by decide) hcg50_3
                have hcg50_4 : n0_ok E98 a0 (tw_el E a0 44 0) := n0_ok_fr TH hst102 hm0 hk0 (by decide) (by decide) hcg50_4
                have hcg50_5 : ch_ok E98 a0 (fv0_27.toInt) (y50_3.toInt + 1) := ch_ok_fr TH hst102 hm0 hk0 (by decide) (by decide) (by omega) hcg50_5
                have hcg50_6 : cq_ok E98 a0 (fv0_27.toInt) (y50_3.toInt + 1) := (by have rf_xe63 : rw_p E49 a0 (15) (y50_3.toInt).toNat = xe63.toInt := (by have q := rw_p_of (m := a0) (i := (15 : Int32)) (c := y50_3) hxr60 exr62 exe63; rw [show ((15 : Int32).toInt) = 15 from (by decide)] at q; exact q); have f44 := el_fr TH0 hF66 hm0 hk0 (k := 44) (by decide) rfl (by decide) (by decide) (by decide);  exact cq_push (n := xe32.toInt) (v := (-1)) hcg50_6_o hcg50_2_o (by rw [tw_fi_of hmf55]; exact nz_ok_cast (by omega) hcg50_3_o) (by rw [tw_fi_of hmf55]; omega) (by omega) rfl (by rw [f44]; exact rf_xe32) (by rw [rf_xe63]; rw [if_pos (by omega)]) (tw_el_fr TH hst102 hm0 hk0 (by decide) (by decide) (k := 44) rfl (by decide) (by decide) (by decide)) (rw_p_oth (j := 15) hcg50_0_o hxr60 exr61 hkxr60 hkxr61 hp99 hp100 (by have hcl : (fv0_27).toNatClampNeg = (fv0_27).toInt.toNat := rfl; omega) (by decide) (by have hcl : (fv0_27).toNatClampNeg = (fv0_27).toInt.toNat := rfl; omega)) (by intro c; have w := rw_p_st (m := a0) (i := fv0_27) (c := xe32) hxr60 exr61 hkxr60 hkxr61 hp99 hp100 hp101 c; rw [w]; (by_cases e : c = (xe32.toInt).toNat; (rw [if_pos e, if_pos e]; decide); (rw [if_neg e, if_neg e]))))
                refine lv_aload_n hx hb dX12_comes_134 rfl (lv_at hl 3 rfl) ?_
                refine tw_get (ci := 12) (C := RX12) (T := TX12) (N := 64) hx hb hB cx_inX12 hown hK TH hm0 hk0 rfl ⟨by decide, rfl⟩ 19 (by decide) cw_1212 (fun _ h9 => h9) dX12_comes_135 (fun hv => ?_)
                obtain ⟨xr110, hxr110, hmxr110, hkxr110⟩ : ∃ a : Nat, tw_fv E98 a0 19 = .ref a ∧ a ∈ L ∧ kp a = 319 := hv
                rw [hxr110]
                refine lv_iload_n hx hb dX12_comes_138 rfl (lv_at hl 2 rfl) ?_
                refine tw_aald (k := 319) (t0 := 4) (n := 16) (lo := 329) (hi := 0) (ty := .int) hx hb hK TH hmxr110 hkxr110 (by decide) rfl rfl (i := fv0_27) (vp_in_iff.mpr ⟨by  omega, by  omega⟩) dX12_comes_139 (fun xr111 exr111 hmxr111 hkxr111 => ?_)
                have hkxr111 : kp xr111 = 329 := hkxr111
                refine lv_iload hx hb dX12_comes_140 (lv_at hl 0 rfl) ?_
                refine lv_iload_n hx hb dX12_comes_142 rfl (lv_at hl 1 rfl) ?_
                refine tw_iast (k := 329) (n := 150) (lo := (-2147483648)) (hi := 2147483647) hx hb hK TH hS hmxr111 hkxr111 (by decide) rfl (i := xe32) (x := y50_3) (vp_in_iff.mpr ⟨by  omega, by  omega⟩) (ia_lo _) (ia_hi _) dX12_comes_143 (fun H locs E112 TH hS hp113 hp114 hp115 => ?_)
                have hst116 : tw_fr kp L [] [329] E98 E112 := tw_fr.ast tw_fr.rf (fun _ => hkxr111) hp113 hp114 (by decide)
                have hF := hF.tr hst116 (fun _ h => ⟨h, rfl⟩) (by decide) (by decide)
                have hFc := hFc.tr hst116 (fun _ h => ⟨h, rfl⟩) (by decide) (by decide)
                have hG50 := hG50.tr hst116 (fun _ h => ⟨h, rfl⟩) (by decide) (by decide)
                have hmf117 : tw_fv E112 a0 27 = .int fv0_27 := (hst116.1 a0 27 hm0 (by rw [hk0]; decide)).trans hmf103
                have hmf118 : tw_fv E112 a0 28 = .int xi1 := (hst116.1 a0 28 hm0 (by rw [hk0]; decide)).trans hmf104
                have hmf119 : tw_fv E112 a0 26 = .int u7_0_26 := (hst116.1 a0 26 hm0 (by rw [hk0]; decide)).trans hmf105
                have hmf120 : tw_fv E112 a0 44 = .ref xr31 := (hst116.1 a0 44 hm0 (by rw [hk0]; decide)).trans hmf106
                have hmf121 : tw_fv E112 a0 16 = .ref xr33 := (hst116.1 a0 16 hm0 (by rw [hk0]; decide)).trans hmf107
                have hmf122 : tw_fv E112 a0 17 = .ref xr45 := (hst116.1 a0 17 hm0 (by rw [hk0]; decide)).trans hmf108
                have hmf123 : tw_fv E112 a0 18 = .ref xr60 := (hst116.1 a0 18 hm0 (by rw [hk0]; decide)).trans hmf109
                have hmf124 : tw_fv E112 a0 19 = .ref xr110 := (hst116.1 a0 19 hm0 (by rw [hk0]; decide)).trans hxr110
                have hcg50_0 : rd_ok E112 a0 := rd_ok_fr TH hst116 hm0 hk0 (by decide) (by decide) hcg50_0
                have hcg50_1 : ot_ok E112 a0 (fv0_27.toInt) E := ot_ok_fr TH hst116 hm0 hk0 (by decide) (by decide) hcg50_1
                have hcg50_2 : nbp_ok E112 a0 (u7_0_26.toInt) := nbp_ok_fr TH hst116 hm0 hk0 (by decide) (by decide) hcg50_2
                have hcg50_3 : nz_ok E112 a0 (xi1.toInt) := nz_ok_fr TH hst116 hm0 hk0 (by decide) (by decide) hcg50_3
                have hcg50_4 : n0_ok E112 a0 (tw_el E a0 44 0) := n0_ok_fr TH hst116 hm0 hk0 (by decide) (by decide) hcg50_4
                have hcg50_5 : ch_ok E112 a0 (fv0_27.toInt) (y50_3.toInt + 1) := ch_ok_fr TH hst116 hm0 hk0 (by decide) (by decide) (by omega) hcg50_5
                have hcg50_6 : cq_ok E112 a0 (fv0_27.toInt) (y50_3.toInt + 1) := cq_ok_fr TH hst116 hm0 hk0 (by decide) (by decide) (by omega) hcg50_6
                obtain ⟨zi125, ezi125⟩ : ∃ z : Int32, z = y50_3 + Int32.ofInt 1 := ⟨_, rfl⟩
                have hzi125 : zi125.toInt = y50_3.toInt + 1 := by rw [ezi125]; have : ((Int32.ofInt 1).toInt) = 1 := (by decide);  exact (ia_add (by omega) (by omega)).trans (by omega)
                refine lv_iinc (v := zi125) (lv' := [(3, .int zi125), (4, .int xe32), (2, .int fv0_27), (0, .ref a0), (1, .int x1)]) hx hb dX12_comes_144 hl (k := 1) rfl ezi125.symm (by decide) rfl (fun ls hl => ?_)
                refine lv_goto (tgt := 50) hx hb dX12_comes_147 (by decide) ?_
                exact ih50 (n50 - 1) (by   omega) zi125 _ _ _ ls (by omega) (by omega) (by  omega) (by  omega) (by   omega) hG50 hcg50_0 hcg50_1 hcg50_2 hcg50_3 hcg50_4 (ch_ok_cast (by  omega) hcg50_5) (cq_ok_cast (by  omega) hcg50_6) TH hS (lv_sub hl [0, 2, 3, 4] rfl)
        exact hJ50 25 (0 : Int32) _ _ _ ls (by have : ((0 : Int32).toInt) = 0 := (by decide); omega) (by have : ((0 : Int32).toInt) = 0 := (by decide); omega) (by have : ((0 : Int32).toInt) = 0 := (by decide); omega) (by have : ((0 : Int32).toInt) = 0 := (by decide); omega) (by have : ((0 : Int32).toInt) = 0 := (by decide);  omega) tw_fr.rf hcg7_0 hcg7_1 hcg7_2 (nz_ok_cast (by have : ((0 : Int32).toInt) = 0 := (by decide); omega) hcg7_4) hcg7_5 (ch_ok_cast (by have : ((0 : Int32).toInt) = 0 := (by decide); omega) hch48) (cq_ok_cast (by have : ((0 : Int32).toInt) = 0 := (by decide); omega) hcq48) TH hS (lv_sub hl [0, 1, 2, 3] rfl)
      · have hf126 : ¬ (xi1.toInt ≤ y7_3.toInt) := fun q => hc4 ((fa_le _ _).mpr (by  omega))
        refine lv_aload_n hx hb dX12_comes_15 rfl (lv_at hl 2 rfl) ?_
        refine tw_get (ci := 12) (C := RX12) (T := TX12) (N := 64) hx hb hB cx_inX12 hown hK TH hm0 hk0 rfl ⟨by decide, rfl⟩ 44 (by decide) cw_1237 (fun _ h9 => h9) dX12_comes_16 (fun hv => ?_)
        obtain ⟨xr127, hxr127, hmxr127, hkxr127⟩ : ∃ a : Nat, tw_fv Eg7 a0 44 = .ref a ∧ a ∈ L ∧ kp a = 353 := hv
        rw [hxr127]
        refine lv_iload_n hx hb dX12_comes_19 rfl (lv_at hl 0 rfl) ?_
        refine tw_iald (k := 353) (t0 := 0) (n := 24) (lo := (-1)) (hi := 149) hx hb hK TH hmxr127 hkxr127 (by decide) rfl rfl (i := y7_3) (vp_in_iff.mpr ⟨by  omega, by  omega⟩) dX12_comes_20 (fun hxe128a hxe128b => ?_)
        obtain ⟨xe128, exe128⟩ : ∃ z : Int32, tw_iv Eg7 xr127 (Int32.toNatClampNeg y7_3) = z := ⟨_, rfl⟩
        rw [exe128] at hxe128a hxe128b ⊢
        refine lv_iconst (v := (-1)) hx hb dX12_comes_21 (by decide) ?_
        refine lv_icmp_ne (tgt := 42) hx hb dX12_comes_22 (by decide) (fun hc129 => ?_) (fun hc129 => ?_)
        · have hf130 : ¬ (xe128.toInt = (-1)) := fun q => hc129 ((fa_eq _ _).mpr (by have : (((-1) : Int32).toInt) = (-1) := (by decide); omega))
          have rf_xe128 : tw_el Eg7 a0 44 (y7_3.toInt).toNat = xe128.toInt := (by rw [tw_el_of hxr127]; exact congrArg Int32.toInt exe128)
          have hnz42 : nz_ok Eg7 a0 (y7_3.toInt + 1) := nz_skip hcg7_4 (by omega) rfl (by rw [rf_xe128]; omega)
          obtain ⟨zi131, ezi131⟩ : ∃ z : Int32, z = y7_3 + Int32.ofInt 1 := ⟨_, rfl⟩
          have hzi131 : zi131.toInt = y7_3.toInt + 1 := by rw [ezi131]; have : ((Int32.ofInt 1).toInt) = 1 := (by decide);  exact (ia_add (by omega) (by omega)).trans (by omega)
          refine lv_iinc (v := zi131) (lv' := [(3, .int zi131), (2, .int fv0_27), (0, .ref a0), (1, .int x1)]) hx hb dX12_comes_42 hl (k := 0) rfl ezi131.symm (by decide) rfl (fun ls hl => ?_)
          refine lv_goto (tgt := 7) hx hb dX12_comes_45 (by decide) ?_
          exact ih7 (n7 - 1) (by   omega) zi131 u7_0_26 _ _ _ ls (by omega) (by omega) (by omega) (by omega) (by  omega) (by  omega) (by   omega) hfm7_0 hG7 hcg7_0 hcg7_1 hcg7_2 hcg7_3 (nz_ok_cast (by  omega) hnz42) hcg7_5 TH hS (lv_sub hl [0, 1, 2, 3] rfl)
        · have hf132 : xe128.toInt = (-1) := by have z := (fa_eq _ _).mp hc129; have : (((-1) : Int32).toInt) = (-1) := (by decide); omega
          have rf_xe128 : tw_el Eg7 a0 44 (y7_3.toInt).toNat = xe128.toInt := (by rw [tw_el_of hxr127]; exact congrArg Int32.toInt exe128)
          have hneg : tw_el Eg7 a0 44 (y7_3.toInt).toNat = -1 := (by rw [rf_xe128]; omega)
          have hpos := nr_pos (f := tw_el Eg7 a0 44) (N := xi1.toInt) (k := y7_3.toInt) (by omega) (by omega) hneg
          have hnc := hcg7_3
          unfold nc2_ok at hnc
          rw [tw_fi_of hfm7_0, tw_fi_of hmf3] at hnc
          have hE25 : tw_el Eg7 a0 44 = tw_el Eg7 a0 44 := rfl
          refine lv_aload_n hx hb dX12_comes_25 rfl (lv_at hl 2 rfl) ?_
          refine tw_get (ci := 12) (C := RX12) (T := TX12) (N := 64) hx hb hB cx_inX12 hown hK TH hm0 hk0 rfl ⟨by decide, rfl⟩ 44 (by decide) cw_1237 (fun _ h9 => h9) dX12_comes_26 (fun hv => ?_)
          rw [hxr127]
          refine lv_iload_n hx hb dX12_comes_29 rfl (lv_at hl 0 rfl) ?_
          refine lv_aload_n hx hb dX12_comes_30 rfl (lv_at hl 2 rfl) ?_
          refine lv_aload_n hx hb dX12_comes_31 rfl (lv_at hl 2 rfl) ?_
          refine tw_get (ci := 12) (C := RX12) (T := TX12) (N := 64) hx hb hB cx_inX12 hown hK TH hm0 hk0 rfl ⟨by decide, rfl⟩ 22 (by decide) cw_1215 (fun _ h9 => h9) dX12_comes_32 (fun hv => ?_)
          obtain ⟨xr133, hxr133, hmxr133, hkxr133⟩ : ∃ a : Nat, tw_fv Eg7 a0 22 = .ref a ∧ a ∈ L ∧ kp a = 332 := hv
          rw [hxr133]
          refine lv_iload_n hx hb dX12_comes_35 rfl (lv_at hl 0 rfl) ?_
          refine tw_iald (k := 332) (t0 := 0) (n := 24) (lo := 0) (hi := 9) hx hb hK TH hmxr133 hkxr133 (by decide) rfl rfl (i := y7_3) (vp_in_iff.mpr ⟨by  omega, by  omega⟩) dX12_comes_36 (fun hxe134a hxe134b => ?_)
          obtain ⟨xe134, exe134⟩ : ∃ z : Int32, tw_iv Eg7 xr133 (Int32.toNatClampNeg y7_3) = z := ⟨_, rfl⟩
          rw [exe134] at hxe134a hxe134b ⊢
          refine lv_iload_n hx hb dX12_comes_37 rfl (lv_at hl 1 rfl) ?_
          have hb38 := trivial
          refine tw_Vc (o := a0) (ci := 12) (n := 2) (post := (fun v kq Lq Eq => (∃ x : Int32, v = some (.int x) ∧ 0 ≤ x.toInt ∧ x.toInt ≤ 149 ∧ (x.toInt = u7_0_26.toInt) ∧ (∃ z0 : Int32, tw_fv Eq a0 26 = .int z0 ∧ (z0.toInt = u7_0_26.toInt + 1))) ∧ kp = kq ∧ L = Lq ∧ tw_fr kp L [(12, 26)] [330, 331] Eg7 Eq)) (As := [.int xe134, .int fv0_27]) (rest := [.int y7_3, .ref xr127]) ⟨hx, hb, hml, hown, hB⟩ (fun sz => tX12_newNode l D cs a0 xe134 fv0_27 u7_0_26 hm0 hk0 (by omega) (by omega) (by omega) (by omega) hfm7_0 (by  omega) sz) cg_12_342_X12_newNode rfl rfl (by decide +kernel) ⟨Nat.le_of_ble_eq_true rfl, Nat.le_of_ble_eq_true rfl⟩ hK hN TH hS hA rfl hm0 hk0 (by decide) rfl hl.1 rfl (Nat.le_of_ble_eq_true rfl) dX12_comes_38 ⟨Nat.le_of_ble_eq_true rfl, Nat.le_of_ble_eq_true rfl⟩ (fun v135 kp135 L135 E135 H locs hq135 hx135 TH hS => ?_)
          obtain ⟨⟨xc136, rfl, hxc136a, hxc136b, hpoxc136_0, ⟨zfxc136_0_0, hzfxc136_0_0, hzpxc136_0⟩⟩, rfl, rfl, hst135⟩ := hq135
          have hF := hF.tr hst135 (fun _ h => ⟨h, rfl⟩) (by decide) (by decide)
          have hF7 := hF7.tr hst135 (fun _ h => ⟨h, rfl⟩) (by decide) (by decide)
          have hFc := hFc.tr hst135 (fun _ h => ⟨h, rfl⟩) (by decide) (by decide)
          have hG7 := hG7.tr hst135 (fun _ h => ⟨h, rfl⟩) (by decide) (by decide)
          have hmf137 : tw_fv E135 a0 27 = .int fv0_27 := (hst135.1 a0 27 hm0 (by rw [hk0]; decide)).trans hmf2
          have hmf138 : tw_fv E135 a0 28 = .int xi1 := (hst135.1 a0 28 hm0 (by rw [hk0]; decide)).trans hmf3
          have hmf139 : tw_fv E135 a0 44 = .ref xr127 := (hst135.1 a0 44 hm0 (by rw [hk0]; decide)).trans hxr127
          have hmf140 : tw_fv E135 a0 22 = .ref xr133 := (hst135.1 a0 22 hm0 (by rw [hk0]; decide)).trans hxr133
          have hcg7_0 : rd_ok E135 a0 := rd_ok_fr TH hst135 hm0 hk0 (by decide) (by decide) hcg7_0
          have hcg7_1 : ot_ok E135 a0 (fv0_27.toInt) E := ot_ok_fr TH hst135 hm0 hk0 (by decide) (by decide) hcg7_1
          have hcg7_2 : nbp_ok E135 a0 (u7_0_26.toInt) := nbp_ok_fr TH hst135 hm0 hk0 (by decide) (by decide) hcg7_2
          have hcg7_4 : nz_ok E135 a0 (y7_3.toInt) := nz_ok_fr TH hst135 hm0 hk0 (by decide) (by decide) hcg7_4
          have hcg7_5 : n0_ok E135 a0 (tw_el E a0 44 0) := n0_ok_fr TH hst135 hm0 hk0 (by decide) (by decide) hcg7_5
          obtain ⟨qzfxc136_0_0, hqzfxc136_0_0, hqzfxc136_0_0a, hqzfxc136_0_0b⟩ := tw_rd TH hm0 hk0 (by decide) (by decide) (k := 26) rfl
          have eqzfxc136_0_0 : qzfxc136_0_0 = zfxc136_0_0 := by have q := hqzfxc136_0_0.symm.trans hzfxc136_0_0; injection q
          rw [eqzfxc136_0_0] at hqzfxc136_0_0a hqzfxc136_0_0b
          refine W.eq (g2 := F0 m 41 ls [.int xc136, .int y7_3, .ref xr127]) rfl ?_
          have hneg41 : tw_el E135 a0 44 (y7_3.toInt).toNat = -1 := (by rw [tw_el_fr TH hst135 hm0 hk0 (by decide) (by decide) (k := 44) rfl (by decide) (by decide) (by decide)]; exact hneg)
          have hn44 := el_fr TH hst135 hm0 hk0 (k := 44) (by decide) rfl (by decide) (by decide) (by decide)
          refine tw_iast (k := 353) (n := 24) (lo := (-1)) (hi := 149) hx hb hK TH hS hmxr127 hkxr127 (by decide) rfl (i := y7_3) (x := xc136) (vp_in_iff.mpr ⟨by  omega, by  omega⟩) (by omega) (by omega) dX12_comes_41 (fun H locs E141 TH hS hp142 hp143 hp144 => ?_)
          have hst145 : tw_fr kp L [] [353] E135 E141 := tw_fr.ast tw_fr.rf (fun _ => hkxr127) hp142 hp143 (by decide)
          have hF := hF.tr hst145 (fun _ h => ⟨h, rfl⟩) (by decide) (by decide)
          have hF7 := hF7.tr hst145 (fun _ h => ⟨h, rfl⟩) (by decide) (by decide)
          have hFc := hFc.tr hst145 (fun _ h => ⟨h, rfl⟩) (by decide) (by decide)
          have hG7 := hG7.tr hst145 (fun _ h => ⟨h, rfl⟩) (by decide) (by decide)
          have hmf146 : tw_fv E141 a0 27 = .int fv0_27 := (hst145.1 a0 27 hm0 (by rw [hk0]; decide)).trans hmf137
          have hmf147 : tw_fv E141 a0 28 = .int xi1 := (hst145.1 a0 28 hm0 (by rw [hk0]; decide)).trans hmf138
          have hmf148 : tw_fv E141 a0 44 = .ref xr127 := (hst145.1 a0 44 hm0 (by rw [hk0]; decide)).trans hmf139
          have hmf149 : tw_fv E141 a0 22 = .ref xr133 := (hst145.1 a0 22 hm0 (by rw [hk0]; decide)).trans hmf140
          have hmf150 : tw_fv E141 a0 26 = .int zfxc136_0_0 := (hst145.1 a0 26 hm0 (by rw [hk0]; decide)).trans hzfxc136_0_0
          have hcg7_0_o := hcg7_0
          have hcg7_1_o := hcg7_1
          have hcg7_2_o := hcg7_2
          have hcg7_4_o := hcg7_4
          have hcg7_5_o := hcg7_5
          have hcg7_0 : rd_ok E141 a0 := rd_ok_fr TH hst145 hm0 hk0 (by decide) (by decide) hcg7_0
          have hcg7_1 : ot_ok E141 a0 (fv0_27.toInt) E := ot_ok_fr TH hst145 hm0 hk0 (by decide) (by decide) hcg7_1
          have hcg7_2 : nbp_ok E141 a0 (u7_0_26.toInt + 1) := nbp_set (k := y7_3.toInt) hcg7_2_o (by omega) rfl (tw_fi_fr hst145 hm0 hk0 (by decide)) (by intro j; have w := (show ∀ j : Nat, tw_el E141 a0 44 j = (if j = (y7_3.toInt).toNat then xc136.toInt else tw_el E135 a0 44 j) from (fun j => (by have w := tw_el_st hmf139 hp142 hp143 hp144 j; rw [w]; (by_cases e : j = (y7_3.toInt).toNat; (rw [if_pos ⟨rfl, e⟩, if_pos e]); (rw [if_neg (fun y => e y.2), if_neg e]))))) j; rw [w]; (by_cases e : j = (y7_3.toInt).toNat; (rw [if_pos e, if_pos e]; omega); (rw [if_neg e, if_neg e])))
          have hcg7_4 : nz_ok E141 a0 (y7_3.toInt + 1) := nz_push hcg7_4_o rfl (v := xc136.toInt) (by omega) (show ∀ j : Nat, tw_el E141 a0 44 j = (if j = (y7_3.toInt).toNat then xc136.toInt else tw_el E135 a0 44 j) from (fun j => (by have w := tw_el_st hmf139 hp142 hp143 hp144 j; rw [w]; (by_cases e : j = (y7_3.toInt).toNat; (rw [if_pos ⟨rfl, e⟩, if_pos e]); (rw [if_neg (fun y => e y.2), if_neg e])))))
          have hcg7_5 : n0_ok E141 a0 (tw_el E a0 44 0) := n0_set (k := y7_3.toInt) hcg7_5_o hneg41 (show ∀ j : Nat, tw_el E141 a0 44 j = (if j = (y7_3.toInt).toNat then xc136.toInt else tw_el E135 a0 44 j) from (fun j => (by have w := tw_el_st hmf139 hp142 hp143 hp144 j; rw [w]; (by_cases e : j = (y7_3.toInt).toNat; (rw [if_pos ⟨rfl, e⟩, if_pos e]); (rw [if_neg (fun y => e y.2), if_neg e])))))
          have hgn151 : nc2_ok E141 a0 := (by unfold nc2_ok; have hst4 := (show ∀ j : Nat, tw_el E141 a0 44 j = (if j = (y7_3.toInt).toNat then xc136.toInt else tw_el E135 a0 44 j) from (fun j => (by have w := tw_el_st hmf139 hp142 hp143 hp144 j; rw [w]; (by_cases e : j = (y7_3.toInt).toNat; (rw [if_pos ⟨rfl, e⟩, if_pos e]); (rw [if_neg (fun y => e y.2), if_neg e]))))); have w := nr_less (f := tw_el E135 a0 44) (g := tw_el E141 a0 44) (N := xi1.toInt) (k := y7_3.toInt) (by omega) (by omega) hneg41 (by intro j; (by_cases e : j = (y7_3.toInt).toNat; (subst e; rw [if_pos rfl]); (rw [if_neg e, hst4 j, if_neg e]))) (by rw [hst4, if_pos rfl]; omega); rw [tw_fi_fr hst145 hm0 hk0 (k := 26) (by decide), tw_fi_fr hst145 hm0 hk0 (k := 28) (by decide), tw_fi_of hzfxc136_0_0, tw_fi_of hmf138]; rw [hn44] at w; omega)
          have hset := trivial
          obtain ⟨zi152, ezi152⟩ : ∃ z : Int32, z = y7_3 + Int32.ofInt 1 := ⟨_, rfl⟩
          have hzi152 : zi152.toInt = y7_3.toInt + 1 := by rw [ezi152]; have : ((Int32.ofInt 1).toInt) = 1 := (by decide);  exact (ia_add (by omega) (by omega)).trans (by omega)
          refine lv_iinc (v := zi152) (lv' := [(3, .int zi152), (2, .int fv0_27), (0, .ref a0), (1, .int x1)]) hx hb dX12_comes_42 hl (k := 0) rfl ezi152.symm (by decide) rfl (fun ls hl => ?_)
          refine lv_goto (tgt := 7) hx hb dX12_comes_45 (by decide) ?_
          exact ih7 (n7 - 1) (by   omega) zi152 zfxc136_0_0 _ _ _ ls (by omega) (by omega) (by omega) (by omega) (by  omega) (by  omega) (by   omega) hmf150 hG7 hcg7_0 hcg7_1 (nbp_ok_cast (by  omega) hcg7_2) hgn151 (nz_ok_cast (by  omega) hcg7_4) hcg7_5 TH hS (lv_sub hl [0, 1, 2, 3] rfl)
  exact hJ7 25 (0 : Int32) fv0_26 _ _ _ ls (by have : ((0 : Int32).toInt) = 0 := (by decide); omega) (by have : ((0 : Int32).toInt) = 0 := (by decide); omega) (by omega) (by omega) (by have : ((0 : Int32).toInt) = 0 := (by decide); omega) (by have : ((0 : Int32).toInt) = 0 := (by decide); omega) (by have : ((0 : Int32).toInt) = 0 := (by decide);  omega) hfv0_26 tw_fr.rf hg3 hot (nbp_ok_cast (by have : ((0 : Int32).toInt) = 0 := (by decide); omega) hg1) hg2 (nz_ok_cast (by have : ((0 : Int32).toInt) = 0 := (by decide); omega) hnz0) hn00 TH hS (lv_sub hl [0, 1, 2, 3] rfl)
set_option maxHeartbeats 4000000 in
set_option maxRecDepth 100000 in
theorem tX12_first (l : Launch) (D : va_G) (cs : Nat → ClassId) {kp : Nat → Nat} {L : List Nat} {E : Nat → va_E} (a0 : Nat) (hm0 : a0 ∈ L) (hk0 : kp a0 = 12) (hg0 : rd_ok E a0) (hg1 : eo_ok E a0) (hg2 : ht_ok E a0) (hg3 : dr_ok E a0) (hg4 : ln_ok E a0) (hg5 : dl_ok E a0) (hg6 : fw_ok E a0) (hg7 : kg_ok E a0) (sz : Nat) : Met l yX12_first (.code yX12_first cX12_first 2 (some .int) :: cx_big) { frames := 16, cells := 0, slots := 0, locals := 387 } (tw_P D cs kp L E [.ref a0] sz) (tw_Q D cs kp L (fun v kq Lq Eq => (∃ x : Int32, v = some (.int x) ∧ (-1) ≤ x.toInt ∧ x.toInt ≤ 11 ∧ rd_ok Eq a0 ∧ eo_ok Eq a0 ∧ ht_ok Eq a0 ∧ dr_ok Eq a0 ∧ ln_ok Eq a0 ∧ dl_ok Eq a0 ∧ fw_ok Eq a0 ∧ kg_ok Eq a0) ∧ kp = kq ∧ L = Lq ∧ tw_fr kp L [(12, 1), (12, 2), (12, 3), (12, 4), (12, 26), (12, 27), (12, 28)] [326, 327, 328, 329, 330, 331, 332, 334, 335, 343, 344, 345, 346, 347, 348, 349, 353] E Eq) (va_A (va_pl L E) sz)) 0 0 (va_A (va_pl L E) sz) := by
  refine tw_ofW (by decide) (Nat.le_of_ble_eq_true rfl) ?_
  intro p e s m below meth c A ls hx hb hr hml hB hown hlocks hK hN hA TH hS hl
  have hown : s.vm.findClass "TreeMergeModel" = some m.cls := hown
  have hl : lv_has ls 2 [(0, .ref a0)] := hl
  obtain ⟨kp0, ekp⟩ : ∃ z, z = kp := ⟨_, rfl⟩
  obtain ⟨L0, eL⟩ : ∃ z, z = L := ⟨_, rfl⟩
  rw [show tw_Q D cs kp L = tw_Q D cs kp0 L0 by rw [ekp, eL]]
  have hex : ∀ a : Nat, a ∈ L0 → a ∈ L ∧ kp a = kp0 a := fun a h => ⟨by rw [← eL]; exact h, by rw [ekp]⟩
  have hF : tw_fr kp L [(12, 1), (12, 2), (12, 3), (12, 4), (12, 26), (12, 27), (12, 28)] [326, 327, 328, 329, 330, 331, 332, 334, 335, 343, 344, 345, 346, 347, 348, 349, 353] E E := tw_fr.rf
  refine lv_aload_n hx hb dX12_first_0 rfl (lv_at hl 0 rfl) ?_
  obtain ⟨xi1, hxi1, hxi1a, hxi1b⟩ := tw_rd TH hm0 hk0 (by decide) (by decide) (k := 27) rfl
  obtain ⟨xi2, hxi2, hxi2a, hxi2b⟩ := tw_rd TH hm0 hk0 (by decide) (by decide) (k := 14) rfl
  refine tw_Vc (o := a0) (ci := 12) (n := 0) (post := (fun v kq Lq Eq => (∃ x : Int32, v = some (.int x) ∧ 0 ≤ x.toInt ∧ x.toInt ≤ 1 ∧ (x.toInt ≠ 0 → xi1.toInt ≤ 11 ∧ xi2.toInt ≠ 0) ∧ (x.toInt ≠ 0 → tt_ok Eq a0) ∧ rd_ok Eq a0 ∧ eo_ok Eq a0 ∧ ht_ok Eq a0 ∧ dr_ok Eq a0 ∧ ln_ok Eq a0 ∧ dl_ok Eq a0 ∧ fw_ok Eq a0 ∧ kg_ok Eq a0) ∧ kp = kq ∧ L = Lq ∧ tw_fr kp L [(12, 2), (12, 3), (12, 4), (12, 28)] [326, 327, 328, 329, 332, 343, 344, 345, 346, 347, 348, 349] E Eq)) (As := []) (rest := []) ⟨hx, hb, hml, hown, hB⟩ (fun sz => tX12_canCome l D cs a0 xi1 xi2 hm0 hk0 hxi1 hxi2 hg0 hg1 hg2 hg3 hg4 hg5 hg6 hg7 sz) cg_12_348_X12_canCome rfl rfl (by decide +kernel) ⟨Nat.le_of_ble_eq_true rfl, Nat.le_of_ble_eq_true rfl⟩ hK hN TH hS hA rfl hm0 hk0 (by decide) rfl hl.1 rfl (Nat.le_of_ble_eq_true rfl) dX12_first_1 ⟨Nat.le_of_ble_eq_true rfl, Nat.le_of_ble_eq_true rfl⟩ (fun v3 kp3 L3 E3 H locs hq3 hx3 TH hS => ?_)
  obtain ⟨⟨xc4, rfl, hxc4a, hxc4b, hpoxc4_0, hpoxc4_1, hgpxc4_0, hgpxc4_1, hgpxc4_2, hgpxc4_3, hgpxc4_4, hgpxc4_5, hgpxc4_6, hgpxc4_7⟩, rfl, rfl, hst3⟩ := hq3
  have hF := hF.tr hst3 (fun _ h => ⟨h, rfl⟩) (by decide) (by decide)
  have hmf5 : tw_fv E3 a0 27 = .int xi1 := (hst3.1 a0 27 hm0 (by rw [hk0]; decide)).trans hxi1
  have hmf6 : tw_fv E3 a0 14 = .int xi2 := (hst3.1 a0 14 hm0 (by rw [hk0]; decide)).trans hxi2
  refine W.eq (g2 := F0 m 4 ls [.int xc4]) rfl ?_
  refine lv_if_eq (tgt := 22) hx hb dX12_first_4 (by decide) (fun hc7 => ?_) (fun hc7 => ?_)
  · have hf8 : xc4.toInt = 0 := by have z := (fa_eq _ _).mp hc7; have : ((0 : Int32).toInt) = 0 := (by decide); omega
    refine lv_iconst (v := (-1)) hx hb dX12_first_22 (by decide) ?_
    exact tw_iret hx hb hr hlocks TH hS hex ⟨⟨_, rfl, (show (-1) ≤ Int32.toInt (-1) from by have : (((-1) : Int32).toInt) = (-1) := (by decide); omega), (show Int32.toInt (-1) ≤ 11 from by have : (((-1) : Int32).toInt) = (-1) := (by decide); omega), hgpxc4_0, hgpxc4_1, hgpxc4_2, hgpxc4_3, hgpxc4_4, hgpxc4_5, hgpxc4_6, hgpxc4_7⟩, rfl, rfl, hF⟩ (Nat.le_of_ble_eq_true rfl) (Nat.le_of_ble_eq_true rfl) dX12_first_23
  · have hf9 : ¬ (xc4.toInt = 0) := fun q => hc7 ((fa_eq _ _).mpr (by have : ((0 : Int32).toInt) = 0 := (by decide); omega))
    refine lv_aload_n hx hb dX12_first_7 rfl (lv_at hl 0 rfl) ?_
    refine tw_get (ci := 12) (C := RX12) (T := TX12) (N := 64) hx hb hB cx_inX12 hown hK TH hm0 hk0 rfl ⟨by decide, rfl⟩ 26 (by decide) cw_1219 (fun _ h9 => h9) dX12_first_8 (fun hv => ?_)
    obtain ⟨xi10, hxi10, hxi10a, hxi10b⟩ : ∃ x : Int32, tw_fv E3 a0 26 = .int x ∧ 0 ≤ x.toInt ∧ x.toInt ≤ 150 := hv
    rw [hxi10]
    refine lv_aload_n hx hb dX12_first_11 rfl (lv_at hl 0 rfl) ?_
    refine tw_get (ci := 12) (C := RX12) (T := TX12) (N := 64) hx hb hB cx_inX12 hown hK TH hm0 hk0 rfl ⟨by decide, rfl⟩ 28 (by decide) cw_1221 (fun _ h9 => h9) dX12_first_12 (fun hv => ?_)
    obtain ⟨xi11, hxi11, hxi11a, hxi11b⟩ : ∃ x : Int32, tw_fv E3 a0 28 = .int x ∧ 0 ≤ x.toInt ∧ x.toInt ≤ 24 := hv
    rw [hxi11]
    refine lv_iadd hx hb dX12_first_15 ?_
    refine lv_topi (fun zi12 ezi12 => ?_)
    have hzi12 : zi12.toInt = xi10.toInt + xi11.toInt := by rw [ezi12];  have := ia_lo xi10; have := ia_hi xi10; have := ia_lo xi11; have := ia_hi xi11; exact (ia_add (by omega) (by omega)).trans (by omega)
    refine lv_sipush (v := 150) hx hb dX12_first_16 (by decide) ?_
    refine lv_icmp_le (tgt := 24) hx hb dX12_first_19 (by decide) (fun hc13 => ?_) (fun hc13 => ?_)
    · have hf14 : zi12.toInt ≤ 150 := by have z := (fa_le _ _).mp hc13; have : ((150 : Int32).toInt) = 150 := (by decide); omega
      have htt24 : tt_ok E3 a0 := hpoxc4_1 (by omega)
      have hn44 : n44_ok E3 a0 (0) := fun j hj => absurd hj (by omega)
      have hcc := hpoxc4_0 (by omega)
      have hcc1 := hcc.1
      refine lv_iconst (v := 0) hx hb dX12_first_24 (by decide) ?_
      refine lv_istore_n (lv' := [(1, .int 0), (0, .ref a0)]) hx hb dX12_first_25 rfl hl (by decide) rfl (fun ls hl => ?_)
      have hJ26 : ∀ (n26 : Nat) (y26_1 : Int32) (Eg26 : Nat → va_E) (H : Heap) (locs : List Loc) (ls : Array Slot), 0 ≤ y26_1.toInt → y26_1.toInt ≤ 24 → (y26_1.toInt ≤ xi11.toInt) → (xi10.toInt + xi11.toInt ≤ 150) → (xi1.toInt ≤ 11) → 24 - y26_1.toInt ≤ (n26 : Int) → tw_fr kp L [] [353] E3 Eg26 → rd_ok Eg26 a0 → eo_ok Eg26 a0 → ht_ok Eg26 a0 → dr_ok Eg26 a0 → ln_ok Eg26 a0 → dl_ok Eg26 a0 → fw_ok Eg26 a0 → kg_ok Eg26 a0 → tt_ok Eg26 a0 → n44_ok Eg26 a0 (y26_1.toInt) → tw_H D cs kp L Eg26 A H → va_S A s.heap H locs → lv_has ls 2 [(1, .int y26_1), (0, .ref a0)] → W p l e { frames := 16, cells := 0, slots := 0, locals := 387 } s m [.ref a0].toArray below meth c H locs 0 0 (MQ below (tw_Q D cs kp0 L0 (fun v kq Lq Eq => (∃ x : Int32, v = some (.int x) ∧ (-1) ≤ x.toInt ∧ x.toInt ≤ 11 ∧ rd_ok Eq a0 ∧ eo_ok Eq a0 ∧ ht_ok Eq a0 ∧ dr_ok Eq a0 ∧ ln_ok Eq a0 ∧ dl_ok Eq a0 ∧ fw_ok Eq a0 ∧ kg_ok Eq a0) ∧ kp = kq ∧ L = Lq ∧ tw_fr kp L [(12, 1), (12, 2), (12, 3), (12, 4), (12, 26), (12, 27), (12, 28)] [326, 327, 328, 329, 330, 331, 332, 334, 335, 343, 344, 345, 346, 347, 348, 349, 353] E Eq) A) [.ref a0].toArray s 0 0 A) (F0 m 26 ls []) := by
        intro n26
        induction n26 using Nat.strongRecOn with
        | _ n26 ih26 =>
          intro y26_1 Eg26 H locs ls hy26_1a hy26_1b hin26_0 hin26_1 hin26_2 hmeas26 hG26 hcg26_0 hcg26_1 hcg26_2 hcg26_3 hcg26_4 hcg26_5 hcg26_6 hcg26_7 hcg26_8 hcg26_9 TH hS hl
          have hF := hF.tr hG26 (fun _ h => ⟨h, rfl⟩) (by decide) (by decide)
          have hmf15 : tw_fv Eg26 a0 27 = .int xi1 := (hG26.1 a0 27 hm0 (by rw [hk0]; decide)).trans hmf5
          have hmf16 : tw_fv Eg26 a0 14 = .int xi2 := (hG26.1 a0 14 hm0 (by rw [hk0]; decide)).trans hmf6
          have hmf17 : tw_fv Eg26 a0 26 = .int xi10 := (hG26.1 a0 26 hm0 (by rw [hk0]; decide)).trans hxi10
          have hmf18 : tw_fv Eg26 a0 28 = .int xi11 := (hG26.1 a0 28 hm0 (by rw [hk0]; decide)).trans hxi11
          refine lv_iload_n hx hb dX12_first_26 rfl (lv_at hl 0 rfl) ?_
          refine lv_aload_n hx hb dX12_first_27 rfl (lv_at hl 1 rfl) ?_
          refine tw_get (ci := 12) (C := RX12) (T := TX12) (N := 64) hx hb hB cx_inX12 hown hK TH hm0 hk0 rfl ⟨by decide, rfl⟩ 28 (by decide) cw_1221 (fun _ h9 => h9) dX12_first_28 (fun hv => ?_)
          rw [hmf18]
          refine lv_icmp_ge (tgt := 47) hx hb dX12_first_31 (by decide) (fun hc19 => ?_) (fun hc19 => ?_)
          · have hf20 : xi11.toInt ≤ y26_1.toInt := by have z := (fa_le _ _).mp hc19;  omega
            refine lv_aload_n hx hb dX12_first_47 rfl (lv_at hl 1 rfl) ?_
            refine lv_iconst (v := (-1)) hx hb dX12_first_48 (by decide) ?_
            have hk49 := trivial
            refine tw_Vc (o := a0) (ci := 12) (n := 1) (post := (fun v kq Lq Eq => (∃ x : Int32, v = some (.int x) ∧ 0 ≤ x.toInt ∧ x.toInt ≤ 11 ∧ rd_ok Eq a0 ∧ eo_ok Eq a0 ∧ ht_ok Eq a0 ∧ dr_ok Eq a0 ∧ ln_ok Eq a0 ∧ dl_ok Eq a0 ∧ fw_ok Eq a0) ∧ kp = kq ∧ L = Lq ∧ tw_fr kp L [(12, 1), (12, 26), (12, 27)] [326, 327, 328, 329, 330, 331, 334, 335, 353] Eg26 Eq)) (As := [.int (-1)]) (rest := []) ⟨hx, hb, hml, hown, hB⟩ (fun sz => tX12_comes l D cs a0 ((-1) : Int32) xi1 xi10 hm0 hk0 (by have : (((-1) : Int32).toInt) = (-1) := (by decide); omega) (by have : (((-1) : Int32).toInt) = (-1) := (by decide); omega) hmf15 hmf17 (by have : (((-1) : Int32).toInt) = (-1) := (by decide); omega) (by have : (((-1) : Int32).toInt) = (-1) := (by decide); exact Or.inl (by decide)) hcg26_8 (nbp_of44 (by rw [tw_fi_of hmf18]; exact n44_ok_cast (by omega) hcg26_9)) (nc2_of (by rw [tw_fi_of hmf17, tw_fi_of hmf18]; omega) (by rw [tw_fi_of hmf18]; omega)) hcg26_0 hcg26_1 hcg26_2 hcg26_3 hcg26_4 hcg26_5 hcg26_6 sz) cg_12_351_X12_comes rfl rfl (by decide +kernel) ⟨Nat.le_of_ble_eq_true rfl, Nat.le_of_ble_eq_true rfl⟩ hK hN TH hS hA rfl hm0 hk0 (by decide) rfl hl.1 rfl (Nat.le_of_ble_eq_true rfl) dX12_first_49 ⟨Nat.le_of_ble_eq_true rfl, Nat.le_of_ble_eq_true rfl⟩ (fun v21 kp21 L21 E21 H locs hq21 hx21 TH hS => ?_)
            obtain ⟨⟨xc22, rfl, hxc22a, hxc22b, hgpxc22_0, hgpxc22_1, hgpxc22_2, hgpxc22_3, hgpxc22_4, hgpxc22_5, hgpxc22_6⟩, rfl, rfl, hst21⟩ := hq21
            have hF := hF.tr hst21 (fun _ h => ⟨h, rfl⟩) (by decide) (by decide)
            have hmf23 : tw_fv E21 a0 14 = .int xi2 := (hst21.1 a0 14 hm0 (by rw [hk0]; decide)).trans hmf16
            have hmf24 : tw_fv E21 a0 28 = .int xi11 := (hst21.1 a0 28 hm0 (by rw [hk0]; decide)).trans hmf18
            have hcg26_7 : kg_ok E21 a0 := kg_ok_fr TH hst21 hm0 hk0 (by decide) (by decide) hcg26_7
            refine W.eq (g2 := F0 m 52 ls [.int xc22]) rfl ?_
            exact tw_iret hx hb hr hlocks TH hS hex ⟨⟨_, rfl, (show (-1) ≤ Int32.toInt xc22 from by  omega), (show Int32.toInt xc22 ≤ 11 from by  omega), hgpxc22_0, hgpxc22_1, hgpxc22_2, hgpxc22_3, hgpxc22_4, hgpxc22_5, hgpxc22_6, hcg26_7⟩, rfl, rfl, hF⟩ (Nat.le_of_ble_eq_true rfl) (Nat.le_of_ble_eq_true rfl) dX12_first_52
          · have hf25 : ¬ (xi11.toInt ≤ y26_1.toInt) := fun q => hc19 ((fa_le _ _).mpr (by  omega))
            refine lv_aload_n hx hb dX12_first_34 rfl (lv_at hl 1 rfl) ?_
            refine tw_get (ci := 12) (C := RX12) (T := TX12) (N := 64) hx hb hB cx_inX12 hown hK TH hm0 hk0 rfl ⟨by decide, rfl⟩ 44 (by decide) cw_1237 (fun _ h9 => h9) dX12_first_35 (fun hv => ?_)
            obtain ⟨xr26, hxr26, hmxr26, hkxr26⟩ : ∃ a : Nat, tw_fv Eg26 a0 44 = .ref a ∧ a ∈ L ∧ kp a = 353 := hv
            rw [hxr26]
            refine lv_iload_n hx hb dX12_first_38 rfl (lv_at hl 0 rfl) ?_
            refine lv_iconst (v := (-1)) hx hb dX12_first_39 (by decide) ?_
            refine tw_iast (k := 353) (n := 24) (lo := (-1)) (hi := 149) hx hb hK TH hS hmxr26 hkxr26 (by decide) rfl (i := y26_1) (x := (-1)) (vp_in_iff.mpr ⟨by  omega, by  omega⟩) (by have : (((-1) : Int32).toInt) = (-1) := (by decide); omega) (by have : (((-1) : Int32).toInt) = (-1) := (by decide); omega) dX12_first_40 (fun H locs E27 TH hS hp28 hp29 hp30 => ?_)
            have hst31 : tw_fr kp L [] [353] Eg26 E27 := tw_fr.ast tw_fr.rf (fun _ => hkxr26) hp28 hp29 (by decide)
            have hF := hF.tr hst31 (fun _ h => ⟨h, rfl⟩) (by decide) (by decide)
            have hG26 := hG26.tr hst31 (fun _ h => ⟨h, rfl⟩) (by decide) (by decide)
            have hmf32 : tw_fv E27 a0 27 = .int xi1 := (hst31.1 a0 27 hm0 (by rw [hk0]; decide)).trans hmf15
            have hmf33 : tw_fv E27 a0 14 = .int xi2 := (hst31.1 a0 14 hm0 (by rw [hk0]; decide)).trans hmf16
            have hmf34 : tw_fv E27 a0 26 = .int xi10 := (hst31.1 a0 26 hm0 (by rw [hk0]; decide)).trans hmf17
            have hmf35 : tw_fv E27 a0 28 = .int xi11 := (hst31.1 a0 28 hm0 (by rw [hk0]; decide)).trans hmf18
            have hmf36 : tw_fv E27 a0 44 = .ref xr26 := (hst31.1 a0 44 hm0 (by rw [hk0]; decide)).trans hxr26
            have hcg26_0_o := hcg26_0
            have hcg26_1_o := hcg26_1
            have hcg26_2_o := hcg26_2
            have hcg26_3_o := hcg26_3
            have hcg26_4_o := hcg26_4
            have hcg26_5_o := hcg26_5
            have hcg26_6_o := hcg26_6
            have hcg26_7_o := hcg26_7
            have hcg26_8_o := hcg26_8
            have hcg26_9_o := hcg26_9
            have hcg26_0 : rd_ok E27 a0 := rd_ok_fr TH hst31 hm0 hk0 (by decide) (by decide) hcg26_0
            have hcg26_1 : eo_ok E27 a0 := eo_ok_fr TH hst31 hm0 hk0 (by decide) (by decide) hcg26_1
            have hcg26_2 : ht_ok E27 a0 := ht_ok_fr TH hst31 hm0 hk0 (by decide) (by decide) hcg26_2
            have hcg26_3 : dr_ok E27 a0 := dr_ok_fr TH hst31 hm0 hk0 (by decide) (by decide) hcg26_3
            have hcg26_4 : ln_ok E27 a0 := ln_ok_fr TH hst31 hm0 hk0 (by decide) (by decide) hcg26_4
            have hcg26_5 : dl_ok E27 a0 := dl_ok_fr TH hst31 hm0 hk0 (by decide) (by decide) hcg26_5
            have hcg26_6 : fw_ok E27 a0 := fw_ok_fr TH hst31 hm0 hk0 (by decide) (by decide) hcg26_6
            have hcg26_7 : kg_ok E27 a0 := kg_ok_fr TH hst31 hm0 hk0 (by decide) (by decide) hcg26_7
            have hcg26_8 : tt_ok E27 a0 := tt_ok_fr TH hst31 hm0 hk0 (by decide) (by decide) hcg26_8
            have hcg26_9 : n44_ok E27 a0 (y26_1.toInt + 1) := n44_push hcg26_9_o rfl (fun j => (by have w := tw_el_st hxr26 hp28 hp29 hp30 j; show _ = (if j = (y26_1.toInt).toNat then (-1) else tw_el Eg26 a0 44 j); rw [w]; (by_cases e : j = (y26_1.toInt).toNat; (rw [if_pos ⟨rfl, e⟩, if_pos e]; decide); (rw [if_neg (fun y => e y.2), if_neg e]))))
            obtain ⟨zi37, ezi37⟩ : ∃ z : Int32, z = y26_1 + Int32.ofInt 1 := ⟨_, rfl⟩
            have hzi37 : zi37.toInt = y26_1.toInt + 1 := by rw [ezi37]; have : ((Int32.ofInt 1).toInt) = 1 := (by decide);  exact (ia_add (by omega) (by omega)).trans (by omega)
            refine lv_iinc (v := zi37) (lv' := [(1, .int zi37), (0, .ref a0)]) hx hb dX12_first_41 hl (k := 0) rfl ezi37.symm (by decide) rfl (fun ls hl => ?_)
            refine lv_goto (tgt := 26) hx hb dX12_first_44 (by decide) ?_
            exact ih26 (n26 - 1) (by   omega) zi37 _ _ _ ls (by omega) (by omega) (by  omega) (by  omega) (by  omega) (by   omega) hG26 hcg26_0 hcg26_1 hcg26_2 hcg26_3 hcg26_4 hcg26_5 hcg26_6 hcg26_7 hcg26_8 (n44_ok_cast (by  omega) hcg26_9) TH hS (lv_sub hl [0, 1] rfl)
      exact hJ26 25 (0 : Int32) _ _ _ ls (by have : ((0 : Int32).toInt) = 0 := (by decide); omega) (by have : ((0 : Int32).toInt) = 0 := (by decide); omega) (by have : ((0 : Int32).toInt) = 0 := (by decide); omega) (by have : ((0 : Int32).toInt) = 0 := (by decide); omega) (by have : ((0 : Int32).toInt) = 0 := (by decide); omega) (by have : ((0 : Int32).toInt) = 0 := (by decide);  omega) tw_fr.rf hgpxc4_0 hgpxc4_1 hgpxc4_2 hgpxc4_3 hgpxc4_4 hgpxc4_5 hgpxc4_6 hgpxc4_7 htt24 (n44_ok_cast (by have : ((0 : Int32).toInt) = 0 := (by decide); omega) hn44) TH hS (lv_sub hl [0, 1] rfl)
    · have hf38 : ¬ (zi12.toInt ≤ 150) := fun q => hc13 ((fa_le _ _).mpr (by have : ((150 : Int32).toInt) = 150 := (by decide); omega))
      refine lv_iconst (v := (-1)) hx hb dX12_first_22 (by decide) ?_
      exact tw_iret hx hb hr hlocks TH hS hex ⟨⟨_, rfl, (show (-1) ≤ Int32.toInt (-1) from by have : (((-1) : Int32).toInt) = (-1) := (by decide); omega), (show Int32.toInt (-1) ≤ 11 from by have : (((-1) : Int32).toInt) = (-1) := (by decide); omega), hgpxc4_0, hgpxc4_1, hgpxc4_2, hgpxc4_3, hgpxc4_4, hgpxc4_5, hgpxc4_6, hgpxc4_7⟩, rfl, rfl, hF⟩ (Nat.le_of_ble_eq_true rfl) (Nat.le_of_ble_eq_true rfl) dX12_first_23
set_option maxHeartbeats 4000000 in
set_option maxRecDepth 100000 in
theorem tX12_next_ (l : Launch) (D : va_G) (cs : Nat → ClassId) {kp : Nat → Nat} {L : List Nat} {E : Nat → va_E} (a0 : Nat) (x1 : Int32) (hm0 : a0 ∈ L) (hk0 : kp a0 = 12) (hg0 : rd_ok E a0) (hg1 : eo_ok E a0) (hg2 : ht_ok E a0) (hg3 : dr_ok E a0) (hg4 : ln_ok E a0) (hg5 : dl_ok E a0) (hg6 : fw_ok E a0) (hg7 : kg_ok E a0) (sz : Nat) : Met l yX12_next_ (.code yX12_next_ cX12_next_ 4 (some .int) :: cx_big) { frames := 46, cells := 0, slots := 0, locals := 1164 } (tw_P D cs kp L E [.ref a0, .int x1] sz) (tw_Q D cs kp L (fun v kq Lq Eq => (∃ x : Int32, v = some (.int x) ∧ (-1) ≤ x.toInt ∧ x.toInt ≤ 11 ∧ rd_ok Eq a0 ∧ eo_ok Eq a0 ∧ ht_ok Eq a0 ∧ dr_ok Eq a0 ∧ ln_ok Eq a0 ∧ dl_ok Eq a0 ∧ fw_ok Eq a0 ∧ kg_ok Eq a0) ∧ kp = kq ∧ L = Lq ∧ tw_fr kp L [(12, 1), (12, 2), (12, 3), (12, 4), (12, 26), (12, 27), (12, 28), (12, 50), (12, 51)] [326, 327, 328, 329, 330, 331, 332, 334, 335, 343, 344, 345, 346, 347, 348, 349, 353, 354, 355, 356, 357, 358] E Eq) (va_A (va_pl L E) sz)) 0 0 (va_A (va_pl L E) sz) := by
  refine tw_ofW (by decide) (Nat.le_of_ble_eq_true rfl) ?_
  intro p e s m below meth c A ls hx hb hr hml hB hown hlocks hK hN hA TH hS hl
  have hown : s.vm.findClass "TreeMergeModel" = some m.cls := hown
  have hl : lv_has ls 4 [(0, .ref a0), (1, .int x1)] := hl
  obtain ⟨kp0, ekp⟩ : ∃ z, z = kp := ⟨_, rfl⟩
  obtain ⟨L0, eL⟩ : ∃ z, z = L := ⟨_, rfl⟩
  rw [show tw_Q D cs kp L = tw_Q D cs kp0 L0 by rw [ekp, eL]]
  have hex : ∀ a : Nat, a ∈ L0 → a ∈ L ∧ kp a = kp0 a := fun a h => ⟨by rw [← eL]; exact h, by rw [ekp]⟩
  have hF : tw_fr kp L [(12, 1), (12, 2), (12, 3), (12, 4), (12, 26), (12, 27), (12, 28), (12, 50), (12, 51)] [326, 327, 328, 329, 330, 331, 332, 334, 335, 343, 344, 345, 346, 347, 348, 349, 353, 354, 355, 356, 357, 358] E E := tw_fr.rf
  refine lv_aload_n hx hb dX12_next__0 rfl (lv_at hl 0 rfl) ?_
  refine lv_iload_n hx hb dX12_next__1 rfl (lv_at hl 1 rfl) ?_
  obtain ⟨xi1, hxi1, hxi1a, hxi1b⟩ := tw_rd TH hm0 hk0 (by decide) (by decide) (k := 27) rfl
  refine tw_Vc (o := a0) (ci := 12) (n := 1) (post := (fun v kq Lq Eq => (∃ x : Int32, v = some (.int x) ∧ 0 ≤ x.toInt ∧ x.toInt ≤ 1 ∧ (x.toInt ≠ 0 → 0 ≤ x1.toInt ∧ x1.toInt < xi1.toInt)) ∧ kp = kq ∧ L = Lq ∧ E = Eq)) (As := [.int x1]) (rest := []) ⟨hx, hb, hml, hown, hB⟩ (fun sz => tX12_isEdition l D cs a0 x1 xi1 hm0 hk0 hxi1 sz) cg_12_396_X12_isEdition rfl rfl (by decide +kernel) ⟨Nat.le_of_ble_eq_true rfl, Nat.le_of_ble_eq_true rfl⟩ hK hN TH hS hA rfl hm0 hk0 (by decide) rfl hl.1 rfl (Nat.le_of_ble_eq_true rfl) dX12_next__2 ⟨Nat.le_of_ble_eq_true rfl, Nat.le_of_ble_eq_true rfl⟩ (fun v2 kp2 L2 E2 H locs hq2 hx2 TH hS => ?_)
  obtain ⟨⟨xc3, rfl, hxc3a, hxc3b, hpoxc3_0⟩, rfl, rfl, rfl⟩ := hq2
  refine W.eq (g2 := F0 m 5 ls [.int xc3]) rfl ?_
  refine lv_if_eq (tgt := 15) hx hb dX12_next__5 (by decide) (fun hc4 => ?_) (fun hc4 => ?_)
  · have hf5 : xc3.toInt = 0 := by have z := (fa_eq _ _).mp hc4; have : ((0 : Int32).toInt) = 0 := (by decide); omega
    refine lv_iconst (v := (-1)) hx hb dX12_next__15 (by decide) ?_
    exact tw_iret hx hb hr hlocks TH hS hex ⟨⟨_, rfl, (show (-1) ≤ Int32.toInt (-1) from by have : (((-1) : Int32).toInt) = (-1) := (by decide); omega), (show Int32.toInt (-1) ≤ 11 from by have : (((-1) : Int32).toInt) = (-1) := (by decide); omega), hg0, hg1, hg2, hg3, hg4, hg5, hg6, hg7⟩, rfl, rfl, hF⟩ (Nat.le_of_ble_eq_true rfl) (Nat.le_of_ble_eq_true rfl) dX12_next__16
  · have hf6 : ¬ (xc3.toInt = 0) := fun q => hc4 ((fa_eq _ _).mpr (by have : ((0 : Int32).toInt) = 0 := (by decide); omega))
    refine lv_aload_n hx hb dX12_next__8 rfl (lv_at hl 0 rfl) ?_
    obtain ⟨xi7, hxi7, hxi7a, hxi7b⟩ := tw_rd TH hm0 hk0 (by decide) (by decide) (k := 14) rfl
    refine tw_Vc (o := a0) (ci := 12) (n := 0) (post := (fun v kq Lq Eq => (∃ x : Int32, v = some (.int x) ∧ 0 ≤ x.toInt ∧ x.toInt ≤ 1 ∧ (x.toInt ≠ 0 → xi1.toInt ≤ 11 ∧ xi7.toInt ≠ 0) ∧ (x.toInt ≠ 0 → tt_ok Eq a0) ∧ rd_ok Eq a0 ∧ eo_ok Eq a0 ∧ ht_ok Eq a0 ∧ dr_ok Eq a0 ∧ ln_ok Eq a0 ∧ dl_ok Eq a0 ∧ fw_ok Eq a0 ∧ kg_ok Eq a0) ∧ kp = kq ∧ L = Lq ∧ tw_fr kp L [(12, 2), (12, 3), (12, 4), (12, 28)] [326, 327, 328, 329, 332, 343, 344, 345, 346, 347, 348, 349] E Eq)) (As := []) (rest := []) ⟨hx, hb, hml, hown, hB⟩ (fun sz => tX12_canCome l D cs a0 xi1 xi7 hm0 hk0 hxi1 hxi7 hg0 hg1 hg2 hg3 hg4 hg5 hg6 hg7 sz) cg_12_348_X12_canCome rfl rfl (by decide +kernel) ⟨Nat.le_of_ble_eq_true rfl, Nat.le_of_ble_eq_true rfl⟩ hK hN TH hS hA rfl hm0 hk0 (by decide) rfl hl.1 rfl (Nat.le_of_ble_eq_true rfl) dX12_next__9 ⟨Nat.le_of_ble_eq_true rfl, Nat.le_of_ble_eq_true rfl⟩ (fun v8 kp8 L8 E8 H locs hq8 hx8 TH hS => ?_)
    obtain ⟨⟨xc9, rfl, hxc9a, hxc9b, hpoxc9_0, hpoxc9_1, hgpxc9_0, hgpxc9_1, hgpxc9_2, hgpxc9_3, hgpxc9_4, hgpxc9_5, hgpxc9_6, hgpxc9_7⟩, rfl, rfl, hst8⟩ := hq8
    have hF := hF.tr hst8 (fun _ h => ⟨h, rfl⟩) (by decide) (by decide)
    have hmf10 : tw_fv E8 a0 27 = .int xi1 := (hst8.1 a0 27 hm0 (by rw [hk0]; decide)).trans hxi1
    have hmf11 : tw_fv E8 a0 14 = .int xi7 := (hst8.1 a0 14 hm0 (by rw [hk0]; decide)).trans hxi7
    refine W.eq (g2 := F0 m 12 ls [.int xc9]) rfl ?_
    refine lv_if_ne (tgt := 17) hx hb dX12_next__12 (by decide) (fun hc12 => ?_) (fun hc12 => ?_)
    · have hf13 : ¬ (xc9.toInt = 0) := fun q => hc12 ((fa_eq _ _).mpr (by have : ((0 : Int32).toInt) = 0 := (by decide); omega))
      have htt17 : tt_ok E8 a0 := hpoxc9_1 (by omega)
      have hcc := hpoxc9_0 (by omega)
      have hcc1 := hcc.1
      have hrow17 : row_ok E8 a0 (x1.toInt) := hgpxc9_1 (x1.toInt) (by omega) (by rw [tw_fi_of hmf10]; omega)
      refine lv_aload_n hx hb dX12_next__17 rfl (lv_at hl 0 rfl) ?_
      refine lv_iload_n hx hb dX12_next__18 rfl (lv_at hl 1 rfl) ?_
      refine tw_Vc (o := a0) (ci := 12) (n := 1) (post := (fun v kq Lq Eq => v = none ∧ kp = kq ∧ L = Lq ∧ tw_fr kp L [(12, 50), (12, 51)] [354, 355, 356, 357, 358] E8 Eq ∧ (∃ z0 : Int32, tw_fv Eq a0 50 = .int z0 ∧ (z0.toInt ≤ 40)) ∧ ls_ok Eq a0 (x1.toInt) ∧ pi_ok Eq a0)) (As := [.int x1]) (rest := []) ⟨hx, hb, hml, hown, hB⟩ (fun sz => tX12_matches l D cs a0 x1 hm0 hk0 (by omega) (by omega) hrow17 htt17 sz) cg_12_399_X12_matches rfl rfl (by decide +kernel) ⟨Nat.le_of_ble_eq_true rfl, Nat.le_of_ble_eq_true rfl⟩ hK hN TH hS hA rfl hm0 hk0 (by decide) rfl hl.1 rfl (Nat.le_of_ble_eq_true rfl) dX12_next__19 ⟨Nat.le_of_ble_eq_true rfl, Nat.le_of_ble_eq_true rfl⟩ (fun v14 kp14 L14 E14 H locs hq14 hx14 TH hS => ?_)
      obtain ⟨rfl, rfl, rfl, hst14, ⟨zfxc15_0_0, hzfxc15_0_0, hzpxc15_0⟩, hgpxc15_0, hgpxc15_1⟩ := hq14
      have hF := hF.tr hst14 (fun _ h => ⟨h, rfl⟩) (by decide) (by decide)
      have hmf16 : tw_fv E14 a0 27 = .int xi1 := (hst14.1 a0 27 hm0 (by rw [hk0]; decide)).trans hmf10
      have hmf17 : tw_fv E14 a0 14 = .int xi7 := (hst14.1 a0 14 hm0 (by rw [hk0]; decide)).trans hmf11
      have hgpxc9_0 : rd_ok E14 a0 := rd_ok_fr TH hst14 hm0 hk0 (by decide) (by decide) hgpxc9_0
      have hgpxc9_1 : eo_ok E14 a0 := eo_ok_fr TH hst14 hm0 hk0 (by decide) (by decide) hgpxc9_1
      have hgpxc9_2 : ht_ok E14 a0 := ht_ok_fr TH hst14 hm0 hk0 (by decide) (by decide) hgpxc9_2
      have hgpxc9_3 : dr_ok E14 a0 := dr_ok_fr TH hst14 hm0 hk0 (by decide) (by decide) hgpxc9_3
      have hgpxc9_4 : ln_ok E14 a0 := ln_ok_fr TH hst14 hm0 hk0 (by decide) (by decide) hgpxc9_4
      have hgpxc9_5 : dl_ok E14 a0 := dl_ok_fr TH hst14 hm0 hk0 (by decide) (by decide) hgpxc9_5
      have hgpxc9_6 : fw_ok E14 a0 := fw_ok_fr TH hst14 hm0 hk0 (by decide) (by decide) hgpxc9_6
      have hgpxc9_7 : kg_ok E14 a0 := kg_ok_fr TH hst14 hm0 hk0 (by decide) (by decide) hgpxc9_7
      have htt17 : tt_ok E14 a0 := tt_ok_fr TH hst14 hm0 hk0 (by decide) (by decide) htt17
      have hrow17 : row_ok E14 a0 (x1.toInt) := row_ok_fr TH hst14 hm0 hk0 (by decide) (by decide) (by omega) hrow17
      obtain ⟨qzfxc15_0_0, hqzfxc15_0_0, hqzfxc15_0_0a, hqzfxc15_0_0b⟩ := tw_rd TH hm0 hk0 (by decide) (by decide) (k := 50) rfl
      have eqzfxc15_0_0 : qzfxc15_0_0 = zfxc15_0_0 := by have q := hqzfxc15_0_0.symm.trans hzfxc15_0_0; injection q
      rw [eqzfxc15_0_0] at hqzfxc15_0_0a hqzfxc15_0_0b
      refine W.eq (g2 := F0 m 22 ls []) rfl ?_
      have hnx22 : nx_ok E14 a0 (0) := fun b hb => absurd hb (by omega)
      have hfc22 : fc_ok E14 a0 (0) (0) := rfl
      refine lv_iconst (v := 0) hx hb dX12_next__22 (by decide) ?_
      refine lv_istore_n (lv' := [(2, .int 0), (0, .ref a0), (1, .int x1)]) hx hb dX12_next__23 rfl hl (by decide) rfl (fun ls hl => ?_)
      refine lv_iconst (v := 0) hx hb dX12_next__24 (by decide) ?_
      refine lv_istore_n (lv' := [(3, .int 0), (2, .int 0), (0, .ref a0), (1, .int x1)]) hx hb dX12_next__25 rfl hl (by decide) rfl (fun ls hl => ?_)
      obtain ⟨xi18, hxi18, hxi18a, hxi18b⟩ := tw_rd TH hm0 hk0 (by decide) (by decide) (k := 28) rfl
      have hJ26 : ∀ (n26 : Nat) (y26_3 : Int32) (y26_2 : Int32) (Eg26 : Nat → va_E) (H : Heap) (locs : List Loc) (ls : Array Slot), 0 ≤ y26_3.toInt → y26_3.toInt ≤ 24 → (y26_3.toInt ≤ xi18.toInt) → (0 ≤ y26_2.toInt) → (y26_2.toInt ≤ y26_3.toInt) → (xi1.toInt ≤ 11) → (x1.toInt < xi1.toInt) → (0 ≤ x1.toInt) → 24 - y26_3.toInt ≤ (n26 : Int) → tw_fr kp L [] [353] E14 Eg26 → rd_ok Eg26 a0 → eo_ok Eg26 a0 → ht_ok Eg26 a0 → dr_ok Eg26 a0 → ln_ok Eg26 a0 → dl_ok Eg26 a0 → fw_ok Eg26 a0 → kg_ok Eg26 a0 → tt_ok Eg26 a0 → row_ok Eg26 a0 (x1.toInt) → ls_ok Eg26 a0 (x1.toInt) → pi_ok Eg26 a0 → nx_ok Eg26 a0 (y26_3.toInt) → fc_ok Eg26 a0 (y26_3.toInt) (y26_2.toInt) → tw_H D cs kp L Eg26 A H → va_S A s.heap H locs → lv_has ls 4 [(3, .int y26_3), (2, .int y26_2), (0, .ref a0), (1, .int x1)] → W p l e { frames := 46, cells := 0, slots := 0, locals := 1164 } s m [.ref a0, .int x1].toArray below meth c H locs 0 0 (MQ below (tw_Q D cs kp0 L0 (fun v kq Lq Eq => (∃ x : Int32, v = some (.int x) ∧ (-1) ≤ x.toInt ∧ x.toInt ≤ 11 ∧ rd_ok Eq a0 ∧ eo_ok Eq a0 ∧ ht_ok Eq a0 ∧ dr_ok Eq a0 ∧ ln_ok Eq a0 ∧ dl_ok Eq a0 ∧ fw_ok Eq a0 ∧ kg_ok Eq a0) ∧ kp = kq ∧ L = Lq ∧ tw_fr kp L [(12, 1), (12, 2), (12, 3), (12, 4), (12, 26), (12, 27), (12, 28), (12, 50), (12, 51)] [326, 327, 328, 329, 330, 331, 332, 334, 335, 343, 344, 345, 346, 347, 348, 349, 353, 354, 355, 356, 357, 358] E Eq) A) [.ref a0, .int x1].toArray s 0 0 A) (F0 m 26 ls []) := by
        intro n26
        induction n26 using Nat.strongRecOn with
        | _ n26 ih26 =>
          intro y26_3 y26_2 Eg26 H locs ls hy26_3a hy26_3b hin26_0 hin26_1 hin26_2 hin26_3 hin26_4 hin26_5 hmeas26 hG26 hcg26_0 hcg26_1 hcg26_2 hcg26_3 hcg26_4 hcg26_5 hcg26_6 hcg26_7 hcg26_8 hcg26_9 hcg26_10 hcg26_11 hcg26_12 hcg26_13 TH hS hl
          have hF := hF.tr hG26 (fun _ h => ⟨h, rfl⟩) (by decide) (by decide)
          have hmf19 : tw_fv Eg26 a0 27 = .int xi1 := (hG26.1 a0 27 hm0 (by rw [hk0]; decide)).trans hmf16
          have hmf20 : tw_fv Eg26 a0 14 = .int xi7 := (hG26.1 a0 14 hm0 (by rw [hk0]; decide)).trans hmf17
          have hmf21 : tw_fv Eg26 a0 50 = .int zfxc15_0_0 := (hG26.1 a0 50 hm0 (by rw [hk0]; decide)).trans hzfxc15_0_0
          have hmf22 : tw_fv Eg26 a0 28 = .int xi18 := (hG26.1 a0 28 hm0 (by rw [hk0]; decide)).trans hxi18
          refine lv_iload_n hx hb dX12_next__26 rfl (lv_at hl 0 rfl) ?_
          refine lv_aload_n hx hb dX12_next__27 rfl (lv_at hl 2 rfl) ?_
          refine tw_get (ci := 12) (C := RX12) (T := TX12) (N := 64) hx hb hB cx_inX12 hown hK TH hm0 hk0 rfl ⟨by decide, rfl⟩ 28 (by decide) cw_1221 (fun _ h9 => h9) dX12_next__28 (fun hv => ?_)
          rw [hmf22]
          refine lv_icmp_ge (tgt := 89) hx hb dX12_next__31 (by decide) (fun hc23 => ?_) (fun hc23 => ?_)
          · have hf24 : xi18.toInt ≤ y26_3.toInt := by have z := (fa_le _ _).mp hc23;  omega
            refine lv_aload_n hx hb dX12_next__89 rfl (lv_at hl 2 rfl) ?_
            refine tw_get (ci := 12) (C := RX12) (T := TX12) (N := 64) hx hb hB cx_inX12 hown hK TH hm0 hk0 rfl ⟨by decide, rfl⟩ 26 (by decide) cw_1219 (fun _ h9 => h9) dX12_next__90 (fun hv => ?_)
            obtain ⟨xi25, hxi25, hxi25a, hxi25b⟩ : ∃ x : Int32, tw_fv Eg26 a0 26 = .int x ∧ 0 ≤ x.toInt ∧ x.toInt ≤ 150 := hv
            rw [hxi25]
            refine lv_iload_n hx hb dX12_next__93 rfl (lv_at hl 1 rfl) ?_
            refine lv_iadd hx hb dX12_next__94 ?_
            refine lv_topi (fun zi26 ezi26 => ?_)
            have hzi26 : zi26.toInt = xi25.toInt + y26_2.toInt := by rw [ezi26];  have := ia_lo xi25; have := ia_hi xi25; have := ia_lo y26_2; have := ia_hi y26_2; exact (ia_add (by omega) (by omega)).trans (by omega)
            refine lv_sipush (v := 150) hx hb dX12_next__95 (by decide) ?_
            refine lv_icmp_le (tgt := 105) hx hb dX12_next__98 (by decide) (fun hc27 => ?_) (fun hc27 => ?_)
            · have hf28 : zi26.toInt ≤ 150 := by have z := (fa_le _ _).mp hc27; have : ((150 : Int32).toInt) = 150 := (by decide); omega
              have h28q : 1 ≤ tw_fi Eg26 a0 28 := hcg26_8.1.1
              have hnx := nx_done (by rw [tw_fi_of hmf22]; exact nx_ok_cast (by omega) hcg26_12) hcg26_11 hcg26_10 hcg26_9 h28q
              refine lv_aload_n hx hb dX12_next__105 rfl (lv_at hl 2 rfl) ?_
              refine lv_iload_n hx hb dX12_next__106 rfl (lv_at hl 3 rfl) ?_
              refine tw_Vc (o := a0) (ci := 12) (n := 1) (post := (fun v kq Lq Eq => (∃ x : Int32, v = some (.int x) ∧ 0 ≤ x.toInt ∧ x.toInt ≤ 11 ∧ rd_ok Eq a0 ∧ eo_ok Eq a0 ∧ ht_ok Eq a0 ∧ dr_ok Eq a0 ∧ ln_ok Eq a0 ∧ dl_ok Eq a0 ∧ fw_ok Eq a0) ∧ kp = kq ∧ L = Lq ∧ tw_fr kp L [(12, 1), (12, 26), (12, 27)] [326, 327, 328, 329, 330, 331, 334, 335, 353] Eg26 Eq)) (As := [.int x1]) (rest := []) ⟨hx, hb, hml, hown, hB⟩ (fun sz => tX12_comes l D cs a0 x1 xi1 xi25 hm0 hk0 (by omega) (by omega) hmf19 hxi25 (by  omega) (by  exact Or.inr ⟨by omega, hnx.2.1, hnx.2.2.2.1, hnx.2.2.2.2⟩) hcg26_8 (by have z := hnx.1; rw [tw_fi_of hxi25] at z; exact z) (by unfold nc2_ok nr_c; have z : _ = _ := hcg26_13; rw [tw_fi_of hxi25, tw_fi_of hmf22]; rw [show (y26_3.toInt).toNat = (xi18.toInt).toNat by omega] at z; omega) hcg26_0 hcg26_1 hcg26_2 hcg26_3 hcg26_4 hcg26_5 hcg26_6 sz) cg_12_351_X12_comes rfl rfl (by decide +kernel) ⟨Nat.le_of_ble_eq_true rfl, Nat.le_of_ble_eq_true rfl⟩ hK hN TH hS hA rfl hm0 hk0 (by decide) rfl hl.1 rfl (Nat.le_of_ble_eq_true rfl) dX12_next__107 ⟨Nat.le_of_ble_eq_true rfl, Nat.le_of_ble_eq_true rfl⟩ (fun v29 kp29 L29 E29 H locs hq29 hx29 TH hS => ?_)
              obtain ⟨⟨xc30, rfl, hxc30a, hxc30b, hgpxc30_0, hgpxc30_1, hgpxc30_2, hgpxc30_3, hgpxc30_4, hgpxc30_5, hgpxc30_6⟩, rfl, rfl, hst29⟩ := hq29
              have hF := hF.tr hst29 (fun _ h => ⟨h, rfl⟩) (by decide) (by decide)
              have hmf31 : tw_fv E29 a0 14 = .int xi7 := (hst29.1 a0 14 hm0 (by rw [hk0]; decide)).trans hmf20
              have hmf32 : tw_fv E29 a0 50 = .int zfxc15_0_0 := (hst29.1 a0 50 hm0 (by rw [hk0]; decide)).trans hmf21
              have hmf33 : tw_fv E29 a0 28 = .int xi18 := (hst29.1 a0 28 hm0 (by rw [hk0]; decide)).trans hmf22
              have hcg26_7 : kg_ok E29 a0 := kg_ok_fr TH hst29 hm0 hk0 (by decide) (by decide) hcg26_7
              have hcg26_11 : pi_ok E29 a0 := pi_ok_fr TH hst29 hm0 hk0 (by decide) (by decide) hcg26_11
              refine W.eq (g2 := F0 m 110 ls [.int xc30]) rfl ?_
              exact tw_iret hx hb hr hlocks TH hS hex ⟨⟨_, rfl, (show (-1) ≤ Int32.toInt xc30 from by  omega), (show Int32.toInt xc30 ≤ 11 from by  omega), hgpxc30_0, hgpxc30_1, hgpxc30_2, hgpxc30_3, hgpxc30_4, hgpxc30_5, hgpxc30_6, hcg26_7⟩, rfl, rfl, hF⟩ (Nat.le_of_ble_eq_true rfl) (Nat.le_of_ble_eq_true rfl) dX12_next__110
            · have hf34 : ¬ (zi26.toInt ≤ 150) := fun q => hc27 ((fa_le _ _).mpr (by have : ((150 : Int32).toInt) = 150 := (by decide); omega))
              refine lv_iconst (v := (-1)) hx hb dX12_next__101 (by decide) ?_
              refine lv_goto (tgt := 110) hx hb dX12_next__102 (by decide) ?_
              exact tw_iret hx hb hr hlocks TH hS hex ⟨⟨_, rfl, (show (-1) ≤ Int32.toInt (-1) from by have : (((-1) : Int32).toInt) = (-1) := (by decide); omega), (show Int32.toInt (-1) ≤ 11 from by have : (((-1) : Int32).toInt) = (-1) := (by decide); omega), hcg26_0, hcg26_1, hcg26_2, hcg26_3, hcg26_4, hcg26_5, hcg26_6, hcg26_7⟩, rfl, rfl, hF⟩ (Nat.le_of_ble_eq_true rfl) (Nat.le_of_ble_eq_true rfl) dX12_next__110
          · have hf35 : ¬ (xi18.toInt ≤ y26_3.toInt) := fun q => hc23 ((fa_le _ _).mpr (by  omega))
            refine lv_aload_n hx hb dX12_next__34 rfl (lv_at hl 2 rfl) ?_
            refine tw_get (ci := 12) (C := RX12) (T := TX12) (N := 64) hx hb hB cx_inX12 hown hK TH hm0 hk0 rfl ⟨by decide, rfl⟩ 44 (by decide) cw_1237 (fun _ h9 => h9) dX12_next__35 (fun hv => ?_)
            obtain ⟨xr36, hxr36, hmxr36, hkxr36⟩ : ∃ a : Nat, tw_fv Eg26 a0 44 = .ref a ∧ a ∈ L ∧ kp a = 353 := hv
            rw [hxr36]
            refine lv_iload_n hx hb dX12_next__38 rfl (lv_at hl 0 rfl) ?_
            refine lv_aload_n hx hb dX12_next__39 rfl (lv_at hl 2 rfl) ?_
            refine tw_get (ci := 12) (C := RX12) (T := TX12) (N := 64) hx hb hB cx_inX12 hown hK TH hm0 hk0 rfl ⟨by decide, rfl⟩ 47 (by decide) cw_1240 (fun _ h9 => h9) dX12_next__40 (fun hv => ?_)
            obtain ⟨xr37, hxr37, hmxr37, hkxr37⟩ : ∃ a : Nat, tw_fv Eg26 a0 47 = .ref a ∧ a ∈ L ∧ kp a = 356 := hv
            rw [hxr37]
            refine lv_iload_n hx hb dX12_next__43 rfl (lv_at hl 0 rfl) ?_
            refine tw_iald (k := 356) (t0 := 0) (n := 24) (lo := (-1)) (hi := 39) hx hb hK TH hmxr37 hkxr37 (by decide) rfl rfl (i := y26_3) (vp_in_iff.mpr ⟨by  omega, by  omega⟩) dX12_next__44 (fun hxe38a hxe38b => ?_)
            obtain ⟨xe38, exe38⟩ : ∃ z : Int32, tw_iv Eg26 xr37 (Int32.toNatClampNeg y26_3) = z := ⟨_, rfl⟩
            rw [exe38] at hxe38a hxe38b ⊢
            refine lv_iconst (v := (-1)) hx hb dX12_next__45 (by decide) ?_
            refine lv_icmp_ne (tgt := 53) hx hb dX12_next__46 (by decide) (fun hc39 => ?_) (fun hc39 => ?_)
            · have hf40 : ¬ (xe38.toInt = (-1)) := fun q => hc39 ((fa_eq _ _).mpr (by have : (((-1) : Int32).toInt) = (-1) := (by decide); omega))
              refine lv_aload_n hx hb dX12_next__53 rfl (lv_at hl 2 rfl) ?_
              refine tw_get (ci := 12) (C := RX12) (T := TX12) (N := 64) hx hb hB cx_inX12 hown hK TH hm0 hk0 rfl ⟨by decide, rfl⟩ 45 (by decide) cw_1238 (fun _ h9 => h9) dX12_next__54 (fun hv => ?_)
              obtain ⟨xr41, hxr41, hmxr41, hkxr41⟩ : ∃ a : Nat, tw_fv Eg26 a0 45 = .ref a ∧ a ∈ L ∧ kp a = 354 := hv
              rw [hxr41]
              refine lv_aload_n hx hb dX12_next__57 rfl (lv_at hl 2 rfl) ?_
              refine tw_get (ci := 12) (C := RX12) (T := TX12) (N := 64) hx hb hB cx_inX12 hown hK TH hm0 hk0 rfl ⟨by decide, rfl⟩ 47 (by decide) cw_1240 (fun _ h9 => h9) dX12_next__58 (fun hv => ?_)
              rw [hxr37]
              refine lv_iload_n hx hb dX12_next__61 rfl (lv_at hl 0 rfl) ?_
              refine tw_iald (k := 356) (t0 := 0) (n := 24) (lo := (-1)) (hi := 39) hx hb hK TH hmxr37 hkxr37 (by decide) rfl rfl (i := y26_3) (vp_in_iff.mpr ⟨by  omega, by  omega⟩) dX12_next__62 (fun hxe42a hxe42b => ?_)
              rw [exe38]
              refine tw_iald (k := 354) (t0 := 0) (n := 40) (lo := 0) (hi := 149) hx hb hK TH hmxr41 hkxr41 (by decide) rfl rfl (i := xe38) (vp_in_iff.mpr ⟨by  omega, by  omega⟩) dX12_next__63 (fun hxe43a hxe43b => ?_)
              obtain ⟨xe43, exe43⟩ : ∃ z : Int32, tw_iv Eg26 xr41 (Int32.toNatClampNeg xe38) = z := ⟨_, rfl⟩
              rw [exe43] at hxe43a hxe43b ⊢
              refine tw_iast (k := 353) (n := 24) (lo := (-1)) (hi := 149) hx hb hK TH hS hmxr36 hkxr36 (by decide) rfl (i := y26_3) (x := xe43) (vp_in_iff.mpr ⟨by  omega, by  omega⟩) (by omega) (by omega) dX12_next__64 (fun H locs E44 TH hS hp45 hp46 hp47 => ?_)
              have hst48 : tw_fr kp L [] [353] Eg26 E44 := tw_fr.ast tw_fr.rf (fun _ => hkxr36) hp45 hp46 (by decide)
              have hF := hF.tr hst48 (fun _ h => ⟨h, rfl⟩) (by decide) (by decide)
              have hG26 := hG26.tr hst48 (fun _ h => ⟨h, rfl⟩) (by decide) (by decide)
              have hmf49 : tw_fv E44 a0 27 = .int xi1 := (hst48.1 a0 27 hm0 (by rw [hk0]; decide)).trans hmf19
              have hmf50 : tw_fv E44 a0 14 = .int xi7 := (hst48.1 a0 14 hm0 (by rw [hk0]; decide)).trans hmf20
              have hmf51 : tw_fv E44 a0 50 = .int zfxc15_0_0 := (hst48.1 a0 50 hm0 (by rw [hk0]; decide)).trans hmf21
              have hmf52 : tw_fv E44 a0 28 = .int xi18 := (hst48.1 a0 28 hm0 (by rw [hk0]; decide)).trans hmf22
              have hmf53 : tw_fv E44 a0 44 = .ref xr36 := (hst48.1 a0 44 hm0 (by rw [hk0]; decide)).trans hxr36
              have hmf54 : tw_fv E44 a0 47 = .ref xr37 := (hst48.1 a0 47 hm0 (by rw [hk0]; decide)).trans hxr37
              have hmf55 : tw_fv E44 a0 45 = .ref xr41 := (hst48.1 a0 45 hm0 (by rw [hk0]; decide)).trans hxr41
              have hcg26_0_o := hcg26_0
              have hcg26_1_o := hcg26_1
              have hcg26_2_o := hcg26_2
              have hcg26_3_o := hcg26_3
              have hcg26_4_o := hcg26_4
              have hcg26_5_o := hcg26_5
              have hcg26_6_o := hcg26_6
              have hcg26_7_o := hcg26_7
              have hcg26_8_o := hcg26_8
              have hcg26_9_o := hcg26_9
              have hcg26_10_o := hcg26_10
              have hcg26_11_o := hcg26_11
              have hcg26_12_o := hcg26_12
              have hcg26_13_o := hcg26_13
              have hcg26_0 : rd_ok E44 a0 := rd_ok_fr TH hst48 hm0 hk0 (by decide) (by decide) hcg26_0
              have hcg26_1 : eo_ok E44 a0 := eo_ok_fr TH hst48 hm0 hk0 (by decide) (by decide) hcg26_1
              have hcg26_2 : ht_ok E44 a0 := ht_ok_fr TH hst48 hm0 hk0 (by decide) (by decide) hcg26_2
              have hcg26_3 : dr_ok E44 a0 := dr_ok_fr TH hst48 hm0 hk0 (by decide) (by decide) hcg26_3
              have hcg26_4 : ln_ok E44 a0 := ln_ok_fr TH hst48 hm0 hk0 (by decide) (by decide) hcg26_4
              have hcg26_5 : dl_ok E44 a0 := dl_ok_fr TH hst48 hm0 hk0 (by decide) (by decide) hcg26_5
              have hcg26_6 : fw_ok E44 a0 := fw_ok_fr TH hst48 hm0 hk0 (by decide) (by decide) hcg26_6
              have hcg26_7 : kg_ok E44 a0 := kg_ok_fr TH hst48 hm0 hk0 (by decide) (by decide) hcg26_7
              have hcg26_8 : tt_ok E44 a0 := tt_ok_fr TH hst48 hm0 hk0 (by decide) (by decide) hcg26_8
              have hcg26_9 : row_ok E44 a0 (x1.toInt) := row_ok_fr TH hst48 hm0 hk0 (by decide) (by decide) (by omega) hcg26_9
              have hcg26_10 : ls_ok E44 a0 (x1.toInt) := ls_ok_fr TH hst48 hm0 hk0 (by decide) (by decide) (by omega) hcg26_10
              have hcg26_11 : pi_ok E44 a0 := pi_ok_fr TH hst48 hm0 hk0 (by decide) (by decide) hcg26_11
              have hcg26_12 : nx_ok E44 a0 (y26_3.toInt + 1) := nx_push (v := xe43.toInt) hcg26_12_o (by omega) rfl (by have rf_xe38 : tw_el Eg26 a0 47 (y26_3.toInt).toNat = xe38.toInt := (by rw [tw_el_of hxr37]; exact congrArg Int32.toInt exe38); have rf_xe43 : tw_el Eg26 a0 45 (xe38.toInt).toNat = xe43.toInt := (by rw [tw_el_of hxr41]; exact congrArg Int32.toInt exe43); rw [rf_xe38]; rw [if_neg (by omega), rf_xe43]) (fun j => (by have w := tw_el_st hxr36 hp45 hp46 hp47 j; show _ = (if j = (y26_3.toInt).toNat then xe43.toInt else tw_el Eg26 a0 44 j); rw [w]; (by_cases e : j = (y26_3.toInt).toNat; (rw [if_pos ⟨rfl, e⟩, if_pos e]); (rw [if_neg (fun y => e y.2), if_neg e])))) (tw_el_fr TH hst48 hm0 hk0 (by decide) (by decide) (k := 45) rfl (by decide) (by decide) (by decide)) (tw_el_fr TH hst48 hm0 hk0 (by decide) (by decide) (k := 47) rfl (by decide) (by decide) (by decide))
              have hcg26_13 : fc_ok E44 a0 (y26_3.toInt) (y26_2.toInt) := fc_keep (v := xe43.toInt) hcg26_13_o (by omega) (fun j => (by have w := tw_el_st hxr36 hp45 hp46 hp47 j; show _ = (if j = (y26_3.toInt).toNat then xe43.toInt else tw_el Eg26 a0 44 j); rw [w]; (by_cases e : j = (y26_3.toInt).toNat; (rw [if_pos ⟨rfl, e⟩, if_pos e]); (rw [if_neg (fun y => e y.2), if_neg e]))))
              refine lv_iload_n hx hb dX12_next__65 rfl (lv_at hl 1 rfl) ?_
              refine lv_aload_n hx hb dX12_next__66 rfl (lv_at hl 2 rfl) ?_
              refine tw_get (ci := 12) (C := RX12) (T := TX12) (N := 64) hx hb hB cx_inX12 hown hK TH hm0 hk0 rfl ⟨by decide, rfl⟩ 44 (by decide) cw_1237 (fun _ h9 => h9) dX12_next__67 (fun hv => ?_)
              rw [hmf53]
              refine lv_iload_n hx hb dX12_next__70 rfl (lv_at hl 0 rfl) ?_
              refine tw_iald (k := 353) (t0 := 0) (n := 24) (lo := (-1)) (hi := 149) hx hb hK TH hmxr36 hkxr36 (by decide) rfl rfl (i := y26_3) (vp_in_iff.mpr ⟨by  omega, by  omega⟩) dX12_next__71 (fun hxe56a hxe56b => ?_)
              obtain ⟨xe56, exe56⟩ : ∃ z : Int32, tw_iv E44 xr36 (Int32.toNatClampNeg y26_3) = z := ⟨_, rfl⟩
              rw [exe56] at hxe56a hxe56b ⊢
              refine lv_iconst (v := (-1)) hx hb dX12_next__72 (by decide) ?_
              refine lv_icmp_ne (tgt := 80) hx hb dX12_next__73 (by decide) (fun hc57 => ?_) (fun hc57 => ?_)
              · have hf58 : ¬ (xe56.toInt = (-1)) := fun q => hc57 ((fa_eq _ _).mpr (by have : (((-1) : Int32).toInt) = (-1) := (by decide); omega))
                refine lv_iconst (v := 0) hx hb dX12_next__80 (by decide) ?_
                refine lv_iadd hx hb dX12_next__81 ?_
                refine lv_topi (fun zi59 ezi59 => ?_)
                have hzi59 : zi59.toInt = y26_2.toInt + 0 := by rw [ezi59]; have : ((0 : Int32).toInt) = 0 := (by decide); have := ia_lo y26_2; have := ia_hi y26_2; exact (ia_add (by omega) (by omega)).trans (by omega)
                refine lv_istore_n (lv' := [(2, .int zi59), (3, .int y26_3), (0, .ref a0), (1, .int x1)]) hx hb dX12_next__82 rfl hl (by decide) rfl (fun ls hl => ?_)
                have rf_xe56 : tw_el E44 a0 44 (y26_3.toInt).toNat = xe56.toInt := (by rw [tw_el_of hmf53]; exact congrArg Int32.toInt exe56)
                have hfc83 : fc_ok E44 a0 (y26_3.toInt + 1) (zi59.toInt) := fc_push hcg26_13 (by omega) rfl (by rw [rf_xe56]; omega)
                obtain ⟨zi60, ezi60⟩ : ∃ z : Int32, z = y26_3 + Int32.ofInt 1 := ⟨_, rfl⟩
                have hzi60 : zi60.toInt = y26_3.toInt + 1 := by rw [ezi60]; have : ((Int32.ofInt 1).toInt) = 1 := (by decide);  exact (ia_add (by omega) (by omega)).trans (by omega)
                refine lv_iinc (v := zi60) (lv' := [(3, .int zi60), (2, .int zi59), (0, .ref a0), (1, .int x1)]) hx hb dX12_next__83 hl (k := 1) rfl ezi60.symm (by decide) rfl (fun ls hl => ?_)
                refine lv_goto (tgt := 26) hx hb dX12_next__86 (by decide) ?_
                exact ih26 (n26 - 1) (by   omega) zi60 zi59 _ _ _ ls (by omega) (by omega) (by  omega) (by  omega) (by  omega) (by  omega) (by  omega) (by  omega) (by   omega) hG26 hcg26_0 hcg26_1 hcg26_2 hcg26_3 hcg26_4 hcg26_5 hcg26_6 hcg26_7 hcg26_8 hcg26_9 hcg26_10 hcg26_11 (nx_ok_cast (by  omega) hcg26_12) (fc_ok_cast (by  omega) hfc83) TH hS (lv_sub hl [0, 1, 2, 3] rfl)
              · have hf61 : xe56.toInt = (-1) := by have z := (fa_eq _ _).mp hc57; have : (((-1) : Int32).toInt) = (-1) := (by decide); omega
                refine lv_iconst (v := 1) hx hb dX12_next__76 (by decide) ?_
                refine lv_goto (tgt := 81) hx hb dX12_next__77 (by decide) ?_
                refine lv_iadd hx hb dX12_next__81 ?_
                refine lv_topi (fun zi62 ezi62 => ?_)
                have hzi62 : zi62.toInt = y26_2.toInt + 1 := by rw [ezi62]; have : ((1 : Int32).toInt) = 1 := (by decide); have := ia_lo y26_2; have := ia_hi y26_2; exact (ia_add (by omega) (by omega)).trans (by omega)
                refine lv_istore_n (lv' := [(2, .int zi62), (3, .int y26_3), (0, .ref a0), (1, .int x1)]) hx hb dX12_next__82 rfl hl (by decide) rfl (fun ls hl => ?_)
                have rf_xe56 : tw_el E44 a0 44 (y26_3.toInt).toNat = xe56.toInt := (by rw [tw_el_of hmf53]; exact congrArg Int32.toInt exe56)
                have hfc83 : fc_ok E44 a0 (y26_3.toInt + 1) (zi62.toInt) := fc_push hcg26_13 (by omega) rfl (by rw [rf_xe56]; omega)
                obtain ⟨zi63, ezi63⟩ : ∃ z : Int32, z = y26_3 + Int32.ofInt 1 := ⟨_, rfl⟩
                have hzi63 : zi63.toInt = y26_3.toInt + 1 := by rw [ezi63]; have : ((Int32.ofInt 1).toInt) = 1 := (by decide);  exact (ia_add (by omega) (by omega)).trans (by omega)
                refine lv_iinc (v := zi63) (lv' := [(3, .int zi63), (2, .int zi62), (0, .ref a0), (1, .int x1)]) hx hb dX12_next__83 hl (k := 1) rfl ezi63.symm (by decide) rfl (fun ls hl => ?_)
                refine lv_goto (tgt := 26) hx hb dX12_next__86 (by decide) ?_
                exact ih26 (n26 - 1) (by   omega) zi63 zi62 _ _ _ ls (by omega) (by omega) (by  omega) (by  omega) (by  omega) (by  omega) (by  omega) (by  omega) (by   omega) hG26 hcg26_0 hcg26_1 hcg26_2 hcg26_3 hcg26_4 hcg26_5 hcg26_6 hcg26_7 hcg26_8 hcg26_9 hcg26_10 hcg26_11 (nx_ok_cast (by  omega) hcg26_12) (fc_ok_cast (by  omega) hfc83) TH hS (lv_sub hl [0, 1, 2, 3] rfl)
            · have hf64 : xe38.toInt = (-1) := by have z := (fa_eq _ _).mp hc39; have : (((-1) : Int32).toInt) = (-1) := (by decide); omega
              refine lv_iconst (v := (-1)) hx hb dX12_next__49 (by decide) ?_
              refine lv_goto (tgt := 64) hx hb dX12_next__50 (by decide) ?_
              refine tw_iast (k := 353) (n := 24) (lo := (-1)) (hi := 149) hx hb hK TH hS hmxr36 hkxr36 (by decide) rfl (i := y26_3) (x := (-1)) (vp_in_iff.mpr ⟨by  omega, by  omega⟩) (by have : (((-1) : Int32).toInt) = (-1) := (by decide); omega) (by have : (((-1) : Int32).toInt) = (-1) := (by decide); omega) dX12_next__64 (fun H locs E65 TH hS hp66 hp67 hp68 => ?_)
              have hst69 : tw_fr kp L [] [353] Eg26 E65 := tw_fr.ast tw_fr.rf (fun _ => hkxr36) hp66 hp67 (by decide)
              have hF := hF.tr hst69 (fun _ h => ⟨h, rfl⟩) (by decide) (by decide)
              have hG26 := hG26.tr hst69 (fun _ h => ⟨h, rfl⟩) (by decide) (by decide)
              have hmf70 : tw_fv E65 a0 27 = .int xi1 := (hst69.1 a0 27 hm0 (by rw [hk0]; decide)).trans hmf19
              have hmf71 : tw_fv E65 a0 14 = .int xi7 := (hst69.1 a0 14 hm0 (by rw [hk0]; decide)).trans hmf20
              have hmf72 : tw_fv E65 a0 50 = .int zfxc15_0_0 := (hst69.1 a0 50 hm0 (by rw [hk0]; decide)).trans hmf21
              have hmf73 : tw_fv E65 a0 28 = .int xi18 := (hst69.1 a0 28 hm0 (by rw [hk0]; decide)).trans hmf22
              have hmf74 : tw_fv E65 a0 44 = .ref xr36 := (hst69.1 a0 44 hm0 (by rw [hk0]; decide)).trans hxr36
              have hmf75 : tw_fv E65 a0 47 = .ref xr37 := (hst69.1 a0 47 hm0 (by rw [hk0]; decide)).trans hxr37
              have hcg26_0_o := hcg26_0
              have hcg26_1_o := hcg26_1
              have hcg26_2_o := hcg26_2
              have hcg26_3_o := hcg26_3
              have hcg26_4_o := hcg26_4
              have hcg26_5_o := hcg26_5
              have hcg26_6_o := hcg26_6
              have hcg26_7_o := hcg26_7
              have hcg26_8_o := hcg26_8
              have hcg26_9_o := hcg26_9
              have hcg26_10_o := hcg26_10
              have hcg26_11_o := hcg26_11
              have hcg26_12_o := hcg26_12
              have hcg26_13_o := hcg26_13
              have hcg26_0 : rd_ok E65 a0 := rd_ok_fr TH hst69 hm0 hk0 (by decide) (by decide) hcg26_0
              have hcg26_1 : eo_ok E65 a0 := eo_ok_fr TH hst69 hm0 hk0 (by decide) (by decide) hcg26_1
              have hcg26_2 : ht_ok E65 a0 := ht_ok_fr TH hst69 hm0 hk0 (by decide) (by decide) hcg26_2
              have hcg26_3 : dr_ok E65 a0 := dr_ok_fr TH hst69 hm0 hk0 (by decide) (by decide) hcg26_3
              have hcg26_4 : ln_ok E65 a0 := ln_ok_fr TH hst69 hm0 hk0 (by decide) (by decide) hcg26_4
              have hcg26_5 : dl_ok E65 a0 := dl_ok_fr TH hst69 hm0 hk0 (by decide) (by decide) hcg26_5
              have hcg26_6 : fw_ok E65 a0 := fw_ok_fr TH hst69 hm0 hk0 (by decide) (by decide) hcg26_6
              have hcg26_7 : kg_ok E65 a0 := kg_ok_fr TH hst69 hm0 hk0 (by decide) (by decide) hcg26_7
              have hcg26_8 : tt_ok E65 a0 := tt_ok_fr TH hst69 hm0 hk0 (by decide) (by decide) hcg26_8
              have hcg26_9 : row_ok E65 a0 (x1.toInt) := row_ok_fr TH hst69 hm0 hk0 (by decide) (by decide) (by omega) hcg26_9
              have hcg26_10 : ls_ok E65 a0 (x1.toInt) := ls_ok_fr TH hst69 hm0 hk0 (by decide) (by decide) (by omega) hcg26_10
              have hcg26_11 : pi_ok E65 a0 := pi_ok_fr TH hst69 hm0 hk0 (by decide) (by decide) hcg26_11
              have hcg26_12 : nx_ok E65 a0 (y26_3.toInt + 1) := nx_push (v := (-1)) hcg26_12_o (by omega) rfl (by have rf_xe38 : tw_el Eg26 a0 47 (y26_3.toInt).toNat = xe38.toInt := (by rw [tw_el_of hxr37]; exact congrArg Int32.toInt exe38); rw [rf_xe38]; rw [if_pos (by omega)]) (fun j => (by have w := tw_el_st hxr36 hp66 hp67 hp68 j; show _ = (if j = (y26_3.toInt).toNat then (-1) else tw_el Eg26 a0 44 j); rw [w]; (by_cases e : j = (y26_3.toInt).toNat; (rw [if_pos ⟨rfl, e⟩, if_pos e]; decide); (rw [if_neg (fun y => e y.2), if_neg e])))) (tw_el_fr TH hst69 hm0 hk0 (by decide) (by decide) (k := 45) rfl (by decide) (by decide) (by decide)) (tw_el_fr TH hst69 hm0 hk0 (by decide) (by decide) (k := 47) rfl (by decide) (by decide) (by decide))
              have hcg26_13 : fc_ok E65 a0 (y26_3.toInt) (y26_2.toInt) := fc_keep (v := (-1)) hcg26_13_o (by omega) (fun j => (by have w := tw_el_st hxr36 hp66 hp67 hp68 j; show _ = (if j = (y26_3.toInt).toNat then (-1) else tw_el Eg26 a0 44 j); rw [w]; (by_cases e : j = (y26_3.toInt).toNat; (rw [if_pos ⟨rfl, e⟩, if_pos e]; decide); (rw [if_neg (fun y => e y.2), if_neg e]))))
              refine lv_iload_n hx hb dX12_next__65 rfl (lv_at hl 1 rfl) ?_
              refine lv_aload_n hx hb dX12_next__66 rfl (lv_at hl 2 rfl) ?_
              refine tw_get (ci := 12) (C := RX12) (T := TX12) (N := 64) hx hb hB cx_inX12 hown hK TH hm0 hk0 rfl ⟨by decide, rfl⟩ 44 (by decide) cw_1237 (fun _ h9 => h9) dX12_next__67 (fun hv => ?_)
              rw [hmf74]
              refine lv_iload_n hx hb dX12_next__70 rfl (lv_at hl 0 rfl) ?_
              refine tw_iald (k := 353) (t0 := 0) (n := 24) (lo := (-1)) (hi := 149) hx hb hK TH hmxr36 hkxr36 (by decide) rfl rfl (i := y26_3) (vp_in_iff.mpr ⟨by  omega, by  omega⟩) dX12_next__71 (fun hxe76a hxe76b => ?_)
              obtain ⟨xe76, exe76⟩ : ∃ z : Int32, tw_iv E65 xr36 (Int32.toNatClampNeg y26_3) = z := ⟨_, rfl⟩
              rw [exe76] at hxe76a hxe76b ⊢
              refine lv_iconst (v := (-1)) hx hb dX12_next__72 (by decide) ?_
              refine lv_icmp_ne (tgt := 80) hx hb dX12_next__73 (by decide) (fun hc77 => ?_) (fun hc77 => ?_)
              · have hf78 : ¬ (xe76.toInt = (-1)) := fun q => hc77 ((fa_eq _ _).mpr (by have : (((-1) : Int32).toInt) = (-1) := (by decide); omega))
                refine lv_iconst (v := 0) hx hb dX12_next__80 (by decide) ?_
                refine lv_iadd hx hb dX12_next__81 ?_
                refine lv_topi (fun zi79 ezi79 => ?_)
                have hzi79 : zi79.toInt = y26_2.toInt + 0 := by rw [ezi79]; have : ((0 : Int32).toInt) = 0 := (by decide); have := ia_lo y26_2; have := ia_hi y26_2; exact (ia_add (by omega) (by omega)).trans (by omega)
                refine lv_istore_n (lv' := [(2, .int zi79), (3, .int y26_3), (0, .ref a0), (1, .int x1)]) hx hb dX12_next__82 rfl hl (by decide) rfl (fun ls hl => ?_)
                have rf_xe76 : tw_el E65 a0 44 (y26_3.toInt).toNat = xe76.toInt := (by rw [tw_el_of hmf74]; exact congrArg Int32.toInt exe76)
                have hfc83 : fc_ok E65 a0 (y26_3.toInt + 1) (zi79.toInt) := fc_push hcg26_13 (by omega) rfl (by rw [rf_xe76]; omega)
                obtain ⟨zi80, ezi80⟩ : ∃ z : Int32, z = y26_3 + Int32.ofInt 1 := ⟨_, rfl⟩
                have hzi80 : zi80.toInt = y26_3.toInt + 1 := by rw [ezi80]; have : ((Int32.ofInt 1).toInt) = 1 := (by decide);  exact (ia_add (by omega) (by omega)).trans (by omega)
                refine lv_iinc (v := zi80) (lv' := [(3, .int zi80), (2, .int zi79), (0, .ref a0), (1, .int x1)]) hx hb dX12_next__83 hl (k := 1) rfl ezi80.symm (by decide) rfl (fun ls hl => ?_)
                refine lv_goto (tgt := 26) hx hb dX12_next__86 (by decide) ?_
                exact ih26 (n26 - 1) (by   omega) zi80 zi79 _ _ _ ls (by omega) (by omega) (by  omega) (by  omega) (by  omega) (by  omega) (by  omega) (by  omega) (by   omega) hG26 hcg26_0 hcg26_1 hcg26_2 hcg26_3 hcg26_4 hcg26_5 hcg26_6 hcg26_7 hcg26_8 hcg26_9 hcg26_10 hcg26_11 (nx_ok_cast (by  omega) hcg26_12) (fc_ok_cast (by  omega) hfc83) TH hS (lv_sub hl [0, 1, 2, 3] rfl)
              · have hf81 : xe76.toInt = (-1) := by have z := (fa_eq _ _).mp hc77; have : (((-1) : Int32).toInt) = (-1) := (by decide); omega
                refine lv_iconst (v := 1) hx hb dX12_next__76 (by decide) ?_
                refine lv_goto (tgt := 81) hx hb dX12_next__77 (by decide) ?_
                refine lv_iadd hx hb dX12_next__81 ?_
                refine lv_topi (fun zi82 ezi82 => ?_)
                have hzi82 : zi82.toInt = y26_2.toInt + 1 := by rw [ezi82]; have : ((1 : Int32).toInt) = 1 := (by decide); have := ia_lo y26_2; have := ia_hi y26_2; exact (ia_add (by omega) (by omega)).trans (by omega)
                refine lv_istore_n (lv' := [(2, .int zi82), (3, .int y26_3), (0, .ref a0), (1, .int x1)]) hx hb dX12_next__82 rfl hl (by decide) rfl (fun ls hl => ?_)
                have rf_xe76 : tw_el E65 a0 44 (y26_3.toInt).toNat = xe76.toInt := (by rw [tw_el_of hmf74]; exact congrArg Int32.toInt exe76)
                have hfc83 : fc_ok E65 a0 (y26_3.toInt + 1) (zi82.toInt) := fc_push hcg26_13 (by omega) rfl (by rw [rf_xe76]; omega)
                obtain ⟨zi83, ezi83⟩ : ∃ z : Int32, z = y26_3 + Int32.ofInt 1 := ⟨_, rfl⟩
                have hzi83 : zi83.toInt = y26_3.toInt + 1 := by rw [ezi83]; have : ((Int32.ofInt 1).toInt) = 1 := (by decide);  exact (ia_add (by omega) (by omega)).trans (by omega)
                refine lv_iinc (v := zi83) (lv' := [(3, .int zi83), (2, .int zi82), (0, .ref a0), (1, .int x1)]) hx hb dX12_next__83 hl (k := 1) rfl ezi83.symm (by decide) rfl (fun ls hl => ?_)
                refine lv_goto (tgt := 26) hx hb dX12_next__86 (by decide) ?_
                exact ih26 (n26 - 1) (by   omega) zi83 zi82 _ _ _ ls (by omega) (by omega) (by  omega) (by  omega) (by  omega) (by  omega) (by  omega) (by  omega) (by   omega) hG26 hcg26_0 hcg26_1 hcg26_2 hcg26_3 hcg26_4 hcg26_5 hcg26_6 hcg26_7 hcg26_8 hcg26_9 hcg26_10 hcg26_11 (nx_ok_cast (by  omega) hcg26_12) (fc_ok_cast (by  omega) hfc83) TH hS (lv_sub hl [0, 1, 2, 3] rfl)
      exact hJ26 25 (0 : Int32) (0 : Int32) _ _ _ ls (by have : ((0 : Int32).toInt) = 0 := (by decide); omega) (by have : ((0 : Int32).toInt) = 0 := (by decide); omega) (by have : ((0 : Int32).toInt) = 0 := (by decide); omega) (by have : ((0 : Int32).toInt) = 0 := (by decide); omega) (by have : ((0 : Int32).toInt) = 0 := (by decide); omega) (by have : ((0 : Int32).toInt) = 0 := (by decide); omega) (by have : ((0 : Int32).toInt) = 0 := (by decide); omega) (by have : ((0 : Int32).toInt) = 0 := (by decide); omega) (by have : ((0 : Int32).toInt) = 0 := (by decide);  omega) tw_fr.rf hgpxc9_0 hgpxc9_1 hgpxc9_2 hgpxc9_3 hgpxc9_4 hgpxc9_5 hgpxc9_6 hgpxc9_7 htt17 hrow17 hgpxc15_0 hgpxc15_1 (nx_ok_cast (by have : ((0 : Int32).toInt) = 0 := (by decide); omega) hnx22) (fc_ok_cast (by have : ((0 : Int32).toInt) = 0 := (by decide); omega) hfc22) TH hS (lv_sub hl [0, 1, 2, 3] rfl)
    · have hf84 : xc9.toInt = 0 := by have z := (fa_eq _ _).mp hc12; have : ((0 : Int32).toInt) = 0 := (by decide); omega
      refine lv_iconst (v := (-1)) hx hb dX12_next__15 (by decide) ?_
      exact tw_iret hx hb hr hlocks TH hS hex ⟨⟨_, rfl, (show (-1) ≤ Int32.toInt (-1) from by have : (((-1) : Int32).toInt) = (-1) := (by decide); omega), (show Int32.toInt (-1) ≤ 11 from by have : (((-1) : Int32).toInt) = (-1) := (by decide); omega), hgpxc9_0, hgpxc9_1, hgpxc9_2, hgpxc9_3, hgpxc9_4, hgpxc9_5, hgpxc9_6, hgpxc9_7⟩, rfl, rfl, hF⟩ (Nat.le_of_ble_eq_true rfl) (Nat.le_of_ble_eq_true rfl) dX12_next__16
