theorem cg_12_272_X12_arranges : GoodIn cx_big (wsV "TreeMergeModel" 272 "TreeMergeModel" yX12_arranges (.code yX12_arranges cX12_arranges 4 none :: cx_big)) := cx_gV cw_1457 cw_1459 cp_71 cw_13 cw_1460
theorem cg_12_282_X12_readsTree : GoodIn cx_big (wsV "TreeMergeModel" 282 "TreeMergeModel" yX12_readsTree (.code yX12_readsTree cX12_readsTree 2 none :: cx_big)) := cx_gV cw_1406 cw_1408 cp_60 cw_13 cw_1409
theorem cg_12_399_X12_matches : GoodIn cx_big (wsV "TreeMergeModel" 399 "TreeMergeModel" yX12_matches (.code yX12_matches cX12_matches 3 none :: cx_big)) := cx_gV cw_1595 cw_1597 cp_99 cw_13 cw_1598
theorem cg_12_402_X12_bound : GoodIn cx_big (wsV "TreeMergeModel" 402 "TreeMergeModel" yX12_bound (.code yX12_bound cX12_bound 5 (some .int) :: cx_big)) := cx_gV cw_1643 cw_1645 cp_111 cw_13 cw_1646
set_option maxHeartbeats 4000000 in
set_option maxRecDepth 100000 in
theorem tX12_arranges (l : Launch) (D : va_G) (cs : Nat → ClassId) {kp : Nat → Nat} {L : List Nat} {E : Nat → va_E} (a0 : Nat) (fv0_28 : Int32) (hm0 : a0 ∈ L) (hk0 : kp a0 = 12) (hfv0_28 : tw_fv E a0 28 = .int fv0_28) (hpre0 : 1 ≤ fv0_28.toInt) (hg0 : th_ok E a0 (fv0_28.toInt)) (hg1 : tp_ok E a0 (fv0_28.toInt)) (hg2 : tq_ok E a0 (fv0_28.toInt)) (hg3 : tg_ok E a0 (fv0_28.toInt)) (hg4 : rd_ok E a0) (sz : Nat) : Met l yX12_arranges (.code yX12_arranges cX12_arranges 4 none :: cx_big) { frames := 4, cells := 0, slots := 0, locals := 98 } (tw_P D cs kp L E [.ref a0] sz) (tw_Q D cs kp L (fun v kq Lq Eq => v = none ∧ kp = kq ∧ L = Lq ∧ tw_fr kp L [] [327, 328, 329, 332, 343, 344, 345, 346, 347] E Eq ∧ (tt_ok Eq a0) ∧ (ot_ok Eq a0 15 E) ∧ rd_ok Eq a0) (va_A (va_pl L E) sz)) 0 0 (va_A (va_pl L E) sz) := by
  refine tw_ofW (by decide) (Nat.le_of_ble_eq_true rfl) ?_
  intro p e s m below meth c A ls hx hb hr hml hB hown hlocks hK hN hA TH hS hl
  have hown : s.vm.findClass "TreeMergeModel" = some m.cls := hown
  have hl : lv_has ls 4 [(0, .ref a0)] := hl
  obtain ⟨kp0, ekp⟩ : ∃ z, z = kp := ⟨_, rfl⟩
  obtain ⟨L0, eL⟩ : ∃ z, z = L := ⟨_, rfl⟩
  rw [show tw_Q D cs kp L = tw_Q D cs kp0 L0 by rw [ekp, eL]]
  have hex : ∀ a : Nat, a ∈ L0 → a ∈ L ∧ kp a = kp0 a := fun a h => ⟨by rw [← eL]; exact h, by rw [ekp]⟩
  have hF : tw_fr kp L [] [327, 328, 329, 332, 343, 344, 345, 346, 347] E E := tw_fr.rf
  obtain ⟨qfv0_28, hqfv0_28, hqfv0_28a, hqfv0_28b⟩ := tw_rd TH hm0 hk0 (by decide) (by decide) (k := 28) rfl
  have eqfv0_28 : qfv0_28 = fv0_28 := by have q := hqfv0_28.symm.trans hfv0_28; injection q
  rw [eqfv0_28] at hqfv0_28a hqfv0_28b
  have hot : ot_ok E a0 15 E := ot_ok_rf
  have hth0 := hg0
  have htp0 := hg1
  have htq0 := hg2
  have htg0 := hg3
  refine lv_aload_n hx hb dX12_arranges_0 rfl (lv_at hl 0 rfl) ?_
  refine lv_bipush (v := 15) hx hb dX12_arranges_1 (by decide) ?_
  refine tw_Vc (o := a0) (ci := 12) (n := 1) (post := (fun v kq Lq Eq => v = none ∧ kp = kq ∧ L = Lq ∧ tw_fr kp L [] [329] E Eq ∧ (oq_ok Eq a0 E 150))) (As := [.int 15]) (rest := []) ⟨hx, hb, hml, hown, hB⟩ (fun sz => tX12_orders_vT l D cs a0 (15 : Int32) fv0_28 hm0 hk0 (by have : ((15 : Int32).toInt) = 15 := (by decide); omega) (by have : ((15 : Int32).toInt) = 15 := (by decide); omega) hfv0_28 hg0 hg1 sz) cg_12_275_X12_orders rfl rfl (by decide +kernel) ⟨Nat.le_of_ble_eq_true rfl, Nat.le_of_ble_eq_true rfl⟩ hK hN TH hS hA rfl hm0 hk0 (by decide) rfl hl.1 rfl (Nat.le_of_ble_eq_true rfl) dX12_arranges_3 ⟨Nat.le_of_ble_eq_true rfl, Nat.le_of_ble_eq_true rfl⟩ (fun v1 kp1 L1 E1 H locs hq1 hx1 TH hS => ?_)
  obtain ⟨rfl, rfl, rfl, hst1, hpoxc2_0⟩ := hq1
  have hF := hF.tr hst1 (fun _ h => ⟨h, rfl⟩) (by decide) (by decide)
  have hmf3 : tw_fv E1 a0 28 = .int fv0_28 := (hst1.1 a0 28 hm0 (by rw [hk0]; decide)).trans hfv0_28
  have hg0 : th_ok E1 a0 (fv0_28.toInt) := th_ok_fr TH hst1 hm0 hk0 (by decide) (by decide) hg0
  have hg1 : tp_ok E1 a0 (fv0_28.toInt) := tp_ok_fr TH hst1 hm0 hk0 (by decide) (by decide) hg1
  have hg3 : tg_ok E1 a0 (fv0_28.toInt) := tg_ok_fr TH hst1 hm0 hk0 (by decide) (by decide) hg3
  have hg4 : rd_ok E1 a0 := rd_ok_fr TH hst1 hm0 hk0 (by decide) (by decide) hg4
  have hot : ot_ok E1 a0 (15) E := ot_ok_fr TH hst1 hm0 hk0 (by decide) (by decide) hot
  refine W.eq (g2 := F0 m 6 ls []) rfl ?_
  have hF6 : tw_fr kp L [] [343, 344, 345, 346, 347] E1 E1 := tw_fr.rf
  have TH6 := TH
  have eh6 := rw_h_fr TH hst1 hm0 hk0 (by decide) (by decide) (by decide) (i := 15) (by decide)
  have ep6 := rw_p_fr TH hst1 hm0 hk0 (by decide) (by decide) (by decide) (i := 15) (by decide)
  have hdq := oq_dq hpoxc2_0 hth0 htp0 htq0 htg0 eh6 ep6
  have hth6 := hg0
  have hth7 := hth6.1
  have htp6 := hg1
  have htree := tp_tree hth6 htp6 (by omega)
  have hsz0 : (rt_mz (rw_h E1 a0 15) (rw_p E1 a0 15) (rw_q E1 a0 15) 0 : Int) ≤ 24 := ar_sz hth6
  have har0 : ar_ok E1 a0 E1 (0) (0) := gs_zero rfl rfl
  refine lv_iconst (v := 0) hx hb dX12_arranges_6 (by decide) ?_
  refine lv_istore_n (lv' := [(1, .int 0), (0, .ref a0)]) hx hb dX12_arranges_7 rfl hl (by decide) rfl (fun ls hl => ?_)
  refine lv_iconst (v := 0) hx hb dX12_arranges_8 (by decide) ?_
  refine lv_istore_n (lv' := [(2, .int 0), (1, .int 0), (0, .ref a0)]) hx hb dX12_arranges_9 rfl hl (by decide) rfl (fun ls hl => ?_)
  have hJ10 : ∀ (n10 : Nat) (y10_2 : Int32) (y10_1 : Int32) (Eg10 : Nat → va_E) (H : Heap) (locs : List Loc) (ls : Array Slot), (-1) ≤ y10_2.toInt → y10_2.toInt ≤ 149 → (y10_2.toInt = -1 ∨ (0 ≤ y10_2.toInt ∧ y10_2.toInt < 150 ∧ rw_h E1 a0 15 (y10_2.toInt).toNat ≠ 0)) → (y10_1.toInt + (rt_mz (rw_h E1 a0 15) (rw_p E1 a0 15) (rw_q E1 a0 15) (y10_2.toInt) : Int) ≤ 24) → (0 ≤ y10_1.toInt) → (rt_mz (rw_h E1 a0 15) (rw_p E1 a0 15) (rw_q E1 a0 15) (y10_2.toInt) : Int) ≤ (n10 : Int) → tw_fr kp L [] [343, 346] E1 Eg10 → rd_ok Eg10 a0 → ot_ok Eg10 a0 (15) E → th_ok Eg10 a0 (fv0_28.toInt) → tp_ok Eg10 a0 (fv0_28.toInt) → ar_ok Eg10 a0 E1 (y10_1.toInt) (y10_2.toInt) → tw_H D cs kp L Eg10 A H → va_S A s.heap H locs → lv_has ls 4 [(2, .int y10_2), (1, .int y10_1), (0, .ref a0)] → W p l e { frames := 4, cells := 0, slots := 0, locals := 98 } s m [.ref a0].toArray below meth c H locs 0 0 (MQ below (tw_Q D cs kp0 L0 (fun v kq Lq Eq => v = none ∧ kp = kq ∧ L = Lq ∧ tw_fr kp L [] [327, 328, 329, 332, 343, 344, 345, 346, 347] E Eq ∧ (tt_ok Eq a0) ∧ (ot_ok Eq a0 15 E) ∧ rd_ok Eq a0) A) [.ref a0].toArray s 0 0 A) (F0 m 10 ls []) := by
    intro n10
    induction n10 using Nat.strongRecOn with
    | _ n10 ih10 =>
      intro y10_2 y10_1 Eg10 H locs ls hy10_2a hy10_2b hin10_0 hin10_1 hin10_2 hmeas10 hG10 hcg10_0 hcg10_1 hcg10_2 hcg10_3 hcg10_4 TH hS hl
      have hF := hF.tr hG10 (fun _ h => ⟨h, rfl⟩) (by decide) (by decide)
      have hF6 := hF6.tr hG10 (fun _ h => ⟨h, rfl⟩) (by decide) (by decide)
      have hmf4 : tw_fv Eg10 a0 28 = .int fv0_28 := (hG10.1 a0 28 hm0 (by rw [hk0]; decide)).trans hmf3
      refine lv_iload_n hx hb dX12_arranges_10 rfl (lv_at hl 0 rfl) ?_
      refine lv_iconst (v := (-1)) hx hb dX12_arranges_11 (by decide) ?_
      refine lv_icmp_eq (tgt := 44) hx hb dX12_arranges_12 (by decide) (fun hc5 => ?_) (fun hc5 => ?_)
      · have hf6 : y10_2.toInt = (-1) := by have z := (fa_eq _ _).mp hc5; have : (((-1) : Int32).toInt) = (-1) := (by decide); omega
        have hrf44 : rf_ok Eg10 a0 E1 (fv0_28.toInt) := gs_fin htree hdq hth6.2 (by omega) (show gsq _ _ _ _ _ _ _ _ from hcg10_4) (by omega)
        have huw44 : uw_ok Eg10 a0 E1 (0) := fun j hj => absurd hj (by omega)
        refine lv_iconst (v := 0) hx hb dX12_arranges_44 (by decide) ?_
        refine lv_istore_n (lv' := [(2, .int 0), (1, .int y10_1), (0, .ref a0)]) hx hb dX12_arranges_45 rfl hl (by decide) rfl (fun ls hl => ?_)
        have hJ46 : ∀ (n46 : Nat) (y46_2 : Int32) (Eg46 : Nat → va_E) (H : Heap) (locs : List Loc) (ls : Array Slot), 0 ≤ y46_2.toInt → y46_2.toInt ≤ 24 → (y46_2.toInt ≤ fv0_28.toInt) → 24 - y46_2.toInt ≤ (n46 : Int) → tw_fr kp L [] [344, 345, 347] Eg10 Eg46 → rd_ok Eg46 a0 → ot_ok Eg46 a0 (15) E → th_ok Eg46 a0 (fv0_28.toInt) → rf_ok Eg46 a0 E1 (fv0_28.toInt) → uw_ok Eg46 a0 E1 (y46_2.toInt) → tw_H D cs kp L Eg46 A H → va_S A s.heap H locs → lv_has ls 4 [(2, .int y46_2), (0, .ref a0)] → W p l e { frames := 4, cells := 0, slots := 0, locals := 98 } s m [.ref a0].toArray below meth c H locs 0 0 (MQ below (tw_Q D cs kp0 L0 (fun v kq Lq Eq => v = none ∧ kp = kq ∧ L = Lq ∧ tw_fr kp L [] [327, 328, 329, 332, 343, 344, 345, 346, 347] E Eq ∧ (tt_ok Eq a0) ∧ (ot_ok Eq a0 15 E) ∧ rd_ok Eq a0) A) [.ref a0].toArray s 0 0 A) (F0 m 46 ls []) := by
          intro n46
          induction n46 using Nat.strongRecOn with
          | _ n46 ih46 =>
            intro y46_2 Eg46 H locs ls hy46_2a hy46_2b hin46_0 hmeas46 hG46 hcg46_0 hcg46_1 hcg46_2 hcg46_3 hcg46_4 TH hS hl
            have hF := hF.tr hG46 (fun _ h => ⟨h, rfl⟩) (by decide) (by decide)
            have hF6 := hF6.tr hG46 (fun _ h => ⟨h, rfl⟩) (by decide) (by decide)
            have hmf7 : tw_fv Eg46 a0 28 = .int fv0_28 := (hG46.1 a0 28 hm0 (by rw [hk0]; decide)).trans hmf4
            refine lv_iload_n hx hb dX12_arranges_46 rfl (lv_at hl 0 rfl) ?_
            refine lv_aload_n hx hb dX12_arranges_47 rfl (lv_at hl 1 rfl) ?_
            refine tw_get (ci := 12) (C := RX12) (T := TX12) (N := 64) hx hb hB cx_inX12 hown hK TH hm0 hk0 rfl ⟨by decide, rfl⟩ 28 (by decide) cw_1221 (fun _ h9 => h9) dX12_arranges_48 (fun hv => ?_)
            rw [hmf7]
            refine lv_icmp_ge (tgt := 102) hx hb dX12_arranges_51 (by decide) (fun hc8 => ?_) (fun hc8 => ?_)
            · have hf9 : fv0_28.toInt ≤ y46_2.toInt := by have z := (fa_le _ _).mp hc8;  omega
              have htp102 : tp_ok Eg46 a0 (0) := fun c hc => absurd hc (by omega)
              have htq102 : tq_ok Eg46 a0 (0) := fun c hc => absurd hc (by omega)
              refine lv_iconst (v := 0) hx hb dX12_arranges_102 (by decide) ?_
              refine lv_istore_n (lv' := [(2, .int 0), (0, .ref a0)]) hx hb dX12_arranges_103 rfl hl (by decide) rfl (fun ls hl => ?_)
              have hJ104 : ∀ (n104 : Nat) (y104_2 : Int32) (Eg104 : Nat → va_E) (H : Heap) (locs : List Loc) (ls : Array Slot), 0 ≤ y104_2.toInt → y104_2.toInt ≤ 24 → (y104_2.toInt ≤ fv0_28.toInt) → 24 - y104_2.toInt ≤ (n104 : Int) → tw_fr kp L [] [327, 328, 329, 332] Eg46 Eg104 → rd_ok Eg104 a0 → ot_ok Eg104 a0 (15) E → th_ok Eg104 a0 (fv0_28.toInt) → rf_ok Eg104 a0 E1 (fv0_28.toInt) → uw_ok Eg104 a0 E1 (fv0_28.toInt) → tp_ok Eg104 a0 (y104_2.toInt) → tq_ok Eg104 a0 (y104_2.toInt) → tw_H D cs kp L Eg104 A H → va_S A s.heap H locs → lv_has ls 4 [(2, .int y104_2), (0, .ref a0)] → W p l e { frames := 4, cells := 0, slots := 0, locals := 98 } s m [.ref a0].toArray below meth c H locs 0 0 (MQ below (tw_Q D cs kp0 L0 (fun v kq Lq Eq => v = none ∧ kp = kq ∧ L = Lq ∧ tw_fr kp L [] [327, 328, 329, 332, 343, 344, 345, 346, 347] E Eq ∧ (tt_ok Eq a0) ∧ (ot_ok Eq a0 15 E) ∧ rd_ok Eq a0) A) [.ref a0].toArray s 0 0 A) (F0 m 104 ls []) := by
                intro n104
                induction n104 using Nat.strongRecOn with
                | _ n104 ih104 =>
                  intro y104_2 Eg104 H locs ls hy104_2a hy104_2b hin104_0 hmeas104 hG104 hcg104_0 hcg104_1 hcg104_2 hcg104_3 hcg104_4 hcg104_5 hcg104_6 TH hS hl
                  have hF := hF.tr hG104 (fun _ h => ⟨h, rfl⟩) (by decide) (by decide)
                  have hmf10 : tw_fv Eg104 a0 28 = .int fv0_28 := (hG104.1 a0 28 hm0 (by rw [hk0]; decide)).trans hmf7
                  refine lv_iload_n hx hb dX12_arranges_104 rfl (lv_at hl 0 rfl) ?_
                  refine lv_aload_n hx hb dX12_arranges_105 rfl (lv_at hl 1 rfl) ?_
                  refine tw_get (ci := 12) (C := RX12) (T := TX12) (N := 64) hx hb hB cx_inX12 hown hK TH hm0 hk0 rfl ⟨by decide, rfl⟩ 28 (by decide) cw_1221 (fun _ h9 => h9) dX12_arranges_106 (fun hv => ?_)
                  rw [hmf10]
                  refine lv_icmp_ge (tgt := 196) hx hb dX12_arranges_109 (by decide) (fun hc11 => ?_) (fun hc11 => ?_)
                  · have hf12 : fv0_28.toInt ≤ y104_2.toInt := by have z := (fa_le _ _).mp hc11;  omega
                    exact tw_vret hx hb hr hlocks TH hS hex ⟨rfl, rfl, rfl, hF, (by  exact tt_of (N := fv0_28.toInt) (th_ok_cast (by omega) hcg104_2) (tp_ok_cast (by omega) hcg104_5) (tq_ok_cast (by omega) hcg104_6) (tw_fi_of hmf10) (by omega)), (by  exact hcg104_1), hcg104_0⟩ (Nat.le_of_ble_eq_true rfl) (Nat.le_of_ble_eq_true rfl) dX12_arranges_196
                  · have hf13 : ¬ (fv0_28.toInt ≤ y104_2.toInt) := fun q => hc11 ((fa_le _ _).mpr (by  omega))
                    refine lv_aload_n hx hb dX12_arranges_112 rfl (lv_at hl 1 rfl) ?_
                    refine tw_get (ci := 12) (C := RX12) (T := TX12) (N := 64) hx hb hB cx_inX12 hown hK TH hm0 hk0 rfl ⟨by decide, rfl⟩ 37 (by decide) cw_1230 (fun _ h9 => h9) dX12_arranges_113 (fun hv => ?_)
                    obtain ⟨xr14, hxr14, hmxr14, hkxr14⟩ : ∃ a : Nat, tw_fv Eg104 a0 37 = .ref a ∧ a ∈ L ∧ kp a = 343 := hv
                    rw [hxr14]
                    refine lv_iload_n hx hb dX12_arranges_116 rfl (lv_at hl 0 rfl) ?_
                    refine tw_iald (k := 343) (t0 := 0) (n := 24) (lo := 0) (hi := 23) hx hb hK TH hmxr14 hkxr14 (by decide) rfl rfl (i := y104_2) (vp_in_iff.mpr ⟨by  omega, by  omega⟩) dX12_arranges_117 (fun hxe15a hxe15b => ?_)
                    obtain ⟨xe15, exe15⟩ : ∃ z : Int32, tw_iv Eg104 xr14 (Int32.toNatClampNeg y104_2) = z := ⟨_, rfl⟩
                    rw [exe15] at hxe15a hxe15b ⊢
                    refine lv_istore_n (lv' := [(3, .int xe15), (2, .int y104_2), (0, .ref a0)]) hx hb dX12_arranges_118 rfl hl (by decide) rfl (fun ls hl => ?_)
                    have rf_xe15 : tw_el Eg104 a0 37 (y104_2.toInt).toNat = xe15.toInt := (by rw [tw_el_of hxr14]; exact congrArg Int32.toInt exe15)
                    have hF119 : tw_fr kp L [] [327, 332] Eg104 Eg104 := tw_fr.rf
                    have r119 := (hcg104_3 (y104_2.toInt).toNat (by omega)).1
                    rw [show tw_el Eg104 a0 37 (y104_2.toInt).toNat = _ from rf_xe15] at r119
                    refine lv_aload_n hx hb dX12_arranges_119 rfl (lv_at hl 2 rfl) ?_
                    refine tw_get (ci := 12) (C := RX12) (T := TX12) (N := 64) hx hb hB cx_inX12 hown hK TH hm0 hk0 rfl ⟨by decide, rfl⟩ 22 (by decide) cw_1215 (fun _ h9 => h9) dX12_arranges_120 (fun hv => ?_)
                    obtain ⟨xr16, hxr16, hmxr16, hkxr16⟩ : ∃ a : Nat, tw_fv Eg104 a0 22 = .ref a ∧ a ∈ L ∧ kp a = 332 := hv
                    rw [hxr16]
                    refine lv_iload_n hx hb dX12_arranges_123 rfl (lv_at hl 1 rfl) ?_
                    refine lv_aload_n hx hb dX12_arranges_124 rfl (lv_at hl 2 rfl) ?_
                    refine tw_get (ci := 12) (C := RX12) (T := TX12) (N := 64) hx hb hB cx_inX12 hown hK TH hm0 hk0 rfl ⟨by decide, rfl⟩ 38 (by decide) cw_1231 (fun _ h9 => h9) dX12_arranges_125 (fun hv => ?_)
                    obtain ⟨xr17, hxr17, hmxr17, hkxr17⟩ : ∃ a : Nat, tw_fv Eg104 a0 38 = .ref a ∧ a ∈ L ∧ kp a = 344 := hv
                    rw [hxr17]
                    refine lv_iload_n hx hb dX12_arranges_128 rfl (lv_at hl 0 rfl) ?_
                    refine tw_iald (k := 344) (t0 := 0) (n := 24) (lo := 0) (hi := 9) hx hb hK TH hmxr17 hkxr17 (by decide) rfl rfl (i := xe15) (vp_in_iff.mpr ⟨by  omega, by  omega⟩) dX12_arranges_129 (fun hxe18a hxe18b => ?_)
                    obtain ⟨xe18, exe18⟩ : ∃ z : Int32, tw_iv Eg104 xr17 (Int32.toNatClampNeg xe15) = z := ⟨_, rfl⟩
                    rw [exe18] at hxe18a hxe18b ⊢
                    refine tw_iast (k := 332) (n := 24) (lo := 0) (hi := 9) hx hb hK TH hS hmxr16 hkxr16 (by decide) rfl (i := y104_2) (x := xe18) (vp_in_iff.mpr ⟨by  omega, by  omega⟩) (by omega) (by omega) dX12_arranges_130 (fun H locs E19 TH hS hp20 hp21 hp22 => ?_)
                    have hst23 : tw_fr kp L [] [332] Eg104 E19 := tw_fr.ast tw_fr.rf (fun _ => hkxr16) hp20 hp21 (by decide)
                    have hF := hF.tr hst23 (fun _ h => ⟨h, rfl⟩) (by decide) (by decide)
                    have hG104 := hG104.tr hst23 (fun _ h => ⟨h, rfl⟩) (by decide) (by decide)
                    have hF119 := hF119.tr hst23 (fun _ h => ⟨h, rfl⟩) (by decide) (by decide)
                    have hmf24 : tw_fv E19 a0 28 = .int fv0_28 := (hst23.1 a0 28 hm0 (by rw [hk0]; decide)).trans hmf10
                    have hmf25 : tw_fv E19 a0 37 = .ref xr14 := (hst23.1 a0 37 hm0 (by rw [hk0]; decide)).trans hxr14
                    have hmf26 : tw_fv E19 a0 22 = .ref xr16 := (hst23.1 a0 22 hm0 (by rw [hk0]; decide)).trans hxr16
                    have hmf27 : tw_fv E19 a0 38 = .ref xr17 := (hst23.1 a0 38 hm0 (by rw [hk0]; decide)).trans hxr17
                    have hcg104_0 : rd_ok E19 a0 := rd_ok_fr TH hst23 hm0 hk0 (by decide) (by decide) hcg104_0
                    have hcg104_1 : ot_ok E19 a0 (15) E := ot_ok_fr TH hst23 hm0 hk0 (by decide) (by decide) hcg104_1
                    have hcg104_2 : th_ok E19 a0 (fv0_28.toInt) := th_ok_fr TH hst23 hm0 hk0 (by decide) (by decide) hcg104_2
                    have hcg104_3 : rf_ok E19 a0 E1 (fv0_28.toInt) := rf_ok_fr TH hst23 hm0 hk0 (by decide) (by decide) hcg104_3
                    have hcg104_4 : uw_ok E19 a0 E1 (fv0_28.toInt) := uw_ok_fr TH hst23 hm0 hk0 (by decide) (by decide) hcg104_4
                    have hcg104_5 : tp_ok E19 a0 (y104_2.toInt) := tp_ok_fr TH hst23 hm0 hk0 (by decide) (by decide) hcg104_5
                    have hcg104_6 : tq_ok E19 a0 (y104_2.toInt) := tq_ok_fr TH hst23 hm0 hk0 (by decide) (by decide) hcg104_6
                    refine lv_aload_n hx hb dX12_arranges_131 rfl (lv_at hl 2 rfl) ?_
                    refine tw_get (ci := 12) (C := RX12) (T := TX12) (N := 64) hx hb hB cx_inX12 hown hK TH hm0 hk0 rfl ⟨by decide, rfl⟩ 17 (by decide) cw_1210 (fun _ h9 => h9) dX12_arranges_132 (fun hv => ?_)
                    obtain ⟨xr28, hxr28, hmxr28, hkxr28⟩ : ∃ a : Nat, tw_fv E19 a0 17 = .ref a ∧ a ∈ L ∧ kp a = 317 := hv
                    rw [hxr28]
                    refine lv_bipush (v := 15) hx hb dX12_arranges_135 (by decide) ?_
                    refine tw_aald (k := 317) (t0 := 6) (n := 16) (lo := 327) (hi := 0) (ty := .long) hx hb hK TH hmxr28 hkxr28 (by decide) rfl rfl (i := 15) (vp_in_iff.mpr ⟨by have : ((15 : Int32).toInt) = 15 := (by decide); omega, by have : ((15 : Int32).toInt) = 15 := (by decide); omega⟩) dX12_arranges_137 (fun xr29 exr29 hmxr29 hkxr29 => ?_)
                    have hkxr29 : kp xr29 = 327 := hkxr29
                    refine lv_iload_n hx hb dX12_arranges_138 rfl (lv_at hl 1 rfl) ?_
                    refine lv_aload_n hx hb dX12_arranges_139 rfl (lv_at hl 2 rfl) ?_
                    refine tw_get (ci := 12) (C := RX12) (T := TX12) (N := 64) hx hb hB cx_inX12 hown hK TH hm0 hk0 rfl ⟨by decide, rfl⟩ 41 (by decide) cw_1234 (fun _ h9 => h9) dX12_arranges_140 (fun hv => ?_)
                    obtain ⟨xr30, hxr30, hmxr30, hkxr30⟩ : ∃ a : Nat, tw_fv E19 a0 41 = .ref a ∧ a ∈ L ∧ kp a = 347 := hv
                    rw [hxr30]
                    refine lv_iload_n hx hb dX12_arranges_143 rfl (lv_at hl 0 rfl) ?_
                    refine tw_lald2 (k := 347) (n := 24) (lo := 0) (hi := 0) hx hb hK TH hmxr30 hkxr30 (by decide) rfl (i := xe15) (vp_in_iff.mpr ⟨by  omega, by  omega⟩) dX12_arranges_144 (fun xl31 exl31 => ?_)
                    refine tw_last2 (k := 327) (n := 150) (lo := 0) (hi := 0) hx hb hK TH hS hmxr29 hkxr29 (by decide) rfl (i := y104_2) (x := xl31) (vp_in_iff.mpr ⟨by  omega, by  omega⟩) dX12_arranges_145 (fun H locs E32 TH hS hp33 hp34 hp36 => ?_)
                    have hst35 : tw_fr kp L [] [327] E19 E32 := tw_fr.ast tw_fr.rf (fun _ => hkxr29) hp33 hp34 (by decide)
                    have hF := hF.tr hst35 (fun _ h => ⟨h, rfl⟩) (by decide) (by decide)
                    have hG104 := hG104.tr hst35 (fun _ h => ⟨h, rfl⟩) (by decide) (by decide)
                    have hF119 := hF119.tr hst35 (fun _ h => ⟨h, rfl⟩) (by decide) (by decide)
                    have hmf37 : tw_fv E32 a0 28 = .int fv0_28 := (hst35.1 a0 28 hm0 (by rw [hk0]; decide)).trans hmf24
                    have hmf38 : tw_fv E32 a0 37 = .ref xr14 := (hst35.1 a0 37 hm0 (by rw [hk0]; decide)).trans hmf25
                    have hmf39 : tw_fv E32 a0 22 = .ref xr16 := (hst35.1 a0 22 hm0 (by rw [hk0]; decide)).trans hmf26
                    have hmf40 : tw_fv E32 a0 38 = .ref xr17 := (hst35.1 a0 38 hm0 (by rw [hk0]; decide)).trans hmf27
                    have hmf41 : tw_fv E32 a0 17 = .ref xr28 := (hst35.1 a0 17 hm0 (by rw [hk0]; decide)).trans hxr28
                    have hmf42 : tw_fv E32 a0 41 = .ref xr30 := (hst35.1 a0 41 hm0 (by rw [hk0]; decide)).trans hxr30
                    have hcg104_0 : rd_ok E32 a0 := rd_ok_fr TH hst35 hm0 hk0 (by decide) (by decide) hcg104_0
                    have hcg104_1 : ot_ok E32 a0 (15) E := ot_ok_fr TH hst35 hm0 hk0 (by decide) (by decide) hcg104_1
                    have hcg104_2 : th_ok E32 a0 (fv0_28.toInt) := th_ok_fr TH hst35 hm0 hk0 (by decide) (by decide) hcg104_2
                    have hcg104_3 : rf_ok E32 a0 E1 (fv0_28.toInt) := rf_ok_fr TH hst35 hm0 hk0 (by decide) (by decide) hcg104_3
                    have hcg104_4 : uw_ok E32 a0 E1 (fv0_28.toInt) := uw_ok_fr TH hst35 hm0 hk0 (by decide) (by decide) hcg104_4
                    have hcg104_5 : tp_ok E32 a0 (y104_2.toInt) := tp_ok_fr TH hst35 hm0 hk0 (by decide) (by decide) hcg104_5
                    have hcg104_6 : tq_ok E32 a0 (y104_2.toInt) := tq_ok_fr TH hst35 hm0 hk0 (by decide) (by decide) hcg104_6
                    refine lv_aload_n hx hb dX12_arranges_146 rfl (lv_at hl 2 rfl) ?_
                    refine tw_get (ci := 12) (C := RX12) (T := TX12) (N := 64) hx hb hB cx_inX12 hown hK TH hm0 hk0 rfl ⟨by decide, rfl⟩ 18 (by decide) cw_1211 (fun _ h9 => h9) dX12_arranges_147 (fun hv => ?_)
                    obtain ⟨xr43, hxr43, hmxr43, hkxr43⟩ : ∃ a : Nat, tw_fv E32 a0 18 = .ref a ∧ a ∈ L ∧ kp a = 318 := hv
                    rw [hxr43]
                    refine lv_bipush (v := 15) hx hb dX12_arranges_150 (by decide) ?_
                    refine tw_aald (k := 318) (t0 := 4) (n := 16) (lo := 328) (hi := 0) (ty := .int) hx hb hK TH hmxr43 hkxr43 (by decide) rfl rfl (i := 15) (vp_in_iff.mpr ⟨by have : ((15 : Int32).toInt) = 15 := (by decide); omega, by have : ((15 : Int32).toInt) = 15 := (by decide); omega⟩) dX12_arranges_152 (fun xr44 exr44 hmxr44 hkxr44 => ?_)
                    have hkxr44 : kp xr44 = 328 := hkxr44
                    refine lv_iload_n hx hb dX12_arranges_153 rfl (lv_at hl 1 rfl) ?_
                    refine lv_aload_n hx hb dX12_arranges_154 rfl (lv_at hl 2 rfl) ?_
                    refine tw_get (ci := 12) (C := RX12) (T := TX12) (N := 64) hx hb hB cx_inX12 hown hK TH hm0 hk0 rfl ⟨by decide, rfl⟩ 39 (by decide) cw_1232 (fun _ h9 => h9) dX12_arranges_155 (fun hv => ?_)
                    obtain ⟨xr45, hxr45, hmxr45, hkxr45⟩ : ∃ a : Nat, tw_fv E32 a0 39 = .ref a ∧ a ∈ L ∧ kp a = 345 := hv
                    rw [hxr45]
                    refine lv_iload_n hx hb dX12_arranges_158 rfl (lv_at hl 0 rfl) ?_
                    refine tw_iald (k := 345) (t0 := 0) (n := 24) (lo := (-1)) (hi := 23) hx hb hK TH hmxr45 hkxr45 (by decide) rfl rfl (i := xe15) (vp_in_iff.mpr ⟨by  omega, by  omega⟩) dX12_arranges_159 (fun hxe46a hxe46b => ?_)
                    obtain ⟨xe46, exe46⟩ : ∃ z : Int32, tw_iv E32 xr45 (Int32.toNatClampNeg xe15) = z := ⟨_, rfl⟩
                    rw [exe46] at hxe46a hxe46b ⊢
                    refine lv_iconst (v := (-1)) hx hb dX12_arranges_160 (by decide) ?_
                    refine lv_icmp_ne (tgt := 168) hx hb dX12_arranges_161 (by decide) (fun hc47 => ?_) (fun hc47 => ?_)
                    · have hf48 : ¬ (xe46.toInt = (-1)) := fun q => hc47 ((fa_eq _ _).mpr (by have : (((-1) : Int32).toInt) = (-1) := (by decide); omega))
                      refine lv_aload_n hx hb dX12_arranges_168 rfl (lv_at hl 2 rfl) ?_
                      refine tw_get (ci := 12) (C := RX12) (T := TX12) (N := 64) hx hb hB cx_inX12 hown hK TH hm0 hk0 rfl ⟨by decide, rfl⟩ 40 (by decide) cw_1233 (fun _ h9 => h9) dX12_arranges_169 (fun hv => ?_)
                      obtain ⟨xr49, hxr49, hmxr49, hkxr49⟩ : ∃ a : Nat, tw_fv E32 a0 40 = .ref a ∧ a ∈ L ∧ kp a = 346 := hv
                      rw [hxr49]
                      refine lv_aload_n hx hb dX12_arranges_172 rfl (lv_at hl 2 rfl) ?_
                      refine tw_get (ci := 12) (C := RX12) (T := TX12) (N := 64) hx hb hB cx_inX12 hown hK TH hm0 hk0 rfl ⟨by decide, rfl⟩ 39 (by decide) cw_1232 (fun _ h9 => h9) dX12_arranges_173 (fun hv => ?_)
                      rw [hxr45]
                      refine lv_iload_n hx hb dX12_arranges_176 rfl (lv_at hl 0 rfl) ?_
                      refine tw_iald (k := 345) (t0 := 0) (n := 24) (lo := (-1)) (hi := 23) hx hb hK TH hmxr45 hkxr45 (by decide) rfl rfl (i := xe15) (vp_in_iff.mpr ⟨by  omega, by  omega⟩) dX12_arranges_177 (fun hxe50a hxe50b => ?_)
                      rw [exe46]
                      refine tw_iald (k := 346) (t0 := 0) (n := 24) (lo := 0) (hi := 23) hx hb hK TH hmxr49 hkxr49 (by decide) rfl rfl (i := xe46) (vp_in_iff.mpr ⟨by  omega, by  omega⟩) dX12_arranges_178 (fun hxe51a hxe51b => ?_)
                      obtain ⟨xe51, exe51⟩ : ∃ z : Int32, tw_iv E32 xr49 (Int32.toNatClampNeg xe46) = z := ⟨_, rfl⟩
                      rw [exe51] at hxe51a hxe51b ⊢
                      have TH0 := TH
                      have hF119 := hF119
                      refine tw_iast (k := 328) (n := 150) (lo := (-1)) (hi := 149) hx hb hK TH hS hmxr44 hkxr44 (by decide) rfl (i := y104_2) (x := xe51) (vp_in_iff.mpr ⟨by  omega, by  omega⟩) (by omega) (by omega) dX12_arranges_179 (fun H locs E52 TH hS hp53 hp54 hp55 => ?_)
                      have hst56 : tw_fr kp L [] [328] E32 E52 := tw_fr.ast tw_fr.rf (fun _ => hkxr44) hp53 hp54 (by decide)
                      have hF := hF.tr hst56 (fun _ h => ⟨h, rfl⟩) (by decide) (by decide)
                      have hG104 := hG104.tr hst56 (fun _ h => ⟨h, rfl⟩) (by decide) (by decide)
                      have hmf57 : tw_fv E52 a0 28 = .int fv0_28 := (hst56.1 a0 28 hm0 (by rw [hk0]; decide)).trans hmf37
                      have hmf58 : tw_fv E52 a0 37 = .ref xr14 := (hst56.1 a0 37 hm0 (by rw [hk0]; decide)).trans hmf38
                      have hmf59 : tw_fv E52 a0 22 = .ref xr16 := (hst56.1 a0 22 hm0 (by rw [hk0]; decide)).trans hmf39
                      have hmf60 : tw_fv E52 a0 38 = .ref xr17 := (hst56.1 a0 38 hm0 (by rw [hk0]; decide)).trans hmf40
                      have hmf61 : tw_fv E52 a0 17 = .ref xr28 := (hst56.1 a0 17 hm0 (by rw [hk0]; decide)).trans hmf41
                      have hmf62 : tw_fv E52 a0 41 = .ref xr30 := (hst56.1 a0 41 hm0 (by rw [hk0]; decide)).trans hmf42
                      have hmf63 : tw_fv E52 a0 18 = .ref xr43 := (hst56.1 a0 18 hm0 (by rw [hk0]; decide)).trans hxr43
                      have hmf64 : tw_fv E52 a0 39 = .ref xr45 := (hst56.1 a0 39 hm0 (by rw [hk0]; decide)).trans hxr45
                      have hmf65 : tw_fv E52 a0 40 = .ref xr49 := (hst56.1 a0 40 hm0 (by rw [hk0]; decide)).trans hxr49
                      have hcg104_0_o := hcg104_0
                      have hcg104_1_o := hcg104_1
                      have hcg104_2_o := hcg104_2
                      have hcg104_3_o := hcg104_3
                      have hcg104_4_o := hcg104_4
                      have hcg104_5_o := hcg104_5
                      have hcg104_6_o := hcg104_6
                      have hcg104_0 : rd_ok E52 a0 := rd_ok_fr TH hst56 hm0 hk0 (by decide) (by decide) hcg104_0
                      have hcg104_1 : ot_ok E52 a0 (15) E := (by have e15 : ((15 : Int32).toInt) = 15 := (by decide); have q := ot_ok_p (i := 15) TH hm0 hk0 hcg104_0_o hxr43 exr44 hkxr43 hkxr44 hp53 hp54 (by omega) (by omega) (show ot_ok _ _ _ _ from (by rw [e15]; exact hcg104_1_o)); rw [e15] at q; exact q)
                      have hcg104_2 : th_ok E52 a0 (fv0_28.toInt) := th_ok_fr TH hst56 hm0 hk0 (by decide) (by decide) hcg104_2
                      have hcg104_3 : rf_ok E52 a0 E1 (fv0_28.toInt) := rf_ok_fr TH hst56 hm0 hk0 (by decide) (by decide) hcg104_3
                      have hcg104_4 : uw_ok E52 a0 E1 (fv0_28.toInt) := uw_ok_fr TH hst56 hm0 hk0 (by decide) (by decide) hcg104_4
                      have hcg104_5 : tp_ok E52 a0 (y104_2.toInt + 1) := tp_push hcg104_5_o (by omega) rfl (v := xe51.toInt) (by have rf_xe46 : tw_el E32 a0 39 (xe15.toInt).toNat = xe46.toInt := (by rw [tw_el_of hxr45]; exact congrArg Int32.toInt exe46); have rf_xe51 : tw_el E32 a0 40 (xe46.toInt).toNat = xe51.toInt := (by rw [tw_el_of hxr49]; exact congrArg Int32.toInt exe51); have r := hcg104_3_o (y104_2.toInt).toNat (by omega); have u := hcg104_4_o (xe15.toInt).toNat (by omega); have f37 := el_fr TH0 hF119 hm0 hk0 (k := 37) (by decide) rfl (by decide) (by decide) (by decide); rw [f37, show tw_el Eg104 a0 37 (y104_2.toInt).toNat = _ from rf_xe15] at r; rw [rf_xe46] at u; rw [← u] at r; rw [show tw_el E32 a0 40 (xe46.toInt).toNat = _ from rf_xe51] at r; omega) (by have e15 : ((15 : Int32).toInt) = 15 := (by decide); have q := rw_p_st (m := a0) (i := 15) (c := y104_2) hxr43 exr44 hkxr43 hkxr44 hp53 hp54 hp55; rw [e15] at q; exact q)
                      have hcg104_6 : tq_ok E52 a0 (y104_2.toInt) := tq_ok_fr TH hst56 hm0 hk0 (by decide) (by decide) hcg104_6
                      refine lv_aload_n hx hb dX12_arranges_180 rfl (lv_at hl 2 rfl) ?_
                      refine tw_get (ci := 12) (C := RX12) (T := TX12) (N := 64) hx hb hB cx_inX12 hown hK TH hm0 hk0 rfl ⟨by decide, rfl⟩ 19 (by decide) cw_1212 (fun _ h9 => h9) dX12_arranges_181 (fun hv => ?_)
                      obtain ⟨xr66, hxr66, hmxr66, hkxr66⟩ : ∃ a : Nat, tw_fv E52 a0 19 = .ref a ∧ a ∈ L ∧ kp a = 319 := hv
                      rw [hxr66]
                      refine lv_bipush (v := 15) hx hb dX12_arranges_184 (by decide) ?_
                      refine tw_aald (k := 319) (t0 := 4) (n := 16) (lo := 329) (hi := 0) (ty := .int) hx hb hK TH hmxr66 hkxr66 (by decide) rfl rfl (i := 15) (vp_in_iff.mpr ⟨by have : ((15 : Int32).toInt) = 15 := (by decide); omega, by have : ((15 : Int32).toInt) = 15 := (by decide); omega⟩) dX12_arranges_186 (fun xr67 exr67 hmxr67 hkxr67 => ?_)
                      have hkxr67 : kp xr67 = 329 := hkxr67
                      refine lv_iload_n hx hb dX12_arranges_187 rfl (lv_at hl 1 rfl) ?_
                      refine lv_iload_n hx hb dX12_arranges_188 rfl (lv_at hl 1 rfl) ?_
                      refine tw_iast (k := 329) (n := 150) (lo := (-2147483648)) (hi := 2147483647) hx hb hK TH hS hmxr67 hkxr67 (by decide) rfl (i := y104_2) (x := y104_2) (vp_in_iff.mpr ⟨by  omega, by  omega⟩) (ia_lo _) (ia_hi _) dX12_arranges_189 (fun H locs E68 TH hS hp69 hp70 hp71 => ?_)
                      have hst72 : tw_fr kp L [] [329] E52 E68 := tw_fr.ast tw_fr.rf (fun _ => hkxr67) hp69 hp70 (by decide)
                      have hF := hF.tr hst72 (fun _ h => ⟨h, rfl⟩) (by decide) (by decide)
                      have hG104 := hG104.tr hst72 (fun _ h => ⟨h, rfl⟩) (by decide) (by decide)
                      have hmf73 : tw_fv E68 a0 28 = .int fv0_28 := (hst72.1 a0 28 hm0 (by rw [hk0]; decide)).trans hmf57
                      have hmf74 : tw_fv E68 a0 37 = .ref xr14 := (hst72.1 a0 37 hm0 (by rw [hk0]; decide)).trans hmf58
                      have hmf75 : tw_fv E68 a0 22 = .ref xr16 := (hst72.1 a0 22 hm0 (by rw [hk0]; decide)).trans hmf59
                      have hmf76 : tw_fv E68 a0 38 = .ref xr17 := (hst72.1 a0 38 hm0 (by rw [hk0]; decide)).trans hmf60
                      have hmf77 : tw_fv E68 a0 17 = .ref xr28 := (hst72.1 a0 17 hm0 (by rw [hk0]; decide)).trans hmf61
                      have hmf78 : tw_fv E68 a0 41 = .ref xr30 := (hst72.1 a0 41 hm0 (by rw [hk0]; decide)).trans hmf62
                      have hmf79 : tw_fv E68 a0 18 = .ref xr43 := (hst72.1 a0 18 hm0 (by rw [hk0]; decide)).trans hmf63
                      have hmf80 : tw_fv E68 a0 39 = .ref xr45 := (hst72.1 a0 39 hm0 (by rw [hk0]; decide)).trans hmf64
                      have hmf81 : tw_fv E68 a0 40 = .ref xr49 := (hst72.1 a0 40 hm0 (by rw [hk0]; decide)).trans hmf65
                      have hmf82 : tw_fv E68 a0 19 = .ref xr66 := (hst72.1 a0 19 hm0 (by rw [hk0]; decide)).trans hxr66
                      have hcg104_0_o := hcg104_0
                      have hcg104_1_o := hcg104_1
                      have hcg104_2_o := hcg104_2
                      have hcg104_3_o := hcg104_3
                      have hcg104_4_o := hcg104_4
                      have hcg104_5_o := hcg104_5
                      have hcg104_6_o := hcg104_6
                      have hcg104_0 : rd_ok E68 a0 := rd_ok_fr TH hst72 hm0 hk0 (by decide) (by decide) hcg104_0
                      have hcg104_1 : ot_ok E68 a0 (15) E := ot_ok_fr TH hst72 hm0 hk0 (by decide) (by decide) hcg104_1
                      have hcg104_2 : th_ok E68 a0 (fv0_28.toInt) := th_ok_fr TH hst72 hm0 hk0 (by decide) (by decide) hcg104_2
                      have hcg104_3 : rf_ok E68 a0 E1 (fv0_28.toInt) := rf_ok_fr TH hst72 hm0 hk0 (by decide) (by decide) hcg104_3
                      have hcg104_4 : uw_ok E68 a0 E1 (fv0_28.toInt) := uw_ok_fr TH hst72 hm0 hk0 (by decide) (by decide) hcg104_4
                      have hcg104_5 : tp_ok E68 a0 (y104_2.toInt + 1) := tp_ok_fr TH hst72 hm0 hk0 (by decide) (by decide) hcg104_5
                      have hcg104_6 : tq_ok E68 a0 (y104_2.toInt + 1) := tq_push hcg104_6_o (by omega) rfl (v := y104_2.toInt) (by omega) (by have e15 : ((15 : Int32).toInt) = 15 := (by decide); have q := rw_q_st (m := a0) (i := 15) (c := y104_2) hxr66 exr67 hkxr66 hkxr67 hp69 hp70 hp71; rw [e15] at q; exact q)
                      obtain ⟨zi83, ezi83⟩ : ∃ z : Int32, z = y104_2 + Int32.ofInt 1 := ⟨_, rfl⟩
                      have hzi83 : zi83.toInt = y104_2.toInt + 1 := by rw [ezi83]; have : ((Int32.ofInt 1).toInt) = 1 := (by decide);  exact (ia_add (by omega) (by omega)).trans (by omega)
                      refine lv_iinc (v := zi83) (lv' := [(2, .int zi83), (3, .int xe15), (0, .ref a0)]) hx hb dX12_arranges_190 hl (k := 1) rfl ezi83.symm (by decide) rfl (fun ls hl => ?_)
                      refine lv_goto (tgt := 104) hx hb dX12_arranges_193 (by decide) ?_
                      exact ih104 (n104 - 1) (by   omega) zi83 _ _ _ ls (by omega) (by omega) (by  omega) (by   omega) hG104 hcg104_0 hcg104_1 hcg104_2 hcg104_3 hcg104_4 (tp_ok_cast (by  omega) hcg104_5) (tq_ok_cast (by  omega) hcg104_6) TH hS (lv_sub hl [0, 2] rfl)
                    · have hf84 : xe46.toInt = (-1) := by have z := (fa_eq _ _).mp hc47; have : (((-1) : Int32).toInt) = (-1) := (by decide); omega
                      refine lv_iconst (v := (-1)) hx hb dX12_arranges_164 (by decide) ?_
                      refine lv_goto (tgt := 179) hx hb dX12_arranges_165 (by decide) ?_
                      have TH0 := TH
                      have hF119 := hF119
                      refine tw_iast (k := 328) (n := 150) (lo := (-1)) (hi := 149) hx hb hK TH hS hmxr44 hkxr44 (by decide) rfl (i := y104_2) (x := (-1)) (vp_in_iff.mpr ⟨by  omega, by  omega⟩) (by have : (((-1) : Int32).toInt) = (-1) := (by decide); omega) (by have : (((-1) : Int32).toInt) = (-1) := (by decide); omega) dX12_arranges_179 (fun H locs E85 TH hS hp86 hp87 hp88 => ?_)
                      have hst89 : tw_fr kp L [] [328] E32 E85 := tw_fr.ast tw_fr.rf (fun _ => hkxr44) hp86 hp87 (by decide)
                      have hF := hF.tr hst89 (fun _ h => ⟨h, rfl⟩) (by decide) (by decide)
                      have hG104 := hG104.tr hst89 (fun _ h => ⟨h, rfl⟩) (by decide) (by decide)
                      have hmf90 : tw_fv E85 a0 28 = .int fv0_28 := (hst89.1 a0 28 hm0 (by rw [hk0]; decide)).trans hmf37
                      have hmf91 : tw_fv E85 a0 37 = .ref xr14 := (hst89.1 a0 37 hm0 (by rw [hk0]; decide)).trans hmf38
                      have hmf92 : tw_fv E85 a0 22 = .ref xr16 := (hst89.1 a0 22 hm0 (by rw [hk0]; decide)).trans hmf39
                      have hmf93 : tw_fv E85 a0 38 = .ref xr17 := (hst89.1 a0 38 hm0 (by rw [hk0]; decide)).trans hmf40
                      have hmf94 : tw_fv E85 a0 17 = .ref xr28 := (hst89.1 a0 17 hm0 (by rw [hk0]; decide)).trans hmf41
                      have hmf95 : tw_fv E85 a0 41 = .ref xr30 := (hst89.1 a0 41 hm0 (by rw [hk0]; decide)).trans hmf42
                      have hmf96 : tw_fv E85 a0 18 = .ref xr43 := (hst89.1 a0 18 hm0 (by rw [hk0]; decide)).trans hxr43
                      have hmf97 : tw_fv E85 a0 39 = .ref xr45 := (hst89.1 a0 39 hm0 (by rw [hk0]; decide)).trans hxr45
                      have hcg104_0_o := hcg104_0
                      have hcg104_1_o := hcg104_1
                      have hcg104_2_o := hcg104_2
                      have hcg104_3_o := hcg104_3
                      have hcg104_4_o := hcg104_4
                      have hcg104_5_o := hcg104_5
                      have hcg104_6_o := hcg104_6
                      have hcg104_0 : rd_ok E85 a0 := rd_ok_fr TH hst89 hm0 hk0 (by decide) (by decide) hcg104_0
                      have hcg104_1 : ot_ok E85 a0 (15) E := (by have e15 : ((15 : Int32).toInt) = 15 := (by decide); have q := ot_ok_p (i := 15) TH hm0 hk0 hcg104_0_o hxr43 exr44 hkxr43 hkxr44 hp86 hp87 (by omega) (by omega) (show ot_ok _ _ _ _ from (by rw [e15]; exact hcg104_1_o)); rw [e15] at q; exact q)
                      have hcg104_2 : th_ok E85 a0 (fv0_28.toInt) := th_ok_fr TH hst89 hm0 hk0 (by decide) (by decide) hcg104_2
                      have hcg104_3 : rf_ok E85 a0 E1 (fv0_28.toInt) := rf_ok_fr TH hst89 hm0 hk0 (by decide) (by decide) hcg104_3
                      have hcg104_4 : uw_ok E85 a0 E1 (fv0_28.toInt) := uw_ok_fr TH hst89 hm0 hk0 (by decide) (by decide) hcg104_4
                      have hcg104_5 : tp_ok E85 a0 (y104_2.toInt + 1) := tp_push hcg104_5_o (by omega) rfl (v := (-1)) (by have rf_xe46 : tw_el E32 a0 39 (xe15.toInt).toNat = xe46.toInt := (by rw [tw_el_of hxr45]; exact congrArg Int32.toInt exe46); have r := hcg104_3_o (y104_2.toInt).toNat (by omega); have u := hcg104_4_o (xe15.toInt).toNat (by omega); have f37 := el_fr TH0 hF119 hm0 hk0 (k := 37) (by decide) rfl (by decide) (by decide) (by decide); rw [f37, show tw_el Eg104 a0 37 (y104_2.toInt).toNat = _ from rf_xe15] at r; rw [rf_xe46] at u; rw [← u] at r; omega) (by have e15 : ((15 : Int32).toInt) = 15 := (by decide); have ev : (((-1) : Int32).toInt) = (-1) := (by decide); have q := rw_p_st (m := a0) (i := 15) (c := y104_2) hxr43 exr44 hkxr43 hkxr44 hp86 hp87 hp88; rw [e15, ev] at q; exact q)
                      have hcg104_6 : tq_ok E85 a0 (y104_2.toInt) := tq_ok_fr TH hst89 hm0 hk0 (by decide) (by decide) hcg104_6
                      refine lv_aload_n hx hb dX12_arranges_180 rfl (lv_at hl 2 rfl) ?_
                      refine tw_get (ci := 12) (C := RX12) (T := TX12) (N := 64) hx hb hB cx_inX12 hown hK TH hm0 hk0 rfl ⟨by decide, rfl⟩ 19 (by decide) cw_1212 (fun _ h9 => h9) dX12_arranges_181 (fun hv => ?_)
                      obtain ⟨xr98, hxr98, hmxr98, hkxr98⟩ : ∃ a : Nat, tw_fv E85 a0 19 = .ref a ∧ a ∈ L ∧ kp a = 319 := hv
                      rw [hxr98]
                      refine lv_bipush (v := 15) hx hb dX12_arranges_184 (by decide) ?_
                      refine tw_aald (k := 319) (t0 := 4) (n := 16) (lo := 329) (hi := 0) (ty := .int) hx hb hK TH hmxr98 hkxr98 (by decide) rfl rfl (i := 15) (vp_in_iff.mpr ⟨by have : ((15 : Int32).toInt) = 15 := (by decide); omega, by have : ((15 : Int32).toInt) = 15 := (by decide); omega⟩) dX12_arranges_186 (fun xr99 exr99 hmxr99 hkxr99 => ?_)
                      have hkxr99 : kp xr99 = 329 := hkxr99
                      refine lv_iload_n hx hb dX12_arranges_187 rfl (lv_at hl 1 rfl) ?_
                      refine lv_iload_n hx hb dX12_arranges_188 rfl (lv_at hl 1 rfl) ?_
                      refine tw_iast (k := 329) (n := 150) (lo := (-2147483648)) (hi := 2147483647) hx hb hK TH hS hmxr99 hkxr99 (by decide) rfl (i := y104_2) (x := y104_2) (vp_in_iff.mpr ⟨by  omega, by  omega⟩) (ia_lo _) (ia_hi _) dX12_arranges_189 (fun H locs E100 TH hS hp101 hp102 hp103 => ?_)
                      have hst104 : tw_fr kp L [] [329] E85 E100 := tw_fr.ast tw_fr.rf (fun _ => hkxr99) hp101 hp102 (by decide)
                      have hF := hF.tr hst104 (fun _ h => ⟨h, rfl⟩) (by decide) (by decide)
                      have hG104 := hG104.tr hst104 (fun _ h => ⟨h, rfl⟩) (by decide) (by decide)
                      have hmf105 : tw_fv E100 a0 28 = .int fv0_28 := (hst104.1 a0 28 hm0 (by rw [hk0]; decide)).trans hmf90
                      have hmf106 : tw_fv E100 a0 37 = .ref xr14 := (hst104.1 a0 37 hm0 (by rw [hk0]; decide)).trans hmf91
                      have hmf107 : tw_fv E100 a0 22 = .ref xr16 := (hst104.1 a0 22 hm0 (by rw [hk0]; decide)).trans hmf92
                      have hmf108 : tw_fv E100 a0 38 = .ref xr17 := (hst104.1 a0 38 hm0 (by rw [hk0]; decide)).trans hmf93
                      have hmf109 : tw_fv E100 a0 17 = .ref xr28 := (hst104.1 a0 17 hm0 (by rw [hk0]; decide)).trans hmf94
                      have hmf110 : tw_fv E100 a0 41 = .ref xr30 := (hst104.1 a0 41 hm0 (by rw [hk0]; decide)).trans hmf95
                      have hmf111 : tw_fv E100 a0 18 = .ref xr43 := (hst104.1 a0 18 hm0 (by rw [hk0]; decide)).trans hmf96
                      have hmf112 : tw_fv E100 a0 39 = .ref xr45 := (hst104.1 a0 39 hm0 (by rw [hk0]; decide)).trans hmf97
                      have hmf113 : tw_fv E100 a0 19 = .ref xr98 := (hst104.1 a0 19 hm0 (by rw [hk0]; decide)).trans hxr98
                      have hcg104_0_o := hcg104_0
                      have hcg104_1_o := hcg104_1
                      have hcg104_2_o := hcg104_2
                      have hcg104_3_o := hcg104_3
                      have hcg104_4_o := hcg104_4
                      have hcg104_5_o := hcg104_5
                      have hcg104_6_o := hcg104_6
                      have hcg104_0 : rd_ok E100 a0 := rd_ok_fr TH hst104 hm0 hk0 (by decide) (by decide) hcg104_0
                      have hcg104_1 : ot_ok E100 a0 (15) E := ot_ok_fr TH hst104 hm0 hk0 (by decide) (by decide) hcg104_1
                      have hcg104_2 : th_ok E100 a0 (fv0_28.toInt) := th_ok_fr TH hst104 hm0 hk0 (by decide) (by decide) hcg104_2
                      have hcg104_3 : rf_ok E100 a0 E1 (fv0_28.toInt) := rf_ok_fr TH hst104 hm0 hk0 (by decide) (by decide) hcg104_3
                      have hcg104_4 : uw_ok E100 a0 E1 (fv0_28.toInt) := uw_ok_fr TH hst104 hm0 hk0 (by decide) (by decide) hcg104_4
                      have hcg104_5 : tp_ok E100 a0 (y104_2.toInt + 1) := tp_ok_fr TH hst104 hm0 hk0 (by decide) (by decide) hcg104_5
                      have hcg104_6 : tq_ok E100 a0 (y104_2.toInt + 1) := tq_push hcg104_6_o (by omega) rfl (v := y104_2.toInt) (by omega) (by have e15 : ((15 : Int32).toInt) = 15 := (by decide); have q := rw_q_st (m := a0) (i := 15) (c := y104_2) hxr98 exr99 hkxr98 hkxr99 hp101 hp102 hp103; rw [e15] at q; exact q)
                      obtain ⟨zi114, ezi114⟩ : ∃ z : Int32, z = y104_2 + Int32.ofInt 1 := ⟨_, rfl⟩
                      have hzi114 : zi114.toInt = y104_2.toInt + 1 := by rw [ezi114]; have : ((Int32.ofInt 1).toInt) = 1 := (by decide);  exact (ia_add (by omega) (by omega)).trans (by omega)
                      refine lv_iinc (v := zi114) (lv' := [(2, .int zi114), (3, .int xe15), (0, .ref a0)]) hx hb dX12_arranges_190 hl (k := 1) rfl ezi114.symm (by decide) rfl (fun ls hl => ?_)
                      refine lv_goto (tgt := 104) hx hb dX12_arranges_193 (by decide) ?_
                      exact ih104 (n104 - 1) (by   omega) zi114 _ _ _ ls (by omega) (by omega) (by  omega) (by   omega) hG104 hcg104_0 hcg104_1 hcg104_2 hcg104_3 hcg104_4 (tp_ok_cast (by  omega) hcg104_5) (tq_ok_cast (by  omega) hcg104_6) TH hS (lv_sub hl [0, 2] rfl)
              exact hJ104 25 (0 : Int32) _ _ _ ls (by have : ((0 : Int32).toInt) = 0 := (by decide); omega) (by have : ((0 : Int32).toInt) = 0 := (by decide); omega) (by have : ((0 : Int32).toInt) = 0 := (by decide); omega) (by have : ((0 : Int32).toInt) = 0 := (by decide);  omega) tw_fr.rf hcg46_0 hcg46_1 hcg46_2 hcg46_3 (uw_ok_cast (by have : ((0 : Int32).toInt) = 0 := (by decide); omega) hcg46_4) (tp_ok_cast (by have : ((0 : Int32).toInt) = 0 := (by decide); omega) htp102) (tq_ok_cast (by have : ((0 : Int32).toInt) = 0 := (by decide); omega) htq102) TH hS (lv_sub hl [0, 1] rfl)
            · have hf115 : ¬ (fv0_28.toInt ≤ y46_2.toInt) := fun q => hc8 ((fa_le _ _).mpr (by  omega))
              refine lv_aload_n hx hb dX12_arranges_54 rfl (lv_at hl 1 rfl) ?_
              refine tw_get (ci := 12) (C := RX12) (T := TX12) (N := 64) hx hb hB cx_inX12 hown hK TH hm0 hk0 rfl ⟨by decide, rfl⟩ 38 (by decide) cw_1231 (fun _ h9 => h9) dX12_arranges_55 (fun hv => ?_)
              obtain ⟨xr116, hxr116, hmxr116, hkxr116⟩ : ∃ a : Nat, tw_fv Eg46 a0 38 = .ref a ∧ a ∈ L ∧ kp a = 344 := hv
              rw [hxr116]
              refine lv_iload_n hx hb dX12_arranges_58 rfl (lv_at hl 0 rfl) ?_
              refine lv_aload_n hx hb dX12_arranges_59 rfl (lv_at hl 1 rfl) ?_
              refine tw_get (ci := 12) (C := RX12) (T := TX12) (N := 64) hx hb hB cx_inX12 hown hK TH hm0 hk0 rfl ⟨by decide, rfl⟩ 22 (by decide) cw_1215 (fun _ h9 => h9) dX12_arranges_60 (fun hv => ?_)
              obtain ⟨xr117, hxr117, hmxr117, hkxr117⟩ : ∃ a : Nat, tw_fv Eg46 a0 22 = .ref a ∧ a ∈ L ∧ kp a = 332 := hv
              rw [hxr117]
              refine lv_iload_n hx hb dX12_arranges_63 rfl (lv_at hl 0 rfl) ?_
              refine tw_iald (k := 332) (t0 := 0) (n := 24) (lo := 0) (hi := 9) hx hb hK TH hmxr117 hkxr117 (by decide) rfl rfl (i := y46_2) (vp_in_iff.mpr ⟨by  omega, by  omega⟩) dX12_arranges_64 (fun hxe118a hxe118b => ?_)
              obtain ⟨xe118, exe118⟩ : ∃ z : Int32, tw_iv Eg46 xr117 (Int32.toNatClampNeg y46_2) = z := ⟨_, rfl⟩
              rw [exe118] at hxe118a hxe118b ⊢
              refine tw_iast (k := 344) (n := 24) (lo := 0) (hi := 9) hx hb hK TH hS hmxr116 hkxr116 (by decide) rfl (i := y46_2) (x := xe118) (vp_in_iff.mpr ⟨by  omega, by  omega⟩) (by omega) (by omega) dX12_arranges_65 (fun H locs E119 TH hS hp120 hp121 hp122 => ?_)
              have hst123 : tw_fr kp L [] [344] Eg46 E119 := tw_fr.ast tw_fr.rf (fun _ => hkxr116) hp120 hp121 (by decide)
              have hF := hF.tr hst123 (fun _ h => ⟨h, rfl⟩) (by decide) (by decide)
              have hF6 := hF6.tr hst123 (fun _ h => ⟨h, rfl⟩) (by decide) (by decide)
              have hG46 := hG46.tr hst123 (fun _ h => ⟨h, rfl⟩) (by decide) (by decide)
              have hmf124 : tw_fv E119 a0 28 = .int fv0_28 := (hst123.1 a0 28 hm0 (by rw [hk0]; decide)).trans hmf7
              have hmf125 : tw_fv E119 a0 38 = .ref xr116 := (hst123.1 a0 38 hm0 (by rw [hk0]; decide)).trans hxr116
              have hmf126 : tw_fv E119 a0 22 = .ref xr117 := (hst123.1 a0 22 hm0 (by rw [hk0]; decide)).trans hxr117
              have hcg46_0 : rd_ok E119 a0 := rd_ok_fr TH hst123 hm0 hk0 (by decide) (by decide) hcg46_0
              have hcg46_1 : ot_ok E119 a0 (15) E := ot_ok_fr TH hst123 hm0 hk0 (by decide) (by decide) hcg46_1
              have hcg46_2 : th_ok E119 a0 (fv0_28.toInt) := th_ok_fr TH hst123 hm0 hk0 (by decide) (by decide) hcg46_2
              have hcg46_3 : rf_ok E119 a0 E1 (fv0_28.toInt) := rf_ok_fr TH hst123 hm0 hk0 (by decide) (by decide) hcg46_3
              have hcg46_4 : uw_ok E119 a0 E1 (y46_2.toInt) := uw_ok_fr TH hst123 hm0 hk0 (by decide) (by decide) hcg46_4
              refine lv_aload_n hx hb dX12_arranges_66 rfl (lv_at hl 1 rfl) ?_
              refine tw_get (ci := 12) (C := RX12) (T := TX12) (N := 64) hx hb hB cx_inX12 hown hK TH hm0 hk0 rfl ⟨by decide, rfl⟩ 39 (by decide) cw_1232 (fun _ h9 => h9) dX12_arranges_67 (fun hv => ?_)
              obtain ⟨xr127, hxr127, hmxr127, hkxr127⟩ : ∃ a : Nat, tw_fv E119 a0 39 = .ref a ∧ a ∈ L ∧ kp a = 345 := hv
              rw [hxr127]
              refine lv_iload_n hx hb dX12_arranges_70 rfl (lv_at hl 0 rfl) ?_
              refine lv_aload_n hx hb dX12_arranges_71 rfl (lv_at hl 1 rfl) ?_
              refine tw_get (ci := 12) (C := RX12) (T := TX12) (N := 64) hx hb hB cx_inX12 hown hK TH hm0 hk0 rfl ⟨by decide, rfl⟩ 18 (by decide) cw_1211 (fun _ h9 => h9) dX12_arranges_72 (fun hv => ?_)
              obtain ⟨xr128, hxr128, hmxr128, hkxr128⟩ : ∃ a : Nat, tw_fv E119 a0 18 = .ref a ∧ a ∈ L ∧ kp a = 318 := hv
              rw [hxr128]
              refine lv_bipush (v := 15) hx hb dX12_arranges_75 (by decide) ?_
              refine tw_aald (k := 318) (t0 := 4) (n := 16) (lo := 328) (hi := 0) (ty := .int) hx hb hK TH hmxr128 hkxr128 (by decide) rfl rfl (i := 15) (vp_in_iff.mpr ⟨by have : ((15 : Int32).toInt) = 15 := (by decide); omega, by have : ((15 : Int32).toInt) = 15 := (by decide); omega⟩) dX12_arranges_77 (fun xr129 exr129 hmxr129 hkxr129 => ?_)
              have hkxr129 : kp xr129 = 328 := hkxr129
              refine lv_iload_n hx hb dX12_arranges_78 rfl (lv_at hl 0 rfl) ?_
              refine tw_iald (k := 328) (t0 := 0) (n := 150) (lo := (-1)) (hi := 149) hx hb hK TH hmxr129 hkxr129 (by decide) rfl rfl (i := y46_2) (vp_in_iff.mpr ⟨by  omega, by  omega⟩) dX12_arranges_79 (fun hxe130a hxe130b => ?_)
              obtain ⟨xe130, exe130⟩ : ∃ z : Int32, tw_iv E119 xr129 (Int32.toNatClampNeg y46_2) = z := ⟨_, rfl⟩
              rw [exe130] at hxe130a hxe130b ⊢
              have rf_xe130 : rw_p E119 a0 (15) (y46_2.toInt).toNat = xe130.toInt := (by have q := rw_p_of (m := a0) (i := (15 : Int32)) (c := y46_2) hxr128 exr129 exe130; rw [show ((15 : Int32).toInt) = 15 from (by decide)] at q; exact q)
              have fp80 := rw_p_fr TH hF6 hm0 hk0 (by decide) (by decide) (by decide) (i := 15) (by decide)
              have hp80 : rw_p E1 a0 15 (y46_2.toInt).toNat = xe130.toInt := (by rw [← fp80]; exact rf_xe130)
              have ht80 := htp6 (y46_2.toInt).toNat (by omega)
              rw [hp80] at ht80
              refine tw_iast (k := 345) (n := 24) (lo := (-1)) (hi := 23) hx hb hK TH hS hmxr127 hkxr127 (by decide) rfl (i := y46_2) (x := xe130) (vp_in_iff.mpr ⟨by  omega, by  omega⟩) (by omega) (by omega) dX12_arranges_80 (fun H locs E131 TH hS hp132 hp133 hp134 => ?_)
              have hst135 : tw_fr kp L [] [345] E119 E131 := tw_fr.ast tw_fr.rf (fun _ => hkxr127) hp132 hp133 (by decide)
              have hF := hF.tr hst135 (fun _ h => ⟨h, rfl⟩) (by decide) (by decide)
              have hF6 := hF6.tr hst135 (fun _ h => ⟨h, rfl⟩) (by decide) (by decide)
              have hG46 := hG46.tr hst135 (fun _ h => ⟨h, rfl⟩) (by decide) (by decide)
              have hmf136 : tw_fv E131 a0 28 = .int fv0_28 := (hst135.1 a0 28 hm0 (by rw [hk0]; decide)).trans hmf124
              have hmf137 : tw_fv E131 a0 38 = .ref xr116 := (hst135.1 a0 38 hm0 (by rw [hk0]; decide)).trans hmf125
              have hmf138 : tw_fv E131 a0 22 = .ref xr117 := (hst135.1 a0 22 hm0 (by rw [hk0]; decide)).trans hmf126
              have hmf139 : tw_fv E131 a0 39 = .ref xr127 := (hst135.1 a0 39 hm0 (by rw [hk0]; decide)).trans hxr127
              have hmf140 : tw_fv E131 a0 18 = .ref xr128 := (hst135.1 a0 18 hm0 (by rw [hk0]; decide)).trans hxr128
              have hcg46_0_o := hcg46_0
              have hcg46_1_o := hcg46_1
              have hcg46_2_o := hcg46_2
              have hcg46_3_o := hcg46_3
              have hcg46_4_o := hcg46_4
              have hcg46_0 : rd_ok E131 a0 := rd_ok_fr TH hst135 hm0 hk0 (by decide) (by decide) hcg46_0
              have hcg46_1 : ot_ok E131 a0 (15) E := ot_ok_fr TH hst135 hm0 hk0 (by decide) (by decide) hcg46_1
              have hcg46_2 : th_ok E131 a0 (fv0_28.toInt) := th_ok_fr TH hst135 hm0 hk0 (by decide) (by decide) hcg46_2
              have hcg46_3 : rf_ok E131 a0 E1 (fv0_28.toInt) := rf_ok_fr TH hst135 hm0 hk0 (by decide) (by decide) hcg46_3
              have hcg46_4 : uw_ok E131 a0 E1 (y46_2.toInt + 1) := uw_push hcg46_4_o (by omega) rfl hp80 (fun j => (by have w := tw_el_st hxr127 hp132 hp133 hp134 j; rw [w]; (by_cases e : j = (y46_2.toInt).toNat; (rw [if_pos ⟨rfl, e⟩, if_pos e]); (rw [if_neg (fun y => e y.2), if_neg e]))))
              refine lv_aload_n hx hb dX12_arranges_81 rfl (lv_at hl 1 rfl) ?_
              refine tw_get (ci := 12) (C := RX12) (T := TX12) (N := 64) hx hb hB cx_inX12 hown hK TH hm0 hk0 rfl ⟨by decide, rfl⟩ 41 (by decide) cw_1234 (fun _ h9 => h9) dX12_arranges_82 (fun hv => ?_)
              obtain ⟨xr141, hxr141, hmxr141, hkxr141⟩ : ∃ a : Nat, tw_fv E131 a0 41 = .ref a ∧ a ∈ L ∧ kp a = 347 := hv
              rw [hxr141]
              refine lv_iload_n hx hb dX12_arranges_85 rfl (lv_at hl 0 rfl) ?_
              refine lv_aload_n hx hb dX12_arranges_86 rfl (lv_at hl 1 rfl) ?_
              refine tw_get (ci := 12) (C := RX12) (T := TX12) (N := 64) hx hb hB cx_inX12 hown hK TH hm0 hk0 rfl ⟨by decide, rfl⟩ 17 (by decide) cw_1210 (fun _ h9 => h9) dX12_arranges_87 (fun hv => ?_)
              obtain ⟨xr142, hxr142, hmxr142, hkxr142⟩ : ∃ a : Nat, tw_fv E131 a0 17 = .ref a ∧ a ∈ L ∧ kp a = 317 := hv
              rw [hxr142]
              refine lv_bipush (v := 15) hx hb dX12_arranges_90 (by decide) ?_
              refine tw_aald (k := 317) (t0 := 6) (n := 16) (lo := 327) (hi := 0) (ty := .long) hx hb hK TH hmxr142 hkxr142 (by decide) rfl rfl (i := 15) (vp_in_iff.mpr ⟨by have : ((15 : Int32).toInt) = 15 := (by decide); omega, by have : ((15 : Int32).toInt) = 15 := (by decide); omega⟩) dX12_arranges_92 (fun xr143 exr143 hmxr143 hkxr143 => ?_)
              have hkxr143 : kp xr143 = 327 := hkxr143
              refine lv_iload_n hx hb dX12_arranges_93 rfl (lv_at hl 0 rfl) ?_
              refine tw_lald2 (k := 327) (n := 150) (lo := 0) (hi := 0) hx hb hK TH hmxr143 hkxr143 (by decide) rfl (i := y46_2) (vp_in_iff.mpr ⟨by  omega, by  omega⟩) dX12_arranges_94 (fun xl144 exl144 => ?_)
              refine tw_last2 (k := 347) (n := 24) (lo := 0) (hi := 0) hx hb hK TH hS hmxr141 hkxr141 (by decide) rfl (i := y46_2) (x := xl144) (vp_in_iff.mpr ⟨by  omega, by  omega⟩) dX12_arranges_95 (fun H locs E145 TH hS hp146 hp147 hp149 => ?_)
              have hst148 : tw_fr kp L [] [347] E131 E145 := tw_fr.ast tw_fr.rf (fun _ => hkxr141) hp146 hp147 (by decide)
              have hF := hF.tr hst148 (fun _ h => ⟨h, rfl⟩) (by decide) (by decide)
              have hF6 := hF6.tr hst148 (fun _ h => ⟨h, rfl⟩) (by decide) (by decide)
              have hG46 := hG46.tr hst148 (fun _ h => ⟨h, rfl⟩) (by decide) (by decide)
              have hmf150 : tw_fv E145 a0 28 = .int fv0_28 := (hst148.1 a0 28 hm0 (by rw [hk0]; decide)).trans hmf136
              have hmf151 : tw_fv E145 a0 38 = .ref xr116 := (hst148.1 a0 38 hm0 (by rw [hk0]; decide)).trans hmf137
              have hmf152 : tw_fv E145 a0 22 = .ref xr117 := (hst148.1 a0 22 hm0 (by rw [hk0]; decide)).trans hmf138
              have hmf153 : tw_fv E145 a0 39 = .ref xr127 := (hst148.1 a0 39 hm0 (by rw [hk0]; decide)).trans hmf139
              have hmf154 : tw_fv E145 a0 18 = .ref xr128 := (hst148.1 a0 18 hm0 (by rw [hk0]; decide)).trans hmf140
              have hmf155 : tw_fv E145 a0 41 = .ref xr141 := (hst148.1 a0 41 hm0 (by rw [hk0]; decide)).trans hxr141
              have hmf156 : tw_fv E145 a0 17 = .ref xr142 := (hst148.1 a0 17 hm0 (by rw [hk0]; decide)).trans hxr142
              have hcg46_0 : rd_ok E145 a0 := rd_ok_fr TH hst148 hm0 hk0 (by decide) (by decide) hcg46_0
              have hcg46_1 : ot_ok E145 a0 (15) E := ot_ok_fr TH hst148 hm0 hk0 (by decide) (by decide) hcg46_1
              have hcg46_2 : th_ok E145 a0 (fv0_28.toInt) := th_ok_fr TH hst148 hm0 hk0 (by decide) (by decide) hcg46_2
              have hcg46_3 : rf_ok E145 a0 E1 (fv0_28.toInt) := rf_ok_fr TH hst148 hm0 hk0 (by decide) (by decide) hcg46_3
              have hcg46_4 : uw_ok E145 a0 E1 (y46_2.toInt + 1) := uw_ok_fr TH hst148 hm0 hk0 (by decide) (by decide) hcg46_4
              obtain ⟨zi157, ezi157⟩ : ∃ z : Int32, z = y46_2 + Int32.ofInt 1 := ⟨_, rfl⟩
              have hzi157 : zi157.toInt = y46_2.toInt + 1 := by rw [ezi157]; have : ((Int32.ofInt 1).toInt) = 1 := (by decide);  exact (ia_add (by omega) (by omega)).trans (by omega)
              refine lv_iinc (v := zi157) (lv' := [(2, .int zi157), (0, .ref a0)]) hx hb dX12_arranges_96 hl (k := 0) rfl ezi157.symm (by decide) rfl (fun ls hl => ?_)
              refine lv_goto (tgt := 46) hx hb dX12_arranges_99 (by decide) ?_
              exact ih46 (n46 - 1) (by   omega) zi157 _ _ _ ls (by omega) (by omega) (by  omega) (by   omega) hG46 hcg46_0 hcg46_1 hcg46_2 hcg46_3 (uw_ok_cast (by  omega) hcg46_4) TH hS (lv_sub hl [0, 1] rfl)
        exact hJ46 25 (0 : Int32) _ _ _ ls (by have : ((0 : Int32).toInt) = 0 := (by decide); omega) (by have : ((0 : Int32).toInt) = 0 := (by decide); omega) (by have : ((0 : Int32).toInt) = 0 := (by decide); omega) (by have : ((0 : Int32).toInt) = 0 := (by decide);  omega) tw_fr.rf hcg10_0 hcg10_1 hcg10_2 hrf44 (uw_ok_cast (by have : ((0 : Int32).toInt) = 0 := (by decide); omega) huw44) TH hS (lv_sub hl [0, 2] rfl)
      · have hf158 : ¬ (y10_2.toInt = (-1)) := fun q => hc5 ((fa_eq _ _).mpr (by have : (((-1) : Int32).toInt) = (-1) := (by decide); omega))
        have hn3 := hin10_0.resolve_left (by omega)
        have hn24 := (hth6.2 (y10_2.toInt).toNat (by omega)).mp hn3.2.2
        have hz3 : (rt_mz (rw_h E1 a0 15) (rw_p E1 a0 15) (rw_q E1 a0 15) (y10_2.toInt) : Int) ≥ 1 := (by unfold rt_mz; rw [if_neg (by omega)]; omega)
        refine lv_aload_n hx hb dX12_arranges_15 rfl (lv_at hl 2 rfl) ?_
        refine tw_get (ci := 12) (C := RX12) (T := TX12) (N := 64) hx hb hB cx_inX12 hown hK TH hm0 hk0 rfl ⟨by decide, rfl⟩ 37 (by decide) cw_1230 (fun _ h9 => h9) dX12_arranges_16 (fun hv => ?_)
        obtain ⟨xr159, hxr159, hmxr159, hkxr159⟩ : ∃ a : Nat, tw_fv Eg10 a0 37 = .ref a ∧ a ∈ L ∧ kp a = 343 := hv
        rw [hxr159]
        refine lv_iload_n hx hb dX12_arranges_19 rfl (lv_at hl 1 rfl) ?_
        refine lv_iload_n hx hb dX12_arranges_20 rfl (lv_at hl 0 rfl) ?_
        refine tw_iast (k := 343) (n := 24) (lo := 0) (hi := 23) hx hb hK TH hS hmxr159 hkxr159 (by decide) rfl (i := y10_1) (x := y10_2) (vp_in_iff.mpr ⟨by  omega, by  omega⟩) (by omega) (by omega) dX12_arranges_21 (fun H locs E160 TH hS hp161 hp162 hp163 => ?_)
        have hst164 : tw_fr kp L [] [343] Eg10 E160 := tw_fr.ast tw_fr.rf (fun _ => hkxr159) hp161 hp162 (by decide)
        have hF := hF.tr hst164 (fun _ h => ⟨h, rfl⟩) (by decide) (by decide)
        have hF6 := hF6.tr hst164 (fun _ h => ⟨h, rfl⟩) (by decide) (by decide)
        have hG10 := hG10.tr hst164 (fun _ h => ⟨h, rfl⟩) (by decide) (by decide)
        have hmf165 : tw_fv E160 a0 28 = .int fv0_28 := (hst164.1 a0 28 hm0 (by rw [hk0]; decide)).trans hmf4
        have hmf166 : tw_fv E160 a0 37 = .ref xr159 := (hst164.1 a0 37 hm0 (by rw [hk0]; decide)).trans hxr159
        have hcg10_0 : rd_ok E160 a0 := rd_ok_fr TH hst164 hm0 hk0 (by decide) (by decide) hcg10_0
        have hcg10_1 : ot_ok E160 a0 (15) E := ot_ok_fr TH hst164 hm0 hk0 (by decide) (by decide) hcg10_1
        have hcg10_2 : th_ok E160 a0 (fv0_28.toInt) := th_ok_fr TH hst164 hm0 hk0 (by decide) (by decide) hcg10_2
        have hcg10_3 : tp_ok E160 a0 (fv0_28.toInt) := tp_ok_fr TH hst164 hm0 hk0 (by decide) (by decide) hcg10_3
        have hgn167 : ara_ok E160 a0 E1 (y10_1.toInt) (y10_2.toInt) := gs_a (show gsq _ _ _ _ _ _ _ _ from hcg10_4) (fun j => (by have w := tw_el_st hxr159 hp161 hp162 hp163 j; rw [w]; (by_cases e : j = (y10_1.toInt).toNat; (rw [if_pos ⟨rfl, e⟩, if_pos e]); (rw [if_neg (fun y => e y.2), if_neg e])))) (tw_el_fr TH hst164 hm0 hk0 (by decide) (by decide) (k := 40) rfl (by decide) (by decide) (by decide)) (by omega)
        refine lv_aload_n hx hb dX12_arranges_22 rfl (lv_at hl 2 rfl) ?_
        refine tw_get (ci := 12) (C := RX12) (T := TX12) (N := 64) hx hb hB cx_inX12 hown hK TH hm0 hk0 rfl ⟨by decide, rfl⟩ 40 (by decide) cw_1233 (fun _ h9 => h9) dX12_arranges_23 (fun hv => ?_)
        obtain ⟨xr168, hxr168, hmxr168, hkxr168⟩ : ∃ a : Nat, tw_fv E160 a0 40 = .ref a ∧ a ∈ L ∧ kp a = 346 := hv
        rw [hxr168]
        refine lv_iload_n hx hb dX12_arranges_26 rfl (lv_at hl 0 rfl) ?_
        refine lv_iload_n hx hb dX12_arranges_27 rfl (lv_at hl 1 rfl) ?_
        refine tw_iast (k := 346) (n := 24) (lo := 0) (hi := 23) hx hb hK TH hS hmxr168 hkxr168 (by decide) rfl (i := y10_2) (x := y10_1) (vp_in_iff.mpr ⟨by  omega, by  omega⟩) (by omega) (by omega) dX12_arranges_28 (fun H locs E169 TH hS hp170 hp171 hp172 => ?_)
        have hst173 : tw_fr kp L [] [346] E160 E169 := tw_fr.ast tw_fr.rf (fun _ => hkxr168) hp170 hp171 (by decide)
        have hF := hF.tr hst173 (fun _ h => ⟨h, rfl⟩) (by decide) (by decide)
        have hF6 := hF6.tr hst173 (fun _ h => ⟨h, rfl⟩) (by decide) (by decide)
        have hG10 := hG10.tr hst173 (fun _ h => ⟨h, rfl⟩) (by decide) (by decide)
        have hmf174 : tw_fv E169 a0 28 = .int fv0_28 := (hst173.1 a0 28 hm0 (by rw [hk0]; decide)).trans hmf165
        have hmf175 : tw_fv E169 a0 37 = .ref xr159 := (hst173.1 a0 37 hm0 (by rw [hk0]; decide)).trans hmf166
        have hmf176 : tw_fv E169 a0 40 = .ref xr168 := (hst173.1 a0 40 hm0 (by rw [hk0]; decide)).trans hxr168
        have hcg10_0 : rd_ok E169 a0 := rd_ok_fr TH hst173 hm0 hk0 (by decide) (by decide) hcg10_0
        have hcg10_1 : ot_ok E169 a0 (15) E := ot_ok_fr TH hst173 hm0 hk0 (by decide) (by decide) hcg10_1
        have hcg10_2 : th_ok E169 a0 (fv0_28.toInt) := th_ok_fr TH hst173 hm0 hk0 (by decide) (by decide) hcg10_2
        have hcg10_3 : tp_ok E169 a0 (fv0_28.toInt) := tp_ok_fr TH hst173 hm0 hk0 (by decide) (by decide) hcg10_3
        have hgn177 : arb_ok E169 a0 E1 (y10_1.toInt) (y10_2.toInt) := gs_b htree (show gsa _ _ _ _ _ _ _ _ from hgn167) (tw_el_fr TH hst173 hm0 hk0 (by decide) (by decide) (k := 37) rfl (by decide) (by decide) (by decide)) (fun j => (by have w := tw_el_st hxr168 hp170 hp171 hp172 j; rw [w]; (by_cases e : j = (y10_2.toInt).toNat; (rw [if_pos ⟨rfl, e⟩, if_pos e]); (rw [if_neg (fun y => e y.2), if_neg e]))))
        obtain ⟨zi178, ezi178⟩ : ∃ z : Int32, z = y10_1 + Int32.ofInt 1 := ⟨_, rfl⟩
        have hzi178 : zi178.toInt = y10_1.toInt + 1 := by rw [ezi178]; have : ((Int32.ofInt 1).toInt) = 1 := (by decide);  exact (ia_add (by omega) (by omega)).trans (by omega)
        refine lv_iinc (v := zi178) (lv' := [(1, .int zi178), (2, .int y10_2), (0, .ref a0)]) hx hb dX12_arranges_29 hl (k := 1) rfl ezi178.symm (by decide) rfl (fun ls hl => ?_)
        refine lv_aload_n hx hb dX12_arranges_32 rfl (lv_at hl 2 rfl) ?_
        refine lv_bipush (v := 15) hx hb dX12_arranges_33 (by decide) ?_
        refine lv_iload_n hx hb dX12_arranges_35 rfl (lv_at hl 1 rfl) ?_
        refine lv_iconst (v := 0) hx hb dX12_arranges_36 (by decide) ?_
        refine tw_Vc (o := a0) (ci := 12) (n := 3) (post := (fun v kq Lq Eq => (∃ x : Int32, v = some (.int x) ∧ (-1) ≤ x.toInt ∧ x.toInt ≤ 149 ∧ (x.toInt = -1 ∨ (rw_h E169 a0 (15 : Int32).toInt (x.toInt).toNat ≠ 0 ∧ rt_lt (rt_K (rw_p E169 a0 (15 : Int32).toInt) (rw_q E169 a0 (15 : Int32).toInt) y10_2.toInt) (rt_K (rw_p E169 a0 (15 : Int32).toInt) (rw_q E169 a0 (15 : Int32).toInt) x.toInt))) ∧ (x.toInt = rt_nxf (rw_h E169 a0 (15 : Int32).toInt) (rw_p E169 a0 (15 : Int32).toInt) (rw_q E169 a0 (15 : Int32).toInt) (0 : Int32).toInt y10_2.toInt)) ∧ kp = kq ∧ L = Lq ∧ E169 = Eq)) (As := [.int 15, .int y10_2, .int 0]) (rest := []) ⟨hx, hb, hml, hown, hB⟩ (fun sz => tX12_next_vF l D cs a0 (15 : Int32) y10_2 (0 : Int32) hm0 hk0 (by have : ((15 : Int32).toInt) = 15 := (by decide); omega) (by have : ((15 : Int32).toInt) = 15 := (by decide); omega) (by omega) (by omega) (by have : ((0 : Int32).toInt) = 0 := (by decide); omega) (by have : ((0 : Int32).toInt) = 0 := (by decide); omega) (by have : ((0 : Int32).toInt) = 0 := (by decide); have : ((15 : Int32).toInt) = 15 := (by decide); have e15 : ((15 : Int32).toInt) = 15 := (by decide); have fh := rw_h_fr TH hF6 hm0 hk0 (by decide) (by decide) (by decide) (i := 15) (by decide); have fp := rw_p_fr TH hF6 hm0 hk0 (by decide) (by decide) (by decide) (i := 15) (by decide); have fq := rw_q_fr TH hF6 hm0 hk0 (by decide) (by decide) (by decide) (i := 15) (by decide); rw [e15, fh]; exact hn3.2.2) (by have : ((0 : Int32).toInt) = 0 := (by decide); have : ((15 : Int32).toInt) = 15 := (by decide); have e15 : ((15 : Int32).toInt) = 15 := (by decide); have e0 : ((0 : Int32).toInt) = 0 := (by decide); have fh := rw_h_fr TH hF6 hm0 hk0 (by decide) (by decide) (by decide) (i := 15) (by decide); have fp := rw_p_fr TH hF6 hm0 hk0 (by decide) (by decide) (by decide) (i := 15) (by decide); have fq := rw_q_fr TH hF6 hm0 hk0 (by decide) (by decide) (by decide) (i := 15) (by decide); rw [e15, e0, fh]; exact htree.2.1.2.2) (by have : ((0 : Int32).toInt) = 0 := (by decide); have : ((15 : Int32).toInt) = 15 := (by decide); have e15 : ((15 : Int32).toInt) = 15 := (by decide); have e0 : ((0 : Int32).toInt) = 0 := (by decide); have fh := rw_h_fr TH hF6 hm0 hk0 (by decide) (by decide) (by decide) (i := 15) (by decide); have fp := rw_p_fr TH hF6 hm0 hk0 (by decide) (by decide) (by decide) (i := 15) (by decide); have fq := rw_q_fr TH hF6 hm0 hk0 (by decide) (by decide) (by decide) (i := 15) (by decide); rw [e15, e0, fp]; exact htree.2.2) (by have e15 : ((15 : Int32).toInt) = 15 := (by decide); rw [e15]; have fh := rw_h_fr TH hF6 hm0 hk0 (by decide) (by decide) (by decide) (i := 15) (by decide); have fp := rw_p_fr TH hF6 hm0 hk0 (by decide) (by decide) (by decide) (i := 15) (by decide); have fq := rw_q_fr TH hF6 hm0 hk0 (by decide) (by decide) (by decide) (i := 15) (by decide); unfold rw_ok; rw [fh, fp]; exact htree.1) sz) cg_12_278_X12_next rfl rfl (by decide +kernel) ⟨Nat.le_of_ble_eq_true rfl, Nat.le_of_ble_eq_true rfl⟩ hK hN TH hS hA rfl hm0 hk0 (by decide) rfl hl.1 rfl (Nat.le_of_ble_eq_true rfl) dX12_arranges_37 ⟨Nat.le_of_ble_eq_true rfl, Nat.le_of_ble_eq_true rfl⟩ (fun v179 kp179 L179 E179 H locs hq179 hx179 TH hS => ?_)
        obtain ⟨⟨xc180, rfl, hxc180a, hxc180b, hpoxc180_0, hpoxc180_1⟩, rfl, rfl, rfl⟩ := hq179
        refine W.eq (g2 := F0 m 40 ls [.int xc180]) rfl ?_
        refine lv_istore_n (lv' := [(2, .int xc180), (1, .int zi178), (0, .ref a0)]) hx hb dX12_arranges_40 rfl hl (by decide) rfl (fun ls hl => ?_)
        have fh := rw_h_fr TH hF6 hm0 hk0 (by decide) (by decide) (by decide) (i := 15) (by decide)
        have fp := rw_p_fr TH hF6 hm0 hk0 (by decide) (by decide) (by decide) (i := 15) (by decide)
        have fq := rw_q_fr TH hF6 hm0 hk0 (by decide) (by decide) (by decide) (i := 15) (by decide)
        have e0 : ((0 : Int32).toInt) = 0 := (by decide)
        have e15 : ((15 : Int32).toInt) = 15 := (by decide)
        have hnf := hpoxc180_1
        rw [e15, e0, fh, fp, fq] at hnf
        have hnl := hpoxc180_0
        rw [e15, fh, fp, fq] at hnl
        have har40 : ar_ok E169 a0 E1 (zi178.toInt) (xc180.toInt) := gs_n (show gsb _ _ _ _ _ _ _ _ from hgn177) (by omega) hnf
        refine lv_goto (tgt := 10) hx hb dX12_arranges_41 (by decide) ?_
        exact ih10 (n10 - 1) (by  have hn3 := hin10_0.resolve_left (by omega); have hfall := rt_mz_fall (h := rw_h E1 a0 15) (p := rw_p E1 a0 15) (q := rw_q E1 a0 15) (n := y10_2.toInt) (c := xc180.toInt) hn3.1 (by rcases hnl with q | q; exact Or.inl q; (by_cases hz : xc180.toInt = -1; exact Or.inl hz; exact Or.inr ⟨by omega, by omega, q.1, q.2⟩));  omega) xc180 zi178 _ _ _ ls (by omega) (by omega) (by  rcases hnl with q | q; exact Or.inl q; (by_cases hz : xc180.toInt = -1; exact Or.inl hz; exact Or.inr ⟨by omega, by omega, q.1⟩)) (by  have hn3 := hin10_0.resolve_left (by omega); have hfall := rt_mz_fall (h := rw_h E1 a0 15) (p := rw_p E1 a0 15) (q := rw_q E1 a0 15) (n := y10_2.toInt) (c := xc180.toInt) hn3.1 (by rcases hnl with q | q; exact Or.inl q; (by_cases hz : xc180.toInt = -1; exact Or.inl hz; exact Or.inr ⟨by omega, by omega, q.1, q.2⟩)); omega) (by  omega) (by  have hn3 := hin10_0.resolve_left (by omega); have hfall := rt_mz_fall (h := rw_h E1 a0 15) (p := rw_p E1 a0 15) (q := rw_q E1 a0 15) (n := y10_2.toInt) (c := xc180.toInt) hn3.1 (by rcases hnl with q | q; exact Or.inl q; (by_cases hz : xc180.toInt = -1; exact Or.inl hz; exact Or.inr ⟨by omega, by omega, q.1, q.2⟩));  omega) hG10 hcg10_0 hcg10_1 hcg10_2 hcg10_3 (ar_ok_cast (by  omega) har40) TH hS (lv_sub hl [0, 1, 2] rfl)
  exact hJ10 152 (0 : Int32) (0 : Int32) _ _ _ ls (by have : ((0 : Int32).toInt) = 0 := (by decide); omega) (by have : ((0 : Int32).toInt) = 0 := (by decide); omega) (by have : ((0 : Int32).toInt) = 0 := (by decide); exact Or.inr ⟨by decide, by decide, htree.2.1.2.2⟩) (by have : ((0 : Int32).toInt) = 0 := (by decide); have e0 : ((0 : Int32).toInt) = 0 := (by decide); rw [e0]; omega) (by have : ((0 : Int32).toInt) = 0 := (by decide); omega) (by have : ((0 : Int32).toInt) = 0 := (by decide); have := rt_mz_le (h := rw_h E1 a0 15) (p := rw_p E1 a0 15) (q := rw_q E1 a0 15) (n := ((0 : Int32).toInt)); omega) tw_fr.rf hg4 hot hg0 hg1 (ar_ok_cast (by have : ((0 : Int32).toInt) = 0 := (by decide); omega) har0) TH hS (lv_sub hl [0, 1, 2] rfl)
set_option maxHeartbeats 4000000 in
set_option maxRecDepth 100000 in
theorem tX12_readsTree (l : Launch) (D : va_G) (cs : Nat → ClassId) {kp : Nat → Nat} {L : List Nat} {E : Nat → va_E} (a0 : Nat) (hm0 : a0 ∈ L) (hk0 : kp a0 = 12) (hg0 : rd_ok E a0) (hg1 : kg_ok E a0) (sz : Nat) : Met l yX12_readsTree (.code yX12_readsTree cX12_readsTree 2 none :: cx_big) { frames := 14, cells := 0, slots := 0, locals := 346 } (tw_P D cs kp L E [.ref a0] sz) (tw_Q D cs kp L (fun v kq Lq Eq => v = none ∧ kp = kq ∧ L = Lq ∧ tw_fr kp L [(12, 2), (12, 3), (12, 4), (12, 28)] [326, 327, 328, 329, 332, 343, 344, 345, 346, 347] E Eq ∧ (ot_ok Eq a0 15 E) ∧ (tw_fi Eq a0 4 = -1 → tt_ok Eq a0) ∧ (ht_ok Eq a0) ∧ rd_ok Eq a0 ∧ kg_ok Eq a0) (va_A (va_pl L E) sz)) 0 0 (va_A (va_pl L E) sz) := by
  refine tw_ofW (by decide) (Nat.le_of_ble_eq_true rfl) ?_
  intro p e s m below meth c A ls hx hb hr hml hB hown hlocks hK hN hA TH hS hl
  have hown : s.vm.findClass "TreeMergeModel" = some m.cls := hown
  have hl : lv_has ls 2 [(0, .ref a0)] := hl
  obtain ⟨kp0, ekp⟩ : ∃ z, z = kp := ⟨_, rfl⟩
  obtain ⟨L0, eL⟩ : ∃ z, z = L := ⟨_, rfl⟩
  rw [show tw_Q D cs kp L = tw_Q D cs kp0 L0 by rw [ekp, eL]]
  have hex : ∀ a : Nat, a ∈ L0 → a ∈ L ∧ kp a = kp0 a := fun a h => ⟨by rw [← eL]; exact h, by rw [ekp]⟩
  have hF : tw_fr kp L [(12, 2), (12, 3), (12, 4), (12, 28)] [326, 327, 328, 329, 332, 343, 344, 345, 346, 347] E E := tw_fr.rf
  have hot : ot_ok E a0 15 E := ot_ok_rf
  refine lv_aload_n hx hb dX12_readsTree_0 rfl (lv_at hl 0 rfl) ?_
  refine lv_iconst (v := (-1)) hx hb dX12_readsTree_1 (by decide) ?_
  refine tw_put (ci := 12) (v := .int (-1)) (ty := .int) (C := RX12) (T := TX12) (N := 64) hx hb hB cx_inX12 tyX12 tyX12_ok nmX12 hown hK TH hS hm0 hk0 rfl ⟨by decide, rfl⟩ 4 (by decide) cw_1197 (fun _ h9 => h9) rfl (by decide +kernel) rfl rfl ⟨_, rfl, (show (-1) ≤ Int32.toInt (-1) from by have : (((-1) : Int32).toInt) = (-1) := (by decide); omega), (show Int32.toInt (-1) ≤ 500 from by have : (((-1) : Int32).toInt) = (-1) := (by decide); omega)⟩ dX12_readsTree_2 (fun H locs E1 TH hS hmf5 hp2 hp3 => ?_)
  have hst4 : tw_fr kp L [(12, 4)] [] E E1 := tw_fr.put tw_fr.rf (fun _ => hk0) (by decide) hp2 hp3 (by decide)
  have hF := hF.tr hst4 (fun _ h => ⟨h, rfl⟩) (by decide) (by decide)
  have hg0 : rd_ok E1 a0 := rd_ok_fr TH hst4 hm0 hk0 (by decide) (by decide) hg0
  have hg1 : kg_ok E1 a0 := kg_ok_fr TH hst4 hm0 hk0 (by decide) (by decide) hg1
  have hot : ot_ok E1 a0 (15) E := ot_ok_fr TH hst4 hm0 hk0 (by decide) (by decide) hot
  refine lv_aload_n hx hb dX12_readsTree_5 rfl (lv_at hl 0 rfl) ?_
  refine lv_iconst (v := 0) hx hb dX12_readsTree_6 (by decide) ?_
  refine tw_put (ci := 12) (v := .int 0) (ty := .int) (C := RX12) (T := TX12) (N := 64) hx hb hB cx_inX12 tyX12 tyX12_ok nmX12 hown hK TH hS hm0 hk0 rfl ⟨by decide, rfl⟩ 28 (by decide) cw_1221 (fun _ h9 => h9) rfl (by decide +kernel) rfl rfl ⟨_, rfl, (show 0 ≤ Int32.toInt 0 from by have : ((0 : Int32).toInt) = 0 := (by decide); omega), (show Int32.toInt 0 ≤ 24 from by have : ((0 : Int32).toInt) = 0 := (by decide); omega)⟩ dX12_readsTree_7 (fun H locs E6 TH hS hmf10 hp7 hp8 => ?_)
  have hst9 : tw_fr kp L [(12, 28)] [] E1 E6 := tw_fr.put tw_fr.rf (fun _ => hk0) (by decide) hp7 hp8 (by decide)
  have hF := hF.tr hst9 (fun _ h => ⟨h, rfl⟩) (by decide) (by decide)
  have hmf11 : tw_fv E6 a0 4 = .int (-1) := (hst9.1 a0 4 hm0 (by rw [hk0]; decide)).trans hmf5
  have hg0 : rd_ok E6 a0 := rd_ok_fr TH hst9 hm0 hk0 (by decide) (by decide) hg0
  have hg1 : kg_ok E6 a0 := kg_ok_fr TH hst9 hm0 hk0 (by decide) (by decide) hg1
  have hot : ot_ok E6 a0 (15) E := ot_ok_fr TH hst9 hm0 hk0 (by decide) (by decide) hot
  have hhz : hz_ok E6 a0 (0) := fun c hc => absurd hc (by omega)
  refine lv_iconst (v := 0) hx hb dX12_readsTree_10 (by decide) ?_
  refine lv_istore_n (lv' := [(1, .int 0), (0, .ref a0)]) hx hb dX12_readsTree_11 rfl hl (by decide) rfl (fun ls hl => ?_)
  have hJ12 : ∀ (n12 : Nat) (y12_1 : Int32) (Eg12 : Nat → va_E) (H : Heap) (locs : List Loc) (ls : Array Slot), 0 ≤ y12_1.toInt → y12_1.toInt ≤ 150 → 150 - y12_1.toInt ≤ (n12 : Int) → tw_fr kp L [] [326] E6 Eg12 → rd_ok Eg12 a0 → kg_ok Eg12 a0 → ot_ok Eg12 a0 (15) E → hz_ok Eg12 a0 (y12_1.toInt) → tw_H D cs kp L Eg12 A H → va_S A s.heap H locs → lv_has ls 2 [(1, .int y12_1), (0, .ref a0)] → W p l e { frames := 14, cells := 0, slots := 0, locals := 346 } s m [.ref a0].toArray below meth c H locs 0 0 (MQ below (tw_Q D cs kp0 L0 (fun v kq Lq Eq => v = none ∧ kp = kq ∧ L = Lq ∧ tw_fr kp L [(12, 2), (12, 3), (12, 4), (12, 28)] [326, 327, 328, 329, 332, 343, 344, 345, 346, 347] E Eq ∧ (ot_ok Eq a0 15 E) ∧ (tw_fi Eq a0 4 = -1 → tt_ok Eq a0) ∧ (ht_ok Eq a0) ∧ rd_ok Eq a0 ∧ kg_ok Eq a0) A) [.ref a0].toArray s 0 0 A) (F0 m 12 ls []) := by
    intro n12
    induction n12 using Nat.strongRecOn with
    | _ n12 ih12 =>
      intro y12_1 Eg12 H locs ls hy12_1a hy12_1b hmeas12 hG12 hcg12_0 hcg12_1 hcg12_2 hcg12_3 TH hS hl
      have hF := hF.tr hG12 (fun _ h => ⟨h, rfl⟩) (by decide) (by decide)
      have hmf12 : tw_fv Eg12 a0 4 = .int (-1) := (hG12.1 a0 4 hm0 (by rw [hk0]; decide)).trans hmf11
      have hmf13 : tw_fv Eg12 a0 28 = .int 0 := (hG12.1 a0 28 hm0 (by rw [hk0]; decide)).trans hmf10
      refine lv_iload_n hx hb dX12_readsTree_12 rfl (lv_at hl 0 rfl) ?_
      refine lv_sipush (v := 150) hx hb dX12_readsTree_13 (by decide) ?_
      refine lv_icmp_ge (tgt := 35) hx hb dX12_readsTree_16 (by decide) (fun hc14 => ?_) (fun hc14 => ?_)
      · have hf15 : 150 ≤ y12_1.toInt := by have z := (fa_le _ _).mp hc14; have : ((150 : Int32).toInt) = 150 := (by decide); omega
        have hth35 : th_ok Eg12 a0 (0) := th_of_hz hcg12_3 (by omega)
        have htp35 : tp_ok Eg12 a0 (0) := fun c hc => absurd hc (by omega)
        have htq35 : tq_ok Eg12 a0 (0) := fun c hc => absurd hc (by omega)
        have htg35 : tg_ok Eg12 a0 (0) := fun c hc => absurd hc (by omega)
        refine lv_aload_n hx hb dX12_readsTree_35 rfl (lv_at hl 1 rfl) ?_
        refine lv_iconst (v := 0) hx hb dX12_readsTree_36 (by decide) ?_
        refine tw_put (ci := 12) (v := .int 0) (ty := .int) (C := RX12) (T := TX12) (N := 64) hx hb hB cx_inX12 tyX12 tyX12_ok nmX12 hown hK TH hS hm0 hk0 rfl ⟨by decide, rfl⟩ 2 (by decide) cw_1195 (fun _ h9 => h9) rfl (by decide +kernel) rfl rfl ⟨_, rfl, (show 0 ≤ Int32.toInt 0 from by have : ((0 : Int32).toInt) = 0 := (by decide); omega), (show Int32.toInt 0 ≤ 500 from by have : ((0 : Int32).toInt) = 0 := (by decide); omega)⟩ dX12_readsTree_37 (fun H locs E16 TH hS hmf20 hp17 hp18 => ?_)
        have hst19 : tw_fr kp L [(12, 2)] [] Eg12 E16 := tw_fr.put tw_fr.rf (fun _ => hk0) (by decide) hp17 hp18 (by decide)
        have hF := hF.tr hst19 (fun _ h => ⟨h, rfl⟩) (by decide) (by decide)
        have hmf21 : tw_fv E16 a0 4 = .int (-1) := (hst19.1 a0 4 hm0 (by rw [hk0]; decide)).trans hmf12
        have hmf22 : tw_fv E16 a0 28 = .int 0 := (hst19.1 a0 28 hm0 (by rw [hk0]; decide)).trans hmf13
        have hcg12_0 : rd_ok E16 a0 := rd_ok_fr TH hst19 hm0 hk0 (by decide) (by decide) hcg12_0
        have hcg12_1 : kg_ok E16 a0 := kg_ok_fr TH hst19 hm0 hk0 (by decide) (by decide) hcg12_1
        have hcg12_2 : ot_ok E16 a0 (15) E := ot_ok_fr TH hst19 hm0 hk0 (by decide) (by decide) hcg12_2
        have hth35 : th_ok E16 a0 (0) := th_ok_fr TH hst19 hm0 hk0 (by decide) (by decide) hth35
        have htp35 : tp_ok E16 a0 (0) := tp_ok_fr TH hst19 hm0 hk0 (by decide) (by decide) htp35
        have htq35 : tq_ok E16 a0 (0) := tq_ok_fr TH hst19 hm0 hk0 (by decide) (by decide) htq35
        have htg35 : tg_ok E16 a0 (0) := tg_ok_fr TH hst19 hm0 hk0 (by decide) (by decide) htg35
        refine lv_aload_n hx hb dX12_readsTree_40 rfl (lv_at hl 1 rfl) ?_
        obtain ⟨xi23, hxi23, hxi23a, hxi23b⟩ := tw_rd TH hm0 hk0 (by decide) (by decide) (k := 1) rfl
        refine tw_Vc (o := a0) (ci := 12) (n := 0) (post := (fun v kq Lq Eq => v = none ∧ kp = kq ∧ L = Lq ∧ tw_fr kp L [(12, 2), (12, 3)] [] E16 Eq ∧ (lx_WS (tw_el E16 a0 0) xi23.toInt 0 (tw_fi Eq a0 2) ∧ lx_TK (tw_el E16 a0 0) xi23.toInt (tw_fi Eq a0 2) (tw_fi Eq a0 3)) ∧ (∃ z0 z1 : Int32, tw_fv Eq a0 2 = .int z0 ∧ tw_fv Eq a0 3 = .int z1 ∧ (0 ≤ z0.toInt ∧ z0.toInt ≤ z1.toInt ∧ z1.toInt ≤ xi23.toInt)))) (As := []) (rest := []) ⟨hx, hb, hml, hown, hB⟩ (fun sz => tX12_skips_vL l D cs a0 (0 : Int32) xi23 hm0 hk0 hmf20 hxi23 (by have : ((0 : Int32).toInt) = 0 := (by decide); omega) sz) cg_12_190_X12_skips rfl rfl (by decide +kernel) ⟨Nat.le_of_ble_eq_true rfl, Nat.le_of_ble_eq_true rfl⟩ hK hN TH hS hA rfl hm0 hk0 (by decide) rfl hl.1 rfl (Nat.le_of_ble_eq_true rfl) dX12_readsTree_41 ⟨Nat.le_of_ble_eq_true rfl, Nat.le_of_ble_eq_true rfl⟩ (fun v24 kp24 L24 E24 H locs hq24 hx24 TH hS => ?_)
        obtain ⟨rfl, rfl, rfl, hst24, hpoxc25_0, ⟨zfxc25_0_0, zfxc25_0_1, hzfxc25_0_0, hzfxc25_0_1, hzpxc25_0⟩⟩ := hq24
        have hF := hF.tr hst24 (fun _ h => ⟨h, rfl⟩) (by decide) (by decide)
        have hmf26 : tw_fv E24 a0 4 = .int (-1) := (hst24.1 a0 4 hm0 (by rw [hk0]; decide)).trans hmf21
        have hmf27 : tw_fv E24 a0 28 = .int 0 := (hst24.1 a0 28 hm0 (by rw [hk0]; decide)).trans hmf22
        have hmf28 : tw_fv E24 a0 1 = .int xi23 := (hst24.1 a0 1 hm0 (by rw [hk0]; decide)).trans hxi23
        have hcg12_0 : rd_ok E24 a0 := rd_ok_fr TH hst24 hm0 hk0 (by decide) (by decide) hcg12_0
        have hcg12_1 : kg_ok E24 a0 := kg_ok_fr TH hst24 hm0 hk0 (by decide) (by decide) hcg12_1
        have hcg12_2 : ot_ok E24 a0 (15) E := ot_ok_fr TH hst24 hm0 hk0 (by decide) (by decide) hcg12_2
        have hth35 : th_ok E24 a0 (0) := th_ok_fr TH hst24 hm0 hk0 (by decide) (by decide) hth35
        have htp35 : tp_ok E24 a0 (0) := tp_ok_fr TH hst24 hm0 hk0 (by decide) (by decide) htp35
        have htq35 : tq_ok E24 a0 (0) := tq_ok_fr TH hst24 hm0 hk0 (by decide) (by decide) htq35
        have htg35 : tg_ok E24 a0 (0) := tg_ok_fr TH hst24 hm0 hk0 (by decide) (by decide) htg35
        have hgn29 : tk_at E24 a0 := tk_of TH hst24 hm0 hk0 (by decide) (by decide) (by decide) (tw_fi_of hxi23) hpoxc25_0
        obtain ⟨qzfxc25_0_0, hqzfxc25_0_0, hqzfxc25_0_0a, hqzfxc25_0_0b⟩ := tw_rd TH hm0 hk0 (by decide) (by decide) (k := 2) rfl
        have eqzfxc25_0_0 : qzfxc25_0_0 = zfxc25_0_0 := by have q := hqzfxc25_0_0.symm.trans hzfxc25_0_0; injection q
        rw [eqzfxc25_0_0] at hqzfxc25_0_0a hqzfxc25_0_0b
        obtain ⟨qzfxc25_0_1, hqzfxc25_0_1, hqzfxc25_0_1a, hqzfxc25_0_1b⟩ := tw_rd TH hm0 hk0 (by decide) (by decide) (k := 3) rfl
        have eqzfxc25_0_1 : qzfxc25_0_1 = zfxc25_0_1 := by have q := hqzfxc25_0_1.symm.trans hzfxc25_0_1; injection q
        rw [eqzfxc25_0_1] at hqzfxc25_0_1a hqzfxc25_0_1b
        refine W.eq (g2 := F0 m 44 ls []) rfl ?_
        refine lv_aload_n hx hb dX12_readsTree_44 rfl (lv_at hl 1 rfl) ?_
        refine lv_iconst (v := (-1)) hx hb dX12_readsTree_45 (by decide) ?_
        refine lv_iconst (v := 1) hx hb dX12_readsTree_46 (by decide) ?_
        refine tw_Vc (o := a0) (ci := 12) (n := 2) (post := (fun v kq Lq Eq => (∃ x : Int32, v = some (.int x) ∧ 0 ≤ x.toInt ∧ x.toInt ≤ 1 ∧ (ot_ok Eq a0 15 E24) ∧ (x.toInt = 0 → tw_fi Eq a0 4 ≠ -1) ∧ (x.toInt ≠ 0 → tk_at Eq a0) ∧ (∃ z0 z1 : Int32, tw_fv Eq a0 2 = .int z0 ∧ tw_fv Eq a0 28 = .int z1 ∧ (zfxc25_0_0.toInt ≤ z0.toInt ∧ (x.toInt ≠ 0 → zfxc25_0_0.toInt < z0.toInt) ∧ 0 ≤ z1.toInt ∧ (x.toInt ≠ 0 → 0 < z1.toInt)) ∧ th_ok Eq a0 (z1.toInt) ∧ tp_ok Eq a0 (z1.toInt) ∧ tq_ok Eq a0 (z1.toInt) ∧ tg_ok Eq a0 (z1.toInt)) ∧ rd_ok Eq a0 ∧ kg_ok Eq a0) ∧ kp = kq ∧ L = Lq ∧ tw_fr kp L [(12, 2), (12, 3), (12, 4), (12, 28)] [326, 327, 328, 329, 332] E24 Eq)) (As := [.int (-1), .int 1]) (rest := []) ⟨hx, hb, hml, hown, hB⟩ (fun sz => tX12_readsNode l D cs 8 a0 ((-1) : Int32) (1 : Int32) (0 : Int32) zfxc25_0_1 zfxc25_0_0 hm0 hk0 (by have : (((-1) : Int32).toInt) = (-1) := (by decide); omega) (by have : (((-1) : Int32).toInt) = (-1) := (by decide); omega) (by have : ((1 : Int32).toInt) = 1 := (by decide); omega) (by have : ((1 : Int32).toInt) = 1 := (by decide); omega) hmf27 hzfxc25_0_1 hzfxc25_0_0 (by have : (((-1) : Int32).toInt) = (-1) := (by decide); have : ((0 : Int32).toInt) = 0 := (by decide); have : ((1 : Int32).toInt) = 1 := (by decide); omega) (by have : (((-1) : Int32).toInt) = (-1) := (by decide); have : ((0 : Int32).toInt) = 0 := (by decide); have : ((1 : Int32).toInt) = 1 := (by decide); omega) (by have : (((-1) : Int32).toInt) = (-1) := (by decide); have : ((0 : Int32).toInt) = 0 := (by decide); have : ((1 : Int32).toInt) = 1 := (by decide); omega) hgn29 hth35 htp35 htq35 htg35 hcg12_0 hcg12_1 sz) cg_12_268_X12_readsNode rfl rfl (by decide +kernel) ⟨Nat.le_of_ble_eq_true rfl, Nat.le_of_ble_eq_true rfl⟩ hK hN TH hS hA rfl hm0 hk0 (by decide) rfl hl.1 rfl (Nat.le_of_ble_eq_true rfl) dX12_readsTree_47 ⟨Nat.le_of_ble_eq_true rfl, Nat.le_of_ble_eq_true rfl⟩ (fun v30 kp30 L30 E30 H locs hq30 hx30 TH hS => ?_)
        obtain ⟨⟨xc31, rfl, hxc31a, hxc31b, hpoxc31_0, hpoxc31_1, hpoxc31_2, ⟨zfxc31_0_0, zfxc31_0_1, hzfxc31_0_0, hzfxc31_0_1, hzpxc31_0, hzgxc31_0_0, hzgxc31_0_1, hzgxc31_0_2, hzgxc31_0_3⟩, hgpxc31_0, hgpxc31_1⟩, rfl, rfl, hst30⟩ := hq30
        have hF := hF.tr hst30 (fun _ h => ⟨h, rfl⟩) (by decide) (by decide)
        have hmf32 : tw_fv E30 a0 1 = .int xi23 := (hst30.1 a0 1 hm0 (by rw [hk0]; decide)).trans hmf28
        have hcg12_2_o := hcg12_2
        have hgn29_o := hgn29
        have hcg12_2 : ot_ok E30 a0 (15) E := ot_ok_tr hpoxc31_0 hcg12_2_o
        obtain ⟨qzfxc31_0_0, hqzfxc31_0_0, hqzfxc31_0_0a, hqzfxc31_0_0b⟩ := tw_rd TH hm0 hk0 (by decide) (by decide) (k := 2) rfl
        have eqzfxc31_0_0 : qzfxc31_0_0 = zfxc31_0_0 := by have q := hqzfxc31_0_0.symm.trans hzfxc31_0_0; injection q
        rw [eqzfxc31_0_0] at hqzfxc31_0_0a hqzfxc31_0_0b
        obtain ⟨qzfxc31_0_1, hqzfxc31_0_1, hqzfxc31_0_1a, hqzfxc31_0_1b⟩ := tw_rd TH hm0 hk0 (by decide) (by decide) (k := 28) rfl
        have eqzfxc31_0_1 : qzfxc31_0_1 = zfxc31_0_1 := by have q := hqzfxc31_0_1.symm.trans hzfxc31_0_1; injection q
        rw [eqzfxc31_0_1] at hqzfxc31_0_1a hqzfxc31_0_1b
        refine W.eq (g2 := F0 m 50 ls [.int xc31]) rfl ?_
        refine lv_istore_n (lv' := [(1, .int xc31), (0, .ref a0)]) hx hb dX12_readsTree_50 rfl hl (by decide) rfl (fun ls hl => ?_)
        refine lv_iload_n hx hb dX12_readsTree_51 rfl (lv_at hl 0 rfl) ?_
        refine lv_if_eq (tgt := 71) hx hb dX12_readsTree_52 (by decide) (fun hc33 => ?_) (fun hc33 => ?_)
        · have hf34 : xc31.toInt = 0 := by have z := (fa_eq _ _).mp hc33; have : ((0 : Int32).toInt) = 0 := (by decide); omega
          refine lv_iload_n hx hb dX12_readsTree_71 rfl (lv_at hl 0 rfl) ?_
          refine lv_if_eq (tgt := 79) hx hb dX12_readsTree_72 (by decide) (fun hc35 => ?_) (fun hc35 => ?_)
          · have hf36 : xc31.toInt = 0 := by have z := (fa_eq _ _).mp hc35; have : ((0 : Int32).toInt) = 0 := (by decide); omega
            exact tw_vret hx hb hr hlocks TH hS hex ⟨rfl, rfl, rfl, hF, (by  exact hcg12_2), (by  intro z; exact absurd z (hpoxc31_1 (by omega))), (by  exact ht_of_th hzgxc31_0_0), hgpxc31_0, hgpxc31_1⟩ (Nat.le_of_ble_eq_true rfl) (Nat.le_of_ble_eq_true rfl) dX12_readsTree_79
          · have hf37 : ¬ (xc31.toInt = 0) := fun q => hc35 ((fa_eq _ _).mpr (by have : ((0 : Int32).toInt) = 0 := (by decide); omega))
            exfalso; omega
        · have hf38 : ¬ (xc31.toInt = 0) := fun q => hc33 ((fa_eq _ _).mpr (by have : ((0 : Int32).toInt) = 0 := (by decide); omega))
          refine lv_aload_n hx hb dX12_readsTree_55 rfl (lv_at hl 1 rfl) ?_
          refine tw_get (ci := 12) (C := RX12) (T := TX12) (N := 64) hx hb hB cx_inX12 hown hK TH hm0 hk0 rfl ⟨by decide, rfl⟩ 2 (by decide) cw_1195 (fun _ h9 => h9) dX12_readsTree_56 (fun hv => ?_)
          rw [hzfxc31_0_0]
          refine lv_aload_n hx hb dX12_readsTree_59 rfl (lv_at hl 1 rfl) ?_
          refine tw_get (ci := 12) (C := RX12) (T := TX12) (N := 64) hx hb hB cx_inX12 hown hK TH hm0 hk0 rfl ⟨by decide, rfl⟩ 1 (by decide) cw_1194 (fun _ h9 => h9) dX12_readsTree_60 (fun hv => ?_)
          rw [hmf32]
          refine lv_icmp_ge (tgt := 71) hx hb dX12_readsTree_63 (by decide) (fun hc39 => ?_) (fun hc39 => ?_)
          · have hf40 : xi23.toInt ≤ zfxc31_0_0.toInt := by have z := (fa_le _ _).mp hc39;  omega
            refine lv_iload_n hx hb dX12_readsTree_71 rfl (lv_at hl 0 rfl) ?_
            refine lv_if_eq (tgt := 79) hx hb dX12_readsTree_72 (by decide) (fun hc41 => ?_) (fun hc41 => ?_)
            · have hf42 : xc31.toInt = 0 := by have z := (fa_eq _ _).mp hc41; have : ((0 : Int32).toInt) = 0 := (by decide); omega
              exfalso; omega
            · have hf43 : ¬ (xc31.toInt = 0) := fun q => hc41 ((fa_eq _ _).mpr (by have : ((0 : Int32).toInt) = 0 := (by decide); omega))
              refine lv_aload_n hx hb dX12_readsTree_75 rfl (lv_at hl 1 rfl) ?_
              refine tw_Vc (o := a0) (ci := 12) (n := 0) (post := (fun v kq Lq Eq => v = none ∧ kp = kq ∧ L = Lq ∧ tw_fr kp L [] [327, 328, 329, 332, 343, 344, 345, 346, 347] E30 Eq ∧ (tt_ok Eq a0) ∧ (ot_ok Eq a0 15 E30) ∧ rd_ok Eq a0)) (As := []) (rest := []) ⟨hx, hb, hml, hown, hB⟩ (fun sz => tX12_arranges l D cs a0 zfxc31_0_1 hm0 hk0 hzfxc31_0_1 (by  omega) hzgxc31_0_0 hzgxc31_0_1 hzgxc31_0_2 hzgxc31_0_3 hgpxc31_0 sz) cg_12_272_X12_arranges rfl rfl (by decide +kernel) ⟨Nat.le_of_ble_eq_true rfl, Nat.le_of_ble_eq_true rfl⟩ hK hN TH hS hA rfl hm0 hk0 (by decide) rfl hl.1 rfl (Nat.le_of_ble_eq_true rfl) dX12_readsTree_76 ⟨Nat.le_of_ble_eq_true rfl, Nat.le_of_ble_eq_true rfl⟩ (fun v44 kp44 L44 E44 H locs hq44 hx44 TH hS => ?_)
              obtain ⟨rfl, rfl, rfl, hst44, hpoxc45_0, hpoxc45_1, hgpxc45_0⟩ := hq44
              have hF := hF.tr hst44 (fun _ h => ⟨h, rfl⟩) (by decide) (by decide)
              have hmf46 : tw_fv E44 a0 1 = .int xi23 := (hst44.1 a0 1 hm0 (by rw [hk0]; decide)).trans hmf32
              have hmf47 : tw_fv E44 a0 2 = .int zfxc31_0_0 := (hst44.1 a0 2 hm0 (by rw [hk0]; decide)).trans hzfxc31_0_0
              have hmf48 : tw_fv E44 a0 28 = .int zfxc31_0_1 := (hst44.1 a0 28 hm0 (by rw [hk0]; decide)).trans hzfxc31_0_1
              have hcg12_2_o := hcg12_2
              have hgpxc31_1_o := hgpxc31_1
              have hzgxc31_0_0_o := hzgxc31_0_0
              have hzgxc31_0_1_o := hzgxc31_0_1
              have hzgxc31_0_2_o := hzgxc31_0_2
              have hzgxc31_0_3_o := hzgxc31_0_3
              have hcg12_2 : ot_ok E44 a0 (15) E := ot_ok_tr hpoxc45_1 hcg12_2_o
              have hgpxc31_1 : kg_ok E44 a0 := kg_ok_fr TH hst44 hm0 hk0 (by decide) (by decide) hgpxc31_1
              have hzgxc31_0_0 : th_ok E44 a0 (zfxc31_0_1.toInt) := th_ok_fr TH hst44 hm0 hk0 (by decide) (by decide) hzgxc31_0_0
              refine W.eq (g2 := F0 m 79 ls []) rfl ?_
              exact tw_vret hx hb hr hlocks TH hS hex ⟨rfl, rfl, rfl, hF, (by  exact hcg12_2), (by  intro _; exact hpoxc45_0), (by  exact ht_of_th hzgxc31_0_0), hgpxc45_0, hgpxc31_1⟩ (Nat.le_of_ble_eq_true rfl) (Nat.le_of_ble_eq_true rfl) dX12_readsTree_79
          · have hf49 : ¬ (xi23.toInt ≤ zfxc31_0_0.toInt) := fun q => hc39 ((fa_le _ _).mpr (by  omega))
            refine lv_aload_n hx hb dX12_readsTree_66 rfl (lv_at hl 1 rfl) ?_
            refine tw_Vc (o := a0) (ci := 12) (n := 0) (post := (fun v kq Lq Eq => (∃ x : Int32, v = some (.int x) ∧ 0 ≤ x.toInt ∧ x.toInt ≤ 0 ∧ (∃ z0 : Int32, tw_fv Eq a0 4 = .int z0 ∧ (z0.toInt ≠ -1))) ∧ kp = kq ∧ L = Lq ∧ tw_fr kp L [(12, 4)] [] E30 Eq)) (As := []) (rest := []) ⟨hx, hb, hml, hown, hB⟩ (fun sz => tX12_fails_vL l D cs a0 hm0 hk0 sz) cg_12_196_X12_fails rfl rfl (by decide +kernel) ⟨Nat.le_of_ble_eq_true rfl, Nat.le_of_ble_eq_true rfl⟩ hK hN TH hS hA rfl hm0 hk0 (by decide) rfl hl.1 rfl (Nat.le_of_ble_eq_true rfl) dX12_readsTree_67 ⟨Nat.le_of_ble_eq_true rfl, Nat.le_of_ble_eq_true rfl⟩ (fun v50 kp50 L50 E50 H locs hq50 hx50 TH hS => ?_)
            obtain ⟨⟨xc51, rfl, hxc51a, hxc51b, ⟨zfxc51_0_0, hzfxc51_0_0, hzpxc51_0⟩⟩, rfl, rfl, hst50⟩ := hq50
            have hF := hF.tr hst50 (fun _ h => ⟨h, rfl⟩) (by decide) (by decide)
            have hmf52 : tw_fv E50 a0 1 = .int xi23 := (hst50.1 a0 1 hm0 (by rw [hk0]; decide)).trans hmf32
            have hmf53 : tw_fv E50 a0 2 = .int zfxc31_0_0 := (hst50.1 a0 2 hm0 (by rw [hk0]; decide)).trans hzfxc31_0_0
            have hmf54 : tw_fv E50 a0 28 = .int zfxc31_0_1 := (hst50.1 a0 28 hm0 (by rw [hk0]; decide)).trans hzfxc31_0_1
            have hcg12_2 : ot_ok E50 a0 (15) E := ot_ok_fr TH hst50 hm0 hk0 (by decide) (by decide) hcg12_2
            have hgpxc31_0 : rd_ok E50 a0 := rd_ok_fr TH hst50 hm0 hk0 (by decide) (by decide) hgpxc31_0
            have hgpxc31_1 : kg_ok E50 a0 := kg_ok_fr TH hst50 hm0 hk0 (by decide) (by decide) hgpxc31_1
            have hzgxc31_0_0 : th_ok E50 a0 (zfxc31_0_1.toInt) := th_ok_fr TH hst50 hm0 hk0 (by decide) (by decide) hzgxc31_0_0
            have hzgxc31_0_1 : tp_ok E50 a0 (zfxc31_0_1.toInt) := tp_ok_fr TH hst50 hm0 hk0 (by decide) (by decide) hzgxc31_0_1
            have hzgxc31_0_2 : tq_ok E50 a0 (zfxc31_0_1.toInt) := tq_ok_fr TH hst50 hm0 hk0 (by decide) (by decide) hzgxc31_0_2
            have hzgxc31_0_3 : tg_ok E50 a0 (zfxc31_0_1.toInt) := tg_ok_fr TH hst50 hm0 hk0 (by decide) (by decide) hzgxc31_0_3
            obtain ⟨qzfxc51_0_0, hqzfxc51_0_0, hqzfxc51_0_0a, hqzfxc51_0_0b⟩ := tw_rd TH hm0 hk0 (by decide) (by decide) (k := 4) rfl
            have eqzfxc51_0_0 : qzfxc51_0_0 = zfxc51_0_0 := by have q := hqzfxc51_0_0.symm.trans hzfxc51_0_0; injection q
            rw [eqzfxc51_0_0] at hqzfxc51_0_0a hqzfxc51_0_0b
            refine W.eq (g2 := F0 m 70 ls [.int xc51]) rfl ?_
            refine lv_istore_n (lv' := [(1, .int xc51), (0, .ref a0)]) hx hb dX12_readsTree_70 rfl hl (by decide) rfl (fun ls hl => ?_)
            refine lv_iload_n hx hb dX12_readsTree_71 rfl (lv_at hl 0 rfl) ?_
            refine lv_if_eq (tgt := 79) hx hb dX12_readsTree_72 (by decide) (fun hc55 => ?_) (fun hc55 => ?_)
            · have hf56 : xc51.toInt = 0 := by have z := (fa_eq _ _).mp hc55; have : ((0 : Int32).toInt) = 0 := (by decide); omega
              exact tw_vret hx hb hr hlocks TH hS hex ⟨rfl, rfl, rfl, hF, (by  exact hcg12_2), (by  intro z; rw [tw_fi_of hzfxc51_0_0] at z; exfalso; omega), (by  exact ht_of_th hzgxc31_0_0), hgpxc31_0, hgpxc31_1⟩ (Nat.le_of_ble_eq_true rfl) (Nat.le_of_ble_eq_true rfl) dX12_readsTree_79
            · have hf57 : ¬ (xc51.toInt = 0) := fun q => hc55 ((fa_eq _ _).mpr (by have : ((0 : Int32).toInt) = 0 := (by decide); omega))
              exfalso; omega
      · have hf58 : ¬ (150 ≤ y12_1.toInt) := fun q => hc14 ((fa_le _ _).mpr (by have : ((150 : Int32).toInt) = 150 := (by decide); omega))
        refine lv_aload_n hx hb dX12_readsTree_19 rfl (lv_at hl 1 rfl) ?_
        refine tw_get (ci := 12) (C := RX12) (T := TX12) (N := 64) hx hb hB cx_inX12 hown hK TH hm0 hk0 rfl ⟨by decide, rfl⟩ 16 (by decide) cw_1209 (fun _ h9 => h9) dX12_readsTree_20 (fun hv => ?_)
        obtain ⟨xr59, hxr59, hmxr59, hkxr59⟩ : ∃ a : Nat, tw_fv Eg12 a0 16 = .ref a ∧ a ∈ L ∧ kp a = 316 := hv
        rw [hxr59]
        refine lv_bipush (v := 15) hx hb dX12_readsTree_23 (by decide) ?_
        refine tw_aald (k := 316) (t0 := 5) (n := 16) (lo := 326) (hi := 0) (ty := .boolean) hx hb hK TH hmxr59 hkxr59 (by decide) rfl rfl (i := 15) (vp_in_iff.mpr ⟨by have : ((15 : Int32).toInt) = 15 := (by decide); omega, by have : ((15 : Int32).toInt) = 15 := (by decide); omega⟩) dX12_readsTree_25 (fun xr60 exr60 hmxr60 hkxr60 => ?_)
        have hkxr60 : kp xr60 = 326 := hkxr60
        refine lv_iload_n hx hb dX12_readsTree_26 rfl (lv_at hl 0 rfl) ?_
        refine lv_iconst (v := 0) hx hb dX12_readsTree_27 (by decide) ?_
        refine tw_zast (k := 326) (n := 150) (lo := 0) (hi := 1) hx hb hK TH hS hmxr60 hkxr60 (by decide) rfl (i := y12_1) (x := 0) (vp_in_iff.mpr ⟨by  omega, by  omega⟩) (by have : ((0 : Int32).toInt) = 0 := (by decide); omega) (by have : ((0 : Int32).toInt) = 0 := (by decide); omega) (by have : ((0 : Int32).toInt) = 0 := (by decide); omega) (by have : ((0 : Int32).toInt) = 0 := (by decide); omega) dX12_readsTree_28 (fun H locs E61 TH hS hp62 hp63 hp64 => ?_)
        have hst65 : tw_fr kp L [] [326] Eg12 E61 := tw_fr.ast tw_fr.rf (fun _ => hkxr60) hp62 hp63 (by decide)
        have hF := hF.tr hst65 (fun _ h => ⟨h, rfl⟩) (by decide) (by decide)
        have hG12 := hG12.tr hst65 (fun _ h => ⟨h, rfl⟩) (by decide) (by decide)
        have hmf66 : tw_fv E61 a0 4 = .int (-1) := (hst65.1 a0 4 hm0 (by rw [hk0]; decide)).trans hmf12
        have hmf67 : tw_fv E61 a0 28 = .int 0 := (hst65.1 a0 28 hm0 (by rw [hk0]; decide)).trans hmf13
        have hmf68 : tw_fv E61 a0 16 = .ref xr59 := (hst65.1 a0 16 hm0 (by rw [hk0]; decide)).trans hxr59
        have hcg12_0_o := hcg12_0
        have hcg12_1_o := hcg12_1
        have hcg12_2_o := hcg12_2
        have hcg12_3_o := hcg12_3
        have hcg12_0 : rd_ok E61 a0 := rd_ok_fr TH hst65 hm0 hk0 (by decide) (by decide) hcg12_0
        have hcg12_1 : kg_ok E61 a0 := kg_ok_fr TH hst65 hm0 hk0 (by decide) (by decide) hcg12_1
        have hcg12_2 : ot_ok E61 a0 (15) E := (by have e15 : ((15 : Int32).toInt) = 15 := (by decide); have q := ot_ok_h (i := 15) TH hm0 hk0 hcg12_0_o hxr59 exr60 hkxr59 hkxr60 hp62 hp63 (by omega) (by omega) (show ot_ok _ _ _ _ from (by rw [e15]; exact hcg12_2_o)); rw [e15] at q; exact q)
        have hcg12_3 : hz_ok E61 a0 (y12_1.toInt + 1) := hz_push hcg12_3_o rfl (by have e15 : ((15 : Int32).toInt) = 15 := (by decide); have ev : ((0 : Int32).toInt) = 0 := (by decide); have q := rw_h_st (m := a0) (i := 15) (c := y12_1) hxr59 exr60 hkxr59 hkxr60 hp62 hp63 hp64; rw [e15, ev] at q; exact q)
        obtain ⟨zi69, ezi69⟩ : ∃ z : Int32, z = y12_1 + Int32.ofInt 1 := ⟨_, rfl⟩
        have hzi69 : zi69.toInt = y12_1.toInt + 1 := by rw [ezi69]; have : ((Int32.ofInt 1).toInt) = 1 := (by decide);  exact (ia_add (by omega) (by omega)).trans (by omega)
        refine lv_iinc (v := zi69) (lv' := [(1, .int zi69), (0, .ref a0)]) hx hb dX12_readsTree_29 hl (k := 0) rfl ezi69.symm (by decide) rfl (fun ls hl => ?_)
        refine lv_goto (tgt := 12) hx hb dX12_readsTree_32 (by decide) ?_
        exact ih12 (n12 - 1) (by   omega) zi69 _ _ _ ls (by omega) (by omega) (by   omega) hG12 hcg12_0 hcg12_1 hcg12_2 (hz_ok_cast (by  omega) hcg12_3) TH hS (lv_sub hl [0, 1] rfl)
  exact hJ12 151 (0 : Int32) _ _ _ ls (by have : ((0 : Int32).toInt) = 0 := (by decide); omega) (by have : ((0 : Int32).toInt) = 0 := (by decide); omega) (by have : ((0 : Int32).toInt) = 0 := (by decide);  omega) tw_fr.rf hg0 hg1 hot (hz_ok_cast (by have : ((0 : Int32).toInt) = 0 := (by decide); omega) hhz) TH hS (lv_sub hl [0, 1] rfl)
set_option maxHeartbeats 4000000 in
set_option maxRecDepth 100000 in
theorem tX12_breaks (l : Launch) (D : va_G) (cs : Nat → ClassId) {kp : Nat → Nat} {L : List Nat} {E : Nat → va_E} (a0 : Nat) (hm0 : a0 ∈ L) (hk0 : kp a0 = 12) (hg0 : rd_ok E a0) (hg1 : eo_ok E a0) (hg2 : ht_ok E a0) (hg3 : dr_ok E a0) (hg4 : ln_ok E a0) (hg5 : dl_ok E a0) (hg6 : fw_ok E a0) (hg7 : kg_ok E a0) (sz : Nat) : Met l yX12_breaks (.code yX12_breaks cX12_breaks 1 (some .int) :: cx_big) { frames := 15, cells := 0, slots := 0, locals := 367 } (tw_P D cs kp L E [.ref a0] sz) (tw_Q D cs kp L (fun v kq Lq Eq => (∃ x : Int32, v = some (.int x) ∧ (-1) ≤ x.toInt ∧ x.toInt ≤ 149 ∧ rd_ok Eq a0 ∧ eo_ok Eq a0 ∧ ht_ok Eq a0 ∧ dr_ok Eq a0 ∧ ln_ok Eq a0 ∧ dl_ok Eq a0 ∧ fw_ok Eq a0 ∧ kg_ok Eq a0) ∧ kp = kq ∧ L = Lq ∧ tw_fr kp L [(12, 2), (12, 3), (12, 4), (12, 28)] [326, 327, 328, 329, 332, 343, 344, 345, 346, 347, 348, 349] E Eq) (va_A (va_pl L E) sz)) 0 0 (va_A (va_pl L E) sz) := by
  refine tw_ofW (by decide) (Nat.le_of_ble_eq_true rfl) ?_
  intro p e s m below meth c A ls hx hb hr hml hB hown hlocks hK hN hA TH hS hl
  have hown : s.vm.findClass "TreeMergeModel" = some m.cls := hown
  have hl : lv_has ls 1 [(0, .ref a0)] := hl
  obtain ⟨kp0, ekp⟩ : ∃ z, z = kp := ⟨_, rfl⟩
  obtain ⟨L0, eL⟩ : ∃ z, z = L := ⟨_, rfl⟩
  rw [show tw_Q D cs kp L = tw_Q D cs kp0 L0 by rw [ekp, eL]]
  have hex : ∀ a : Nat, a ∈ L0 → a ∈ L ∧ kp a = kp0 a := fun a h => ⟨by rw [← eL]; exact h, by rw [ekp]⟩
  have hF : tw_fr kp L [(12, 2), (12, 3), (12, 4), (12, 28)] [326, 327, 328, 329, 332, 343, 344, 345, 346, 347, 348, 349] E E := tw_fr.rf
  refine lv_aload_n hx hb dX12_breaks_0 rfl (lv_at hl 0 rfl) ?_
  obtain ⟨xi1, hxi1, hxi1a, hxi1b⟩ := tw_rd TH hm0 hk0 (by decide) (by decide) (k := 27) rfl
  have hk27 := trivial
  refine tw_Vc (o := a0) (ci := 12) (n := 0) (post := (fun v kq Lq Eq => v = none ∧ kp = kq ∧ L = Lq ∧ tw_fr kp L [(12, 2), (12, 3), (12, 4), (12, 28)] [326, 327, 328, 329, 332, 343, 344, 345, 346, 347] E Eq ∧ (ot_ok Eq a0 15 E) ∧ (tw_fi Eq a0 4 = -1 → tt_ok Eq a0) ∧ (ht_ok Eq a0) ∧ rd_ok Eq a0 ∧ kg_ok Eq a0)) (As := []) (rest := []) ⟨hx, hb, hml, hown, hB⟩ (fun sz => tX12_readsTree l D cs a0 hm0 hk0 hg0 hg7 sz) cg_12_282_X12_readsTree rfl rfl (by decide +kernel) ⟨Nat.le_of_ble_eq_true rfl, Nat.le_of_ble_eq_true rfl⟩ hK hN TH hS hA rfl hm0 hk0 (by decide) rfl hl.1 rfl (Nat.le_of_ble_eq_true rfl) dX12_breaks_1 ⟨Nat.le_of_ble_eq_true rfl, Nat.le_of_ble_eq_true rfl⟩ (fun v2 kp2 L2 E2 H locs hq2 hx2 TH hS => ?_)
  obtain ⟨rfl, rfl, rfl, hst2, hpoxc3_0, hpoxc3_1, hpoxc3_2, hgpxc3_0, hgpxc3_1⟩ := hq2
  have hF := hF.tr hst2 (fun _ h => ⟨h, rfl⟩) (by decide) (by decide)
  have hmf4 : tw_fv E2 a0 27 = .int xi1 := (hst2.1 a0 27 hm0 (by rw [hk0]; decide)).trans hxi1
  have hg1_o := hg1
  have hg2_o := hg2
  have hg3_o := hg3
  have hg4_o := hg4
  have hg5_o := hg5
  have hg6_o := hg6
  have hg1 : eo_ok E2 a0 := eo_ok_ot (r := 15) TH hst2 hm0 hk0 (by decide) (by have e14 : ((14 : Int32).toInt) = 14 := (by decide); have q := hpoxc3_0; (try rw [e14] at q); exact q) (by rw [tw_fi_of hxi1]; omega) hg1_o
  have hg2 : ht_ok E2 a0 := hpoxc3_2
  have hg3 : dr_ok E2 a0 := dr_ok_ot (r := 15) hst2 hm0 hk0 (by decide) (by have e14 : ((14 : Int32).toInt) = 14 := (by decide); have q := hpoxc3_0; (try rw [e14] at q); exact q) (by decide) hg3_o
  have hg4 : ln_ok E2 a0 := ln_ok_ot (r := 15) TH hst2 hm0 hk0 (by decide) (by decide) (by have e14 : ((14 : Int32).toInt) = 14 := (by decide); have q := hpoxc3_0; (try rw [e14] at q); exact q) (by rw [tw_fi_of hxi1]; omega) hg4_o
  have hg5 : dl_ok E2 a0 := dl_ok_ot (r := 15) TH hst2 hm0 hk0 (by decide) (by have e14 : ((14 : Int32).toInt) = 14 := (by decide); have q := hpoxc3_0; (try rw [e14] at q); exact q) (by decide) (by rw [tw_fi_of hxi1]; omega) hg5_o
  have hg6 : fw_ok E2 a0 := fw_ok_ot (r := 15) TH hst2 hm0 hk0 (by decide) (by have e14 : ((14 : Int32).toInt) = 14 := (by decide); have q := hpoxc3_0; (try rw [e14] at q); exact q) (by decide) hg6_o
  refine W.eq (g2 := F0 m 4 ls []) rfl ?_
  refine lv_aload_n hx hb dX12_breaks_4 rfl (lv_at hl 0 rfl) ?_
  refine tw_get (ci := 12) (C := RX12) (T := TX12) (N := 64) hx hb hB cx_inX12 hown hK TH hm0 hk0 rfl ⟨by decide, rfl⟩ 4 (by decide) cw_1197 (fun _ h9 => h9) dX12_breaks_5 (fun hv => ?_)
  obtain ⟨xi5, hxi5, hxi5a, hxi5b⟩ : ∃ x : Int32, tw_fv E2 a0 4 = .int x ∧ (-1) ≤ x.toInt ∧ x.toInt ≤ 500 := hv
  rw [hxi5]
  refine lv_iconst (v := (-1)) hx hb dX12_breaks_8 (by decide) ?_
  refine lv_icmp_eq (tgt := 16) hx hb dX12_breaks_9 (by decide) (fun hc6 => ?_) (fun hc6 => ?_)
  · have hf7 : xi5.toInt = (-1) := by have z := (fa_eq _ _).mp hc6; have : (((-1) : Int32).toInt) = (-1) := (by decide); omega
    have htt : tt_ok E2 a0 := hpoxc3_1 (by rw [tw_fi_of hxi5]; omega)
    refine lv_aload_n hx hb dX12_breaks_16 rfl (lv_at hl 0 rfl) ?_
    refine lv_bipush (v := 15) hx hb dX12_breaks_17 (by decide) ?_
    refine tw_Vc (o := a0) (ci := 12) (n := 1) (post := (fun v kq Lq Eq => (∃ x : Int32, v = some (.int x) ∧ (-1) ≤ x.toInt ∧ x.toInt ≤ 149) ∧ kp = kq ∧ L = Lq ∧ tw_fr kp L [] [348, 349] E2 Eq)) (As := [.int 15]) (rest := []) ⟨hx, hb, hml, hown, hB⟩ (fun sz => tX12_firstBreak l D cs a0 (15 : Int32) hm0 hk0 (by have : ((15 : Int32).toInt) = 15 := (by decide); omega) (by have : ((15 : Int32).toInt) = 15 := (by decide); omega) hg2 (by have e15 : ((15 : Int32).toInt) = 15 := (by decide); rw [e15]; exact (tt_rw htt).1) sz) cg_12_333_X12_firstBreak rfl rfl (by decide +kernel) ⟨Nat.le_of_ble_eq_true rfl, Nat.le_of_ble_eq_true rfl⟩ hK hN TH hS hA rfl hm0 hk0 (by decide) rfl hl.1 rfl (Nat.le_of_ble_eq_true rfl) dX12_breaks_19 ⟨Nat.le_of_ble_eq_true rfl, Nat.le_of_ble_eq_true rfl⟩ (fun v8 kp8 L8 E8 H locs hq8 hx8 TH hS => ?_)
    obtain ⟨⟨xc9, rfl, hxc9a, hxc9b⟩, rfl, rfl, hst8⟩ := hq8
    have hF := hF.tr hst8 (fun _ h => ⟨h, rfl⟩) (by decide) (by decide)
    have hmf10 : tw_fv E8 a0 27 = .int xi1 := (hst8.1 a0 27 hm0 (by rw [hk0]; decide)).trans hmf4
    have hmf11 : tw_fv E8 a0 4 = .int xi5 := (hst8.1 a0 4 hm0 (by rw [hk0]; decide)).trans hxi5
    have hg1 : eo_ok E8 a0 := eo_ok_fr TH hst8 hm0 hk0 (by decide) (by decide) hg1
    have hg2 : ht_ok E8 a0 := ht_ok_fr TH hst8 hm0 hk0 (by decide) (by decide) hg2
    have hg3 : dr_ok E8 a0 := dr_ok_fr TH hst8 hm0 hk0 (by decide) (by decide) hg3
    have hg4 : ln_ok E8 a0 := ln_ok_fr TH hst8 hm0 hk0 (by decide) (by decide) hg4
    have hg5 : dl_ok E8 a0 := dl_ok_fr TH hst8 hm0 hk0 (by decide) (by decide) hg5
    have hg6 : fw_ok E8 a0 := fw_ok_fr TH hst8 hm0 hk0 (by decide) (by decide) hg6
    have hgpxc3_0 : rd_ok E8 a0 := rd_ok_fr TH hst8 hm0 hk0 (by decide) (by decide) hgpxc3_0
    have hgpxc3_1 : kg_ok E8 a0 := kg_ok_fr TH hst8 hm0 hk0 (by decide) (by decide) hgpxc3_1
    have htt : tt_ok E8 a0 := tt_ok_fr TH hst8 hm0 hk0 (by decide) (by decide) htt
    refine W.eq (g2 := F0 m 22 ls [.int xc9]) rfl ?_
    exact tw_iret hx hb hr hlocks TH hS hex ⟨⟨_, rfl, (show (-1) ≤ Int32.toInt xc9 from by  omega), (show Int32.toInt xc9 ≤ 149 from by  omega), hgpxc3_0, hg1, hg2, hg3, hg4, hg5, hg6, hgpxc3_1⟩, rfl, rfl, hF⟩ (Nat.le_of_ble_eq_true rfl) (Nat.le_of_ble_eq_true rfl) dX12_breaks_22
  · have hf12 : ¬ (xi5.toInt = (-1)) := fun q => hc6 ((fa_eq _ _).mpr (by have : (((-1) : Int32).toInt) = (-1) := (by decide); omega))
    refine lv_iconst (v := (-1)) hx hb dX12_breaks_12 (by decide) ?_
    refine lv_goto (tgt := 22) hx hb dX12_breaks_13 (by decide) ?_
    exact tw_iret hx hb hr hlocks TH hS hex ⟨⟨_, rfl, (show (-1) ≤ Int32.toInt (-1) from by have : (((-1) : Int32).toInt) = (-1) := (by decide); omega), (show Int32.toInt (-1) ≤ 149 from by have : (((-1) : Int32).toInt) = (-1) := (by decide); omega), hgpxc3_0, hg1, hg2, hg3, hg4, hg5, hg6, hgpxc3_1⟩, rfl, rfl, hF⟩ (Nat.le_of_ble_eq_true rfl) (Nat.le_of_ble_eq_true rfl) dX12_breaks_22
set_option maxHeartbeats 4000000 in
set_option maxRecDepth 100000 in
theorem tX12_canCome (l : Launch) (D : va_G) (cs : Nat → ClassId) {kp : Nat → Nat} {L : List Nat} {E : Nat → va_E} (a0 : Nat) (fv0_27 : Int32) (fv0_14 : Int32) (hm0 : a0 ∈ L) (hk0 : kp a0 = 12) (hfv0_27 : tw_fv E a0 27 = .int fv0_27) (hfv0_14 : tw_fv E a0 14 = .int fv0_14) (hg0 : rd_ok E a0) (hg1 : eo_ok E a0) (hg2 : ht_ok E a0) (hg3 : dr_ok E a0) (hg4 : ln_ok E a0) (hg5 : dl_ok E a0) (hg6 : fw_ok E a0) (hg7 : kg_ok E a0) (sz : Nat) : Met l yX12_canCome (.code yX12_canCome cX12_canCome 1 (some .boolean) :: cx_big) { frames := 15, cells := 0, slots := 0, locals := 367 } (tw_P D cs kp L E [.ref a0] sz) (tw_Q D cs kp L (fun v kq Lq Eq => (∃ x : Int32, v = some (.int x) ∧ 0 ≤ x.toInt ∧ x.toInt ≤ 1 ∧ (x.toInt ≠ 0 → fv0_27.toInt ≤ 11 ∧ fv0_14.toInt ≠ 0) ∧ (x.toInt ≠ 0 → tt_ok Eq a0) ∧ rd_ok Eq a0 ∧ eo_ok Eq a0 ∧ ht_ok Eq a0 ∧ dr_ok Eq a0 ∧ ln_ok Eq a0 ∧ dl_ok Eq a0 ∧ fw_ok Eq a0 ∧ kg_ok Eq a0) ∧ kp = kq ∧ L = Lq ∧ tw_fr kp L [(12, 2), (12, 3), (12, 4), (12, 28)] [326, 327, 328, 329, 332, 343, 344, 345, 346, 347, 348, 349] E Eq) (va_A (va_pl L E) sz)) 0 0 (va_A (va_pl L E) sz) := by
  refine tw_ofW (by decide) (Nat.le_of_ble_eq_true rfl) ?_
  intro p e s m below meth c A ls hx hb hr hml hB hown hlocks hK hN hA TH hS hl
  have hown : s.vm.findClass "TreeMergeModel" = some m.cls := hown
  have hl : lv_has ls 1 [(0, .ref a0)] := hl
  obtain ⟨kp0, ekp⟩ : ∃ z, z = kp := ⟨_, rfl⟩
  obtain ⟨L0, eL⟩ : ∃ z, z = L := ⟨_, rfl⟩
  rw [show tw_Q D cs kp L = tw_Q D cs kp0 L0 by rw [ekp, eL]]
  have hex : ∀ a : Nat, a ∈ L0 → a ∈ L ∧ kp a = kp0 a := fun a h => ⟨by rw [← eL]; exact h, by rw [ekp]⟩
  have hF : tw_fr kp L [(12, 2), (12, 3), (12, 4), (12, 28)] [326, 327, 328, 329, 332, 343, 344, 345, 346, 347, 348, 349] E E := tw_fr.rf
  obtain ⟨qfv0_27, hqfv0_27, hqfv0_27a, hqfv0_27b⟩ := tw_rd TH hm0 hk0 (by decide) (by decide) (k := 27) rfl
  have eqfv0_27 : qfv0_27 = fv0_27 := by have q := hqfv0_27.symm.trans hfv0_27; injection q
  rw [eqfv0_27] at hqfv0_27a hqfv0_27b
  obtain ⟨qfv0_14, hqfv0_14, hqfv0_14a, hqfv0_14b⟩ := tw_rd TH hm0 hk0 (by decide) (by decide) (k := 14) rfl
  have eqfv0_14 : qfv0_14 = fv0_14 := by have q := hqfv0_14.symm.trans hfv0_14; injection q
  rw [eqfv0_14] at hqfv0_14a hqfv0_14b
  refine lv_aload_n hx hb dX12_canCome_0 rfl (lv_at hl 0 rfl) ?_
  refine tw_get (ci := 12) (C := RX12) (T := TX12) (N := 64) hx hb hB cx_inX12 hown hK TH hm0 hk0 rfl ⟨by decide, rfl⟩ 14 (by decide) cw_1207 (fun _ h9 => h9) dX12_canCome_1 (fun hv => ?_)
  rw [hfv0_14]
  refine lv_if_eq (tgt := 16) hx hb dX12_canCome_4 (by decide) (fun hc1 => ?_) (fun hc1 => ?_)
  · have hf2 : fv0_14.toInt = 0 := by have z := (fa_eq _ _).mp hc1; have : ((0 : Int32).toInt) = 0 := (by decide); omega
    refine lv_iconst (v := 0) hx hb dX12_canCome_16 (by decide) ?_
    exact tw_zret hx hb hr hlocks (by decide) TH hS hex ⟨⟨_, rfl, (show 0 ≤ Int32.toInt 0 from by have : ((0 : Int32).toInt) = 0 := (by decide); omega), (show Int32.toInt 0 ≤ 1 from by have : ((0 : Int32).toInt) = 0 := (by decide); omega), (by have : ((0 : Int32).toInt) = 0 := (by decide); omega), (by have : ((0 : Int32).toInt) = 0 := (by decide); intro q; exfalso; exact q (by decide)), hg0, hg1, hg2, hg3, hg4, hg5, hg6, hg7⟩, rfl, rfl, hF⟩ (Nat.le_of_ble_eq_true rfl) (Nat.le_of_ble_eq_true rfl) dX12_canCome_17
  · have hf3 : ¬ (fv0_14.toInt = 0) := fun q => hc1 ((fa_eq _ _).mpr (by have : ((0 : Int32).toInt) = 0 := (by decide); omega))
    refine lv_aload_n hx hb dX12_canCome_7 rfl (lv_at hl 0 rfl) ?_
    refine tw_get (ci := 12) (C := RX12) (T := TX12) (N := 64) hx hb hB cx_inX12 hown hK TH hm0 hk0 rfl ⟨by decide, rfl⟩ 27 (by decide) cw_1220 (fun _ h9 => h9) dX12_canCome_8 (fun hv => ?_)
    rw [hfv0_27]
    refine lv_bipush (v := 12) hx hb dX12_canCome_11 (by decide) ?_
    refine lv_icmp_ne (tgt := 18) hx hb dX12_canCome_13 (by decide) (fun hc4 => ?_) (fun hc4 => ?_)
    · have hf5 : ¬ (fv0_27.toInt = 12) := fun q => hc4 ((fa_eq _ _).mpr (by have : ((12 : Int32).toInt) = 12 := (by decide); omega))
      refine lv_aload_n hx hb dX12_canCome_18 rfl (lv_at hl 0 rfl) ?_
      have hk27 := trivial
      refine tw_Vc (o := a0) (ci := 12) (n := 0) (post := (fun v kq Lq Eq => v = none ∧ kp = kq ∧ L = Lq ∧ tw_fr kp L [(12, 2), (12, 3), (12, 4), (12, 28)] [326, 327, 328, 329, 332, 343, 344, 345, 346, 347] E Eq ∧ (ot_ok Eq a0 15 E) ∧ (tw_fi Eq a0 4 = -1 → tt_ok Eq a0) ∧ (ht_ok Eq a0) ∧ rd_ok Eq a0 ∧ kg_ok Eq a0)) (As := []) (rest := []) ⟨hx, hb, hml, hown, hB⟩ (fun sz => tX12_readsTree l D cs a0 hm0 hk0 hg0 hg7 sz) cg_12_282_X12_readsTree rfl rfl (by decide +kernel) ⟨Nat.le_of_ble_eq_true rfl, Nat.le_of_ble_eq_true rfl⟩ hK hN TH hS hA rfl hm0 hk0 (by decide) rfl hl.1 rfl (Nat.le_of_ble_eq_true rfl) dX12_canCome_19 ⟨Nat.le_of_ble_eq_true rfl, Nat.le_of_ble_eq_true rfl⟩ (fun v6 kp6 L6 E6 H locs hq6 hx6 TH hS => ?_)
      obtain ⟨rfl, rfl, rfl, hst6, hpoxc7_0, hpoxc7_1, hpoxc7_2, hgpxc7_0, hgpxc7_1⟩ := hq6
      have hF := hF.tr hst6 (fun _ h => ⟨h, rfl⟩) (by decide) (by decide)
      have hmf8 : tw_fv E6 a0 27 = .int fv0_27 := (hst6.1 a0 27 hm0 (by rw [hk0]; decide)).trans hfv0_27
      have hmf9 : tw_fv E6 a0 14 = .int fv0_14 := (hst6.1 a0 14 hm0 (by rw [hk0]; decide)).trans hfv0_14
      have hg1_o := hg1
      have hg2_o := hg2
      have hg3_o := hg3
      have hg4_o := hg4
      have hg5_o := hg5
      have hg6_o := hg6
      have hg1 : eo_ok E6 a0 := eo_ok_ot (r := 15) TH hst6 hm0 hk0 (by decide) (by have e14 : ((14 : Int32).toInt) = 14 := (by decide); have q := hpoxc7_0; (try rw [e14] at q); exact q) (by rw [tw_fi_of hfv0_27]; omega) hg1_o
      have hg2 : ht_ok E6 a0 := hpoxc7_2
      have hg3 : dr_ok E6 a0 := dr_ok_ot (r := 15) hst6 hm0 hk0 (by decide) (by have e14 : ((14 : Int32).toInt) = 14 := (by decide); have q := hpoxc7_0; (try rw [e14] at q); exact q) (by decide) hg3_o
      have hg4 : ln_ok E6 a0 := ln_ok_ot (r := 15) TH hst6 hm0 hk0 (by decide) (by decide) (by have e14 : ((14 : Int32).toInt) = 14 := (by decide); have q := hpoxc7_0; (try rw [e14] at q); exact q) (by rw [tw_fi_of hfv0_27]; omega) hg4_o
      have hg5 : dl_ok E6 a0 := dl_ok_ot (r := 15) TH hst6 hm0 hk0 (by decide) (by have e14 : ((14 : Int32).toInt) = 14 := (by decide); have q := hpoxc7_0; (try rw [e14] at q); exact q) (by decide) (by rw [tw_fi_of hfv0_27]; omega) hg5_o
      have hg6 : fw_ok E6 a0 := fw_ok_ot (r := 15) TH hst6 hm0 hk0 (by decide) (by have e14 : ((14 : Int32).toInt) = 14 := (by decide); have q := hpoxc7_0; (try rw [e14] at q); exact q) (by decide) hg6_o
      refine W.eq (g2 := F0 m 22 ls []) rfl ?_
      refine lv_aload_n hx hb dX12_canCome_22 rfl (lv_at hl 0 rfl) ?_
      refine tw_get (ci := 12) (C := RX12) (T := TX12) (N := 64) hx hb hB cx_inX12 hown hK TH hm0 hk0 rfl ⟨by decide, rfl⟩ 4 (by decide) cw_1197 (fun _ h9 => h9) dX12_canCome_23 (fun hv => ?_)
      obtain ⟨xi10, hxi10, hxi10a, hxi10b⟩ : ∃ x : Int32, tw_fv E6 a0 4 = .int x ∧ (-1) ≤ x.toInt ∧ x.toInt ≤ 500 := hv
      rw [hxi10]
      refine lv_iconst (v := (-1)) hx hb dX12_canCome_26 (by decide) ?_
      refine lv_icmp_ne (tgt := 44) hx hb dX12_canCome_27 (by decide) (fun hc11 => ?_) (fun hc11 => ?_)
      · have hf12 : ¬ (xi10.toInt = (-1)) := fun q => hc11 ((fa_eq _ _).mpr (by have : (((-1) : Int32).toInt) = (-1) := (by decide); omega))
        refine lv_iconst (v := 0) hx hb dX12_canCome_44 (by decide) ?_
        exact tw_zret hx hb hr hlocks (by decide) TH hS hex ⟨⟨_, rfl, (show 0 ≤ Int32.toInt 0 from by have : ((0 : Int32).toInt) = 0 := (by decide); omega), (show Int32.toInt 0 ≤ 1 from by have : ((0 : Int32).toInt) = 0 := (by decide); omega), (by have : ((0 : Int32).toInt) = 0 := (by decide); omega), (by have : ((0 : Int32).toInt) = 0 := (by decide); intro q; exfalso; exact q (by decide)), hgpxc7_0, hg1, hg2, hg3, hg4, hg5, hg6, hgpxc7_1⟩, rfl, rfl, hF⟩ (Nat.le_of_ble_eq_true rfl) (Nat.le_of_ble_eq_true rfl) dX12_canCome_45
      · have hf13 : xi10.toInt = (-1) := by have z := (fa_eq _ _).mp hc11; have : (((-1) : Int32).toInt) = (-1) := (by decide); omega
        have htt : tt_ok E6 a0 := hpoxc7_1 (by rw [tw_fi_of hxi10]; omega)
        refine lv_aload_n hx hb dX12_canCome_30 rfl (lv_at hl 0 rfl) ?_
        refine lv_bipush (v := 15) hx hb dX12_canCome_31 (by decide) ?_
        refine tw_Vc (o := a0) (ci := 12) (n := 1) (post := (fun v kq Lq Eq => (∃ x : Int32, v = some (.int x) ∧ (-1) ≤ x.toInt ∧ x.toInt ≤ 149) ∧ kp = kq ∧ L = Lq ∧ tw_fr kp L [] [348, 349] E6 Eq)) (As := [.int 15]) (rest := []) ⟨hx, hb, hml, hown, hB⟩ (fun sz => tX12_firstBreak l D cs a0 (15 : Int32) hm0 hk0 (by have : ((15 : Int32).toInt) = 15 := (by decide); omega) (by have : ((15 : Int32).toInt) = 15 := (by decide); omega) hg2 (by have e15 : ((15 : Int32).toInt) = 15 := (by decide); rw [e15]; exact (tt_rw htt).1) sz) cg_12_333_X12_firstBreak rfl rfl (by decide +kernel) ⟨Nat.le_of_ble_eq_true rfl, Nat.le_of_ble_eq_true rfl⟩ hK hN TH hS hA rfl hm0 hk0 (by decide) rfl hl.1 rfl (Nat.le_of_ble_eq_true rfl) dX12_canCome_33 ⟨Nat.le_of_ble_eq_true rfl, Nat.le_of_ble_eq_true rfl⟩ (fun v14 kp14 L14 E14 H locs hq14 hx14 TH hS => ?_)
        obtain ⟨⟨xc15, rfl, hxc15a, hxc15b⟩, rfl, rfl, hst14⟩ := hq14
        have hF := hF.tr hst14 (fun _ h => ⟨h, rfl⟩) (by decide) (by decide)
        have hmf16 : tw_fv E14 a0 27 = .int fv0_27 := (hst14.1 a0 27 hm0 (by rw [hk0]; decide)).trans hmf8
        have hmf17 : tw_fv E14 a0 14 = .int fv0_14 := (hst14.1 a0 14 hm0 (by rw [hk0]; decide)).trans hmf9
        have hmf18 : tw_fv E14 a0 4 = .int xi10 := (hst14.1 a0 4 hm0 (by rw [hk0]; decide)).trans hxi10
        have hg1 : eo_ok E14 a0 := eo_ok_fr TH hst14 hm0 hk0 (by decide) (by decide) hg1
        have hg2 : ht_ok E14 a0 := ht_ok_fr TH hst14 hm0 hk0 (by decide) (by decide) hg2
        have hg3 : dr_ok E14 a0 := dr_ok_fr TH hst14 hm0 hk0 (by decide) (by decide) hg3
        have hg4 : ln_ok E14 a0 := ln_ok_fr TH hst14 hm0 hk0 (by decide) (by decide) hg4
        have hg5 : dl_ok E14 a0 := dl_ok_fr TH hst14 hm0 hk0 (by decide) (by decide) hg5
        have hg6 : fw_ok E14 a0 := fw_ok_fr TH hst14 hm0 hk0 (by decide) (by decide) hg6
        have hgpxc7_0 : rd_ok E14 a0 := rd_ok_fr TH hst14 hm0 hk0 (by decide) (by decide) hgpxc7_0
        have hgpxc7_1 : kg_ok E14 a0 := kg_ok_fr TH hst14 hm0 hk0 (by decide) (by decide) hgpxc7_1
        have htt : tt_ok E14 a0 := tt_ok_fr TH hst14 hm0 hk0 (by decide) (by decide) htt
        refine W.eq (g2 := F0 m 36 ls [.int xc15]) rfl ?_
        refine lv_iconst (v := (-1)) hx hb dX12_canCome_36 (by decide) ?_
        refine lv_icmp_ne (tgt := 44) hx hb dX12_canCome_37 (by decide) (fun hc19 => ?_) (fun hc19 => ?_)
        · have hf20 : ¬ (xc15.toInt = (-1)) := fun q => hc19 ((fa_eq _ _).mpr (by have : (((-1) : Int32).toInt) = (-1) := (by decide); omega))
          refine lv_iconst (v := 0) hx hb dX12_canCome_44 (by decide) ?_
          exact tw_zret hx hb hr hlocks (by decide) TH hS hex ⟨⟨_, rfl, (show 0 ≤ Int32.toInt 0 from by have : ((0 : Int32).toInt) = 0 := (by decide); omega), (show Int32.toInt 0 ≤ 1 from by have : ((0 : Int32).toInt) = 0 := (by decide); omega), (by have : ((0 : Int32).toInt) = 0 := (by decide); omega), (by have : ((0 : Int32).toInt) = 0 := (by decide); intro q; exfalso; exact q (by decide)), hgpxc7_0, hg1, hg2, hg3, hg4, hg5, hg6, hgpxc7_1⟩, rfl, rfl, hF⟩ (Nat.le_of_ble_eq_true rfl) (Nat.le_of_ble_eq_true rfl) dX12_canCome_45
        · have hf21 : xc15.toInt = (-1) := by have z := (fa_eq _ _).mp hc19; have : (((-1) : Int32).toInt) = (-1) := (by decide); omega
          refine lv_iconst (v := 1) hx hb dX12_canCome_40 (by decide) ?_
          refine lv_goto (tgt := 45) hx hb dX12_canCome_41 (by decide) ?_
          exact tw_zret hx hb hr hlocks (by decide) TH hS hex ⟨⟨_, rfl, (show 0 ≤ Int32.toInt 1 from by have : ((1 : Int32).toInt) = 1 := (by decide); omega), (show Int32.toInt 1 ≤ 1 from by have : ((1 : Int32).toInt) = 1 := (by decide); omega), (by have : ((1 : Int32).toInt) = 1 := (by decide); omega), (by have : ((1 : Int32).toInt) = 1 := (by decide); intro _; exact htt), hgpxc7_0, hg1, hg2, hg3, hg4, hg5, hg6, hgpxc7_1⟩, rfl, rfl, hF⟩ (Nat.le_of_ble_eq_true rfl) (Nat.le_of_ble_eq_true rfl) dX12_canCome_45
    · have hf22 : fv0_27.toInt = 12 := by have z := (fa_eq _ _).mp hc4; have : ((12 : Int32).toInt) = 12 := (by decide); omega
      refine lv_iconst (v := 0) hx hb dX12_canCome_16 (by decide) ?_
      exact tw_zret hx hb hr hlocks (by decide) TH hS hex ⟨⟨_, rfl, (show 0 ≤ Int32.toInt 0 from by have : ((0 : Int32).toInt) = 0 := (by decide); omega), (show Int32.toInt 0 ≤ 1 from by have : ((0 : Int32).toInt) = 0 := (by decide); omega), (by have : ((0 : Int32).toInt) = 0 := (by decide); omega), (by have : ((0 : Int32).toInt) = 0 := (by decide); intro q; exfalso; exact q (by decide)), hg0, hg1, hg2, hg3, hg4, hg5, hg6, hg7⟩, rfl, rfl, hF⟩ (Nat.le_of_ble_eq_true rfl) (Nat.le_of_ble_eq_true rfl) dX12_canCome_17
set_option maxHeartbeats 4000000 in
set_option maxRecDepth 100000 in
theorem tX12_match (l : Launch) (D : va_G) (cs : Nat → ClassId) {kp : Nat → Nat} {L : List Nat} {E : Nat → va_E} (a0 : Nat) (x1 : Int32) (x2 : Int32) (hm0 : a0 ∈ L) (hk0 : kp a0 = 12) (hg0 : rd_ok E a0) (hg1 : eo_ok E a0) (hg2 : ht_ok E a0) (hg3 : dr_ok E a0) (hg4 : ln_ok E a0) (hg5 : dl_ok E a0) (hg6 : fw_ok E a0) (hg7 : kg_ok E a0) (sz : Nat) : Met l yX12_match (.code yX12_match cX12_match 4 (some .int) :: cx_big) { frames := 46, cells := 0, slots := 0, locals := 1164 } (tw_P D cs kp L E [.ref a0, .int x1, .int x2] sz) (tw_Q D cs kp L (fun v kq Lq Eq => (∃ x : Int32, v = some (.int x) ∧ rd_ok Eq a0 ∧ eo_ok Eq a0 ∧ ht_ok Eq a0 ∧ dr_ok Eq a0 ∧ ln_ok Eq a0 ∧ dl_ok Eq a0 ∧ fw_ok Eq a0 ∧ kg_ok Eq a0) ∧ kp = kq ∧ L = Lq ∧ tw_fr kp L [(12, 2), (12, 3), (12, 4), (12, 28), (12, 50), (12, 51)] [326, 327, 328, 329, 332, 343, 344, 345, 346, 347, 354, 355, 356, 357, 358] E Eq) (va_A (va_pl L E) sz)) 0 0 (va_A (va_pl L E) sz) := by
  refine tw_ofW (by decide) (Nat.le_of_ble_eq_true rfl) ?_
  intro p e s m below meth c A ls hx hb hr hml hB hown hlocks hK hN hA TH hS hl
  have hown : s.vm.findClass "TreeMergeModel" = some m.cls := hown
  have hl : lv_has ls 4 [(0, .ref a0), (1, .int x1), (2, .int x2)] := hl
  obtain ⟨kp0, ekp⟩ : ∃ z, z = kp := ⟨_, rfl⟩
  obtain ⟨L0, eL⟩ : ∃ z, z = L := ⟨_, rfl⟩
  rw [show tw_Q D cs kp L = tw_Q D cs kp0 L0 by rw [ekp, eL]]
  have hex : ∀ a : Nat, a ∈ L0 → a ∈ L ∧ kp a = kp0 a := fun a h => ⟨by rw [← eL]; exact h, by rw [ekp]⟩
  have hF : tw_fr kp L [(12, 2), (12, 3), (12, 4), (12, 28), (12, 50), (12, 51)] [326, 327, 328, 329, 332, 343, 344, 345, 346, 347, 354, 355, 356, 357, 358] E E := tw_fr.rf
  refine lv_aload_n hx hb dX12_match_0 rfl (lv_at hl 0 rfl) ?_
  refine lv_iload_n hx hb dX12_match_1 rfl (lv_at hl 1 rfl) ?_
  obtain ⟨xi1, hxi1, hxi1a, hxi1b⟩ := tw_rd TH hm0 hk0 (by decide) (by decide) (k := 27) rfl
  refine tw_Vc (o := a0) (ci := 12) (n := 1) (post := (fun v kq Lq Eq => (∃ x : Int32, v = some (.int x) ∧ 0 ≤ x.toInt ∧ x.toInt ≤ 1 ∧ (x.toInt ≠ 0 → 0 ≤ x1.toInt ∧ x1.toInt < xi1.toInt)) ∧ kp = kq ∧ L = Lq ∧ E = Eq)) (As := [.int x1]) (rest := []) ⟨hx, hb, hml, hown, hB⟩ (fun sz => tX12_isEdition l D cs a0 x1 xi1 hm0 hk0 hxi1 sz) cg_12_396_X12_isEdition rfl rfl (by decide +kernel) ⟨Nat.le_of_ble_eq_true rfl, Nat.le_of_ble_eq_true rfl⟩ hK hN TH hS hA rfl hm0 hk0 (by decide) rfl hl.1 rfl (Nat.le_of_ble_eq_true rfl) dX12_match_2 ⟨Nat.le_of_ble_eq_true rfl, Nat.le_of_ble_eq_true rfl⟩ (fun v2 kp2 L2 E2 H locs hq2 hx2 TH hS => ?_)
  obtain ⟨⟨xc3, rfl, hxc3a, hxc3b, hpoxc3_0⟩, rfl, rfl, rfl⟩ := hq2
  refine W.eq (g2 := F0 m 5 ls [.int xc3]) rfl ?_
  refine lv_if_ne (tgt := 10) hx hb dX12_match_5 (by decide) (fun hc4 => ?_) (fun hc4 => ?_)
  · have hf5 : ¬ (xc3.toInt = 0) := fun q => hc4 ((fa_eq _ _).mpr (by have : ((0 : Int32).toInt) = 0 := (by decide); omega))
    refine lv_aload_n hx hb dX12_match_10 rfl (lv_at hl 0 rfl) ?_
    have hk27 := trivial
    refine tw_Vc (o := a0) (ci := 12) (n := 0) (post := (fun v kq Lq Eq => v = none ∧ kp = kq ∧ L = Lq ∧ tw_fr kp L [(12, 2), (12, 3), (12, 4), (12, 28)] [326, 327, 328, 329, 332, 343, 344, 345, 346, 347] E Eq ∧ (ot_ok Eq a0 15 E) ∧ (tw_fi Eq a0 4 = -1 → tt_ok Eq a0) ∧ (ht_ok Eq a0) ∧ rd_ok Eq a0 ∧ kg_ok Eq a0)) (As := []) (rest := []) ⟨hx, hb, hml, hown, hB⟩ (fun sz => tX12_readsTree l D cs a0 hm0 hk0 hg0 hg7 sz) cg_12_282_X12_readsTree rfl rfl (by decide +kernel) ⟨Nat.le_of_ble_eq_true rfl, Nat.le_of_ble_eq_true rfl⟩ hK hN TH hS hA rfl hm0 hk0 (by decide) rfl hl.1 rfl (Nat.le_of_ble_eq_true rfl) dX12_match_11 ⟨Nat.le_of_ble_eq_true rfl, Nat.le_of_ble_eq_true rfl⟩ (fun v6 kp6 L6 E6 H locs hq6 hx6 TH hS => ?_)
    obtain ⟨rfl, rfl, rfl, hst6, hpoxc7_0, hpoxc7_1, hpoxc7_2, hgpxc7_0, hgpxc7_1⟩ := hq6
    have hF := hF.tr hst6 (fun _ h => ⟨h, rfl⟩) (by decide) (by decide)
    have hmf8 : tw_fv E6 a0 27 = .int xi1 := (hst6.1 a0 27 hm0 (by rw [hk0]; decide)).trans hxi1
    have hg1_o := hg1
    have hg2_o := hg2
    have hg3_o := hg3
    have hg4_o := hg4
    have hg5_o := hg5
    have hg6_o := hg6
    have hg1 : eo_ok E6 a0 := eo_ok_ot (r := 15) TH hst6 hm0 hk0 (by decide) (by have e14 : ((14 : Int32).toInt) = 14 := (by decide); have q := hpoxc7_0; (try rw [e14] at q); exact q) (by rw [tw_fi_of hxi1]; omega) hg1_o
    have hg2 : ht_ok E6 a0 := hpoxc7_2
    have hg3 : dr_ok E6 a0 := dr_ok_ot (r := 15) hst6 hm0 hk0 (by decide) (by have e14 : ((14 : Int32).toInt) = 14 := (by decide); have q := hpoxc7_0; (try rw [e14] at q); exact q) (by decide) hg3_o
    have hg4 : ln_ok E6 a0 := ln_ok_ot (r := 15) TH hst6 hm0 hk0 (by decide) (by decide) (by have e14 : ((14 : Int32).toInt) = 14 := (by decide); have q := hpoxc7_0; (try rw [e14] at q); exact q) (by rw [tw_fi_of hxi1]; omega) hg4_o
    have hg5 : dl_ok E6 a0 := dl_ok_ot (r := 15) TH hst6 hm0 hk0 (by decide) (by have e14 : ((14 : Int32).toInt) = 14 := (by decide); have q := hpoxc7_0; (try rw [e14] at q); exact q) (by decide) (by rw [tw_fi_of hxi1]; omega) hg5_o
    have hg6 : fw_ok E6 a0 := fw_ok_ot (r := 15) TH hst6 hm0 hk0 (by decide) (by have e14 : ((14 : Int32).toInt) = 14 := (by decide); have q := hpoxc7_0; (try rw [e14] at q); exact q) (by decide) hg6_o
    refine W.eq (g2 := F0 m 14 ls []) rfl ?_
    refine lv_aload_n hx hb dX12_match_14 rfl (lv_at hl 0 rfl) ?_
    refine tw_get (ci := 12) (C := RX12) (T := TX12) (N := 64) hx hb hB cx_inX12 hown hK TH hm0 hk0 rfl ⟨by decide, rfl⟩ 4 (by decide) cw_1197 (fun _ h9 => h9) dX12_match_15 (fun hv => ?_)
    obtain ⟨xi9, hxi9, hxi9a, hxi9b⟩ : ∃ x : Int32, tw_fv E6 a0 4 = .int x ∧ (-1) ≤ x.toInt ∧ x.toInt ≤ 500 := hv
    rw [hxi9]
    refine lv_iconst (v := (-1)) hx hb dX12_match_18 (by decide) ?_
    refine lv_icmp_ne (tgt := 31) hx hb dX12_match_19 (by decide) (fun hc10 => ?_) (fun hc10 => ?_)
    · have hf11 : ¬ (xi9.toInt = (-1)) := fun q => hc10 ((fa_eq _ _).mpr (by have : (((-1) : Int32).toInt) = (-1) := (by decide); omega))
      refine lv_iconst (v := (-1)) hx hb dX12_match_31 (by decide) ?_
      exact tw_iret hx hb hr hlocks TH hS hex ⟨⟨_, rfl, hgpxc7_0, hg1, hg2, hg3, hg4, hg5, hg6, hgpxc7_1⟩, rfl, rfl, hF⟩ (Nat.le_of_ble_eq_true rfl) (Nat.le_of_ble_eq_true rfl) dX12_match_32
    · have hf12 : xi9.toInt = (-1) := by have z := (fa_eq _ _).mp hc10; have : (((-1) : Int32).toInt) = (-1) := (by decide); omega
      refine lv_aload_n hx hb dX12_match_22 rfl (lv_at hl 0 rfl) ?_
      refine tw_get (ci := 12) (C := RX12) (T := TX12) (N := 64) hx hb hB cx_inX12 hown hK TH hm0 hk0 rfl ⟨by decide, rfl⟩ 22 (by decide) cw_1215 (fun _ h9 => h9) dX12_match_23 (fun hv => ?_)
      obtain ⟨xr13, hxr13, hmxr13, hkxr13⟩ : ∃ a : Nat, tw_fv E6 a0 22 = .ref a ∧ a ∈ L ∧ kp a = 332 := hv
      rw [hxr13]
      refine lv_iconst (v := 0) hx hb dX12_match_26 (by decide) ?_
      refine tw_iald (k := 332) (t0 := 0) (n := 24) (lo := 0) (hi := 9) hx hb hK TH hmxr13 hkxr13 (by decide) rfl rfl (i := 0) (vp_in_iff.mpr ⟨by have : ((0 : Int32).toInt) = 0 := (by decide); omega, by have : ((0 : Int32).toInt) = 0 := (by decide); omega⟩) dX12_match_27 (fun hxe14a hxe14b => ?_)
      obtain ⟨xe14, exe14⟩ : ∃ z : Int32, tw_iv E6 xr13 (Int32.toNatClampNeg 0) = z := ⟨_, rfl⟩
      rw [exe14] at hxe14a hxe14b ⊢
      refine lv_if_eq (tgt := 33) hx hb dX12_match_28 (by decide) (fun hc15 => ?_) (fun hc15 => ?_)
      · have hf16 : xe14.toInt = 0 := by have z := (fa_eq _ _).mp hc15; have : ((0 : Int32).toInt) = 0 := (by decide); omega
        have htt : tt_ok E6 a0 := hpoxc7_1 (by rw [tw_fi_of hxi9]; omega)
        have hrow33 : row_ok E6 a0 (x1.toInt) := hg1 (x1.toInt) (by omega) (by rw [tw_fi_of hmf8]; omega)
        refine lv_aload_n hx hb dX12_match_33 rfl (lv_at hl 0 rfl) ?_
        refine lv_iload_n hx hb dX12_match_34 rfl (lv_at hl 1 rfl) ?_
        refine tw_Vc (o := a0) (ci := 12) (n := 1) (post := (fun v kq Lq Eq => v = none ∧ kp = kq ∧ L = Lq ∧ tw_fr kp L [(12, 50), (12, 51)] [354, 355, 356, 357, 358] E6 Eq ∧ (∃ z0 : Int32, tw_fv Eq a0 50 = .int z0 ∧ (z0.toInt ≤ 40)) ∧ ls_ok Eq a0 (x1.toInt) ∧ pi_ok Eq a0)) (As := [.int x1]) (rest := []) ⟨hx, hb, hml, hown, hB⟩ (fun sz => tX12_matches l D cs a0 x1 hm0 hk0 (by omega) (by omega) hrow33 htt sz) cg_12_399_X12_matches rfl rfl (by decide +kernel) ⟨Nat.le_of_ble_eq_true rfl, Nat.le_of_ble_eq_true rfl⟩ hK hN TH hS hA rfl hm0 hk0 (by decide) rfl hl.1 rfl (Nat.le_of_ble_eq_true rfl) dX12_match_35 ⟨Nat.le_of_ble_eq_true rfl, Nat.le_of_ble_eq_true rfl⟩ (fun v17 kp17 L17 E17 H locs hq17 hx17 TH hS => ?_)
        obtain ⟨rfl, rfl, rfl, hst17, ⟨zfxc18_0_0, hzfxc18_0_0, hzpxc18_0⟩, hgpxc18_0, hgpxc18_1⟩ := hq17
        have hF := hF.tr hst17 (fun _ h => ⟨h, rfl⟩) (by decide) (by decide)
        have hmf19 : tw_fv E17 a0 27 = .int xi1 := (hst17.1 a0 27 hm0 (by rw [hk0]; decide)).trans hmf8
        have hmf20 : tw_fv E17 a0 4 = .int xi9 := (hst17.1 a0 4 hm0 (by rw [hk0]; decide)).trans hxi9
        have hmf21 : tw_fv E17 a0 22 = .ref xr13 := (hst17.1 a0 22 hm0 (by rw [hk0]; decide)).trans hxr13
        have hg1 : eo_ok E17 a0 := eo_ok_fr TH hst17 hm0 hk0 (by decide) (by decide) hg1
        have hg2 : ht_ok E17 a0 := ht_ok_fr TH hst17 hm0 hk0 (by decide) (by decide) hg2
        have hg3 : dr_ok E17 a0 := dr_ok_fr TH hst17 hm0 hk0 (by decide) (by decide) hg3
        have hg4 : ln_ok E17 a0 := ln_ok_fr TH hst17 hm0 hk0 (by decide) (by decide) hg4
        have hg5 : dl_ok E17 a0 := dl_ok_fr TH hst17 hm0 hk0 (by decide) (by decide) hg5
        have hg6 : fw_ok E17 a0 := fw_ok_fr TH hst17 hm0 hk0 (by decide) (by decide) hg6
        have hgpxc7_0 : rd_ok E17 a0 := rd_ok_fr TH hst17 hm0 hk0 (by decide) (by decide) hgpxc7_0
        have hgpxc7_1 : kg_ok E17 a0 := kg_ok_fr TH hst17 hm0 hk0 (by decide) (by decide) hgpxc7_1
        have htt : tt_ok E17 a0 := tt_ok_fr TH hst17 hm0 hk0 (by decide) (by decide) htt
        have hrow33 : row_ok E17 a0 (x1.toInt) := row_ok_fr TH hst17 hm0 hk0 (by decide) (by decide) (by omega) hrow33
        obtain ⟨qzfxc18_0_0, hqzfxc18_0_0, hqzfxc18_0_0a, hqzfxc18_0_0b⟩ := tw_rd TH hm0 hk0 (by decide) (by decide) (k := 50) rfl
        have eqzfxc18_0_0 : qzfxc18_0_0 = zfxc18_0_0 := by have q := hqzfxc18_0_0.symm.trans hzfxc18_0_0; injection q
        rw [eqzfxc18_0_0] at hqzfxc18_0_0a hqzfxc18_0_0b
        refine W.eq (g2 := F0 m 38 ls []) rfl ?_
        refine lv_iload_n hx hb dX12_match_38 rfl (lv_at hl 2 rfl) ?_
        refine lv_if_ne (tgt := 48) hx hb dX12_match_39 (by decide) (fun hc22 => ?_) (fun hc22 => ?_)
        · have hf23 : ¬ (x2.toInt = 0) := fun q => hc22 ((fa_eq _ _).mpr (by have : ((0 : Int32).toInt) = 0 := (by decide); omega))
          refine lv_iload_n hx hb dX12_match_48 rfl (lv_at hl 2 rfl) ?_
          refine lv_iconst (v := 1) hx hb dX12_match_49 (by decide) ?_
          refine lv_icmp_ne (tgt := 66) hx hb dX12_match_50 (by decide) (fun hc24 => ?_) (fun hc24 => ?_)
          · have hf25 : ¬ (x2.toInt = 1) := fun q => hc24 ((fa_eq _ _).mpr (by have : ((1 : Int32).toInt) = 1 := (by decide); omega))
            refine lv_iload_n hx hb dX12_match_66 rfl (lv_at hl 2 rfl) ?_
            refine lv_iconst (v := 2) hx hb dX12_match_67 (by decide) ?_
            refine lv_icmp_ne (tgt := 76) hx hb dX12_match_68 (by decide) (fun hc26 => ?_) (fun hc26 => ?_)
            · have hf27 : ¬ (x2.toInt = 2) := fun q => hc26 ((fa_eq _ _).mpr (by have : ((2 : Int32).toInt) = 2 := (by decide); omega))
              refine lv_iload_n hx hb dX12_match_76 rfl (lv_at hl 2 rfl) ?_
              refine lv_i2l (v := (x2).toInt64) hx hb dX12_match_77 rfl ?_
              refine tw_topl (fun zl28 ezl28 => ?_)
              have hzl28 : zl28.toInt = x2.toInt := by rw [ezl28];  exact (Int32.toInt_toInt64 _)
              have e100 : ((100 : Int64).toInt) = 100 := (by decide)
              refine lv_ldc2 hx hb hown (hB _ cw_1647) dX12_match_78 ?_
              refine lv_bipush (v := 99) hx hb dX12_match_81 (by decide) ?_
              refine lv_aload_n hx hb dX12_match_83 rfl (lv_at hl 0 rfl) ?_
              refine tw_get (ci := 12) (C := RX12) (T := TX12) (N := 64) hx hb hB cx_inX12 hown hK TH hm0 hk0 rfl ⟨by decide, rfl⟩ 28 (by decide) cw_1221 (fun _ h9 => h9) dX12_match_84 (fun hv => ?_)
              obtain ⟨xi29, hxi29, hxi29a, hxi29b⟩ : ∃ x : Int32, tw_fv E17 a0 28 = .int x ∧ 0 ≤ x.toInt ∧ x.toInt ≤ 24 := hv
              rw [hxi29]
              refine lv_iadd hx hb dX12_match_87 ?_
              refine lv_topi (fun zi30 ezi30 => ?_)
              have hzi30 : zi30.toInt = 99 + xi29.toInt := by rw [ezi30]; have : ((99 : Int32).toInt) = 99 := (by decide); have := ia_lo xi29; have := ia_hi xi29; exact (ia_add (by omega) (by omega)).trans (by omega)
              refine lv_i2l (v := (zi30).toInt64) hx hb dX12_match_88 rfl ?_
              refine tw_topl (fun zl31 ezl31 => ?_)
              have hzl31 : zl31.toInt = zi30.toInt := by rw [ezl31];  exact (Int32.toInt_toInt64 _)
              refine tw_Sc (n := 3) (post := (fun v kq Lq Eq => (∃ x : Int32, v = some (.int x) ∧ 0 ≤ x.toInt ∧ x.toInt ≤ 1 ∧ (x.toInt ≠ 0 → (100 : Int64).toInt ≤ zl28.toInt ∧ zl28.toInt ≤ zl31.toInt)) ∧ kp = kq ∧ L = Lq ∧ E17 = Eq)) (As := [.long zl28, .long (100 : Int64), .long zl31]) (rest := []) ⟨hx, hb, hml, hown, hB⟩ (fun sz => tX12_in l D cs zl28 (100 : Int64) zl31  sz) cg_12_171_X12_in rfl rfl (by decide +kernel) ⟨Nat.le_of_ble_eq_true rfl, Nat.le_of_ble_eq_true rfl⟩ hK hN TH hS hA rfl hl.1 rfl (Nat.le_of_ble_eq_true rfl) dX12_match_89 ⟨Nat.le_of_ble_eq_true rfl, Nat.le_of_ble_eq_true rfl⟩ (fun v32 kp32 L32 E32 H locs hq32 hx32 TH hS => ?_)
              obtain ⟨⟨xc33, rfl, hxc33a, hxc33b, hpoxc33_0⟩, rfl, rfl, rfl⟩ := hq32
              refine W.eq (g2 := F0 m 92 ls [.int xc33]) rfl ?_
              refine lv_if_ne (tgt := 97) hx hb dX12_match_92 (by decide) (fun hc34 => ?_) (fun hc34 => ?_)
              · have hf35 : ¬ (xc33.toInt = 0) := fun q => hc34 ((fa_eq _ _).mpr (by have : ((0 : Int32).toInt) = 0 := (by decide); omega))
                refine lv_aload_n hx hb dX12_match_97 rfl (lv_at hl 0 rfl) ?_
                refine tw_get (ci := 12) (C := RX12) (T := TX12) (N := 64) hx hb hB cx_inX12 hown hK TH hm0 hk0 rfl ⟨by decide, rfl⟩ 47 (by decide) cw_1240 (fun _ h9 => h9) dX12_match_98 (fun hv => ?_)
                obtain ⟨xr36, hxr36, hmxr36, hkxr36⟩ : ∃ a : Nat, tw_fv E17 a0 47 = .ref a ∧ a ∈ L ∧ kp a = 356 := hv
                rw [hxr36]
                refine lv_iload_n hx hb dX12_match_101 rfl (lv_at hl 2 rfl) ?_
                refine lv_bipush (v := 100) hx hb dX12_match_102 (by decide) ?_
                refine lv_isub hx hb dX12_match_104 ?_
                refine lv_topi (fun zi37 ezi37 => ?_)
                have hzi37 : zi37.toInt = x2.toInt - 100 := by rw [ezi37]; have : ((100 : Int32).toInt) = 100 := (by decide); have := ia_lo x2; have := ia_hi x2; exact (ia_sub (by omega) (by omega)).trans (by omega)
                refine tw_iald (k := 356) (t0 := 0) (n := 24) (lo := (-1)) (hi := 39) hx hb hK TH hmxr36 hkxr36 (by decide) rfl rfl (i := zi37) (vp_in_iff.mpr ⟨by  omega, by  omega⟩) dX12_match_105 (fun hxe38a hxe38b => ?_)
                obtain ⟨xe38, exe38⟩ : ∃ z : Int32, tw_iv E17 xr36 (Int32.toNatClampNeg zi37) = z := ⟨_, rfl⟩
                rw [exe38] at hxe38a hxe38b ⊢
                refine lv_istore_n (lv' := [(3, .int xe38), (0, .ref a0), (1, .int x1), (2, .int x2)]) hx hb dX12_match_106 rfl hl (by decide) rfl (fun ls hl => ?_)
                refine lv_iload_n hx hb dX12_match_107 rfl (lv_at hl 0 rfl) ?_
                refine lv_iconst (v := (-1)) hx hb dX12_match_108 (by decide) ?_
                refine lv_icmp_ne (tgt := 116) hx hb dX12_match_109 (by decide) (fun hc39 => ?_) (fun hc39 => ?_)
                · have hf40 : ¬ (xe38.toInt = (-1)) := fun q => hc39 ((fa_eq _ _).mpr (by have : (((-1) : Int32).toInt) = (-1) := (by decide); omega))
                  refine lv_aload_n hx hb dX12_match_116 rfl (lv_at hl 1 rfl) ?_
                  refine tw_get (ci := 12) (C := RX12) (T := TX12) (N := 64) hx hb hB cx_inX12 hown hK TH hm0 hk0 rfl ⟨by decide, rfl⟩ 45 (by decide) cw_1238 (fun _ h9 => h9) dX12_match_117 (fun hv => ?_)
                  obtain ⟨xr41, hxr41, hmxr41, hkxr41⟩ : ∃ a : Nat, tw_fv E17 a0 45 = .ref a ∧ a ∈ L ∧ kp a = 354 := hv
                  rw [hxr41]
                  refine lv_iload_n hx hb dX12_match_120 rfl (lv_at hl 0 rfl) ?_
                  refine tw_iald (k := 354) (t0 := 0) (n := 40) (lo := 0) (hi := 149) hx hb hK TH hmxr41 hkxr41 (by decide) rfl rfl (i := xe38) (vp_in_iff.mpr ⟨by  omega, by  omega⟩) dX12_match_121 (fun hxe42a hxe42b => ?_)
                  obtain ⟨xe42, exe42⟩ : ∃ z : Int32, tw_iv E17 xr41 (Int32.toNatClampNeg xe38) = z := ⟨_, rfl⟩
                  rw [exe42] at hxe42a hxe42b ⊢
                  exact tw_iret hx hb hr hlocks TH hS hex ⟨⟨_, rfl, hgpxc7_0, hg1, hg2, hg3, hg4, hg5, hg6, hgpxc7_1⟩, rfl, rfl, hF⟩ (Nat.le_of_ble_eq_true rfl) (Nat.le_of_ble_eq_true rfl) dX12_match_122
                · have hf43 : xe38.toInt = (-1) := by have z := (fa_eq _ _).mp hc39; have : (((-1) : Int32).toInt) = (-1) := (by decide); omega
                  refine lv_iconst (v := (-1)) hx hb dX12_match_112 (by decide) ?_
                  refine lv_goto (tgt := 122) hx hb dX12_match_113 (by decide) ?_
                  exact tw_iret hx hb hr hlocks TH hS hex ⟨⟨_, rfl, hgpxc7_0, hg1, hg2, hg3, hg4, hg5, hg6, hgpxc7_1⟩, rfl, rfl, hF⟩ (Nat.le_of_ble_eq_true rfl) (Nat.le_of_ble_eq_true rfl) dX12_match_122
              · have hf44 : xc33.toInt = 0 := by have z := (fa_eq _ _).mp hc34; have : ((0 : Int32).toInt) = 0 := (by decide); omega
                refine lv_iconst (v := (-1)) hx hb dX12_match_95 (by decide) ?_
                exact tw_iret hx hb hr hlocks TH hS hex ⟨⟨_, rfl, hgpxc7_0, hg1, hg2, hg3, hg4, hg5, hg6, hgpxc7_1⟩, rfl, rfl, hF⟩ (Nat.le_of_ble_eq_true rfl) (Nat.le_of_ble_eq_true rfl) dX12_match_96
            · have hf45 : x2.toInt = 2 := by have z := (fa_eq _ _).mp hc26; have : ((2 : Int32).toInt) = 2 := (by decide); omega
              refine lv_aload_n hx hb dX12_match_71 rfl (lv_at hl 0 rfl) ?_
              refine tw_Vc (o := a0) (ci := 12) (n := 0) (post := (fun v kq Lq Eq => (∃ x : Int32, v = some (.int x)) ∧ kp = kq ∧ L = Lq ∧ E17 = Eq)) (As := []) (rest := []) ⟨hx, hb, hml, hown, hB⟩ (fun sz => tX12_bound l D cs a0 hm0 hk0 sz) cg_12_402_X12_bound rfl rfl (by decide +kernel) ⟨Nat.le_of_ble_eq_true rfl, Nat.le_of_ble_eq_true rfl⟩ hK hN TH hS hA rfl hm0 hk0 (by decide) rfl hl.1 rfl (Nat.le_of_ble_eq_true rfl) dX12_match_72 ⟨Nat.le_of_ble_eq_true rfl, Nat.le_of_ble_eq_true rfl⟩ (fun v46 kp46 L46 E46 H locs hq46 hx46 TH hS => ?_)
              obtain ⟨⟨xc47, rfl⟩, rfl, rfl, rfl⟩ := hq46
              refine W.eq (g2 := F0 m 75 ls [.int xc47]) rfl ?_
              exact tw_iret hx hb hr hlocks TH hS hex ⟨⟨_, rfl, hgpxc7_0, hg1, hg2, hg3, hg4, hg5, hg6, hgpxc7_1⟩, rfl, rfl, hF⟩ (Nat.le_of_ble_eq_true rfl) (Nat.le_of_ble_eq_true rfl) dX12_match_75
          · have hf48 : x2.toInt = 1 := by have z := (fa_eq _ _).mp hc24; have : ((1 : Int32).toInt) = 1 := (by decide); omega
            refine lv_aload_n hx hb dX12_match_53 rfl (lv_at hl 0 rfl) ?_
            refine tw_Vc (o := a0) (ci := 12) (n := 0) (post := (fun v kq Lq Eq => (∃ x : Int32, v = some (.int x) ∧ 0 ≤ x.toInt ∧ x.toInt ≤ 1) ∧ kp = kq ∧ L = Lq ∧ E17 = Eq)) (As := []) (rest := []) ⟨hx, hb, hml, hown, hB⟩ (fun sz => tX12_isExact l D cs a0 hm0 hk0 sz) cg_12_390_X12_isExact rfl rfl (by decide +kernel) ⟨Nat.le_of_ble_eq_true rfl, Nat.le_of_ble_eq_true rfl⟩ hK hN TH hS hA rfl hm0 hk0 (by decide) rfl hl.1 rfl (Nat.le_of_ble_eq_true rfl) dX12_match_54 ⟨Nat.le_of_ble_eq_true rfl, Nat.le_of_ble_eq_true rfl⟩ (fun v49 kp49 L49 E49 H locs hq49 hx49 TH hS => ?_)
            obtain ⟨⟨xc50, rfl, hxc50a, hxc50b⟩, rfl, rfl, rfl⟩ := hq49
            refine W.eq (g2 := F0 m 57 ls [.int xc50]) rfl ?_
            refine lv_if_eq (tgt := 64) hx hb dX12_match_57 (by decide) (fun hc51 => ?_) (fun hc51 => ?_)
            · have hf52 : xc50.toInt = 0 := by have z := (fa_eq _ _).mp hc51; have : ((0 : Int32).toInt) = 0 := (by decide); omega
              refine lv_iconst (v := 0) hx hb dX12_match_64 (by decide) ?_
              exact tw_iret hx hb hr hlocks TH hS hex ⟨⟨_, rfl, hgpxc7_0, hg1, hg2, hg3, hg4, hg5, hg6, hgpxc7_1⟩, rfl, rfl, hF⟩ (Nat.le_of_ble_eq_true rfl) (Nat.le_of_ble_eq_true rfl) dX12_match_65
            · have hf53 : ¬ (xc50.toInt = 0) := fun q => hc51 ((fa_eq _ _).mpr (by have : ((0 : Int32).toInt) = 0 := (by decide); omega))
              refine lv_iconst (v := 1) hx hb dX12_match_60 (by decide) ?_
              refine lv_goto (tgt := 65) hx hb dX12_match_61 (by decide) ?_
              exact tw_iret hx hb hr hlocks TH hS hex ⟨⟨_, rfl, hgpxc7_0, hg1, hg2, hg3, hg4, hg5, hg6, hgpxc7_1⟩, rfl, rfl, hF⟩ (Nat.le_of_ble_eq_true rfl) (Nat.le_of_ble_eq_true rfl) dX12_match_65
        · have hf54 : x2.toInt = 0 := by have z := (fa_eq _ _).mp hc22; have : ((0 : Int32).toInt) = 0 := (by decide); omega
          refine lv_aload_n hx hb dX12_match_42 rfl (lv_at hl 0 rfl) ?_
          refine lv_iload_n hx hb dX12_match_43 rfl (lv_at hl 1 rfl) ?_
          refine tw_Vc (o := a0) (ci := 12) (n := 1) (post := (fun v kq Lq Eq => (∃ x : Int32, v = some (.int x)) ∧ kp = kq ∧ L = Lq ∧ E17 = Eq)) (As := [.int x1]) (rest := []) ⟨hx, hb, hml, hown, hB⟩ (fun sz => tX12_costNow l D cs a0 x1 hm0 hk0 (by omega) (by omega) sz) cg_12_363_X12_costNow rfl rfl (by decide +kernel) ⟨Nat.le_of_ble_eq_true rfl, Nat.le_of_ble_eq_true rfl⟩ hK hN TH hS hA rfl hm0 hk0 (by decide) rfl hl.1 rfl (Nat.le_of_ble_eq_true rfl) dX12_match_44 ⟨Nat.le_of_ble_eq_true rfl, Nat.le_of_ble_eq_true rfl⟩ (fun v55 kp55 L55 E55 H locs hq55 hx55 TH hS => ?_)
          obtain ⟨⟨xc56, rfl⟩, rfl, rfl, rfl⟩ := hq55
          refine W.eq (g2 := F0 m 47 ls [.int xc56]) rfl ?_
          exact tw_iret hx hb hr hlocks TH hS hex ⟨⟨_, rfl, hgpxc7_0, hg1, hg2, hg3, hg4, hg5, hg6, hgpxc7_1⟩, rfl, rfl, hF⟩ (Nat.le_of_ble_eq_true rfl) (Nat.le_of_ble_eq_true rfl) dX12_match_47
      · have hf57 : ¬ (xe14.toInt = 0) := fun q => hc15 ((fa_eq _ _).mpr (by have : ((0 : Int32).toInt) = 0 := (by decide); omega))
        refine lv_iconst (v := (-1)) hx hb dX12_match_31 (by decide) ?_
        exact tw_iret hx hb hr hlocks TH hS hex ⟨⟨_, rfl, hgpxc7_0, hg1, hg2, hg3, hg4, hg5, hg6, hgpxc7_1⟩, rfl, rfl, hF⟩ (Nat.le_of_ble_eq_true rfl) (Nat.le_of_ble_eq_true rfl) dX12_match_32
  · have hf58 : xc3.toInt = 0 := by have z := (fa_eq _ _).mp hc4; have : ((0 : Int32).toInt) = 0 := (by decide); omega
    refine lv_iconst (v := (-1)) hx hb dX12_match_8 (by decide) ?_
    exact tw_iret hx hb hr hlocks TH hS hex ⟨⟨_, rfl, hg0, hg1, hg2, hg3, hg4, hg5, hg6, hg7⟩, rfl, rfl, hF⟩ (Nat.le_of_ble_eq_true rfl) (Nat.le_of_ble_eq_true rfl) dX12_match_9
