theorem cg_12_248_X12_ruleRead : GoodIn cx_big (wsV "TreeMergeModel" 248 "TreeMergeModel" yX12_ruleRead (.code yX12_ruleRead cX12_ruleRead 2 (some .boolean) :: cx_big)) := cx_gV cw_1499 cw_1501 cp_80 cw_13 cw_1502
theorem cg_12_285_X12_readsGrammar : GoodIn cx_big (wsV "TreeMergeModel" 285 "TreeMergeModel" yX12_readsGrammar (.code yX12_readsGrammar cX12_readsGrammar 5 none :: cx_big)) := cx_gV cw_1495 cw_1497 cp_79 cw_13 cw_1498
set_option maxHeartbeats 4000000 in
set_option maxRecDepth 100000 in
theorem tX12_readsGrammar (l : Launch) (D : va_G) (cs : Nat → ClassId) {kp : Nat → Nat} {L : List Nat} {E : Nat → va_E} (a0 : Nat) (fv0_1 : Int32) (hm0 : a0 ∈ L) (hk0 : kp a0 = 12) (hfv0_1 : tw_fv E a0 1 = .int fv0_1) (hg0 : rg_ok E a0) (sz : Nat) : Met l yX12_readsGrammar (.code yX12_readsGrammar cX12_readsGrammar 5 none :: cx_big) { frames := 8, cells := 0, slots := 0, locals := 173 } (tw_P D cs kp L E [.ref a0] sz) (tw_Q D cs kp L (fun v kq Lq Eq => v = none ∧ kp = kq ∧ L = Lq ∧ tw_fr kp L [(12, 2), (12, 3), (12, 4), (12, 15)] [301, 302, 303, 304, 305, 320, 321, 322, 323] E Eq ∧ (tw_fi Eq a0 4 = -1 → gy_all (tw_el E a0 0) fv0_1.toInt = tw_fi Eq a0 15 ∧ 1 ≤ tw_fi Eq a0 15) ∧ (tw_fi Eq a0 4 ≠ -1 → gy_all (tw_el E a0 0) fv0_1.toInt = -1) ∧ (tw_fi Eq a0 4 = -1 → gk_ok Eq a0) ∧ rg_ok Eq a0) (va_A (va_pl L E) sz)) 0 0 (va_A (va_pl L E) sz) := by
  refine tw_ofW (by decide) (Nat.le_of_ble_eq_true rfl) ?_
  intro p e s m below meth c A ls hx hb hr hml hB hown hlocks hK hN hA TH hS hl
  have hown : s.vm.findClass "TreeMergeModel" = some m.cls := hown
  have hl : lv_has ls 5 [(0, .ref a0)] := hl
  obtain ⟨kp0, ekp⟩ : ∃ z, z = kp := ⟨_, rfl⟩
  obtain ⟨L0, eL⟩ : ∃ z, z = L := ⟨_, rfl⟩
  rw [show tw_Q D cs kp L = tw_Q D cs kp0 L0 by rw [ekp, eL]]
  have hex : ∀ a : Nat, a ∈ L0 → a ∈ L ∧ kp a = kp0 a := fun a h => ⟨by rw [← eL]; exact h, by rw [ekp]⟩
  have hF : tw_fr kp L [(12, 2), (12, 3), (12, 4), (12, 15)] [301, 302, 303, 304, 305, 320, 321, 322, 323] E E := tw_fr.rf
  obtain ⟨qfv0_1, hqfv0_1, hqfv0_1a, hqfv0_1b⟩ := tw_rd TH hm0 hk0 (by decide) (by decide) (k := 1) rfl
  have eqfv0_1 : qfv0_1 = fv0_1 := by have q := hqfv0_1.symm.trans hfv0_1; injection q
  rw [eqfv0_1] at hqfv0_1a hqfv0_1b
  refine lv_aload_n hx hb dX12_readsGrammar_0 rfl (lv_at hl 0 rfl) ?_
  refine lv_iconst (v := (-1)) hx hb dX12_readsGrammar_1 (by decide) ?_
  refine tw_put (ci := 12) (v := .int (-1)) (ty := .int) (C := RX12) (T := TX12) (N := 64) hx hb hB cx_inX12 tyX12 tyX12_ok nmX12 hown hK TH hS hm0 hk0 rfl ⟨by decide, rfl⟩ 4 (by decide) cw_1197 (fun _ h9 => h9) rfl (by decide +kernel) rfl rfl ⟨_, rfl, (show (-1) ≤ Int32.toInt (-1) from by have : (((-1) : Int32).toInt) = (-1) := (by decide); omega), (show Int32.toInt (-1) ≤ 500 from by have : (((-1) : Int32).toInt) = (-1) := (by decide); omega)⟩ dX12_readsGrammar_2 (fun H locs E1 TH hS hmf5 hp2 hp3 => ?_)
  have hst4 : tw_fr kp L [(12, 4)] [] E E1 := tw_fr.put tw_fr.rf (fun _ => hk0) (by decide) hp2 hp3 (by decide)
  have hF := hF.tr hst4 (fun _ h => ⟨h, rfl⟩) (by decide) (by decide)
  have hmf6 : tw_fv E1 a0 1 = .int fv0_1 := (hst4.1 a0 1 hm0 (by rw [hk0]; decide)).trans hfv0_1
  have hg0 : rg_ok E1 a0 := rg_ok_fr TH hst4 hm0 hk0 (by decide) (by decide) hg0
  refine lv_aload_n hx hb dX12_readsGrammar_5 rfl (lv_at hl 0 rfl) ?_
  refine lv_iconst (v := 0) hx hb dX12_readsGrammar_6 (by decide) ?_
  refine tw_put (ci := 12) (v := .int 0) (ty := .int) (C := RX12) (T := TX12) (N := 64) hx hb hB cx_inX12 tyX12 tyX12_ok nmX12 hown hK TH hS hm0 hk0 rfl ⟨by decide, rfl⟩ 15 (by decide) cw_1208 (fun _ h9 => h9) rfl (by decide +kernel) rfl rfl ⟨_, rfl, (show 0 ≤ Int32.toInt 0 from by have : ((0 : Int32).toInt) = 0 := (by decide); omega), (show Int32.toInt 0 ≤ 10 from by have : ((0 : Int32).toInt) = 0 := (by decide); omega)⟩ dX12_readsGrammar_7 (fun H locs E7 TH hS hmf11 hp8 hp9 => ?_)
  have hst10 : tw_fr kp L [(12, 15)] [] E1 E7 := tw_fr.put tw_fr.rf (fun _ => hk0) (by decide) hp8 hp9 (by decide)
  have hF := hF.tr hst10 (fun _ h => ⟨h, rfl⟩) (by decide) (by decide)
  have hmf12 : tw_fv E7 a0 1 = .int fv0_1 := (hst10.1 a0 1 hm0 (by rw [hk0]; decide)).trans hmf6
  have hmf13 : tw_fv E7 a0 4 = .int (-1) := (hst10.1 a0 4 hm0 (by rw [hk0]; decide)).trans hmf5
  have hg0 : rg_ok E7 a0 := rg_ok_fr TH hst10 hm0 hk0 (by decide) (by decide) hg0
  have hgn14 : gk_ok E7 a0 := gk_none (by rw [tw_fi_of hmf11]; decide)
  have hgtk0 : gtk_ok E7 a0 (0) := fun j hj => absurd hj (by omega)
  refine lv_iconst (v := 0) hx hb dX12_readsGrammar_10 (by decide) ?_
  refine lv_istore_n (lv' := [(1, .int 0), (0, .ref a0)]) hx hb dX12_readsGrammar_11 rfl hl (by decide) rfl (fun ls hl => ?_)
  have hJ12 : ∀ (n12 : Nat) (y12_1 : Int32) (Eg12 : Nat → va_E) (H : Heap) (locs : List Loc) (ls : Array Slot), 0 ≤ y12_1.toInt → y12_1.toInt ≤ 500 → 500 - y12_1.toInt ≤ (n12 : Int) → tw_fr kp L [] [301] E7 Eg12 → rg_ok Eg12 a0 → gk_ok Eg12 a0 → gtk_ok Eg12 a0 (y12_1.toInt) → tw_H D cs kp L Eg12 A H → va_S A s.heap H locs → lv_has ls 5 [(1, .int y12_1), (0, .ref a0)] → W p l e { frames := 8, cells := 0, slots := 0, locals := 173 } s m [.ref a0].toArray below meth c H locs 0 0 (MQ below (tw_Q D cs kp0 L0 (fun v kq Lq Eq => v = none ∧ kp = kq ∧ L = Lq ∧ tw_fr kp L [(12, 2), (12, 3), (12, 4), (12, 15)] [301, 302, 303, 304, 305, 320, 321, 322, 323] E Eq ∧ (tw_fi Eq a0 4 = -1 → gy_all (tw_el E a0 0) fv0_1.toInt = tw_fi Eq a0 15 ∧ 1 ≤ tw_fi Eq a0 15) ∧ (tw_fi Eq a0 4 ≠ -1 → gy_all (tw_el E a0 0) fv0_1.toInt = -1) ∧ (tw_fi Eq a0 4 = -1 → gk_ok Eq a0) ∧ rg_ok Eq a0) A) [.ref a0].toArray s 0 0 A) (F0 m 12 ls []) := by
    intro n12
    induction n12 using Nat.strongRecOn with
    | _ n12 ih12 =>
      intro y12_1 Eg12 H locs ls hy12_1a hy12_1b hmeas12 hG12 hcg12_0 hcg12_1 hcg12_2 TH hS hl
      have hF := hF.tr hG12 (fun _ h => ⟨h, rfl⟩) (by decide) (by decide)
      have hmf15 : tw_fv Eg12 a0 1 = .int fv0_1 := (hG12.1 a0 1 hm0 (by rw [hk0]; decide)).trans hmf12
      have hmf16 : tw_fv Eg12 a0 4 = .int (-1) := (hG12.1 a0 4 hm0 (by rw [hk0]; decide)).trans hmf13
      have hmf17 : tw_fv Eg12 a0 15 = .int 0 := (hG12.1 a0 15 hm0 (by rw [hk0]; decide)).trans hmf11
      refine lv_iload_n hx hb dX12_readsGrammar_12 rfl (lv_at hl 0 rfl) ?_
      refine lv_aload_n hx hb dX12_readsGrammar_13 rfl (lv_at hl 1 rfl) ?_
      refine tw_get (ci := 12) (C := RX12) (T := TX12) (N := 64) hx hb hB cx_inX12 hown hK TH hm0 hk0 rfl ⟨by decide, rfl⟩ 1 (by decide) cw_1194 (fun _ h9 => h9) dX12_readsGrammar_14 (fun hv => ?_)
      rw [hmf15]
      refine lv_icmp_ge (tgt := 38) hx hb dX12_readsGrammar_17 (by decide) (fun hc18 => ?_) (fun hc18 => ?_)
      · have hf19 : fv0_1.toInt ≤ y12_1.toInt := by have z := (fa_le _ _).mp hc18;  omega
        have hgt38 : gt_ok Eg12 a0 := fun j hj => hcg12_2 j (by rw [tw_fi_of hmf15] at hj; omega)
        refine lv_aload_n hx hb dX12_readsGrammar_38 rfl (lv_at hl 1 rfl) ?_
        refine lv_iconst (v := 0) hx hb dX12_readsGrammar_39 (by decide) ?_
        refine tw_put (ci := 12) (v := .int 0) (ty := .int) (C := RX12) (T := TX12) (N := 64) hx hb hB cx_inX12 tyX12 tyX12_ok nmX12 hown hK TH hS hm0 hk0 rfl ⟨by decide, rfl⟩ 2 (by decide) cw_1195 (fun _ h9 => h9) rfl (by decide +kernel) rfl rfl ⟨_, rfl, (show 0 ≤ Int32.toInt 0 from by have : ((0 : Int32).toInt) = 0 := (by decide); omega), (show Int32.toInt 0 ≤ 500 from by have : ((0 : Int32).toInt) = 0 := (by decide); omega)⟩ dX12_readsGrammar_40 (fun H locs E20 TH hS hmf24 hp21 hp22 => ?_)
        have hst23 : tw_fr kp L [(12, 2)] [] Eg12 E20 := tw_fr.put tw_fr.rf (fun _ => hk0) (by decide) hp21 hp22 (by decide)
        have hF := hF.tr hst23 (fun _ h => ⟨h, rfl⟩) (by decide) (by decide)
        have hmf25 : tw_fv E20 a0 1 = .int fv0_1 := (hst23.1 a0 1 hm0 (by rw [hk0]; decide)).trans hmf15
        have hmf26 : tw_fv E20 a0 4 = .int (-1) := (hst23.1 a0 4 hm0 (by rw [hk0]; decide)).trans hmf16
        have hmf27 : tw_fv E20 a0 15 = .int 0 := (hst23.1 a0 15 hm0 (by rw [hk0]; decide)).trans hmf17
        have hcg12_0 : rg_ok E20 a0 := rg_ok_fr TH hst23 hm0 hk0 (by decide) (by decide) hcg12_0
        have hcg12_1 : gk_ok E20 a0 := gk_ok_fr TH hst23 hm0 hk0 (by decide) (by decide) hcg12_1
        have hgt38 : gt_ok E20 a0 := gt_ok_fr TH hst23 hm0 hk0 (by decide) (by decide) hgt38
        have ft43 := el_fr TH hF hm0 hk0 (k := 0) (by decide) rfl (by decide) (by decide) (by decide)
        refine lv_aload_n hx hb dX12_readsGrammar_43 rfl (lv_at hl 1 rfl) ?_
        refine tw_Vc (o := a0) (ci := 12) (n := 0) (post := (fun v kq Lq Eq => v = none ∧ kp = kq ∧ L = Lq ∧ tw_fr kp L [(12, 2), (12, 3)] [] E20 Eq ∧ (lx_WS (tw_el E20 a0 0) fv0_1.toInt 0 (tw_fi Eq a0 2) ∧ lx_TK (tw_el E20 a0 0) fv0_1.toInt (tw_fi Eq a0 2) (tw_fi Eq a0 3)) ∧ (∃ z0 z1 : Int32, tw_fv Eq a0 2 = .int z0 ∧ tw_fv Eq a0 3 = .int z1 ∧ (0 ≤ z0.toInt ∧ z0.toInt ≤ z1.toInt ∧ z1.toInt ≤ fv0_1.toInt)))) (As := []) (rest := []) ⟨hx, hb, hml, hown, hB⟩ (fun sz => tX12_skips_vL l D cs a0 (0 : Int32) fv0_1 hm0 hk0 hmf24 hmf25 (by have : ((0 : Int32).toInt) = 0 := (by decide); omega) sz) cg_12_190_X12_skips rfl rfl (by decide +kernel) ⟨Nat.le_of_ble_eq_true rfl, Nat.le_of_ble_eq_true rfl⟩ hK hN TH hS hA rfl hm0 hk0 (by decide) rfl hl.1 rfl (Nat.le_of_ble_eq_true rfl) dX12_readsGrammar_44 ⟨Nat.le_of_ble_eq_true rfl, Nat.le_of_ble_eq_true rfl⟩ (fun v28 kp28 L28 E28 H locs hq28 hx28 TH hS => ?_)
        obtain ⟨rfl, rfl, rfl, hst28, hpoxc29_0, ⟨zfxc29_0_0, zfxc29_0_1, hzfxc29_0_0, hzfxc29_0_1, hzpxc29_0⟩⟩ := hq28
        have hF := hF.tr hst28 (fun _ h => ⟨h, rfl⟩) (by decide) (by decide)
        have hmf30 : tw_fv E28 a0 1 = .int fv0_1 := (hst28.1 a0 1 hm0 (by rw [hk0]; decide)).trans hmf25
        have hmf31 : tw_fv E28 a0 4 = .int (-1) := (hst28.1 a0 4 hm0 (by rw [hk0]; decide)).trans hmf26
        have hmf32 : tw_fv E28 a0 15 = .int 0 := (hst28.1 a0 15 hm0 (by rw [hk0]; decide)).trans hmf27
        have hcg12_0 : rg_ok E28 a0 := rg_ok_fr TH hst28 hm0 hk0 (by decide) (by decide) hcg12_0
        have hcg12_1 : gk_ok E28 a0 := gk_ok_fr TH hst28 hm0 hk0 (by decide) (by decide) hcg12_1
        have hgt38 : gt_ok E28 a0 := gt_ok_fr TH hst28 hm0 hk0 (by decide) (by decide) hgt38
        have hgn33 : tk_at E28 a0 := tk_of TH hst28 hm0 hk0 (by decide) (by decide) (by decide) (tw_fi_of hmf25) hpoxc29_0
        obtain ⟨qzfxc29_0_0, hqzfxc29_0_0, hqzfxc29_0_0a, hqzfxc29_0_0b⟩ := tw_rd TH hm0 hk0 (by decide) (by decide) (k := 2) rfl
        have eqzfxc29_0_0 : qzfxc29_0_0 = zfxc29_0_0 := by have q := hqzfxc29_0_0.symm.trans hzfxc29_0_0; injection q
        rw [eqzfxc29_0_0] at hqzfxc29_0_0a hqzfxc29_0_0b
        obtain ⟨qzfxc29_0_1, hqzfxc29_0_1, hqzfxc29_0_1a, hqzfxc29_0_1b⟩ := tw_rd TH hm0 hk0 (by decide) (by decide) (k := 3) rfl
        have eqzfxc29_0_1 : qzfxc29_0_1 = zfxc29_0_1 := by have q := hqzfxc29_0_1.symm.trans hzfxc29_0_1; injection q
        rw [eqzfxc29_0_1] at hqzfxc29_0_1a hqzfxc29_0_1b
        refine W.eq (g2 := F0 m 47 ls []) rfl ?_
        have ft47 := el_fr TH hF hm0 hk0 (k := 0) (by decide) rfl (by decide) (by decide) (by decide)
        have hws := (hpoxc29_0).1
        rw [ft43, tw_fi_of hzfxc29_0_0] at hws
        have hst0 : gy_at (tw_el E a0 0) fv0_1.toInt 0 (zfxc29_0_0.toInt) 0 (kp_ E28 a0 0) (ip_ E28 a0 0) := (by rw [kp_zero, ip_zero]; exact gy_start hws)
        refine lv_aload_n hx hb dX12_readsGrammar_47 rfl (lv_at hl 1 rfl) ?_
        refine tw_Vc (o := a0) (ci := 12) (n := 0) (post := (fun v kq Lq Eq => (∃ x : Int32, v = some (.int x) ∧ 0 ≤ x.toInt ∧ x.toInt ≤ 1 ∧ (x.toInt = 0 → gy_all (tw_el E28 a0 0) fv0_1.toInt = -1) ∧ (x.toInt ≠ 0 → tk_at Eq a0) ∧ (x.toInt ≠ 0 → (fv0_1.toInt ≤ tw_fi Eq a0 2 → gy_all (tw_el E28 a0 0) fv0_1.toInt = gy_fin (tw_el E28 a0 0) (0 + 1) (kp_ Eq a0 (0 + 1)) (ip_ Eq a0 (0 + 1))) ∧ (tw_fi Eq a0 2 < fv0_1.toInt → gy_at (tw_el E28 a0 0) fv0_1.toInt 0 (tw_fi Eq a0 2) (0 + 1) (kp_ Eq a0 (0 + 1)) (ip_ Eq a0 (0 + 1)))) ∧ (x.toInt = 0 → tw_fi Eq a0 4 ≠ -1) ∧ (x.toInt ≠ 0 → ∀ x : Int × Int, ip_ Eq a0 (0 + 1) x → 0 ≤ x.1 ∧ x.1 ≤ x.2 ∧ x.2 ≤ fv0_1.toInt) ∧ (x.toInt ≠ 0 → gk_ok Eq a0) ∧ (∃ z0 z1 : Int32, tw_fv Eq a0 2 = .int z0 ∧ tw_fv Eq a0 15 = .int z1 ∧ ((x.toInt ≠ 0 → zfxc29_0_0.toInt < z0.toInt) ∧ (x.toInt ≠ 0 → z1.toInt = 0 + 1))) ∧ rg_ok Eq a0) ∧ kp = kq ∧ L = Lq ∧ tw_fr kp L [(12, 2), (12, 3), (12, 4), (12, 15)] [302, 303, 304, 305, 320, 321, 322] E28 Eq)) (As := []) (rest := []) ⟨hx, hb, hml, hown, hB⟩ (fun sz => tX12_ruleRead l D cs a0 fv0_1 zfxc29_0_0 (0 : Int32) hm0 hk0 hmf30 hzfxc29_0_0 hmf32 (by have : ((0 : Int32).toInt) = 0 := (by decide); rw [ft47]; exact hst0) (by have : ((0 : Int32).toInt) = 0 := (by decide); intro x hy; rw [show ((0 : Int32).toInt) = 0 from (by decide), ip_zero] at hy; exact hy.elim) hgn33 hgt38 hcg12_1 hcg12_0 sz) cg_12_248_X12_ruleRead rfl rfl (by decide +kernel) ⟨Nat.le_of_ble_eq_true rfl, Nat.le_of_ble_eq_true rfl⟩ hK hN TH hS hA rfl hm0 hk0 (by decide) rfl hl.1 rfl (Nat.le_of_ble_eq_true rfl) dX12_readsGrammar_48 ⟨Nat.le_of_ble_eq_true rfl, Nat.le_of_ble_eq_true rfl⟩ (fun v34 kp34 L34 E34 H locs hq34 hx34 TH hS => ?_)
        obtain ⟨⟨xc35, rfl, hxc35a, hxc35b, hpoxc35_0, hpoxc35_1, hpoxc35_2, hpoxc35_3, hpoxc35_4, hpoxc35_5, ⟨zfxc35_0_0, zfxc35_0_1, hzfxc35_0_0, hzfxc35_0_1, hzpxc35_0⟩, hgpxc35_0⟩, rfl, rfl, hst34⟩ := hq34
        have hF := hF.tr hst34 (fun _ h => ⟨h, rfl⟩) (by decide) (by decide)
        have hmf36 : tw_fv E34 a0 1 = .int fv0_1 := (hst34.1 a0 1 hm0 (by rw [hk0]; decide)).trans hmf30
        have hgt38 : gt_ok E34 a0 := gt_ok_fr TH hst34 hm0 hk0 (by decide) (by decide) hgt38
        obtain ⟨qzfxc35_0_0, hqzfxc35_0_0, hqzfxc35_0_0a, hqzfxc35_0_0b⟩ := tw_rd TH hm0 hk0 (by decide) (by decide) (k := 2) rfl
        have eqzfxc35_0_0 : qzfxc35_0_0 = zfxc35_0_0 := by have q := hqzfxc35_0_0.symm.trans hzfxc35_0_0; injection q
        rw [eqzfxc35_0_0] at hqzfxc35_0_0a hqzfxc35_0_0b
        obtain ⟨qzfxc35_0_1, hqzfxc35_0_1, hqzfxc35_0_1a, hqzfxc35_0_1b⟩ := tw_rd TH hm0 hk0 (by decide) (by decide) (k := 15) rfl
        have eqzfxc35_0_1 : qzfxc35_0_1 = zfxc35_0_1 := by have q := hqzfxc35_0_1.symm.trans hzfxc35_0_1; injection q
        rw [eqzfxc35_0_1] at hqzfxc35_0_1a hqzfxc35_0_1b
        refine W.eq (g2 := F0 m 51 ls [.int xc35]) rfl ?_
        refine lv_istore_n (lv' := [(1, .int xc35), (0, .ref a0)]) hx hb dX12_readsGrammar_51 rfl hl (by decide) rfl (fun ls hl => ?_)
        have hJ52 : ∀ (n52 : Nat) (y52_1 : Int32) (u52_0_2 : Int32) (u52_0_15 : Int32) (Eg52 : Nat → va_E) (H : Heap) (locs : List Loc) (ls : Array Slot), 0 ≤ y52_1.toInt → y52_1.toInt ≤ 1 → 0 ≤ u52_0_2.toInt → u52_0_2.toInt ≤ 500 → 0 ≤ u52_0_15.toInt → u52_0_15.toInt ≤ 10 → (y52_1.toInt = 0 → gy_all (tw_el E a0 0) fv0_1.toInt = -1) → (y52_1.toInt = 0 → tw_fi Eg52 a0 4 ≠ -1) → (y52_1.toInt ≠ 0 → tk_at Eg52 a0) → (y52_1.toInt ≠ 0 → (fv0_1.toInt ≤ u52_0_2.toInt → gy_all (tw_el E a0 0) fv0_1.toInt = gy_fin (tw_el E a0 0) (u52_0_15.toInt) (kp_ Eg52 a0 (u52_0_15.toInt)) (ip_ Eg52 a0 (u52_0_15.toInt))) ∧ (u52_0_2.toInt < fv0_1.toInt → gy_at (tw_el E a0 0) fv0_1.toInt 0 (u52_0_2.toInt) (u52_0_15.toInt) (kp_ Eg52 a0 (u52_0_15.toInt)) (ip_ Eg52 a0 (u52_0_15.toInt)))) → (y52_1.toInt ≠ 0 → ∀ x : Int × Int, ip_ Eg52 a0 (u52_0_15.toInt) x → 0 ≤ x.1 ∧ x.1 ≤ x.2 ∧ x.2 ≤ fv0_1.toInt) → (y52_1.toInt ≠ 0 → gk_ok Eg52 a0) → (y52_1.toInt ≠ 0 → 1 ≤ u52_0_15.toInt) → 1000 * y52_1.toInt - u52_0_2.toInt + 500 ≤ (n52 : Int) → tw_fv Eg52 a0 2 = .int u52_0_2 → tw_fv Eg52 a0 15 = .int u52_0_15 → tw_fr kp L [(12, 2), (12, 3), (12, 4), (12, 15)] [302, 303, 304, 305, 320, 321, 322] E34 Eg52 → rg_ok Eg52 a0 → gt_ok Eg52 a0 → tw_H D cs kp L Eg52 A H → va_S A s.heap H locs → lv_has ls 5 [(1, .int y52_1), (0, .ref a0)] → W p l e { frames := 8, cells := 0, slots := 0, locals := 173 } s m [.ref a0].toArray below meth c H locs 0 0 (MQ below (tw_Q D cs kp0 L0 (fun v kq Lq Eq => v = none ∧ kp = kq ∧ L = Lq ∧ tw_fr kp L [(12, 2), (12, 3), (12, 4), (12, 15)] [301, 302, 303, 304, 305, 320, 321, 322, 323] E Eq ∧ (tw_fi Eq a0 4 = -1 → gy_all (tw_el E a0 0) fv0_1.toInt = tw_fi Eq a0 15 ∧ 1 ≤ tw_fi Eq a0 15) ∧ (tw_fi Eq a0 4 ≠ -1 → gy_all (tw_el E a0 0) fv0_1.toInt = -1) ∧ (tw_fi Eq a0 4 = -1 → gk_ok Eq a0) ∧ rg_ok Eq a0) A) [.ref a0].toArray s 0 0 A) (F0 m 52 ls []) := by
          intro n52
          induction n52 using Nat.strongRecOn with
          | _ n52 ih52 =>
            intro y52_1 u52_0_2 u52_0_15 Eg52 H locs ls hy52_1a hy52_1b hu52_0_2a hu52_0_2b hu52_0_15a hu52_0_15b hin52_0 hin52_1 hin52_2 hin52_3 hin52_4 hin52_5 hin52_6 hmeas52 hfm52_0 hfm52_1 hG52 hcg52_0 hcg52_1 TH hS hl
            have hF := hF.tr hG52 (fun _ h => ⟨h, rfl⟩) (by decide) (by decide)
            have hmf37 : tw_fv Eg52 a0 1 = .int fv0_1 := (hG52.1 a0 1 hm0 (by rw [hk0]; decide)).trans hmf36
            refine lv_iload_n hx hb dX12_readsGrammar_52 rfl (lv_at hl 0 rfl) ?_
            refine lv_if_eq (tgt := 75) hx hb dX12_readsGrammar_53 (by decide) (fun hc38 => ?_) (fun hc38 => ?_)
            · have hf39 : y52_1.toInt = 0 := by have z := (fa_eq _ _).mp hc38; have : ((0 : Int32).toInt) = 0 := (by decide); omega
              refine lv_iload_n hx hb dX12_readsGrammar_75 rfl (lv_at hl 0 rfl) ?_
              refine lv_if_ne (tgt := 80) hx hb dX12_readsGrammar_76 (by decide) (fun hc40 => ?_) (fun hc40 => ?_)
              · have hf41 : ¬ (y52_1.toInt = 0) := fun q => hc40 ((fa_eq _ _).mpr (by have : ((0 : Int32).toInt) = 0 := (by decide); omega))
                exfalso; omega
              · have hf42 : y52_1.toInt = 0 := by have z := (fa_eq _ _).mp hc40; have : ((0 : Int32).toInt) = 0 := (by decide); omega
                exact tw_vret hx hb hr hlocks TH hS hex ⟨rfl, rfl, rfl, hF, (by  intro q; exact absurd q (hin52_1 (by omega))), (by  intro _; exact hin52_0 (by omega)), (by  intro q; exact absurd q (hin52_1 (by omega))), hcg52_0⟩ (Nat.le_of_ble_eq_true rfl) (Nat.le_of_ble_eq_true rfl) dX12_readsGrammar_79
            · have hf43 : ¬ (y52_1.toInt = 0) := fun q => hc38 ((fa_eq _ _).mpr (by have : ((0 : Int32).toInt) = 0 := (by decide); omega))
              refine lv_aload_n hx hb dX12_readsGrammar_56 rfl (lv_at hl 1 rfl) ?_
              refine tw_get (ci := 12) (C := RX12) (T := TX12) (N := 64) hx hb hB cx_inX12 hown hK TH hm0 hk0 rfl ⟨by decide, rfl⟩ 2 (by decide) cw_1195 (fun _ h9 => h9) dX12_readsGrammar_57 (fun hv => ?_)
              rw [hfm52_0]
              refine lv_aload_n hx hb dX12_readsGrammar_60 rfl (lv_at hl 1 rfl) ?_
              refine tw_get (ci := 12) (C := RX12) (T := TX12) (N := 64) hx hb hB cx_inX12 hown hK TH hm0 hk0 rfl ⟨by decide, rfl⟩ 1 (by decide) cw_1194 (fun _ h9 => h9) dX12_readsGrammar_61 (fun hv => ?_)
              rw [hmf37]
              refine lv_icmp_ge (tgt := 75) hx hb dX12_readsGrammar_64 (by decide) (fun hc44 => ?_) (fun hc44 => ?_)
              · have hf45 : fv0_1.toInt ≤ u52_0_2.toInt := by have z := (fa_le _ _).mp hc44;  omega
                refine lv_iload_n hx hb dX12_readsGrammar_75 rfl (lv_at hl 0 rfl) ?_
                refine lv_if_ne (tgt := 80) hx hb dX12_readsGrammar_76 (by decide) (fun hc46 => ?_) (fun hc46 => ?_)
                · have hf47 : ¬ (y52_1.toInt = 0) := fun q => hc46 ((fa_eq _ _).mpr (by have : ((0 : Int32).toInt) = 0 := (by decide); omega))
                  have hF80 : tw_fr kp L [] [323] Eg52 Eg52 := tw_fr.rf
                  have hgk80 := hin52_5 (by omega)
                  have hip80 := hin52_4 (by omega)
                  have hfin80 := (hin52_3 (by omega)).1 (by omega)
                  refine lv_iconst (v := (-1)) hx hb dX12_readsGrammar_80 (by decide) ?_
                  refine lv_istore_n (lv' := [(2, .int (-1)), (1, .int y52_1), (0, .ref a0)]) hx hb dX12_readsGrammar_81 rfl hl (by decide) rfl (fun ls hl => ?_)
                  refine lv_iconst (v := 0) hx hb dX12_readsGrammar_82 (by decide) ?_
                  refine lv_istore_n (lv' := [(3, .int 0), (2, .int (-1)), (1, .int y52_1), (0, .ref a0)]) hx hb dX12_readsGrammar_83 rfl hl (by decide) rfl (fun ls hl => ?_)
                  have hJ84 : ∀ (n84 : Nat) (y84_3 : Int32) (y84_2 : Int32) (Eg84 : Nat → va_E) (H : Heap) (locs : List Loc) (ls : Array Slot), 0 ≤ y84_3.toInt → y84_3.toInt ≤ 10 → (-1) ≤ y84_2.toInt → y84_2.toInt ≤ 500 → (y84_2.toInt = -1 ↔ na_ok (pn_ Eg52 a0 (tw_el E a0 0) (kp_ Eg52 a0 (u52_0_15.toInt))) (tw_el Eg52 a0 9) (y84_3.toInt) 0) → (-1 ≤ y84_2.toInt) → (y84_2.toInt ≤ 500) → (y84_3.toInt ≤ u52_0_15.toInt) → 10 - y84_3.toInt ≤ (n84 : Int) → tw_fr kp L [] [323] Eg52 Eg84 → rg_ok Eg84 a0 → gt_ok Eg84 a0 → gk_ok Eg84 a0 → tw_H D cs kp L Eg84 A H → va_S A s.heap H locs → lv_has ls 5 [(3, .int y84_3), (2, .int y84_2), (0, .ref a0)] → W p l e { frames := 8, cells := 0, slots := 0, locals := 173 } s m [.ref a0].toArray below meth c H locs 0 0 (MQ below (tw_Q D cs kp0 L0 (fun v kq Lq Eq => v = none ∧ kp = kq ∧ L = Lq ∧ tw_fr kp L [(12, 2), (12, 3), (12, 4), (12, 15)] [301, 302, 303, 304, 305, 320, 321, 322, 323] E Eq ∧ (tw_fi Eq a0 4 = -1 → gy_all (tw_el E a0 0) fv0_1.toInt = tw_fi Eq a0 15 ∧ 1 ≤ tw_fi Eq a0 15) ∧ (tw_fi Eq a0 4 ≠ -1 → gy_all (tw_el E a0 0) fv0_1.toInt = -1) ∧ (tw_fi Eq a0 4 = -1 → gk_ok Eq a0) ∧ rg_ok Eq a0) A) [.ref a0].toArray s 0 0 A) (F0 m 84 ls []) := by
                    intro n84
                    induction n84 using Nat.strongRecOn with
                    | _ n84 ih84 =>
                      intro y84_3 y84_2 Eg84 H locs ls hy84_3a hy84_3b hy84_2a hy84_2b hin84_0 hin84_1 hin84_2 hin84_3 hmeas84 hG84 hcg52_0 hcg52_1 hgk80 TH hS hl
                      have hF := hF.tr hG84 (fun _ h => ⟨h, rfl⟩) (by decide) (by decide)
                      have hF80 := hF80.tr hG84 (fun _ h => ⟨h, rfl⟩) (by decide) (by decide)
                      have hmf48 : tw_fv Eg84 a0 1 = .int fv0_1 := (hG84.1 a0 1 hm0 (by rw [hk0]; decide)).trans hmf37
                      have hmf49 : tw_fv Eg84 a0 2 = .int u52_0_2 := (hG84.1 a0 2 hm0 (by rw [hk0]; decide)).trans hfm52_0
                      have hmf50 : tw_fv Eg84 a0 15 = .int u52_0_15 := (hG84.1 a0 15 hm0 (by rw [hk0]; decide)).trans hfm52_1
                      refine lv_iload_n hx hb dX12_readsGrammar_84 rfl (lv_at hl 0 rfl) ?_
                      refine lv_aload_n hx hb dX12_readsGrammar_85 rfl (lv_at hl 2 rfl) ?_
                      refine tw_get (ci := 12) (C := RX12) (T := TX12) (N := 64) hx hb hB cx_inX12 hown hK TH hm0 hk0 rfl ⟨by decide, rfl⟩ 15 (by decide) cw_1208 (fun _ h9 => h9) dX12_readsGrammar_86 (fun hv => ?_)
                      rw [hmf50]
                      refine lv_icmp_ge (tgt := 190) hx hb dX12_readsGrammar_89 (by decide) (fun hc51 => ?_) (fun hc51 => ?_)
                      · have hf52 : u52_0_15.toInt ≤ y84_3.toInt := by have z := (fa_le _ _).mp hc51;  omega
                        refine lv_aload_n hx hb dX12_readsGrammar_190 rfl (lv_at hl 2 rfl) ?_
                        refine lv_iload_n hx hb dX12_readsGrammar_191 rfl (lv_at hl 1 rfl) ?_
                        refine tw_put (ci := 12) (v := .int y84_2) (ty := .int) (C := RX12) (T := TX12) (N := 64) hx hb hB cx_inX12 tyX12 tyX12_ok nmX12 hown hK TH hS hm0 hk0 rfl ⟨by decide, rfl⟩ 4 (by decide) cw_1197 (fun _ h9 => h9) rfl (by decide +kernel) rfl rfl ⟨_, rfl, (show (-1) ≤ Int32.toInt y84_2 from by  omega), (show Int32.toInt y84_2 ≤ 500 from by  omega)⟩ dX12_readsGrammar_192 (fun H locs E53 TH hS hmf57 hp54 hp55 => ?_)
                        have hst56 : tw_fr kp L [(12, 4)] [] Eg84 E53 := tw_fr.put tw_fr.rf (fun _ => hk0) (by decide) hp54 hp55 (by decide)
                        have hF := hF.tr hst56 (fun _ h => ⟨h, rfl⟩) (by decide) (by decide)
                        have hmf58 : tw_fv E53 a0 1 = .int fv0_1 := (hst56.1 a0 1 hm0 (by rw [hk0]; decide)).trans hmf48
                        have hmf59 : tw_fv E53 a0 2 = .int u52_0_2 := (hst56.1 a0 2 hm0 (by rw [hk0]; decide)).trans hmf49
                        have hmf60 : tw_fv E53 a0 15 = .int u52_0_15 := (hst56.1 a0 15 hm0 (by rw [hk0]; decide)).trans hmf50
                        have hcg52_0 : rg_ok E53 a0 := rg_ok_fr TH hst56 hm0 hk0 (by decide) (by decide) hcg52_0
                        have hcg52_1 : gt_ok E53 a0 := gt_ok_fr TH hst56 hm0 hk0 (by decide) (by decide) hcg52_1
                        have hgk80 : gk_ok E53 a0 := gk_ok_fr TH hst56 hm0 hk0 (by decide) (by decide) hgk80
                        exact tw_vret hx hb hr hlocks TH hS hex ⟨rfl, rfl, rfl, hF, (by  have e0 : y84_3.toInt = u52_0_15.toInt := (by omega); have w := gy_fin_of (y := y84_2.toInt) hfin80 (by rw [na_fin, ← e0]; exact (by rw [← e0] at hin84_0; exact hin84_0)); intro q; rw [tw_fi_of hmf57] at q; rw [tw_fi_of hmf60]; exact ⟨w.1 q, by omega⟩), (by  have e0 : y84_3.toInt = u52_0_15.toInt := (by omega); have w := gy_fin_of (y := y84_2.toInt) hfin80 (by rw [na_fin, ← e0]; exact (by rw [← e0] at hin84_0; exact hin84_0)); intro q; rw [tw_fi_of hmf57] at q; exact w.2 q), (by  intro _; exact hgk80), hcg52_0⟩ (Nat.le_of_ble_eq_true rfl) (Nat.le_of_ble_eq_true rfl) dX12_readsGrammar_195
                      · have hf61 : ¬ (u52_0_15.toInt ≤ y84_3.toInt) := fun q => hc51 ((fa_le _ _).mpr (by  omega))
                        refine lv_iconst (v := 0) hx hb dX12_readsGrammar_92 (by decide) ?_
                        refine lv_istore (lv' := [(4, .int 0), (3, .int y84_3), (2, .int y84_2), (0, .ref a0)]) hx hb dX12_readsGrammar_93 hl (by decide) rfl (fun ls hl => ?_)
                        have hJ95 : ∀ (n95 : Nat) (y95_4 : Int32) (y95_2 : Int32) (Eg95 : Nat → va_E) (H : Heap) (locs : List Loc) (ls : Array Slot), 0 ≤ y95_4.toInt → y95_4.toInt ≤ 252 → (-1) ≤ y95_2.toInt → y95_2.toInt ≤ 500 → (y95_2.toInt = -1 ↔ na_ok (pn_ Eg52 a0 (tw_el E a0 0) (kp_ Eg52 a0 (u52_0_15.toInt))) (tw_el Eg52 a0 9) (y84_3.toInt) (y95_4.toInt)) → (-1 ≤ y95_2.toInt) → (y95_2.toInt ≤ 500) → (y84_3.toInt ≤ 9) → (y84_3.toInt < u52_0_15.toInt) → 252 - y95_4.toInt ≤ (n95 : Int) → tw_fr kp L [] [323] Eg84 Eg95 → rg_ok Eg95 a0 → gt_ok Eg95 a0 → gk_ok Eg95 a0 → tw_H D cs kp L Eg95 A H → va_S A s.heap H locs → lv_has ls 5 [(4, .int y95_4), (3, .int y84_3), (2, .int y95_2), (0, .ref a0)] → W p l e { frames := 8, cells := 0, slots := 0, locals := 173 } s m [.ref a0].toArray below meth c H locs 0 0 (MQ below (tw_Q D cs kp0 L0 (fun v kq Lq Eq => v = none ∧ kp = kq ∧ L = Lq ∧ tw_fr kp L [(12, 2), (12, 3), (12, 4), (12, 15)] [301, 302, 303, 304, 305, 320, 321, 322, 323] E Eq ∧ (tw_fi Eq a0 4 = -1 → gy_all (tw_el E a0 0) fv0_1.toInt = tw_fi Eq a0 15 ∧ 1 ≤ tw_fi Eq a0 15) ∧ (tw_fi Eq a0 4 ≠ -1 → gy_all (tw_el E a0 0) fv0_1.toInt = -1) ∧ (tw_fi Eq a0 4 = -1 → gk_ok Eq a0) ∧ rg_ok Eq a0) A) [.ref a0].toArray s 0 0 A) (F0 m 95 ls []) := by
                          intro n95
                          induction n95 using Nat.strongRecOn with
                          | _ n95 ih95 =>
                            intro y95_4 y95_2 Eg95 H locs ls hy95_4a hy95_4b hy95_2a hy95_2b hin95_0 hin95_1 hin95_2 hin95_3 hin95_4 hmeas95 hG95 hcg52_0 hcg52_1 hgk80 TH hS hl
                            have hF := hF.tr hG95 (fun _ h => ⟨h, rfl⟩) (by decide) (by decide)
                            have hF80 := hF80.tr hG95 (fun _ h => ⟨h, rfl⟩) (by decide) (by decide)
                            have hG84 := hG84.tr hG95 (fun _ h => ⟨h, rfl⟩) (by decide) (by decide)
                            have hmf62 : tw_fv Eg95 a0 1 = .int fv0_1 := (hG95.1 a0 1 hm0 (by rw [hk0]; decide)).trans hmf48
                            have hmf63 : tw_fv Eg95 a0 2 = .int u52_0_2 := (hG95.1 a0 2 hm0 (by rw [hk0]; decide)).trans hmf49
                            have hmf64 : tw_fv Eg95 a0 15 = .int u52_0_15 := (hG95.1 a0 15 hm0 (by rw [hk0]; decide)).trans hmf50
                            refine lv_iload hx hb dX12_readsGrammar_95 (lv_at hl 0 rfl) ?_
                            refine lv_aload_n hx hb dX12_readsGrammar_97 rfl (lv_at hl 3 rfl) ?_
                            refine tw_get (ci := 12) (C := RX12) (T := TX12) (N := 64) hx hb hB cx_inX12 hown hK TH hm0 hk0 rfl ⟨by decide, rfl⟩ 9 (by decide) cw_1202 (fun _ h9 => h9) dX12_readsGrammar_98 (fun hv => ?_)
                            obtain ⟨xr65, hxr65, hmxr65, hkxr65⟩ : ∃ a : Nat, tw_fv Eg95 a0 9 = .ref a ∧ a ∈ L ∧ kp a = 305 := hv
                            rw [hxr65]
                            refine lv_iload_n hx hb dX12_readsGrammar_101 rfl (lv_at hl 1 rfl) ?_
                            refine tw_iald (k := 305) (t0 := 0) (n := 10) (lo := 0) (hi := 252) hx hb hK TH hmxr65 hkxr65 (by decide) rfl rfl (i := y84_3) (vp_in_iff.mpr ⟨by  omega, by  omega⟩) dX12_readsGrammar_102 (fun hxe66a hxe66b => ?_)
                            obtain ⟨xe66, exe66⟩ : ∃ z : Int32, tw_iv Eg95 xr65 (Int32.toNatClampNeg y84_3) = z := ⟨_, rfl⟩
                            rw [exe66] at hxe66a hxe66b ⊢
                            refine lv_icmp_ge (tgt := 184) hx hb dX12_readsGrammar_103 (by decide) (fun hc67 => ?_) (fun hc67 => ?_)
                            · have hf68 : xe66.toInt ≤ y95_4.toInt := by have z := (fa_le _ _).mp hc67;  omega
                              obtain ⟨zi69, ezi69⟩ : ∃ z : Int32, z = y84_3 + Int32.ofInt 1 := ⟨_, rfl⟩
                              have hzi69 : zi69.toInt = y84_3.toInt + 1 := by rw [ezi69]; have : ((Int32.ofInt 1).toInt) = 1 := (by decide);  exact (ia_add (by omega) (by omega)).trans (by omega)
                              refine lv_iinc (v := zi69) (lv' := [(3, .int zi69), (4, .int y95_4), (2, .int y95_2), (0, .ref a0)]) hx hb dX12_readsGrammar_184 hl (k := 1) rfl ezi69.symm (by decide) rfl (fun ls hl => ?_)
                              refine lv_goto (tgt := 84) hx hb dX12_readsGrammar_187 (by decide) ?_
                              exact ih84 (n84 - 1) (by   omega) zi69 y95_2 _ _ _ ls (by omega) (by omega) (by omega) (by omega) (by  have rf_xe66 : tw_el Eg95 a0 9 (y84_3.toInt).toNat = xe66.toInt := (by rw [tw_el_of hxr65]; exact congrArg Int32.toInt exe66); have f9 := el_fr TH hF80 hm0 hk0 (k := 9) (by decide) rfl (by decide) (by decide) (by decide); rw [f9] at rf_xe66; exact hin95_0.trans (na_row (i := y95_4.toInt) (by omega) (by rw [rf_xe66]; omega) (by omega))) (by  omega) (by  omega) (by  omega) (by   omega) hG84 hcg52_0 hcg52_1 hgk80 TH hS (lv_sub hl [0, 2, 3] rfl)
                            · have hf70 : ¬ (xe66.toInt ≤ y95_4.toInt) := fun q => hc67 ((fa_le _ _).mpr (by  omega))
                              refine lv_aload_n hx hb dX12_readsGrammar_106 rfl (lv_at hl 3 rfl) ?_
                              refine tw_get (ci := 12) (C := RX12) (T := TX12) (N := 64) hx hb hB cx_inX12 hown hK TH hm0 hk0 rfl ⟨by decide, rfl⟩ 13 (by decide) cw_1206 (fun _ h9 => h9) dX12_readsGrammar_107 (fun hv => ?_)
                              obtain ⟨xr71, hxr71, hmxr71, hkxr71⟩ : ∃ a : Nat, tw_fv Eg95 a0 13 = .ref a ∧ a ∈ L ∧ kp a = 313 := hv
                              rw [hxr71]
                              refine lv_iload_n hx hb dX12_readsGrammar_110 rfl (lv_at hl 1 rfl) ?_
                              refine tw_aald (k := 313) (t0 := 4) (n := 10) (lo := 323) (hi := 0) (ty := .int) hx hb hK TH hmxr71 hkxr71 (by decide) rfl rfl (i := y84_3) (vp_in_iff.mpr ⟨by  omega, by  omega⟩) dX12_readsGrammar_111 (fun xr72 exr72 hmxr72 hkxr72 => ?_)
                              have hkxr72 : kp xr72 = 323 := hkxr72
                              refine lv_iload hx hb dX12_readsGrammar_112 (lv_at hl 0 rfl) ?_
                              refine lv_aload_n hx hb dX12_readsGrammar_114 rfl (lv_at hl 3 rfl) ?_
                              refine lv_aload_n hx hb dX12_readsGrammar_115 rfl (lv_at hl 3 rfl) ?_
                              refine tw_get (ci := 12) (C := RX12) (T := TX12) (N := 64) hx hb hB cx_inX12 hown hK TH hm0 hk0 rfl ⟨by decide, rfl⟩ 10 (by decide) cw_1203 (fun _ h9 => h9) dX12_readsGrammar_116 (fun hv => ?_)
                              obtain ⟨xr73, hxr73, hmxr73, hkxr73⟩ : ∃ a : Nat, tw_fv Eg95 a0 10 = .ref a ∧ a ∈ L ∧ kp a = 310 := hv
                              rw [hxr73]
                              refine lv_iload_n hx hb dX12_readsGrammar_119 rfl (lv_at hl 1 rfl) ?_
                              refine tw_aald (k := 310) (t0 := 4) (n := 10) (lo := 320) (hi := 0) (ty := .int) hx hb hK TH hmxr73 hkxr73 (by decide) rfl rfl (i := y84_3) (vp_in_iff.mpr ⟨by  omega, by  omega⟩) dX12_readsGrammar_120 (fun xr74 exr74 hmxr74 hkxr74 => ?_)
                              have hkxr74 : kp xr74 = 320 := hkxr74
                              refine lv_iload hx hb dX12_readsGrammar_121 (lv_at hl 0 rfl) ?_
                              refine tw_iald (k := 320) (t0 := 0) (n := 252) (lo := 0) (hi := 500) hx hb hK TH hmxr74 hkxr74 (by decide) rfl rfl (i := y95_4) (vp_in_iff.mpr ⟨by  omega, by  omega⟩) dX12_readsGrammar_123 (fun hxe75a hxe75b => ?_)
                              obtain ⟨xe75, exe75⟩ : ∃ z : Int32, tw_iv Eg95 xr74 (Int32.toNatClampNeg y95_4) = z := ⟨_, rfl⟩
                              rw [exe75] at hxe75a hxe75b ⊢
                              refine lv_aload_n hx hb dX12_readsGrammar_124 rfl (lv_at hl 3 rfl) ?_
                              refine tw_get (ci := 12) (C := RX12) (T := TX12) (N := 64) hx hb hB cx_inX12 hown hK TH hm0 hk0 rfl ⟨by decide, rfl⟩ 11 (by decide) cw_1204 (fun _ h9 => h9) dX12_readsGrammar_125 (fun hv => ?_)
                              obtain ⟨xr76, hxr76, hmxr76, hkxr76⟩ : ∃ a : Nat, tw_fv Eg95 a0 11 = .ref a ∧ a ∈ L ∧ kp a = 311 := hv
                              rw [hxr76]
                              refine lv_iload_n hx hb dX12_readsGrammar_128 rfl (lv_at hl 1 rfl) ?_
                              refine tw_aald (k := 311) (t0 := 4) (n := 10) (lo := 321) (hi := 0) (ty := .int) hx hb hK TH hmxr76 hkxr76 (by decide) rfl rfl (i := y84_3) (vp_in_iff.mpr ⟨by  omega, by  omega⟩) dX12_readsGrammar_129 (fun xr77 exr77 hmxr77 hkxr77 => ?_)
                              have hkxr77 : kp xr77 = 321 := hkxr77
                              refine lv_iload hx hb dX12_readsGrammar_130 (lv_at hl 0 rfl) ?_
                              refine tw_iald (k := 321) (t0 := 0) (n := 252) (lo := 0) (hi := 500) hx hb hK TH hmxr77 hkxr77 (by decide) rfl rfl (i := y95_4) (vp_in_iff.mpr ⟨by  omega, by  omega⟩) dX12_readsGrammar_132 (fun hxe78a hxe78b => ?_)
                              obtain ⟨xe78, exe78⟩ : ∃ z : Int32, tw_iv Eg95 xr77 (Int32.toNatClampNeg y95_4) = z := ⟨_, rfl⟩
                              rw [exe78] at hxe78a hxe78b ⊢
                              have rf_xe66 : tw_el Eg95 a0 9 (y84_3.toInt).toNat = xe66.toInt := (by rw [tw_el_of hxr65]; exact congrArg Int32.toInt exe66)
                              have f9 := el_fr TH hF80 hm0 hk0 (k := 9) (by decide) rfl (by decide) (by decide) (by decide)
                              rw [f9] at rf_xe66
                              have hxa : rx Eg52 a0 10 (y84_3.toInt).toNat (y95_4.toInt).toNat = xe75.toInt := (rx_fr10 TH hF80 hm0 hk0 (by decide) (by decide) (by decide) (by omega) _).symm.trans (rx_of (i := y84_3) (c := y95_4) hxr73 exr74 exe75)
                              have hxb : rx Eg52 a0 11 (y84_3.toInt).toNat (y95_4.toInt).toNat = xe78.toInt := (rx_fr11 TH hF80 hm0 hk0 (by decide) (by decide) (by decide) (by omega) _).symm.trans (rx_of (i := y84_3) (c := y95_4) hxr76 exr77 exe78)
                              have hib := hip80 (rx Eg52 a0 10 (y84_3.toInt).toNat (y95_4.toInt).toNat, rx Eg52 a0 10 (y84_3.toInt).toNat (y95_4.toInt).toNat + rx Eg52 a0 11 (y84_3.toInt).toNat (y95_4.toInt).toNat) ⟨(y84_3.toInt).toNat, (y95_4.toInt).toNat, by omega, by rw [rf_xe66]; omega, rfl⟩
                              have hib2 := hib.2.2
                              rw [hxa, hxb] at hib2
                              have hib3 : xe75.toInt + xe78.toInt ≤ fv0_1.toInt := hib2
                              have ft133 := el_fr TH hF hm0 hk0 (k := 0) (by decide) rfl (by decide) (by decide) (by decide)
                              have fk133 := kp_fr (k := u52_0_15.toInt) TH hF80 hm0 hk0 (by decide) (by decide)
                              refine tw_Vc (o := a0) (ci := 12) (n := 2) (post := (fun v kq Lq Eq => (∃ x : Int32, v = some (.int x) ∧ (-1) ≤ x.toInt ∧ x.toInt ≤ 9 ∧ (x.toInt = -1 ↔ ¬ gy_nm (tw_el Eg95 a0 0) (kp_ Eg95 a0 u52_0_15.toInt) (xe75.toInt, xe75.toInt + xe78.toInt))) ∧ kp = kq ∧ L = Lq ∧ Eg95 = Eq)) (As := [.int xe75, .int xe78]) (rest := [.int y95_4, .ref xr72]) ⟨hx, hb, hml, hown, hB⟩ (fun sz => tX12_kindNamed l D cs a0 xe75 xe78 fv0_1 u52_0_15 hm0 hk0 (by omega) (by omega) (by omega) (by omega) hmf62 hmf64 (by  omega) hcg52_1 hgk80 sz) cg_12_241_X12_kindNamed rfl rfl (by decide +kernel) ⟨Nat.le_of_ble_eq_true rfl, Nat.le_of_ble_eq_true rfl⟩ hK hN TH hS hA rfl hm0 hk0 (by decide) rfl hl.1 rfl (Nat.le_of_ble_eq_true rfl) dX12_readsGrammar_133 ⟨Nat.le_of_ble_eq_true rfl, Nat.le_of_ble_eq_true rfl⟩ (fun v79 kp79 L79 E79 H locs hq79 hx79 TH hS => ?_)
                              obtain ⟨⟨xc80, rfl, hxc80a, hxc80b, hpoxc80_0⟩, rfl, rfl, rfl⟩ := hq79
                              refine W.eq (g2 := F0 m 136 ls [.int xc80, .int y95_4, .ref xr72]) rfl ?_
                              have hkn : xc80.toInt = -1 ↔ ¬ (pn_ Eg52 a0 (tw_el E a0 0) (kp_ Eg52 a0 (u52_0_15.toInt))) (y84_3.toInt).toNat (y95_4.toInt).toNat := (by have w := hpoxc80_0; rw [ft133, fk133] at w; unfold pn_; rw [hxa, hxb]; exact w)
                              refine tw_iast (k := 323) (n := 252) (lo := (-1)) (hi := 9) hx hb hK TH hS hmxr72 hkxr72 (by decide) rfl (i := y95_4) (x := xc80) (vp_in_iff.mpr ⟨by  omega, by  omega⟩) (by omega) (by omega) dX12_readsGrammar_136 (fun H locs E81 TH hS hp82 hp83 hp84 => ?_)
                              have hst85 : tw_fr kp L [] [323] Eg95 E81 := tw_fr.ast tw_fr.rf (fun _ => hkxr72) hp82 hp83 (by decide)
                              have hF := hF.tr hst85 (fun _ h => ⟨h, rfl⟩) (by decide) (by decide)
                              have hF80 := hF80.tr hst85 (fun _ h => ⟨h, rfl⟩) (by decide) (by decide)
                              have hG84 := hG84.tr hst85 (fun _ h => ⟨h, rfl⟩) (by decide) (by decide)
                              have hG95 := hG95.tr hst85 (fun _ h => ⟨h, rfl⟩) (by decide) (by decide)
                              have hmf86 : tw_fv E81 a0 1 = .int fv0_1 := (hst85.1 a0 1 hm0 (by rw [hk0]; decide)).trans hmf62
                              have hmf87 : tw_fv E81 a0 2 = .int u52_0_2 := (hst85.1 a0 2 hm0 (by rw [hk0]; decide)).trans hmf63
                              have hmf88 : tw_fv E81 a0 15 = .int u52_0_15 := (hst85.1 a0 15 hm0 (by rw [hk0]; decide)).trans hmf64
                              have hmf89 : tw_fv E81 a0 9 = .ref xr65 := (hst85.1 a0 9 hm0 (by rw [hk0]; decide)).trans hxr65
                              have hmf90 : tw_fv E81 a0 13 = .ref xr71 := (hst85.1 a0 13 hm0 (by rw [hk0]; decide)).trans hxr71
                              have hmf91 : tw_fv E81 a0 10 = .ref xr73 := (hst85.1 a0 10 hm0 (by rw [hk0]; decide)).trans hxr73
                              have hmf92 : tw_fv E81 a0 11 = .ref xr76 := (hst85.1 a0 11 hm0 (by rw [hk0]; decide)).trans hxr76
                              have hcg52_0 : rg_ok E81 a0 := rg_ok_fr TH hst85 hm0 hk0 (by decide) (by decide) hcg52_0
                              have hcg52_1 : gt_ok E81 a0 := gt_ok_fr TH hst85 hm0 hk0 (by decide) (by decide) hcg52_1
                              have hgk80 : gk_ok E81 a0 := gk_ok_fr TH hst85 hm0 hk0 (by decide) (by decide) hgk80
                              refine lv_aload_n hx hb dX12_readsGrammar_137 rfl (lv_at hl 3 rfl) ?_
                              refine tw_get (ci := 12) (C := RX12) (T := TX12) (N := 64) hx hb hB cx_inX12 hown hK TH hm0 hk0 rfl ⟨by decide, rfl⟩ 13 (by decide) cw_1206 (fun _ h9 => h9) dX12_readsGrammar_138 (fun hv => ?_)
                              rw [hmf90]
                              refine lv_iload_n hx hb dX12_readsGrammar_141 rfl (lv_at hl 1 rfl) ?_
                              refine tw_aald (k := 313) (t0 := 4) (n := 10) (lo := 323) (hi := 0) (ty := .int) hx hb hK TH hmxr71 hkxr71 (by decide) rfl rfl (i := y84_3) (vp_in_iff.mpr ⟨by  omega, by  omega⟩) dX12_readsGrammar_142 (fun xr93 exr93 hmxr93 hkxr93 => ?_)
                              have hkxr93 : kp xr93 = 323 := hkxr93
                              refine lv_iload hx hb dX12_readsGrammar_143 (lv_at hl 0 rfl) ?_
                              refine tw_iald (k := 323) (t0 := 0) (n := 252) (lo := (-1)) (hi := 9) hx hb hK TH hmxr93 hkxr93 (by decide) rfl rfl (i := y95_4) (vp_in_iff.mpr ⟨by  omega, by  omega⟩) dX12_readsGrammar_145 (fun hxe94a hxe94b => ?_)
                              obtain ⟨xe94, exe94⟩ : ∃ z : Int32, tw_iv E81 xr93 (Int32.toNatClampNeg y95_4) = z := ⟨_, rfl⟩
                              rw [exe94] at hxe94a hxe94b ⊢
                              have hag : xe94 = xc80 := rw_again (i := y84_3) (c := y95_4) hkxr71 hkxr72 (by decide) exr72 exr93 hp83 hp84 exe94
                              refine lv_iconst (v := (-1)) hx hb dX12_readsGrammar_146 (by decide) ?_
                              refine lv_icmp_ne (tgt := 178) hx hb dX12_readsGrammar_147 (by decide) (fun hc95 => ?_) (fun hc95 => ?_)
                              · have hf96 : ¬ (xe94.toInt = (-1)) := fun q => hc95 ((fa_eq _ _).mpr (by have : (((-1) : Int32).toInt) = (-1) := (by decide); omega))
                                obtain ⟨zi97, ezi97⟩ : ∃ z : Int32, z = y95_4 + Int32.ofInt 1 := ⟨_, rfl⟩
                                have hzi97 : zi97.toInt = y95_4.toInt + 1 := by rw [ezi97]; have : ((Int32.ofInt 1).toInt) = 1 := (by decide);  exact (ia_add (by omega) (by omega)).trans (by omega)
                                refine lv_iinc (v := zi97) (lv' := [(4, .int zi97), (3, .int y84_3), (2, .int y95_2), (0, .ref a0)]) hx hb dX12_readsGrammar_178 hl (k := 0) rfl ezi97.symm (by decide) rfl (fun ls hl => ?_)
                                refine lv_goto (tgt := 95) hx hb dX12_readsGrammar_181 (by decide) ?_
                                exact ih95 (n95 - 1) (by   omega) zi97 y95_2 _ _ _ ls (by omega) (by omega) (by omega) (by omega) (by  have hagi : xe94.toInt = xc80.toInt := (by rw [hag]); (by_cases hz : xc80.toInt = -1; (exact ⟨fun w => (by exfalso; omega), fun w => absurd w (na_no (i := y95_4.toInt) (by omega) (by omega) (by rw [rf_xe66]; omega) (hkn.mp hz) (by omega))⟩); (exact (show _ ↔ _ from ⟨fun w => (na_yes (i := y95_4.toInt) (by omega) (by omega) (Classical.byContradiction (fun y => hz (hkn.mpr y))) (by omega)).mp (hin95_0.mp (by omega)), fun w => (by have w2 := hin95_0.mpr ((na_yes (i := y95_4.toInt) (by omega) (by omega) (Classical.byContradiction (fun y => hz (hkn.mpr y))) (by omega)).mpr w); omega)⟩)))) (by  omega) (by  omega) (by  omega) (by  omega) (by   omega) hG95 hcg52_0 hcg52_1 hgk80 TH hS (lv_sub hl [0, 1, 2, 3] rfl)
                              · have hf98 : xe94.toInt = (-1) := by have z := (fa_eq _ _).mp hc95; have : (((-1) : Int32).toInt) = (-1) := (by decide); omega
                                refine lv_iload_n hx hb dX12_readsGrammar_150 rfl (lv_at hl 2 rfl) ?_
                                refine lv_iconst (v := (-1)) hx hb dX12_readsGrammar_151 (by decide) ?_
                                refine lv_icmp_eq (tgt := 168) hx hb dX12_readsGrammar_152 (by decide) (fun hc99 => ?_) (fun hc99 => ?_)
                                · have hf100 : y95_2.toInt = (-1) := by have z := (fa_eq _ _).mp hc99; have : (((-1) : Int32).toInt) = (-1) := (by decide); omega
                                  refine lv_aload_n hx hb dX12_readsGrammar_168 rfl (lv_at hl 3 rfl) ?_
                                  refine tw_get (ci := 12) (C := RX12) (T := TX12) (N := 64) hx hb hB cx_inX12 hown hK TH hm0 hk0 rfl ⟨by decide, rfl⟩ 10 (by decide) cw_1203 (fun _ h9 => h9) dX12_readsGrammar_169 (fun hv => ?_)
                                  rw [hmf91]
                                  refine lv_iload_n hx hb dX12_readsGrammar_172 rfl (lv_at hl 1 rfl) ?_
                                  refine tw_aald (k := 310) (t0 := 4) (n := 10) (lo := 320) (hi := 0) (ty := .int) hx hb hK TH hmxr73 hkxr73 (by decide) rfl rfl (i := y84_3) (vp_in_iff.mpr ⟨by  omega, by  omega⟩) dX12_readsGrammar_173 (fun xr101 exr101 hmxr101 hkxr101 => ?_)
                                  have hkxr101 : kp xr101 = 320 := hkxr101
                                  refine lv_iload hx hb dX12_readsGrammar_174 (lv_at hl 0 rfl) ?_
                                  refine tw_iald (k := 320) (t0 := 0) (n := 252) (lo := 0) (hi := 500) hx hb hK TH hmxr101 hkxr101 (by decide) rfl rfl (i := y95_4) (vp_in_iff.mpr ⟨by  omega, by  omega⟩) dX12_readsGrammar_176 (fun hxe102a hxe102b => ?_)
                                  obtain ⟨xe102, exe102⟩ : ∃ z : Int32, tw_iv E81 xr101 (Int32.toNatClampNeg y95_4) = z := ⟨_, rfl⟩
                                  rw [exe102] at hxe102a hxe102b ⊢
                                  refine lv_istore_n (lv' := [(2, .int xe102), (4, .int y95_4), (3, .int y84_3), (0, .ref a0)]) hx hb dX12_readsGrammar_177 rfl hl (by decide) rfl (fun ls hl => ?_)
                                  obtain ⟨zi103, ezi103⟩ : ∃ z : Int32, z = y95_4 + Int32.ofInt 1 := ⟨_, rfl⟩
                                  have hzi103 : zi103.toInt = y95_4.toInt + 1 := by rw [ezi103]; have : ((Int32.ofInt 1).toInt) = 1 := (by decide);  exact (ia_add (by omega) (by omega)).trans (by omega)
                                  refine lv_iinc (v := zi103) (lv' := [(4, .int zi103), (2, .int xe102), (3, .int y84_3), (0, .ref a0)]) hx hb dX12_readsGrammar_178 hl (k := 1) rfl ezi103.symm (by decide) rfl (fun ls hl => ?_)
                                  refine lv_goto (tgt := 95) hx hb dX12_readsGrammar_181 (by decide) ?_
                                  exact ih95 (n95 - 1) (by   omega) zi103 xe102 _ _ _ ls (by omega) (by omega) (by omega) (by omega) (by  have hagi : xe94.toInt = xc80.toInt := (by rw [hag]); (by_cases hz : xc80.toInt = -1; (exact ⟨fun w => (by exfalso; omega), fun w => absurd w (na_no (i := y95_4.toInt) (by omega) (by omega) (by rw [rf_xe66]; omega) (hkn.mp hz) (by omega))⟩); (exact (show _ ↔ _ from ⟨fun w => (na_yes (i := y95_4.toInt) (by omega) (by omega) (Classical.byContradiction (fun y => hz (hkn.mpr y))) (by omega)).mp (hin95_0.mp (by omega)), fun w => (by have w2 := hin95_0.mpr ((na_yes (i := y95_4.toInt) (by omega) (by omega) (Classical.byContradiction (fun y => hz (hkn.mpr y))) (by omega)).mpr w); omega)⟩)))) (by  omega) (by  omega) (by  omega) (by  omega) (by   omega) hG95 hcg52_0 hcg52_1 hgk80 TH hS (lv_sub hl [0, 2, 1, 3] rfl)
                                · have hf104 : ¬ (y95_2.toInt = (-1)) := fun q => hc99 ((fa_eq _ _).mpr (by have : (((-1) : Int32).toInt) = (-1) := (by decide); omega))
                                  refine lv_aload_n hx hb dX12_readsGrammar_155 rfl (lv_at hl 3 rfl) ?_
                                  refine tw_get (ci := 12) (C := RX12) (T := TX12) (N := 64) hx hb hB cx_inX12 hown hK TH hm0 hk0 rfl ⟨by decide, rfl⟩ 10 (by decide) cw_1203 (fun _ h9 => h9) dX12_readsGrammar_156 (fun hv => ?_)
                                  rw [hmf91]
                                  refine lv_iload_n hx hb dX12_readsGrammar_159 rfl (lv_at hl 1 rfl) ?_
                                  refine tw_aald (k := 310) (t0 := 4) (n := 10) (lo := 320) (hi := 0) (ty := .int) hx hb hK TH hmxr73 hkxr73 (by decide) rfl rfl (i := y84_3) (vp_in_iff.mpr ⟨by  omega, by  omega⟩) dX12_readsGrammar_160 (fun xr105 exr105 hmxr105 hkxr105 => ?_)
                                  have hkxr105 : kp xr105 = 320 := hkxr105
                                  refine lv_iload hx hb dX12_readsGrammar_161 (lv_at hl 0 rfl) ?_
                                  refine tw_iald (k := 320) (t0 := 0) (n := 252) (lo := 0) (hi := 500) hx hb hK TH hmxr105 hkxr105 (by decide) rfl rfl (i := y95_4) (vp_in_iff.mpr ⟨by  omega, by  omega⟩) dX12_readsGrammar_163 (fun hxe106a hxe106b => ?_)
                                  obtain ⟨xe106, exe106⟩ : ∃ z : Int32, tw_iv E81 xr105 (Int32.toNatClampNeg y95_4) = z := ⟨_, rfl⟩
                                  rw [exe106] at hxe106a hxe106b ⊢
                                  refine lv_iload_n hx hb dX12_readsGrammar_164 rfl (lv_at hl 2 rfl) ?_
                                  refine lv_icmp_ge (tgt := 178) hx hb dX12_readsGrammar_165 (by decide) (fun hc107 => ?_) (fun hc107 => ?_)
                                  · have hf108 : y95_2.toInt ≤ xe106.toInt := by have z := (fa_le _ _).mp hc107;  omega
                                    obtain ⟨zi109, ezi109⟩ : ∃ z : Int32, z = y95_4 + Int32.ofInt 1 := ⟨_, rfl⟩
                                    have hzi109 : zi109.toInt = y95_4.toInt + 1 := by rw [ezi109]; have : ((Int32.ofInt 1).toInt) = 1 := (by decide);  exact (ia_add (by omega) (by omega)).trans (by omega)
                                    refine lv_iinc (v := zi109) (lv' := [(4, .int zi109), (3, .int y84_3), (2, .int y95_2), (0, .ref a0)]) hx hb dX12_readsGrammar_178 hl (k := 0) rfl ezi109.symm (by decide) rfl (fun ls hl => ?_)
                                    refine lv_goto (tgt := 95) hx hb dX12_readsGrammar_181 (by decide) ?_
                                    exact ih95 (n95 - 1) (by   omega) zi109 y95_2 _ _ _ ls (by omega) (by omega) (by omega) (by omega) (by  have hagi : xe94.toInt = xc80.toInt := (by rw [hag]); (by_cases hz : xc80.toInt = -1; (exact ⟨fun w => (by exfalso; omega), fun w => absurd w (na_no (i := y95_4.toInt) (by omega) (by omega) (by rw [rf_xe66]; omega) (hkn.mp hz) (by omega))⟩); (exact (show _ ↔ _ from ⟨fun w => (na_yes (i := y95_4.toInt) (by omega) (by omega) (Classical.byContradiction (fun y => hz (hkn.mpr y))) (by omega)).mp (hin95_0.mp (by omega)), fun w => (by have w2 := hin95_0.mpr ((na_yes (i := y95_4.toInt) (by omega) (by omega) (Classical.byContradiction (fun y => hz (hkn.mpr y))) (by omega)).mpr w); omega)⟩)))) (by  omega) (by  omega) (by  omega) (by  omega) (by   omega) hG95 hcg52_0 hcg52_1 hgk80 TH hS (lv_sub hl [0, 1, 2, 3] rfl)
                                  · have hf110 : ¬ (y95_2.toInt ≤ xe106.toInt) := fun q => hc107 ((fa_le _ _).mpr (by  omega))
                                    refine lv_aload_n hx hb dX12_readsGrammar_168 rfl (lv_at hl 3 rfl) ?_
                                    refine tw_get (ci := 12) (C := RX12) (T := TX12) (N := 64) hx hb hB cx_inX12 hown hK TH hm0 hk0 rfl ⟨by decide, rfl⟩ 10 (by decide) cw_1203 (fun _ h9 => h9) dX12_readsGrammar_169 (fun hv => ?_)
                                    rw [hmf91]
                                    refine lv_iload_n hx hb dX12_readsGrammar_172 rfl (lv_at hl 1 rfl) ?_
                                    refine tw_aald (k := 310) (t0 := 4) (n := 10) (lo := 320) (hi := 0) (ty := .int) hx hb hK TH hmxr73 hkxr73 (by decide) rfl rfl (i := y84_3) (vp_in_iff.mpr ⟨by  omega, by  omega⟩) dX12_readsGrammar_173 (fun xr111 exr111 hmxr111 hkxr111 => ?_)
                                    have ezxr111 : xr105 = xr111 := exr105.symm.trans exr111
                                    subst ezxr111
                                    refine lv_iload hx hb dX12_readsGrammar_174 (lv_at hl 0 rfl) ?_
                                    refine tw_iald (k := 320) (t0 := 0) (n := 252) (lo := 0) (hi := 500) hx hb hK TH hmxr105 hkxr105 (by decide) rfl rfl (i := y95_4) (vp_in_iff.mpr ⟨by  omega, by  omega⟩) dX12_readsGrammar_176 (fun hxe112a hxe112b => ?_)
                                    rw [exe106]
                                    refine lv_istore_n (lv' := [(2, .int xe106), (4, .int y95_4), (3, .int y84_3), (0, .ref a0)]) hx hb dX12_readsGrammar_177 rfl hl (by decide) rfl (fun ls hl => ?_)
                                    obtain ⟨zi113, ezi113⟩ : ∃ z : Int32, z = y95_4 + Int32.ofInt 1 := ⟨_, rfl⟩
                                    have hzi113 : zi113.toInt = y95_4.toInt + 1 := by rw [ezi113]; have : ((Int32.ofInt 1).toInt) = 1 := (by decide);  exact (ia_add (by omega) (by omega)).trans (by omega)
                                    refine lv_iinc (v := zi113) (lv' := [(4, .int zi113), (2, .int xe106), (3, .int y84_3), (0, .ref a0)]) hx hb dX12_readsGrammar_178 hl (k := 1) rfl ezi113.symm (by decide) rfl (fun ls hl => ?_)
                                    refine lv_goto (tgt := 95) hx hb dX12_readsGrammar_181 (by decide) ?_
                                    exact ih95 (n95 - 1) (by   omega) zi113 xe106 _ _ _ ls (by omega) (by omega) (by omega) (by omega) (by  have hagi : xe94.toInt = xc80.toInt := (by rw [hag]); (by_cases hz : xc80.toInt = -1; (exact ⟨fun w => (by exfalso; omega), fun w => absurd w (na_no (i := y95_4.toInt) (by omega) (by omega) (by rw [rf_xe66]; omega) (hkn.mp hz) (by omega))⟩); (exact (show _ ↔ _ from ⟨fun w => (na_yes (i := y95_4.toInt) (by omega) (by omega) (Classical.byContradiction (fun y => hz (hkn.mpr y))) (by omega)).mp (hin95_0.mp (by omega)), fun w => (by have w2 := hin95_0.mpr ((na_yes (i := y95_4.toInt) (by omega) (by omega) (Classical.byContradiction (fun y => hz (hkn.mpr y))) (by omega)).mpr w); omega)⟩)))) (by  omega) (by  omega) (by  omega) (by  omega) (by   omega) hG95 hcg52_0 hcg52_1 hgk80 TH hS (lv_sub hl [0, 2, 1, 3] rfl)
                        exact hJ95 253 (0 : Int32) y84_2 _ _ _ ls (by have : ((0 : Int32).toInt) = 0 := (by decide); omega) (by have : ((0 : Int32).toInt) = 0 := (by decide); omega) (by omega) (by omega) (by have : ((0 : Int32).toInt) = 0 := (by decide); exact hin84_0) (by have : ((0 : Int32).toInt) = 0 := (by decide); omega) (by have : ((0 : Int32).toInt) = 0 := (by decide); omega) (by have : ((0 : Int32).toInt) = 0 := (by decide); omega) (by have : ((0 : Int32).toInt) = 0 := (by decide); omega) (by have : ((0 : Int32).toInt) = 0 := (by decide);  omega) tw_fr.rf hcg52_0 hcg52_1 hgk80 TH hS (lv_sub hl [0, 1, 2, 3] rfl)
                  exact hJ84 11 (0 : Int32) ((-1) : Int32) _ _ _ ls (by have : ((0 : Int32).toInt) = 0 := (by decide); omega) (by have : ((0 : Int32).toInt) = 0 := (by decide); omega) (by have : (((-1) : Int32).toInt) = (-1) := (by decide); omega) (by have : (((-1) : Int32).toInt) = (-1) := (by decide); omega) (by have : (((-1) : Int32).toInt) = (-1) := (by decide); have : ((0 : Int32).toInt) = 0 := (by decide); exact ⟨fun _ => na_zero _ _, fun _ => by decide⟩) (by have : (((-1) : Int32).toInt) = (-1) := (by decide); have : ((0 : Int32).toInt) = 0 := (by decide); omega) (by have : (((-1) : Int32).toInt) = (-1) := (by decide); have : ((0 : Int32).toInt) = 0 := (by decide); omega) (by have : (((-1) : Int32).toInt) = (-1) := (by decide); have : ((0 : Int32).toInt) = 0 := (by decide); omega) (by have : (((-1) : Int32).toInt) = (-1) := (by decide); have : ((0 : Int32).toInt) = 0 := (by decide);  omega) tw_fr.rf hcg52_0 hcg52_1 hgk80 TH hS (lv_sub hl [0, 1, 3] rfl)
                · have hf114 : y52_1.toInt = 0 := by have z := (fa_eq _ _).mp hc46; have : ((0 : Int32).toInt) = 0 := (by decide); omega
                  exfalso; omega
              · have hf115 : ¬ (fv0_1.toInt ≤ u52_0_2.toInt) := fun q => hc44 ((fa_le _ _).mpr (by  omega))
                have htk67 := hin52_2 (by omega)
                have hgk67 := hin52_5 (by omega)
                have ft67 := el_fr TH hF hm0 hk0 (k := 0) (by decide) rfl (by decide) (by decide) (by decide)
                refine lv_aload_n hx hb dX12_readsGrammar_67 rfl (lv_at hl 1 rfl) ?_
                refine tw_Vc (o := a0) (ci := 12) (n := 0) (post := (fun v kq Lq Eq => (∃ x : Int32, v = some (.int x) ∧ 0 ≤ x.toInt ∧ x.toInt ≤ 1 ∧ (x.toInt = 0 → gy_all (tw_el Eg52 a0 0) fv0_1.toInt = -1) ∧ (x.toInt ≠ 0 → tk_at Eq a0) ∧ (x.toInt ≠ 0 → (fv0_1.toInt ≤ tw_fi Eq a0 2 → gy_all (tw_el Eg52 a0 0) fv0_1.toInt = gy_fin (tw_el Eg52 a0 0) (u52_0_15.toInt + 1) (kp_ Eq a0 (u52_0_15.toInt + 1)) (ip_ Eq a0 (u52_0_15.toInt + 1))) ∧ (tw_fi Eq a0 2 < fv0_1.toInt → gy_at (tw_el Eg52 a0 0) fv0_1.toInt 0 (tw_fi Eq a0 2) (u52_0_15.toInt + 1) (kp_ Eq a0 (u52_0_15.toInt + 1)) (ip_ Eq a0 (u52_0_15.toInt + 1)))) ∧ (x.toInt = 0 → tw_fi Eq a0 4 ≠ -1) ∧ (x.toInt ≠ 0 → ∀ x : Int × Int, ip_ Eq a0 (u52_0_15.toInt + 1) x → 0 ≤ x.1 ∧ x.1 ≤ x.2 ∧ x.2 ≤ fv0_1.toInt) ∧ (x.toInt ≠ 0 → gk_ok Eq a0) ∧ (∃ z0 z1 : Int32, tw_fv Eq a0 2 = .int z0 ∧ tw_fv Eq a0 15 = .int z1 ∧ ((x.toInt ≠ 0 → u52_0_2.toInt < z0.toInt) ∧ (x.toInt ≠ 0 → z1.toInt = u52_0_15.toInt + 1))) ∧ rg_ok Eq a0) ∧ kp = kq ∧ L = Lq ∧ tw_fr kp L [(12, 2), (12, 3), (12, 4), (12, 15)] [302, 303, 304, 305, 320, 321, 322] Eg52 Eq)) (As := []) (rest := []) ⟨hx, hb, hml, hown, hB⟩ (fun sz => tX12_ruleRead l D cs a0 fv0_1 u52_0_2 u52_0_15 hm0 hk0 hmf37 hfm52_0 hfm52_1 (by  rw [ft67]; exact (hin52_3 (by omega)).2 (by omega)) (by  exact hin52_4 (by omega)) htk67 hcg52_1 hgk67 hcg52_0 sz) cg_12_248_X12_ruleRead rfl rfl (by decide +kernel) ⟨Nat.le_of_ble_eq_true rfl, Nat.le_of_ble_eq_true rfl⟩ hK hN TH hS hA rfl hm0 hk0 (by decide) rfl hl.1 rfl (Nat.le_of_ble_eq_true rfl) dX12_readsGrammar_68 ⟨Nat.le_of_ble_eq_true rfl, Nat.le_of_ble_eq_true rfl⟩ (fun v116 kp116 L116 E116 H locs hq116 hx116 TH hS => ?_)
                obtain ⟨⟨xc117, rfl, hxc117a, hxc117b, hpoxc117_0, hpoxc117_1, hpoxc117_2, hpoxc117_3, hpoxc117_4, hpoxc117_5, ⟨zfxc117_0_0, zfxc117_0_1, hzfxc117_0_0, hzfxc117_0_1, hzpxc117_0⟩, hgpxc117_0⟩, rfl, rfl, hst116⟩ := hq116
                have hF := hF.tr hst116 (fun _ h => ⟨h, rfl⟩) (by decide) (by decide)
                have hG52 := hG52.tr hst116 (fun _ h => ⟨h, rfl⟩) (by decide) (by decide)
                have hmf118 : tw_fv E116 a0 1 = .int fv0_1 := (hst116.1 a0 1 hm0 (by rw [hk0]; decide)).trans hmf37
                have hcg52_1 : gt_ok E116 a0 := gt_ok_fr TH hst116 hm0 hk0 (by decide) (by decide) hcg52_1
                obtain ⟨qzfxc117_0_0, hqzfxc117_0_0, hqzfxc117_0_0a, hqzfxc117_0_0b⟩ := tw_rd TH hm0 hk0 (by decide) (by decide) (k := 2) rfl
                have eqzfxc117_0_0 : qzfxc117_0_0 = zfxc117_0_0 := by have q := hqzfxc117_0_0.symm.trans hzfxc117_0_0; injection q
                rw [eqzfxc117_0_0] at hqzfxc117_0_0a hqzfxc117_0_0b
                obtain ⟨qzfxc117_0_1, hqzfxc117_0_1, hqzfxc117_0_1a, hqzfxc117_0_1b⟩ := tw_rd TH hm0 hk0 (by decide) (by decide) (k := 15) rfl
                have eqzfxc117_0_1 : qzfxc117_0_1 = zfxc117_0_1 := by have q := hqzfxc117_0_1.symm.trans hzfxc117_0_1; injection q
                rw [eqzfxc117_0_1] at hqzfxc117_0_1a hqzfxc117_0_1b
                refine W.eq (g2 := F0 m 71 ls [.int xc117]) rfl ?_
                refine lv_istore_n (lv' := [(1, .int xc117), (0, .ref a0)]) hx hb dX12_readsGrammar_71 rfl hl (by decide) rfl (fun ls hl => ?_)
                refine lv_goto (tgt := 52) hx hb dX12_readsGrammar_72 (by decide) ?_
                obtain ⟨xi119, hxi119, hxi119a, hxi119b⟩ := tw_rd TH hm0 hk0 (by decide) (by decide) (k := 3) rfl
                exact ih52 (n52 - 1) (by   omega) xc117 zfxc117_0_0 zfxc117_0_1 _ _ _ ls (by omega) (by omega) (by omega) (by omega) (by omega) (by omega) (by  intro q; have w := hpoxc117_0 q; rw [ft67] at w; exact w) (by  intro q; exact hpoxc117_3 q) (by  intro q; exact hpoxc117_1 q) (by  intro q; have w := hpoxc117_2 q; rw [ft67, show (u52_0_15.toInt : Int) + 1 = zfxc117_0_1.toInt by omega, tw_fi_of hzfxc117_0_0] at w; exact w) (by  intro q x hx; have w := hpoxc117_4 q; rw [show (u52_0_15.toInt : Int) + 1 = zfxc117_0_1.toInt by omega] at w; exact w x hx) (by  intro q; exact hpoxc117_5 q) (by  intro q; omega) (by   omega) hzfxc117_0_0 hzfxc117_0_1 hG52 hgpxc117_0 hcg52_1 TH hS (lv_sub hl [0, 1] rfl)
        obtain ⟨xi120, hxi120, hxi120a, hxi120b⟩ := tw_rd TH hm0 hk0 (by decide) (by decide) (k := 3) rfl
        exact hJ52 1501 xc35 zfxc35_0_0 zfxc35_0_1 _ _ _ ls (by omega) (by omega) (by omega) (by omega) (by omega) (by omega) (by  intro q; have w := hpoxc35_0 q; rw [ft47] at w; exact w) (by  intro q; exact hpoxc35_3 q) (by  intro q; exact hpoxc35_1 q) (by  intro q; have w := hpoxc35_2 q; rw [ft47, show (0 : Int) + 1 = zfxc35_0_1.toInt by omega, tw_fi_of hzfxc35_0_0] at w; exact w) (by  intro q x hx; have w := hpoxc35_4 q; rw [show (0 : Int) + 1 = zfxc35_0_1.toInt by omega] at w; exact w x hx) (by  intro q; exact hpoxc35_5 q) (by  intro q; omega) (by   omega) hzfxc35_0_0 hzfxc35_0_1 tw_fr.rf hgpxc35_0 hgt38 TH hS (lv_sub hl [0, 1] rfl)
      · have hf121 : ¬ (fv0_1.toInt ≤ y12_1.toInt) := fun q => hc18 ((fa_le _ _).mpr (by  omega))
        refine lv_aload_n hx hb dX12_readsGrammar_20 rfl (lv_at hl 1 rfl) ?_
        refine tw_get (ci := 12) (C := RX12) (T := TX12) (N := 64) hx hb hB cx_inX12 hown hK TH hm0 hk0 rfl ⟨by decide, rfl⟩ 5 (by decide) cw_1198 (fun _ h9 => h9) dX12_readsGrammar_21 (fun hv => ?_)
        obtain ⟨xr122, hxr122, hmxr122, hkxr122⟩ : ∃ a : Nat, tw_fv Eg12 a0 5 = .ref a ∧ a ∈ L ∧ kp a = 301 := hv
        rw [hxr122]
        refine lv_iload_n hx hb dX12_readsGrammar_24 rfl (lv_at hl 0 rfl) ?_
        refine lv_aload_n hx hb dX12_readsGrammar_25 rfl (lv_at hl 1 rfl) ?_
        refine tw_get (ci := 12) (C := RX12) (T := TX12) (N := 64) hx hb hB cx_inX12 hown hK TH hm0 hk0 rfl ⟨by decide, rfl⟩ 0 (by decide) cw_1193 (fun _ h9 => h9) dX12_readsGrammar_26 (fun hv => ?_)
        obtain ⟨xr123, hxr123, hmxr123, hkxr123⟩ : ∃ a : Nat, tw_fv Eg12 a0 0 = .ref a ∧ a ∈ L ∧ kp a = 300 := hv
        rw [hxr123]
        refine lv_iload_n hx hb dX12_readsGrammar_29 rfl (lv_at hl 0 rfl) ?_
        refine tw_bald (k := 300) (t0 := 2) (n := 500) (lo := (-128)) (hi := 127) hx hb hK TH hmxr123 hkxr123 (by decide) rfl rfl (i := y12_1) (vp_in_iff.mpr ⟨by  omega, by  omega⟩) dX12_readsGrammar_30 (fun hxe124a hxe124b => ?_)
        obtain ⟨xe124, exe124⟩ : ∃ z : Int32, tw_iv Eg12 xr123 (Int32.toNatClampNeg y12_1) = z := ⟨_, rfl⟩
        rw [exe124] at hxe124a hxe124b ⊢
        refine tw_bast (k := 301) (n := 500) (lo := (-128)) (hi := 127) hx hb hK TH hS hmxr122 hkxr122 (by decide) rfl (i := y12_1) (x := xe124) (vp_in_iff.mpr ⟨by  omega, by  omega⟩) (by omega) (by omega) (by omega) (by omega) dX12_readsGrammar_31 (fun H locs E125 TH hS hp126 hp127 hp128 => ?_)
        have hst129 : tw_fr kp L [] [301] Eg12 E125 := tw_fr.ast tw_fr.rf (fun _ => hkxr122) hp126 hp127 (by decide)
        have hF := hF.tr hst129 (fun _ h => ⟨h, rfl⟩) (by decide) (by decide)
        have hG12 := hG12.tr hst129 (fun _ h => ⟨h, rfl⟩) (by decide) (by decide)
        have hmf130 : tw_fv E125 a0 1 = .int fv0_1 := (hst129.1 a0 1 hm0 (by rw [hk0]; decide)).trans hmf15
        have hmf131 : tw_fv E125 a0 4 = .int (-1) := (hst129.1 a0 4 hm0 (by rw [hk0]; decide)).trans hmf16
        have hmf132 : tw_fv E125 a0 15 = .int 0 := (hst129.1 a0 15 hm0 (by rw [hk0]; decide)).trans hmf17
        have hmf133 : tw_fv E125 a0 5 = .ref xr122 := (hst129.1 a0 5 hm0 (by rw [hk0]; decide)).trans hxr122
        have hmf134 : tw_fv E125 a0 0 = .ref xr123 := (hst129.1 a0 0 hm0 (by rw [hk0]; decide)).trans hxr123
        have hcg12_0_o := hcg12_0
        have hcg12_1_o := hcg12_1
        have hcg12_2_o := hcg12_2
        have hcg12_0 : rg_ok E125 a0 := rg_ok_fr TH hst129 hm0 hk0 (by decide) (by decide) hcg12_0
        have hcg12_1 : gk_ok E125 a0 := gk_ok_fr TH hst129 hm0 hk0 (by decide) (by decide) hcg12_1
        have hcg12_2 : gtk_ok E125 a0 (y12_1.toInt + 1) := gtk_push (v := xe124.toInt) (gtk_ok_cast (by omega) hcg12_2_o) (by omega) (fun j => (by have w := tw_el_st hxr122 hp126 hp127 hp128 j; rw [w]; (by_cases e : j = (y12_1.toInt).toNat; (rw [if_pos ⟨rfl, e⟩, if_pos e]); (rw [if_neg (fun y => e y.2), if_neg e])))) (tw_el_fr TH hst129 hm0 hk0 (by decide) (by decide) (k := 0) rfl (by decide) (by decide) (by decide)) (by rw [tw_el_of hxr123]; exact congrArg Int32.toInt exe124)
        obtain ⟨zi135, ezi135⟩ : ∃ z : Int32, z = y12_1 + Int32.ofInt 1 := ⟨_, rfl⟩
        have hzi135 : zi135.toInt = y12_1.toInt + 1 := by rw [ezi135]; have : ((Int32.ofInt 1).toInt) = 1 := (by decide);  exact (ia_add (by omega) (by omega)).trans (by omega)
        refine lv_iinc (v := zi135) (lv' := [(1, .int zi135), (0, .ref a0)]) hx hb dX12_readsGrammar_32 hl (k := 0) rfl ezi135.symm (by decide) rfl (fun ls hl => ?_)
        refine lv_goto (tgt := 12) hx hb dX12_readsGrammar_35 (by decide) ?_
        exact ih12 (n12 - 1) (by   omega) zi135 _ _ _ ls (by omega) (by omega) (by   omega) hG12 hcg12_0 hcg12_1 (gtk_ok_cast (by  omega) hcg12_2) TH hS (lv_sub hl [0, 1] rfl)
  exact hJ12 501 (0 : Int32) _ _ _ ls (by have : ((0 : Int32).toInt) = 0 := (by decide); omega) (by have : ((0 : Int32).toInt) = 0 := (by decide); omega) (by have : ((0 : Int32).toInt) = 0 := (by decide);  omega) tw_fr.rf hg0 hgn14 (gtk_ok_cast (by have : ((0 : Int32).toInt) = 0 := (by decide); omega) hgtk0) TH hS (lv_sub hl [0, 1] rfl)
set_option maxHeartbeats 4000000 in
set_option maxRecDepth 100000 in
theorem tX12_feeds_vG (l : Launch) (D : va_G) (cs : Nat → ClassId) {kp : Nat → Nat} {L : List Nat} {E : Nat → va_E} (a0 : Nat) (x1 : Int32) (fv0_1 : Int32) (hm0 : a0 ∈ L) (hk0 : kp a0 = 12) (hfv0_1 : tw_fv E a0 1 = .int fv0_1) (hpre0 : fv0_1.toInt ≤ 496) (sz : Nat) : Met l yX12_feeds (.code yX12_feeds cX12_feeds 3 none :: cx_big) { frames := 0, cells := 0, slots := 0, locals := 0 } (tw_P D cs kp L E [.ref a0, .int x1] sz) (tw_Q D cs kp L (fun v kq Lq Eq => v = none ∧ kp = kq ∧ L = Lq ∧ tw_fr kp L [(12, 1)] [300] E Eq ∧ (∀ i : Nat, tw_el Eq a0 0 i = fd_ (by_r x1.toInt) (tw_el E a0 0) fv0_1.toInt (fv0_1.toInt + 4) i) ∧ (∃ z0 : Int32, tw_fv Eq a0 1 = .int z0 ∧ (z0.toInt = fv0_1.toInt + 4))) (va_A (va_pl L E) sz)) 0 0 (va_A (va_pl L E) sz) := by
  refine tw_ofW (by decide) (Nat.le_of_ble_eq_true rfl) ?_
  intro p e s m below meth c A ls hx hb hr hml hB hown hlocks hK hN hA TH hS hl
  have hown : s.vm.findClass "TreeMergeModel" = some m.cls := hown
  have hl : lv_has ls 3 [(0, .ref a0), (1, .int x1)] := hl
  obtain ⟨kp0, ekp⟩ : ∃ z, z = kp := ⟨_, rfl⟩
  obtain ⟨L0, eL⟩ : ∃ z, z = L := ⟨_, rfl⟩
  rw [show tw_Q D cs kp L = tw_Q D cs kp0 L0 by rw [ekp, eL]]
  have hex : ∀ a : Nat, a ∈ L0 → a ∈ L ∧ kp a = kp0 a := fun a h => ⟨by rw [← eL]; exact h, by rw [ekp]⟩
  have hF : tw_fr kp L [(12, 1)] [300] E E := tw_fr.rf
  obtain ⟨qfv0_1, hqfv0_1, hqfv0_1a, hqfv0_1b⟩ := tw_rd TH hm0 hk0 (by decide) (by decide) (k := 1) rfl
  have eqfv0_1 : qfv0_1 = fv0_1 := by have q := hqfv0_1.symm.trans hfv0_1; injection q
  rw [eqfv0_1] at hqfv0_1a hqfv0_1b
  have hfd0 : fdr_ok E a0 (by_r x1.toInt) (tw_el E a0 0) (fv0_1.toInt) (fv0_1.toInt) := fun i => (by rw [fd_zero _ _ (by omega)])
  refine lv_iconst (v := 3) hx hb dX12_feeds_0 (by decide) ?_
  refine lv_istore_n (lv' := [(2, .int 3), (0, .ref a0), (1, .int x1)]) hx hb dX12_feeds_1 rfl hl (by decide) rfl (fun ls hl => ?_)
  have hJ2 : ∀ (n2 : Nat) (y2_2 : Int32) (u2_0_1 : Int32) (Eg2 : Nat → va_E) (H : Heap) (locs : List Loc) (ls : Array Slot), (-1) ≤ y2_2.toInt → y2_2.toInt ≤ 3 → 0 ≤ u2_0_1.toInt → u2_0_1.toInt ≤ 500 → (u2_0_1.toInt = fv0_1.toInt + 3 - y2_2.toInt) → y2_2.toInt + 1 ≤ (n2 : Int) → tw_fv Eg2 a0 1 = .int u2_0_1 → tw_fr kp L [(12, 1)] [300] E Eg2 → fdr_ok Eg2 a0 (by_r x1.toInt) (tw_el E a0 0) (fv0_1.toInt) (u2_0_1.toInt) → tw_H D cs kp L Eg2 A H → va_S A s.heap H locs → lv_has ls 3 [(2, .int y2_2), (0, .ref a0), (1, .int x1)] → W p l e { frames := 0, cells := 0, slots := 0, locals := 0 } s m [.ref a0, .int x1].toArray below meth c H locs 0 0 (MQ below (tw_Q D cs kp0 L0 (fun v kq Lq Eq => v = none ∧ kp = kq ∧ L = Lq ∧ tw_fr kp L [(12, 1)] [300] E Eq ∧ (∀ i : Nat, tw_el Eq a0 0 i = fd_ (by_r x1.toInt) (tw_el E a0 0) fv0_1.toInt (fv0_1.toInt + 4) i) ∧ (∃ z0 : Int32, tw_fv Eq a0 1 = .int z0 ∧ (z0.toInt = fv0_1.toInt + 4))) A) [.ref a0, .int x1].toArray s 0 0 A) (F0 m 2 ls []) := by
    intro n2
    induction n2 using Nat.strongRecOn with
    | _ n2 ih2 =>
      intro y2_2 u2_0_1 Eg2 H locs ls hy2_2a hy2_2b hu2_0_1a hu2_0_1b hin2_0 hmeas2 hfm2_0 hG2 hcg2_0 TH hS hl
      have hF := hF.tr hG2 (fun _ h => ⟨h, rfl⟩) (by decide) (by decide)
      refine lv_iload_n hx hb dX12_feeds_2 rfl (lv_at hl 0 rfl) ?_
      refine lv_if_lt (tgt := 38) hx hb dX12_feeds_3 (by decide) (fun hc1 => ?_) (fun hc1 => ?_)
      · have hf2 : y2_2.toInt < 0 := by have z := (fa_lt _ _).mp hc1; have : ((0 : Int32).toInt) = 0 := (by decide); omega
        exact tw_vret hx hb hr hlocks TH hS hex ⟨rfl, rfl, rfl, hF, (by  exact fdr_ok_cast (by omega) hcg2_0), ⟨u2_0_1, hfm2_0, by  omega⟩⟩ (Nat.le_of_ble_eq_true rfl) (Nat.le_of_ble_eq_true rfl) dX12_feeds_38
      · have hf3 : ¬ (y2_2.toInt < 0) := fun q => hc1 ((fa_lt _ _).mpr (by have : ((0 : Int32).toInt) = 0 := (by decide); omega))
        refine lv_aload_n hx hb dX12_feeds_6 rfl (lv_at hl 1 rfl) ?_
        refine tw_get (ci := 12) (C := RX12) (T := TX12) (N := 64) hx hb hB cx_inX12 hown hK TH hm0 hk0 rfl ⟨by decide, rfl⟩ 0 (by decide) cw_1193 (fun _ h9 => h9) dX12_feeds_7 (fun hv => ?_)
        obtain ⟨xr4, hxr4, hmxr4, hkxr4⟩ : ∃ a : Nat, tw_fv Eg2 a0 0 = .ref a ∧ a ∈ L ∧ kp a = 300 := hv
        rw [hxr4]
        refine lv_aload_n hx hb dX12_feeds_10 rfl (lv_at hl 1 rfl) ?_
        refine tw_get (ci := 12) (C := RX12) (T := TX12) (N := 64) hx hb hB cx_inX12 hown hK TH hm0 hk0 rfl ⟨by decide, rfl⟩ 1 (by decide) cw_1194 (fun _ h9 => h9) dX12_feeds_11 (fun hv => ?_)
        rw [hfm2_0]
        refine lv_iload_n hx hb dX12_feeds_14 rfl (lv_at hl 2 rfl) ?_
        refine lv_bipush (v := 8) hx hb dX12_feeds_15 (by decide) ?_
        refine lv_iload_n hx hb dX12_feeds_17 rfl (lv_at hl 0 rfl) ?_
        refine lv_imul hx hb dX12_feeds_18 ?_
        refine lv_topi (fun zi5 ezi5 => ?_)
        have hzi5 : zi5.toInt = 8 * y2_2.toInt := by rw [ezi5]; exact (ia_mul (by have hc : ((8 : Int32).toInt) = 8 := (by decide); rw [hc]; omega) (by have hc : ((8 : Int32).toInt) = 8 := (by decide); rw [hc]; omega)).trans (by have hc : ((8 : Int32).toInt) = 8 := (by decide); rw [hc])
        refine lv_iushr (v := ((x1 : Int32).toUInt32 >>> ((zi5 : Int32).toUInt32 &&& Int32.toUInt32 31)).toInt32) hx hb dX12_feeds_19 rfl ?_
        refine lv_topi (fun zi6 ezi6 => ?_)
        have h_zi := trivial
        refine lv_i2b (v := (zi6).toInt8.toInt32) hx hb dX12_feeds_20 rfl ?_
        refine lv_topi (fun zi7 ezi7 => ?_)
        have hzi7 : -128 ≤ zi7.toInt ∧ zi7.toInt ≤ 127 := by rw [ezi7]; exact ia_i2b _
        have h_zb := trivial
        refine tw_bast (k := 300) (n := 500) (lo := (-128)) (hi := 127) hx hb hK TH hS hmxr4 hkxr4 (by decide) rfl (i := u2_0_1) (x := zi7) (vp_in_iff.mpr ⟨by  omega, by  omega⟩) (by omega) (by omega) (by omega) (by omega) dX12_feeds_21 (fun H locs E8 TH hS hp9 hp10 hp11 => ?_)
        have hst12 : tw_fr kp L [] [300] Eg2 E8 := tw_fr.ast tw_fr.rf (fun _ => hkxr4) hp9 hp10 (by decide)
        have hF := hF.tr hst12 (fun _ h => ⟨h, rfl⟩) (by decide) (by decide)
        have hG2 := hG2.tr hst12 (fun _ h => ⟨h, rfl⟩) (by decide) (by decide)
        have hmf13 : tw_fv E8 a0 1 = .int u2_0_1 := (hst12.1 a0 1 hm0 (by rw [hk0]; decide)).trans hfm2_0
        have hmf14 : tw_fv E8 a0 0 = .ref xr4 := (hst12.1 a0 0 hm0 (by rw [hk0]; decide)).trans hxr4
        have hcg2_0_o := hcg2_0
        have hcg2_0 : fdr_ok E8 a0 (by_r x1.toInt) (tw_el E a0 0) (fv0_1.toInt) (u2_0_1.toInt + 1) := fd_st (k := u2_0_1.toInt) (v := zi7.toInt) (by omega) (by omega) (by_r_is (by omega) ezi7 ezi6) (fdr_ok_cast (by omega) hcg2_0_o) (fun j => (by have w := tw_el_st hxr4 hp9 hp10 hp11 j; rw [w]; (by_cases e : j = (u2_0_1.toInt).toNat; (rw [if_pos ⟨rfl, e⟩, if_pos e]); (rw [if_neg (fun y => e y.2), if_neg e]))))
        refine lv_aload_n hx hb dX12_feeds_22 rfl (lv_at hl 1 rfl) ?_
        refine lv_dup hx hb dX12_feeds_23 rfl ?_
        refine tw_get (ci := 12) (C := RX12) (T := TX12) (N := 64) hx hb hB cx_inX12 hown hK TH hm0 hk0 rfl ⟨by decide, rfl⟩ 1 (by decide) cw_1194 (fun _ h9 => h9) dX12_feeds_24 (fun hv => ?_)
        rw [hmf13]
        refine lv_iconst (v := 1) hx hb dX12_feeds_27 (by decide) ?_
        refine lv_iadd hx hb dX12_feeds_28 ?_
        refine lv_topi (fun zi15 ezi15 => ?_)
        have hzi15 : zi15.toInt = u2_0_1.toInt + 1 := by rw [ezi15]; have : ((1 : Int32).toInt) = 1 := (by decide); have := ia_lo u2_0_1; have := ia_hi u2_0_1; exact (ia_add (by omega) (by omega)).trans (by omega)
        refine tw_put (ci := 12) (v := .int zi15) (ty := .int) (C := RX12) (T := TX12) (N := 64) hx hb hB cx_inX12 tyX12 tyX12_ok nmX12 hown hK TH hS hm0 hk0 rfl ⟨by decide, rfl⟩ 1 (by decide) cw_1194 (fun _ h9 => h9) rfl (by decide +kernel) rfl rfl ⟨_, rfl, (show 0 ≤ Int32.toInt zi15 from by  omega), (show Int32.toInt zi15 ≤ 500 from by  omega)⟩ dX12_feeds_29 (fun H locs E16 TH hS hmf20 hp17 hp18 => ?_)
        have hst19 : tw_fr kp L [(12, 1)] [] E8 E16 := tw_fr.put tw_fr.rf (fun _ => hk0) (by decide) hp17 hp18 (by decide)
        have hF := hF.tr hst19 (fun _ h => ⟨h, rfl⟩) (by decide) (by decide)
        have hG2 := hG2.tr hst19 (fun _ h => ⟨h, rfl⟩) (by decide) (by decide)
        have hmf21 : tw_fv E16 a0 0 = .ref xr4 := (hst19.1 a0 0 hm0 (by rw [hk0]; decide)).trans hmf14
        have hcg2_0 : fdr_ok E16 a0 (by_r x1.toInt) (tw_el E a0 0) (fv0_1.toInt) (u2_0_1.toInt + 1) := fdr_ok_fr TH hst19 hm0 hk0 (by decide) (by decide) hcg2_0
        obtain ⟨zi22, ezi22⟩ : ∃ z : Int32, z = y2_2 + Int32.ofInt (-1) := ⟨_, rfl⟩
        have hzi22 : zi22.toInt = y2_2.toInt + (-1) := by rw [ezi22]; have : ((Int32.ofInt (-1)).toInt) = (-1) := (by decide);  exact (ia_add (by omega) (by omega)).trans (by omega)
        refine lv_iinc (v := zi22) (lv' := [(2, .int zi22), (0, .ref a0), (1, .int x1)]) hx hb dX12_feeds_32 hl (k := 0) rfl ezi22.symm (by decide) rfl (fun ls hl => ?_)
        refine lv_goto (tgt := 2) hx hb dX12_feeds_35 (by decide) ?_
        exact ih2 (n2 - 1) (by   omega) zi22 zi15 _ _ _ ls (by omega) (by omega) (by omega) (by omega) (by  omega) (by   omega) hmf20 hG2 (fdr_ok_cast (by  omega) hcg2_0) TH hS (lv_sub hl [0, 1, 2] rfl)
  exact hJ2 5 (3 : Int32) fv0_1 _ _ _ ls (by have : ((3 : Int32).toInt) = 3 := (by decide); omega) (by have : ((3 : Int32).toInt) = 3 := (by decide); omega) (by omega) (by omega) (by have : ((3 : Int32).toInt) = 3 := (by decide); omega) (by have : ((3 : Int32).toInt) = 3 := (by decide);  omega) hfv0_1 tw_fr.rf (fdr_ok_cast (by have : ((3 : Int32).toInt) = 3 := (by decide); omega) hfd0) TH hS (lv_sub hl [0, 1, 2] rfl)
set_option maxHeartbeats 4000000 in
set_option maxRecDepth 100000 in
theorem tX12_feed_vG (l : Launch) (D : va_G) (cs : Nat → ClassId) {kp : Nat → Nat} {L : List Nat} {E : Nat → va_E} (a0 : Nat) (x1 : Int32) (x2 : Int32) (x3 : Int32) (x4 : Int32) (x5 : Int32) (fv0_1 : Int32) (hm0 : a0 ∈ L) (hk0 : kp a0 = 12) (hfv0_1 : tw_fv E a0 1 = .int fv0_1) (sz : Nat) : Met l yX12_feed (.code yX12_feed cX12_feed 6 (some .int) :: cx_big) { frames := 1, cells := 0, slots := 0, locals := 22 } (tw_P D cs kp L E [.ref a0, .int x1, .int x2, .int x3, .int x4, .int x5] sz) (tw_Q D cs kp L (fun v kq Lq Eq => (∃ x : Int32, v = some (.int x) ∧ (fv0_1.toInt ≤ 480 → tw_fi Eq a0 1 = fv0_1.toInt + 20 ∧ tw_el Eq a0 0 = fd5 by_r x1.toInt x2.toInt x3.toInt x4.toInt x5.toInt (tw_el E a0 0) fv0_1.toInt) ∧ (480 < fv0_1.toInt → tw_fi Eq a0 1 = fv0_1.toInt ∧ tw_el Eq a0 0 = tw_el E a0 0)) ∧ kp = kq ∧ L = Lq ∧ tw_fr kp L [(12, 1)] [300] E Eq) (va_A (va_pl L E) sz)) 0 0 (va_A (va_pl L E) sz) := by
  refine tw_ofW (by decide) (Nat.le_of_ble_eq_true rfl) ?_
  intro p e s m below meth c A ls hx hb hr hml hB hown hlocks hK hN hA TH hS hl
  have hown : s.vm.findClass "TreeMergeModel" = some m.cls := hown
  have hl : lv_has ls 6 [(0, .ref a0), (1, .int x1), (2, .int x2), (3, .int x3), (4, .int x4), (5, .int x5)] := hl
  obtain ⟨kp0, ekp⟩ : ∃ z, z = kp := ⟨_, rfl⟩
  obtain ⟨L0, eL⟩ : ∃ z, z = L := ⟨_, rfl⟩
  rw [show tw_Q D cs kp L = tw_Q D cs kp0 L0 by rw [ekp, eL]]
  have hex : ∀ a : Nat, a ∈ L0 → a ∈ L ∧ kp a = kp0 a := fun a h => ⟨by rw [← eL]; exact h, by rw [ekp]⟩
  have hF : tw_fr kp L [(12, 1)] [300] E E := tw_fr.rf
  obtain ⟨qfv0_1, hqfv0_1, hqfv0_1a, hqfv0_1b⟩ := tw_rd TH hm0 hk0 (by decide) (by decide) (k := 1) rfl
  have eqfv0_1 : qfv0_1 = fv0_1 := by have q := hqfv0_1.symm.trans hfv0_1; injection q
  rw [eqfv0_1] at hqfv0_1a hqfv0_1b
  refine lv_aload_n hx hb dX12_feed_0 rfl (lv_at hl 0 rfl) ?_
  refine tw_get (ci := 12) (C := RX12) (T := TX12) (N := 64) hx hb hB cx_inX12 hown hK TH hm0 hk0 rfl ⟨by decide, rfl⟩ 1 (by decide) cw_1194 (fun _ h9 => h9) dX12_feed_1 (fun hv => ?_)
  rw [hfv0_1]
  refine lv_bipush (v := 20) hx hb dX12_feed_4 (by decide) ?_
  refine lv_iadd hx hb dX12_feed_6 ?_
  refine lv_topi (fun zi1 ezi1 => ?_)
  have hzi1 : zi1.toInt = fv0_1.toInt + 20 := by rw [ezi1]; have : ((20 : Int32).toInt) = 20 := (by decide); have := ia_lo fv0_1; have := ia_hi fv0_1; exact (ia_add (by omega) (by omega)).trans (by omega)
  refine lv_sipush (v := 500) hx hb dX12_feed_7 (by decide) ?_
  refine lv_icmp_le (tgt := 15) hx hb dX12_feed_10 (by decide) (fun hc2 => ?_) (fun hc2 => ?_)
  · have hf3 : zi1.toInt ≤ 500 := by have z := (fa_le _ _).mp hc2; have : ((500 : Int32).toInt) = 500 := (by decide); omega
    refine lv_aload_n hx hb dX12_feed_15 rfl (lv_at hl 0 rfl) ?_
    refine lv_iload_n hx hb dX12_feed_16 rfl (lv_at hl 1 rfl) ?_
    refine tw_Vc (o := a0) (ci := 12) (n := 1) (post := (fun v kq Lq Eq => v = none ∧ kp = kq ∧ L = Lq ∧ tw_fr kp L [(12, 1)] [300] E Eq ∧ (∀ i : Nat, tw_el Eq a0 0 i = fd_ (by_r x1.toInt) (tw_el E a0 0) fv0_1.toInt (fv0_1.toInt + 4) i) ∧ (∃ z0 : Int32, tw_fv Eq a0 1 = .int z0 ∧ (z0.toInt = fv0_1.toInt + 4)))) (As := [.int x1]) (rest := []) ⟨hx, hb, hml, hown, hB⟩ (fun sz => tX12_feeds_vG l D cs a0 x1 fv0_1 hm0 hk0 hfv0_1 (by  omega) sz) cg_12_167_X12_feeds rfl rfl (by decide +kernel) ⟨Nat.le_of_ble_eq_true rfl, Nat.le_of_ble_eq_true rfl⟩ hK hN TH hS hA rfl hm0 hk0 (by decide) rfl hl.1 rfl (Nat.le_of_ble_eq_true rfl) dX12_feed_17 ⟨Nat.le_of_ble_eq_true rfl, Nat.le_of_ble_eq_true rfl⟩ (fun v4 kp4 L4 E4 H locs hq4 hx4 TH hS => ?_)
    obtain ⟨rfl, rfl, rfl, hst4, hpoxc5_0, ⟨zfxc5_0_0, hzfxc5_0_0, hzpxc5_0⟩⟩ := hq4
    have hF := hF.tr hst4 (fun _ h => ⟨h, rfl⟩) (by decide) (by decide)
    obtain ⟨qzfxc5_0_0, hqzfxc5_0_0, hqzfxc5_0_0a, hqzfxc5_0_0b⟩ := tw_rd TH hm0 hk0 (by decide) (by decide) (k := 1) rfl
    have eqzfxc5_0_0 : qzfxc5_0_0 = zfxc5_0_0 := by have q := hqzfxc5_0_0.symm.trans hzfxc5_0_0; injection q
    rw [eqzfxc5_0_0] at hqzfxc5_0_0a hqzfxc5_0_0b
    refine W.eq (g2 := F0 m 20 ls []) rfl ?_
    refine lv_aload_n hx hb dX12_feed_20 rfl (lv_at hl 0 rfl) ?_
    refine lv_iload_n hx hb dX12_feed_21 rfl (lv_at hl 2 rfl) ?_
    refine tw_Vc (o := a0) (ci := 12) (n := 1) (post := (fun v kq Lq Eq => v = none ∧ kp = kq ∧ L = Lq ∧ tw_fr kp L [(12, 1)] [300] E4 Eq ∧ (∀ i : Nat, tw_el Eq a0 0 i = fd_ (by_r x2.toInt) (tw_el E4 a0 0) zfxc5_0_0.toInt (zfxc5_0_0.toInt + 4) i) ∧ (∃ z0 : Int32, tw_fv Eq a0 1 = .int z0 ∧ (z0.toInt = zfxc5_0_0.toInt + 4)))) (As := [.int x2]) (rest := []) ⟨hx, hb, hml, hown, hB⟩ (fun sz => tX12_feeds_vG l D cs a0 x2 zfxc5_0_0 hm0 hk0 hzfxc5_0_0 (by  omega) sz) cg_12_167_X12_feeds rfl rfl (by decide +kernel) ⟨Nat.le_of_ble_eq_true rfl, Nat.le_of_ble_eq_true rfl⟩ hK hN TH hS hA rfl hm0 hk0 (by decide) rfl hl.1 rfl (Nat.le_of_ble_eq_true rfl) dX12_feed_22 ⟨Nat.le_of_ble_eq_true rfl, Nat.le_of_ble_eq_true rfl⟩ (fun v6 kp6 L6 E6 H locs hq6 hx6 TH hS => ?_)
    obtain ⟨rfl, rfl, rfl, hst6, hpoxc7_0, ⟨zfxc7_0_0, hzfxc7_0_0, hzpxc7_0⟩⟩ := hq6
    have hF := hF.tr hst6 (fun _ h => ⟨h, rfl⟩) (by decide) (by decide)
    obtain ⟨qzfxc7_0_0, hqzfxc7_0_0, hqzfxc7_0_0a, hqzfxc7_0_0b⟩ := tw_rd TH hm0 hk0 (by decide) (by decide) (k := 1) rfl
    have eqzfxc7_0_0 : qzfxc7_0_0 = zfxc7_0_0 := by have q := hqzfxc7_0_0.symm.trans hzfxc7_0_0; injection q
    rw [eqzfxc7_0_0] at hqzfxc7_0_0a hqzfxc7_0_0b
    refine W.eq (g2 := F0 m 25 ls []) rfl ?_
    refine lv_aload_n hx hb dX12_feed_25 rfl (lv_at hl 0 rfl) ?_
    refine lv_iload_n hx hb dX12_feed_26 rfl (lv_at hl 3 rfl) ?_
    refine tw_Vc (o := a0) (ci := 12) (n := 1) (post := (fun v kq Lq Eq => v = none ∧ kp = kq ∧ L = Lq ∧ tw_fr kp L [(12, 1)] [300] E6 Eq ∧ (∀ i : Nat, tw_el Eq a0 0 i = fd_ (by_r x3.toInt) (tw_el E6 a0 0) zfxc7_0_0.toInt (zfxc7_0_0.toInt + 4) i) ∧ (∃ z0 : Int32, tw_fv Eq a0 1 = .int z0 ∧ (z0.toInt = zfxc7_0_0.toInt + 4)))) (As := [.int x3]) (rest := []) ⟨hx, hb, hml, hown, hB⟩ (fun sz => tX12_feeds_vG l D cs a0 x3 zfxc7_0_0 hm0 hk0 hzfxc7_0_0 (by  omega) sz) cg_12_167_X12_feeds rfl rfl (by decide +kernel) ⟨Nat.le_of_ble_eq_true rfl, Nat.le_of_ble_eq_true rfl⟩ hK hN TH hS hA rfl hm0 hk0 (by decide) rfl hl.1 rfl (Nat.le_of_ble_eq_true rfl) dX12_feed_27 ⟨Nat.le_of_ble_eq_true rfl, Nat.le_of_ble_eq_true rfl⟩ (fun v8 kp8 L8 E8 H locs hq8 hx8 TH hS => ?_)
    obtain ⟨rfl, rfl, rfl, hst8, hpoxc9_0, ⟨zfxc9_0_0, hzfxc9_0_0, hzpxc9_0⟩⟩ := hq8
    have hF := hF.tr hst8 (fun _ h => ⟨h, rfl⟩) (by decide) (by decide)
    obtain ⟨qzfxc9_0_0, hqzfxc9_0_0, hqzfxc9_0_0a, hqzfxc9_0_0b⟩ := tw_rd TH hm0 hk0 (by decide) (by decide) (k := 1) rfl
    have eqzfxc9_0_0 : qzfxc9_0_0 = zfxc9_0_0 := by have q := hqzfxc9_0_0.symm.trans hzfxc9_0_0; injection q
    rw [eqzfxc9_0_0] at hqzfxc9_0_0a hqzfxc9_0_0b
    refine W.eq (g2 := F0 m 30 ls []) rfl ?_
    refine lv_aload_n hx hb dX12_feed_30 rfl (lv_at hl 0 rfl) ?_
    refine lv_iload hx hb dX12_feed_31 (lv_at hl 4 rfl) ?_
    refine tw_Vc (o := a0) (ci := 12) (n := 1) (post := (fun v kq Lq Eq => v = none ∧ kp = kq ∧ L = Lq ∧ tw_fr kp L [(12, 1)] [300] E8 Eq ∧ (∀ i : Nat, tw_el Eq a0 0 i = fd_ (by_r x4.toInt) (tw_el E8 a0 0) zfxc9_0_0.toInt (zfxc9_0_0.toInt + 4) i) ∧ (∃ z0 : Int32, tw_fv Eq a0 1 = .int z0 ∧ (z0.toInt = zfxc9_0_0.toInt + 4)))) (As := [.int x4]) (rest := []) ⟨hx, hb, hml, hown, hB⟩ (fun sz => tX12_feeds_vG l D cs a0 x4 zfxc9_0_0 hm0 hk0 hzfxc9_0_0 (by  omega) sz) cg_12_167_X12_feeds rfl rfl (by decide +kernel) ⟨Nat.le_of_ble_eq_true rfl, Nat.le_of_ble_eq_true rfl⟩ hK hN TH hS hA rfl hm0 hk0 (by decide) rfl hl.1 rfl (Nat.le_of_ble_eq_true rfl) dX12_feed_33 ⟨Nat.le_of_ble_eq_true rfl, Nat.le_of_ble_eq_true rfl⟩ (fun v10 kp10 L10 E10 H locs hq10 hx10 TH hS => ?_)
    obtain ⟨rfl, rfl, rfl, hst10, hpoxc11_0, ⟨zfxc11_0_0, hzfxc11_0_0, hzpxc11_0⟩⟩ := hq10
    have hF := hF.tr hst10 (fun _ h => ⟨h, rfl⟩) (by decide) (by decide)
    obtain ⟨qzfxc11_0_0, hqzfxc11_0_0, hqzfxc11_0_0a, hqzfxc11_0_0b⟩ := tw_rd TH hm0 hk0 (by decide) (by decide) (k := 1) rfl
    have eqzfxc11_0_0 : qzfxc11_0_0 = zfxc11_0_0 := by have q := hqzfxc11_0_0.symm.trans hzfxc11_0_0; injection q
    rw [eqzfxc11_0_0] at hqzfxc11_0_0a hqzfxc11_0_0b
    refine W.eq (g2 := F0 m 36 ls []) rfl ?_
    refine lv_aload_n hx hb dX12_feed_36 rfl (lv_at hl 0 rfl) ?_
    refine lv_iload hx hb dX12_feed_37 (lv_at hl 5 rfl) ?_
    refine tw_Vc (o := a0) (ci := 12) (n := 1) (post := (fun v kq Lq Eq => v = none ∧ kp = kq ∧ L = Lq ∧ tw_fr kp L [(12, 1)] [300] E10 Eq ∧ (∀ i : Nat, tw_el Eq a0 0 i = fd_ (by_r x5.toInt) (tw_el E10 a0 0) zfxc11_0_0.toInt (zfxc11_0_0.toInt + 4) i) ∧ (∃ z0 : Int32, tw_fv Eq a0 1 = .int z0 ∧ (z0.toInt = zfxc11_0_0.toInt + 4)))) (As := [.int x5]) (rest := []) ⟨hx, hb, hml, hown, hB⟩ (fun sz => tX12_feeds_vG l D cs a0 x5 zfxc11_0_0 hm0 hk0 hzfxc11_0_0 (by  omega) sz) cg_12_167_X12_feeds rfl rfl (by decide +kernel) ⟨Nat.le_of_ble_eq_true rfl, Nat.le_of_ble_eq_true rfl⟩ hK hN TH hS hA rfl hm0 hk0 (by decide) rfl hl.1 rfl (Nat.le_of_ble_eq_true rfl) dX12_feed_39 ⟨Nat.le_of_ble_eq_true rfl, Nat.le_of_ble_eq_true rfl⟩ (fun v12 kp12 L12 E12 H locs hq12 hx12 TH hS => ?_)
    obtain ⟨rfl, rfl, rfl, hst12, hpoxc13_0, ⟨zfxc13_0_0, hzfxc13_0_0, hzpxc13_0⟩⟩ := hq12
    have hF := hF.tr hst12 (fun _ h => ⟨h, rfl⟩) (by decide) (by decide)
    obtain ⟨qzfxc13_0_0, hqzfxc13_0_0, hqzfxc13_0_0a, hqzfxc13_0_0b⟩ := tw_rd TH hm0 hk0 (by decide) (by decide) (k := 1) rfl
    have eqzfxc13_0_0 : qzfxc13_0_0 = zfxc13_0_0 := by have q := hqzfxc13_0_0.symm.trans hzfxc13_0_0; injection q
    rw [eqzfxc13_0_0] at hqzfxc13_0_0a hqzfxc13_0_0b
    refine W.eq (g2 := F0 m 42 ls []) rfl ?_
    refine lv_aload_n hx hb dX12_feed_42 rfl (lv_at hl 0 rfl) ?_
    refine tw_get (ci := 12) (C := RX12) (T := TX12) (N := 64) hx hb hB cx_inX12 hown hK TH hm0 hk0 rfl ⟨by decide, rfl⟩ 1 (by decide) cw_1194 (fun _ h9 => h9) dX12_feed_43 (fun hv => ?_)
    rw [hzfxc13_0_0]
    exact tw_iret hx hb hr hlocks TH hS hex ⟨⟨_, rfl, (by  intro _; exact ⟨by rw [tw_fi_of hzfxc13_0_0]; omega, fd5_of hpoxc5_0 hpoxc7_0 hpoxc9_0 hpoxc11_0 hpoxc13_0 (by omega) (by omega) (by omega) (by omega)⟩), (by  intro q; exfalso; omega)⟩, rfl, rfl, hF⟩ (Nat.le_of_ble_eq_true rfl) (Nat.le_of_ble_eq_true rfl) dX12_feed_46
  · have hf14 : ¬ (zi1.toInt ≤ 500) := fun q => hc2 ((fa_le _ _).mpr (by have : ((500 : Int32).toInt) = 500 := (by decide); omega))
    refine lv_iconst (v := (-1)) hx hb dX12_feed_13 (by decide) ?_
    exact tw_iret hx hb hr hlocks TH hS hex ⟨⟨_, rfl, (by have : (((-1) : Int32).toInt) = (-1) := (by decide); intro q; exfalso; omega), (by have : (((-1) : Int32).toInt) = (-1) := (by decide); intro _; exact ⟨tw_fi_of hfv0_1, rfl⟩)⟩, rfl, rfl, hF⟩ (Nat.le_of_ble_eq_true rfl) (Nat.le_of_ble_eq_true rfl) dX12_feed_14
set_option maxHeartbeats 4000000 in
set_option maxRecDepth 100000 in
theorem tX12_in_vG (l : Launch) (D : va_G) (cs : Nat → ClassId) {kp : Nat → Nat} {L : List Nat} {E : Nat → va_E} (x0 : Int64) (x1 : Int64) (x2 : Int64)  (sz : Nat) : Met l yX12_in (.code yX12_in cX12_in 6 (some .boolean) :: cx_big) { frames := 0, cells := 0, slots := 0, locals := 0 } (tw_P D cs kp L E [.long x0, .long x1, .long x2] sz) (tw_Q D cs kp L (fun v kq Lq Eq => (∃ x : Int32, v = some (.int x) ∧ 0 ≤ x.toInt ∧ x.toInt ≤ 1 ∧ (x.toInt ≠ 0 ↔ x1.toInt ≤ x0.toInt ∧ x0.toInt ≤ x2.toInt)) ∧ kp = kq ∧ L = Lq ∧ E = Eq) (va_A (va_pl L E) sz)) 0 0 (va_A (va_pl L E) sz) := by
  refine tw_ofW (by decide) (Nat.le_of_ble_eq_true rfl) ?_
  intro p e s m below meth c A ls hx hb hr hml hB hown hlocks hK hN hA TH hS hl
  have hown : s.vm.findClass "TreeMergeModel" = some m.cls := hown
  have hl : lv_has ls 6 [(0, .long x0), (2, .long x1), (4, .long x2)] := hl
  obtain ⟨kp0, ekp⟩ : ∃ z, z = kp := ⟨_, rfl⟩
  obtain ⟨L0, eL⟩ : ∃ z, z = L := ⟨_, rfl⟩
  rw [show tw_Q D cs kp L = tw_Q D cs kp0 L0 by rw [ekp, eL]]
  have hex : ∀ a : Nat, a ∈ L0 → a ∈ L ∧ kp a = kp0 a := fun a h => ⟨by rw [← eL]; exact h, by rw [ekp]⟩
  refine lv_lload_n hx hb dX12_in_0 rfl (lv_at hl 0 rfl) ?_
  refine lv_lload_n hx hb dX12_in_1 rfl (lv_at hl 1 rfl) ?_
  refine W.lcmp hx hb dX12_in_2 ?_
  have hzi1 := ia_lc x0 x1
  generalize lg_cmp x0 x1 = zi1 at hzi1 ⊢
  refine lv_if_lt (tgt := 17) hx hb dX12_in_3 (by decide) (fun hc2 => ?_) (fun hc2 => ?_)
  · have hf3 : zi1.toInt < 0 := by have z := (fa_lt _ _).mp hc2; have : ((0 : Int32).toInt) = 0 := (by decide); omega
    refine lv_iconst (v := 0) hx hb dX12_in_17 (by decide) ?_
    exact tw_zret hx hb hr hlocks (by decide) TH hS hex ⟨⟨_, rfl, (show 0 ≤ Int32.toInt 0 from by have : ((0 : Int32).toInt) = 0 := (by decide); omega), (show Int32.toInt 0 ≤ 1 from by have : ((0 : Int32).toInt) = 0 := (by decide); omega), (by have : ((0 : Int32).toInt) = 0 := (by decide); omega)⟩, rfl, rfl, rfl⟩ (Nat.le_of_ble_eq_true rfl) (Nat.le_of_ble_eq_true rfl) dX12_in_18
  · have hf4 : ¬ (zi1.toInt < 0) := fun q => hc2 ((fa_lt _ _).mpr (by have : ((0 : Int32).toInt) = 0 := (by decide); omega))
    refine lv_lload_n hx hb dX12_in_6 rfl (lv_at hl 0 rfl) ?_
    refine lv_lload hx hb dX12_in_7 (lv_at hl 2 rfl) ?_
    refine W.lcmp hx hb dX12_in_9 ?_
    have hzi5 := ia_lc x0 x2
    generalize lg_cmp x0 x2 = zi5 at hzi5 ⊢
    refine lv_if_gt (tgt := 17) hx hb dX12_in_10 (by decide) (fun hc6 => ?_) (fun hc6 => ?_)
    · have hf7 : 0 < zi5.toInt := by have z := (fa_lt _ _).mp hc6; have : ((0 : Int32).toInt) = 0 := (by decide); omega
      refine lv_iconst (v := 0) hx hb dX12_in_17 (by decide) ?_
      exact tw_zret hx hb hr hlocks (by decide) TH hS hex ⟨⟨_, rfl, (show 0 ≤ Int32.toInt 0 from by have : ((0 : Int32).toInt) = 0 := (by decide); omega), (show Int32.toInt 0 ≤ 1 from by have : ((0 : Int32).toInt) = 0 := (by decide); omega), (by have : ((0 : Int32).toInt) = 0 := (by decide); omega)⟩, rfl, rfl, rfl⟩ (Nat.le_of_ble_eq_true rfl) (Nat.le_of_ble_eq_true rfl) dX12_in_18
    · have hf8 : ¬ (0 < zi5.toInt) := fun q => hc6 ((fa_lt _ _).mpr (by have : ((0 : Int32).toInt) = 0 := (by decide); omega))
      refine lv_iconst (v := 1) hx hb dX12_in_13 (by decide) ?_
      refine lv_goto (tgt := 18) hx hb dX12_in_14 (by decide) ?_
      exact tw_zret hx hb hr hlocks (by decide) TH hS hex ⟨⟨_, rfl, (show 0 ≤ Int32.toInt 1 from by have : ((1 : Int32).toInt) = 1 := (by decide); omega), (show Int32.toInt 1 ≤ 1 from by have : ((1 : Int32).toInt) = 1 := (by decide); omega), (by have : ((1 : Int32).toInt) = 1 := (by decide); omega)⟩, rfl, rfl, rfl⟩ (Nat.le_of_ble_eq_true rfl) (Nat.le_of_ble_eq_true rfl) dX12_in_18
set_option maxHeartbeats 4000000 in
set_option maxRecDepth 100000 in
theorem tX12_end_vG (l : Launch) (D : va_G) (cs : Nat → ClassId) {kp : Nat → Nat} {L : List Nat} {E : Nat → va_E} (a0 : Nat) (x1 : Int32) (fv0_1 : Int32) (hm0 : a0 ∈ L) (hk0 : kp a0 = 12) (hfv0_1 : tw_fv E a0 1 = .int fv0_1) (sz : Nat) : Met l yX12_end (.code yX12_end cX12_end 2 (some .boolean) :: cx_big) { frames := 1, cells := 0, slots := 0, locals := 25 } (tw_P D cs kp L E [.ref a0, .int x1] sz) (tw_Q D cs kp L (fun v kq Lq Eq => (∃ x : Int32, v = some (.int x) ∧ 0 ≤ x.toInt ∧ x.toInt ≤ 1 ∧ ((0 ≤ x1.toInt ∧ x1.toInt ≤ fv0_1.toInt → tw_fi Eq a0 1 = x1.toInt) ∧ (¬ (0 ≤ x1.toInt ∧ x1.toInt ≤ fv0_1.toInt) → tw_fi Eq a0 1 = fv0_1.toInt))) ∧ kp = kq ∧ L = Lq ∧ tw_fr kp L [(12, 1)] [] E Eq) (va_A (va_pl L E) sz)) 0 0 (va_A (va_pl L E) sz) := by
  refine tw_ofW (by decide) (Nat.le_of_ble_eq_true rfl) ?_
  intro p e s m below meth c A ls hx hb hr hml hB hown hlocks hK hN hA TH hS hl
  have hown : s.vm.findClass "TreeMergeModel" = some m.cls := hown
  have hl : lv_has ls 2 [(0, .ref a0), (1, .int x1)] := hl
  obtain ⟨kp0, ekp⟩ : ∃ z, z = kp := ⟨_, rfl⟩
  obtain ⟨L0, eL⟩ : ∃ z, z = L := ⟨_, rfl⟩
  rw [show tw_Q D cs kp L = tw_Q D cs kp0 L0 by rw [ekp, eL]]
  have hex : ∀ a : Nat, a ∈ L0 → a ∈ L ∧ kp a = kp0 a := fun a h => ⟨by rw [← eL]; exact h, by rw [ekp]⟩
  have hF : tw_fr kp L [(12, 1)] [] E E := tw_fr.rf
  obtain ⟨qfv0_1, hqfv0_1, hqfv0_1a, hqfv0_1b⟩ := tw_rd TH hm0 hk0 (by decide) (by decide) (k := 1) rfl
  have eqfv0_1 : qfv0_1 = fv0_1 := by have q := hqfv0_1.symm.trans hfv0_1; injection q
  rw [eqfv0_1] at hqfv0_1a hqfv0_1b
  refine lv_iload_n hx hb dX12_end_0 rfl (lv_at hl 1 rfl) ?_
  refine lv_i2l (v := (x1).toInt64) hx hb dX12_end_1 rfl ?_
  refine tw_topl (fun zl1 ezl1 => ?_)
  have hzl1 : zl1.toInt = x1.toInt := by rw [ezl1];  exact (Int32.toInt_toInt64 _)
  refine lv_lconst (v := 0) hx hb dX12_end_2 (by decide) ?_
  refine tw_topl (fun zl2 ezl2 => ?_)
  have hzl2 : zl2.toInt = 0 := by rw [ezl2]; decide
  refine lv_aload_n hx hb dX12_end_3 rfl (lv_at hl 0 rfl) ?_
  refine tw_get (ci := 12) (C := RX12) (T := TX12) (N := 64) hx hb hB cx_inX12 hown hK TH hm0 hk0 rfl ⟨by decide, rfl⟩ 1 (by decide) cw_1194 (fun _ h9 => h9) dX12_end_4 (fun hv => ?_)
  rw [hfv0_1]
  refine lv_i2l (v := (fv0_1).toInt64) hx hb dX12_end_7 rfl ?_
  refine tw_topl (fun zl3 ezl3 => ?_)
  have hzl3 : zl3.toInt = fv0_1.toInt := by rw [ezl3];  exact (Int32.toInt_toInt64 _)
  refine tw_Sc (n := 3) (post := (fun v kq Lq Eq => (∃ x : Int32, v = some (.int x) ∧ 0 ≤ x.toInt ∧ x.toInt ≤ 1 ∧ (x.toInt ≠ 0 ↔ zl2.toInt ≤ zl1.toInt ∧ zl1.toInt ≤ zl3.toInt)) ∧ kp = kq ∧ L = Lq ∧ E = Eq)) (As := [.long zl1, .long zl2, .long zl3]) (rest := []) ⟨hx, hb, hml, hown, hB⟩ (fun sz => tX12_in_vG l D cs zl1 zl2 zl3  sz) cg_12_171_X12_in rfl rfl (by decide +kernel) ⟨Nat.le_of_ble_eq_true rfl, Nat.le_of_ble_eq_true rfl⟩ hK hN TH hS hA rfl hl.1 rfl (Nat.le_of_ble_eq_true rfl) dX12_end_8 ⟨Nat.le_of_ble_eq_true rfl, Nat.le_of_ble_eq_true rfl⟩ (fun v4 kp4 L4 E4 H locs hq4 hx4 TH hS => ?_)
  obtain ⟨⟨xc5, rfl, hxc5a, hxc5b, hpoxc5_0⟩, rfl, rfl, rfl⟩ := hq4
  refine W.eq (g2 := F0 m 11 ls [.int xc5]) rfl ?_
  refine lv_if_ne (tgt := 16) hx hb dX12_end_11 (by decide) (fun hc6 => ?_) (fun hc6 => ?_)
  · have hf7 : ¬ (xc5.toInt = 0) := fun q => hc6 ((fa_eq _ _).mpr (by have : ((0 : Int32).toInt) = 0 := (by decide); omega))
    refine lv_aload_n hx hb dX12_end_16 rfl (lv_at hl 0 rfl) ?_
    refine lv_iload_n hx hb dX12_end_17 rfl (lv_at hl 1 rfl) ?_
    refine tw_put (ci := 12) (v := .int x1) (ty := .int) (C := RX12) (T := TX12) (N := 64) hx hb hB cx_inX12 tyX12 tyX12_ok nmX12 hown hK TH hS hm0 hk0 rfl ⟨by decide, rfl⟩ 1 (by decide) cw_1194 (fun _ h9 => h9) rfl (by decide +kernel) rfl rfl ⟨_, rfl, (show 0 ≤ Int32.toInt x1 from by  omega), (show Int32.toInt x1 ≤ 500 from by  omega)⟩ dX12_end_18 (fun H locs E8 TH hS hmf12 hp9 hp10 => ?_)
    have hst11 : tw_fr kp L [(12, 1)] [] E E8 := tw_fr.put tw_fr.rf (fun _ => hk0) (by decide) hp9 hp10 (by decide)
    have hF := hF.tr hst11 (fun _ h => ⟨h, rfl⟩) (by decide) (by decide)
    refine lv_iconst (v := 1) hx hb dX12_end_21 (by decide) ?_
    exact tw_zret hx hb hr hlocks (by decide) TH hS hex ⟨⟨_, rfl, (show 0 ≤ Int32.toInt 1 from by have : ((1 : Int32).toInt) = 1 := (by decide); omega), (show Int32.toInt 1 ≤ 1 from by have : ((1 : Int32).toInt) = 1 := (by decide); omega), (by have : ((1 : Int32).toInt) = 1 := (by decide); rw [tw_fi_of hmf12]; exact ⟨fun q => (by omega), fun q => (by omega)⟩)⟩, rfl, rfl, hF⟩ (Nat.le_of_ble_eq_true rfl) (Nat.le_of_ble_eq_true rfl) dX12_end_22
  · have hf13 : xc5.toInt = 0 := by have z := (fa_eq _ _).mp hc6; have : ((0 : Int32).toInt) = 0 := (by decide); omega
    refine lv_iconst (v := 0) hx hb dX12_end_14 (by decide) ?_
    exact tw_zret hx hb hr hlocks (by decide) TH hS hex ⟨⟨_, rfl, (show 0 ≤ Int32.toInt 0 from by have : ((0 : Int32).toInt) = 0 := (by decide); omega), (show Int32.toInt 0 ≤ 1 from by have : ((0 : Int32).toInt) = 0 := (by decide); omega), (by have : ((0 : Int32).toInt) = 0 := (by decide); rw [tw_fi_of hfv0_1]; exact ⟨fun q => (by omega), fun q => (by omega)⟩)⟩, rfl, rfl, hF⟩ (Nat.le_of_ble_eq_true rfl) (Nat.le_of_ble_eq_true rfl) dX12_end_15
set_option maxHeartbeats 4000000 in
set_option maxRecDepth 100000 in
theorem tX12_unsettle_vG (l : Launch) (D : va_G) (cs : Nat → ClassId) {kp : Nat → Nat} {L : List Nat} {E : Nat → va_E} (a0 : Nat) (hm0 : a0 ∈ L) (hk0 : kp a0 = 12) (sz : Nat) : Met l yX12_unsettle (.code yX12_unsettle cX12_unsettle 2 (some .int) :: cx_big) { frames := 0, cells := 0, slots := 0, locals := 0 } (tw_P D cs kp L E [.ref a0] sz) (tw_Q D cs kp L (fun v kq Lq Eq => (∃ x : Int32, v = some (.int x) ∧ sd_ok Eq a0) ∧ kp = kq ∧ L = Lq ∧ tw_fr kp L [(12, 58)] [] E Eq) (va_A (va_pl L E) sz)) 0 0 (va_A (va_pl L E) sz) := by
  refine tw_ofW (by decide) (Nat.le_of_ble_eq_true rfl) ?_
  intro p e s m below meth c A ls hx hb hr hml hB hown hlocks hK hN hA TH hS hl
  have hown : s.vm.findClass "TreeMergeModel" = some m.cls := hown
  have hl : lv_has ls 2 [(0, .ref a0)] := hl
  obtain ⟨kp0, ekp⟩ : ∃ z, z = kp := ⟨_, rfl⟩
  obtain ⟨L0, eL⟩ : ∃ z, z = L := ⟨_, rfl⟩
  rw [show tw_Q D cs kp L = tw_Q D cs kp0 L0 by rw [ekp, eL]]
  have hex : ∀ a : Nat, a ∈ L0 → a ∈ L ∧ kp a = kp0 a := fun a h => ⟨by rw [← eL]; exact h, by rw [ekp]⟩
  have hF : tw_fr kp L [(12, 58)] [] E E := tw_fr.rf
  refine lv_aload_n hx hb dX12_unsettle_0 rfl (lv_at hl 0 rfl) ?_
  refine tw_get (ci := 12) (C := RX12) (T := TX12) (N := 64) hx hb hB cx_inX12 hown hK TH hm0 hk0 rfl ⟨by decide, rfl⟩ 58 (by decide) cw_1251 (fun _ h9 => h9) dX12_unsettle_1 (fun hv => ?_)
  obtain ⟨xi1, hxi1, hxi1a, hxi1b⟩ : ∃ x : Int32, tw_fv E a0 58 = .int x ∧ 0 ≤ x.toInt ∧ x.toInt ≤ 450 := hv
  rw [hxi1]
  refine lv_istore_n (lv' := [(1, .int xi1), (0, .ref a0)]) hx hb dX12_unsettle_4 rfl hl (by decide) rfl (fun ls hl => ?_)
  refine lv_aload_n hx hb dX12_unsettle_5 rfl (lv_at hl 1 rfl) ?_
  refine lv_iconst (v := 0) hx hb dX12_unsettle_6 (by decide) ?_
  refine tw_put (ci := 12) (v := .int 0) (ty := .int) (C := RX12) (T := TX12) (N := 64) hx hb hB cx_inX12 tyX12 tyX12_ok nmX12 hown hK TH hS hm0 hk0 rfl ⟨by decide, rfl⟩ 58 (by decide) cw_1251 (fun _ h9 => h9) rfl (by decide +kernel) rfl rfl ⟨_, rfl, (show 0 ≤ Int32.toInt 0 from by have : ((0 : Int32).toInt) = 0 := (by decide); omega), (show Int32.toInt 0 ≤ 450 from by have : ((0 : Int32).toInt) = 0 := (by decide); omega)⟩ dX12_unsettle_7 (fun H locs E2 TH hS hmf6 hp3 hp4 => ?_)
  have hst5 : tw_fr kp L [(12, 58)] [] E E2 := tw_fr.put tw_fr.rf (fun _ => hk0) (by decide) hp3 hp4 (by decide)
  have hF := hF.tr hst5 (fun _ h => ⟨h, rfl⟩) (by decide) (by decide)
  have hgn7 : sd_ok E2 a0 := sd_none (by rw [tw_fi_of hmf6]; decide)
  refine lv_iload_n hx hb dX12_unsettle_10 rfl (lv_at hl 0 rfl) ?_
  exact tw_iret hx hb hr hlocks TH hS hex ⟨⟨_, rfl, hgn7⟩, rfl, rfl, hF⟩ (Nat.le_of_ble_eq_true rfl) (Nat.le_of_ble_eq_true rfl) dX12_unsettle_11
set_option maxHeartbeats 4000000 in
set_option maxRecDepth 100000 in
theorem tX12_first_vG (l : Launch) (D : va_G) (cs : Nat → ClassId) {kp : Nat → Nat} {L : List Nat} {E : Nat → va_E} (a0 : Nat) (fv0_14 : Int32) (fv0_1 : Int32) (hm0 : a0 ∈ L) (hk0 : kp a0 = 12) (hfv0_14 : tw_fv E a0 14 = .int fv0_14) (hfv0_1 : tw_fv E a0 1 = .int fv0_1) (hg0 : rd_ok E a0) (hg1 : eo_ok E a0) (hg2 : ht_ok E a0) (hg3 : dr_ok E a0) (hg4 : ln_ok E a0) (hg5 : dl_ok E a0) (hg6 : fw_ok E a0) (hg7 : kg_ok E a0) (sz : Nat) : Met l yX12_first (.code yX12_first cX12_first 2 (some .int) :: cx_big) { frames := 16, cells := 0, slots := 0, locals := 387 } (tw_P D cs kp L E [.ref a0] sz) (tw_Q D cs kp L (fun v kq Lq Eq => (∃ x : Int32, v = some (.int x) ∧ (-1) ≤ x.toInt ∧ x.toInt ≤ 11 ∧ (fv0_14.toInt = 0 → tw_fi Eq a0 1 = fv0_1.toInt) ∧ rd_ok Eq a0 ∧ eo_ok Eq a0 ∧ ht_ok Eq a0 ∧ dr_ok Eq a0 ∧ ln_ok Eq a0 ∧ dl_ok Eq a0 ∧ fw_ok Eq a0 ∧ kg_ok Eq a0) ∧ kp = kq ∧ L = Lq ∧ tw_fr kp L [(12, 1), (12, 2), (12, 3), (12, 4), (12, 26), (12, 27), (12, 28)] [326, 327, 328, 329, 330, 331, 332, 334, 335, 343, 344, 345, 346, 347, 348, 349, 353] E Eq) (va_A (va_pl L E) sz)) 0 0 (va_A (va_pl L E) sz) := by
  refine tw_ofW (by decide) (Nat.le_of_ble_eq_true rfl) ?_
  intro p e s m below meth c A ls hx hb hr hml hB hown hlocks hK hN hA TH hS hl
  have hown : s.vm.findClass "TreeMergeModel" = some m.cls := hown
  have hl : lv_has ls 2 [(0, .ref a0)] := hl
  obtain ⟨kp0, ekp⟩ : ∃ z, z = kp := ⟨_, rfl⟩
  obtain ⟨L0, eL⟩ : ∃ z, z = L := ⟨_, rfl⟩
  rw [show tw_Q D cs kp L = tw_Q D cs kp0 L0 by rw [ekp, eL]]
  have hex : ∀ a : Nat, a ∈ L0 → a ∈ L ∧ kp a = kp0 a := fun a h => ⟨by rw [← eL]; exact h, by rw [ekp]⟩
  have hF : tw_fr kp L [(12, 1), (12, 2), (12, 3), (12, 4), (12, 26), (12, 27), (12, 28)] [326, 327, 328, 329, 330, 331, 332, 334, 335, 343, 344, 345, 346, 347, 348, 349, 353] E E := tw_fr.rf
  obtain ⟨qfv0_14, hqfv0_14, hqfv0_14a, hqfv0_14b⟩ := tw_rd TH hm0 hk0 (by decide) (by decide) (k := 14) rfl
  have eqfv0_14 : qfv0_14 = fv0_14 := by have q := hqfv0_14.symm.trans hfv0_14; injection q
  rw [eqfv0_14] at hqfv0_14a hqfv0_14b
  obtain ⟨qfv0_1, hqfv0_1, hqfv0_1a, hqfv0_1b⟩ := tw_rd TH hm0 hk0 (by decide) (by decide) (k := 1) rfl
  have eqfv0_1 : qfv0_1 = fv0_1 := by have q := hqfv0_1.symm.trans hfv0_1; injection q
  rw [eqfv0_1] at hqfv0_1a hqfv0_1b
  refine lv_aload_n hx hb dX12_first_0 rfl (lv_at hl 0 rfl) ?_
  obtain ⟨xi1, hxi1, hxi1a, hxi1b⟩ := tw_rd TH hm0 hk0 (by decide) (by decide) (k := 27) rfl
  refine tw_Vc (o := a0) (ci := 12) (n := 0) (post := (fun v kq Lq Eq => (∃ x : Int32, v = some (.int x) ∧ 0 ≤ x.toInt ∧ x.toInt ≤ 1 ∧ (x.toInt ≠ 0 → xi1.toInt ≤ 11 ∧ fv0_14.toInt ≠ 0) ∧ (x.toInt ≠ 0 → tt_ok Eq a0) ∧ rd_ok Eq a0 ∧ eo_ok Eq a0 ∧ ht_ok Eq a0 ∧ dr_ok Eq a0 ∧ ln_ok Eq a0 ∧ dl_ok Eq a0 ∧ fw_ok Eq a0 ∧ kg_ok Eq a0) ∧ kp = kq ∧ L = Lq ∧ tw_fr kp L [(12, 2), (12, 3), (12, 4), (12, 28)] [326, 327, 328, 329, 332, 343, 344, 345, 346, 347, 348, 349] E Eq)) (As := []) (rest := []) ⟨hx, hb, hml, hown, hB⟩ (fun sz => tX12_canCome l D cs a0 xi1 fv0_14 hm0 hk0 hxi1 hfv0_14 hg0 hg1 hg2 hg3 hg4 hg5 hg6 hg7 sz) cg_12_348_X12_canCome rfl rfl (by decide +kernel) ⟨Nat.le_of_ble_eq_true rfl, Nat.le_of_ble_eq_true rfl⟩ hK hN TH hS hA rfl hm0 hk0 (by decide) rfl hl.1 rfl (Nat.le_of_ble_eq_true rfl) dX12_first_1 ⟨Nat.le_of_ble_eq_true rfl, Nat.le_of_ble_eq_true rfl⟩ (fun v2 kp2 L2 E2 H locs hq2 hx2 TH hS => ?_)
  obtain ⟨⟨xc3, rfl, hxc3a, hxc3b, hpoxc3_0, hpoxc3_1, hgpxc3_0, hgpxc3_1, hgpxc3_2, hgpxc3_3, hgpxc3_4, hgpxc3_5, hgpxc3_6, hgpxc3_7⟩, rfl, rfl, hst2⟩ := hq2
  have hF := hF.tr hst2 (fun _ h => ⟨h, rfl⟩) (by decide) (by decide)
  have hmf4 : tw_fv E2 a0 14 = .int fv0_14 := (hst2.1 a0 14 hm0 (by rw [hk0]; decide)).trans hfv0_14
  have hmf5 : tw_fv E2 a0 1 = .int fv0_1 := (hst2.1 a0 1 hm0 (by rw [hk0]; decide)).trans hfv0_1
  have hmf6 : tw_fv E2 a0 27 = .int xi1 := (hst2.1 a0 27 hm0 (by rw [hk0]; decide)).trans hxi1
  refine W.eq (g2 := F0 m 4 ls [.int xc3]) rfl ?_
  refine lv_if_eq (tgt := 22) hx hb dX12_first_4 (by decide) (fun hc7 => ?_) (fun hc7 => ?_)
  · have hf8 : xc3.toInt = 0 := by have z := (fa_eq _ _).mp hc7; have : ((0 : Int32).toInt) = 0 := (by decide); omega
    refine lv_iconst (v := (-1)) hx hb dX12_first_22 (by decide) ?_
    exact tw_iret hx hb hr hlocks TH hS hex ⟨⟨_, rfl, (show (-1) ≤ Int32.toInt (-1) from by have : (((-1) : Int32).toInt) = (-1) := (by decide); omega), (show Int32.toInt (-1) ≤ 11 from by have : (((-1) : Int32).toInt) = (-1) := (by decide); omega), (by have : (((-1) : Int32).toInt) = (-1) := (by decide); intro _; exact tw_fi_of hmf5), hgpxc3_0, hgpxc3_1, hgpxc3_2, hgpxc3_3, hgpxc3_4, hgpxc3_5, hgpxc3_6, hgpxc3_7⟩, rfl, rfl, hF⟩ (Nat.le_of_ble_eq_true rfl) (Nat.le_of_ble_eq_true rfl) dX12_first_23
  · have hf9 : ¬ (xc3.toInt = 0) := fun q => hc7 ((fa_eq _ _).mpr (by have : ((0 : Int32).toInt) = 0 := (by decide); omega))
    refine lv_aload_n hx hb dX12_first_7 rfl (lv_at hl 0 rfl) ?_
    refine tw_get (ci := 12) (C := RX12) (T := TX12) (N := 64) hx hb hB cx_inX12 hown hK TH hm0 hk0 rfl ⟨by decide, rfl⟩ 26 (by decide) cw_1219 (fun _ h9 => h9) dX12_first_8 (fun hv => ?_)
    obtain ⟨xi10, hxi10, hxi10a, hxi10b⟩ : ∃ x : Int32, tw_fv E2 a0 26 = .int x ∧ 0 ≤ x.toInt ∧ x.toInt ≤ 150 := hv
    rw [hxi10]
    refine lv_aload_n hx hb dX12_first_11 rfl (lv_at hl 0 rfl) ?_
    refine tw_get (ci := 12) (C := RX12) (T := TX12) (N := 64) hx hb hB cx_inX12 hown hK TH hm0 hk0 rfl ⟨by decide, rfl⟩ 28 (by decide) cw_1221 (fun _ h9 => h9) dX12_first_12 (fun hv => ?_)
    obtain ⟨xi11, hxi11, hxi11a, hxi11b⟩ : ∃ x : Int32, tw_fv E2 a0 28 = .int x ∧ 0 ≤ x.toInt ∧ x.toInt ≤ 24 := hv
    rw [hxi11]
    refine lv_iadd hx hb dX12_first_15 ?_
    refine lv_topi (fun zi12 ezi12 => ?_)
    have hzi12 : zi12.toInt = xi10.toInt + xi11.toInt := by rw [ezi12];  have := ia_lo xi10; have := ia_hi xi10; have := ia_lo xi11; have := ia_hi xi11; exact (ia_add (by omega) (by omega)).trans (by omega)
    refine lv_sipush (v := 150) hx hb dX12_first_16 (by decide) ?_
    refine lv_icmp_le (tgt := 24) hx hb dX12_first_19 (by decide) (fun hc13 => ?_) (fun hc13 => ?_)
    · have hf14 : zi12.toInt ≤ 150 := by have z := (fa_le _ _).mp hc13; have : ((150 : Int32).toInt) = 150 := (by decide); omega
      have htt24 : tt_ok E2 a0 := hpoxc3_1 (by omega)
      have hn44 : n44_ok E2 a0 (0) := fun j hj => absurd hj (by omega)
      have hcc := hpoxc3_0 (by omega)
      have hcc1 := hcc.1
      refine lv_iconst (v := 0) hx hb dX12_first_24 (by decide) ?_
      refine lv_istore_n (lv' := [(1, .int 0), (0, .ref a0)]) hx hb dX12_first_25 rfl hl (by decide) rfl (fun ls hl => ?_)
      have hJ26 : ∀ (n26 : Nat) (y26_1 : Int32) (Eg26 : Nat → va_E) (H : Heap) (locs : List Loc) (ls : Array Slot), 0 ≤ y26_1.toInt → y26_1.toInt ≤ 24 → (y26_1.toInt ≤ xi11.toInt) → (xi10.toInt + xi11.toInt ≤ 150) → (xi1.toInt ≤ 11) → 24 - y26_1.toInt ≤ (n26 : Int) → tw_fr kp L [] [353] E2 Eg26 → rd_ok Eg26 a0 → eo_ok Eg26 a0 → ht_ok Eg26 a0 → dr_ok Eg26 a0 → ln_ok Eg26 a0 → dl_ok Eg26 a0 → fw_ok Eg26 a0 → kg_ok Eg26 a0 → tt_ok Eg26 a0 → n44_ok Eg26 a0 (y26_1.toInt) → tw_H D cs kp L Eg26 A H → va_S A s.heap H locs → lv_has ls 2 [(1, .int y26_1), (0, .ref a0)] → W p l e { frames := 16, cells := 0, slots := 0, locals := 387 } s m [.ref a0].toArray below meth c H locs 0 0 (MQ below (tw_Q D cs kp0 L0 (fun v kq Lq Eq => (∃ x : Int32, v = some (.int x) ∧ (-1) ≤ x.toInt ∧ x.toInt ≤ 11 ∧ (fv0_14.toInt = 0 → tw_fi Eq a0 1 = fv0_1.toInt) ∧ rd_ok Eq a0 ∧ eo_ok Eq a0 ∧ ht_ok Eq a0 ∧ dr_ok Eq a0 ∧ ln_ok Eq a0 ∧ dl_ok Eq a0 ∧ fw_ok Eq a0 ∧ kg_ok Eq a0) ∧ kp = kq ∧ L = Lq ∧ tw_fr kp L [(12, 1), (12, 2), (12, 3), (12, 4), (12, 26), (12, 27), (12, 28)] [326, 327, 328, 329, 330, 331, 332, 334, 335, 343, 344, 345, 346, 347, 348, 349, 353] E Eq) A) [.ref a0].toArray s 0 0 A) (F0 m 26 ls []) := by
        intro n26
        induction n26 using Nat.strongRecOn with
        | _ n26 ih26 =>
          intro y26_1 Eg26 H locs ls hy26_1a hy26_1b hin26_0 hin26_1 hin26_2 hmeas26 hG26 hcg26_0 hcg26_1 hcg26_2 hcg26_3 hcg26_4 hcg26_5 hcg26_6 hcg26_7 hcg26_8 hcg26_9 TH hS hl
          have hF := hF.tr hG26 (fun _ h => ⟨h, rfl⟩) (by decide) (by decide)
          have hmf15 : tw_fv Eg26 a0 14 = .int fv0_14 := (hG26.1 a0 14 hm0 (by rw [hk0]; decide)).trans hmf4
          have hmf16 : tw_fv Eg26 a0 1 = .int fv0_1 := (hG26.1 a0 1 hm0 (by rw [hk0]; decide)).trans hmf5
          have hmf17 : tw_fv Eg26 a0 27 = .int xi1 := (hG26.1 a0 27 hm0 (by rw [hk0]; decide)).trans hmf6
          have hmf18 : tw_fv Eg26 a0 26 = .int xi10 := (hG26.1 a0 26 hm0 (by rw [hk0]; decide)).trans hxi10
          have hmf19 : tw_fv Eg26 a0 28 = .int xi11 := (hG26.1 a0 28 hm0 (by rw [hk0]; decide)).trans hxi11
          refine lv_iload_n hx hb dX12_first_26 rfl (lv_at hl 0 rfl) ?_
          refine lv_aload_n hx hb dX12_first_27 rfl (lv_at hl 1 rfl) ?_
          refine tw_get (ci := 12) (C := RX12) (T := TX12) (N := 64) hx hb hB cx_inX12 hown hK TH hm0 hk0 rfl ⟨by decide, rfl⟩ 28 (by decide) cw_1221 (fun _ h9 => h9) dX12_first_28 (fun hv => ?_)
          rw [hmf19]
          refine lv_icmp_ge (tgt := 47) hx hb dX12_first_31 (by decide) (fun hc20 => ?_) (fun hc20 => ?_)
          · have hf21 : xi11.toInt ≤ y26_1.toInt := by have z := (fa_le _ _).mp hc20;  omega
            refine lv_aload_n hx hb dX12_first_47 rfl (lv_at hl 1 rfl) ?_
            refine lv_iconst (v := (-1)) hx hb dX12_first_48 (by decide) ?_
            have hk49 := trivial
            refine tw_Vc (o := a0) (ci := 12) (n := 1) (post := (fun v kq Lq Eq => (∃ x : Int32, v = some (.int x) ∧ 0 ≤ x.toInt ∧ x.toInt ≤ 11 ∧ rd_ok Eq a0 ∧ eo_ok Eq a0 ∧ ht_ok Eq a0 ∧ dr_ok Eq a0 ∧ ln_ok Eq a0 ∧ dl_ok Eq a0 ∧ fw_ok Eq a0) ∧ kp = kq ∧ L = Lq ∧ tw_fr kp L [(12, 1), (12, 26), (12, 27)] [326, 327, 328, 329, 330, 331, 334, 335, 353] Eg26 Eq)) (As := [.int (-1)]) (rest := []) ⟨hx, hb, hml, hown, hB⟩ (fun sz => tX12_comes l D cs a0 ((-1) : Int32) xi1 xi10 hm0 hk0 (by have : (((-1) : Int32).toInt) = (-1) := (by decide); omega) (by have : (((-1) : Int32).toInt) = (-1) := (by decide); omega) hmf17 hmf18 (by have : (((-1) : Int32).toInt) = (-1) := (by decide); omega) (by have : (((-1) : Int32).toInt) = (-1) := (by decide); exact Or.inl (by decide)) hcg26_8 (nbp_of44 (by rw [tw_fi_of hmf19]; exact n44_ok_cast (by omega) hcg26_9)) (nc2_of (by rw [tw_fi_of hmf18, tw_fi_of hmf19]; omega) (by rw [tw_fi_of hmf19]; omega)) hcg26_0 hcg26_1 hcg26_2 hcg26_3 hcg26_4 hcg26_5 hcg26_6 sz) cg_12_351_X12_comes rfl rfl (by decide +kernel) ⟨Nat.le_of_ble_eq_true rfl, Nat.le_of_ble_eq_true rfl⟩ hK hN TH hS hA rfl hm0 hk0 (by decide) rfl hl.1 rfl (Nat.le_of_ble_eq_true rfl) dX12_first_49 ⟨Nat.le_of_ble_eq_true rfl, Nat.le_of_ble_eq_true rfl⟩ (fun v22 kp22 L22 E22 H locs hq22 hx22 TH hS => ?_)
            obtain ⟨⟨xc23, rfl, hxc23a, hxc23b, hgpxc23_0, hgpxc23_1, hgpxc23_2, hgpxc23_3, hgpxc23_4, hgpxc23_5, hgpxc23_6⟩, rfl, rfl, hst22⟩ := hq22
            have hF := hF.tr hst22 (fun _ h => ⟨h, rfl⟩) (by decide) (by decide)
            have hmf24 : tw_fv E22 a0 14 = .int fv0_14 := (hst22.1 a0 14 hm0 (by rw [hk0]; decide)).trans hmf15
            have hmf25 : tw_fv E22 a0 28 = .int xi11 := (hst22.1 a0 28 hm0 (by rw [hk0]; decide)).trans hmf19
            have hcg26_7 : kg_ok E22 a0 := kg_ok_fr TH hst22 hm0 hk0 (by decide) (by decide) hcg26_7
            refine W.eq (g2 := F0 m 52 ls [.int xc23]) rfl ?_
            exact tw_iret hx hb hr hlocks TH hS hex ⟨⟨_, rfl, (show (-1) ≤ Int32.toInt xc23 from by  omega), (show Int32.toInt xc23 ≤ 11 from by  omega), (by  intro q; exfalso; have w := (hpoxc3_0 (by omega)).2; omega), hgpxc23_0, hgpxc23_1, hgpxc23_2, hgpxc23_3, hgpxc23_4, hgpxc23_5, hgpxc23_6, hcg26_7⟩, rfl, rfl, hF⟩ (Nat.le_of_ble_eq_true rfl) (Nat.le_of_ble_eq_true rfl) dX12_first_52
          · have hf26 : ¬ (xi11.toInt ≤ y26_1.toInt) := fun q => hc20 ((fa_le _ _).mpr (by  omega))
            refine lv_aload_n hx hb dX12_first_34 rfl (lv_at hl 1 rfl) ?_
            refine tw_get (ci := 12) (C := RX12) (T := TX12) (N := 64) hx hb hB cx_inX12 hown hK TH hm0 hk0 rfl ⟨by decide, rfl⟩ 44 (by decide) cw_1237 (fun _ h9 => h9) dX12_first_35 (fun hv => ?_)
            obtain ⟨xr27, hxr27, hmxr27, hkxr27⟩ : ∃ a : Nat, tw_fv Eg26 a0 44 = .ref a ∧ a ∈ L ∧ kp a = 353 := hv
            rw [hxr27]
            refine lv_iload_n hx hb dX12_first_38 rfl (lv_at hl 0 rfl) ?_
            refine lv_iconst (v := (-1)) hx hb dX12_first_39 (by decide) ?_
            refine tw_iast (k := 353) (n := 24) (lo := (-1)) (hi := 149) hx hb hK TH hS hmxr27 hkxr27 (by decide) rfl (i := y26_1) (x := (-1)) (vp_in_iff.mpr ⟨by  omega, by  omega⟩) (by have : (((-1) : Int32).toInt) = (-1) := (by decide); omega) (by have : (((-1) : Int32).toInt) = (-1) := (by decide); omega) dX12_first_40 (fun H locs E28 TH hS hp29 hp30 hp31 => ?_)
            have hst32 : tw_fr kp L [] [353] Eg26 E28 := tw_fr.ast tw_fr.rf (fun _ => hkxr27) hp29 hp30 (by decide)
            have hF := hF.tr hst32 (fun _ h => ⟨h, rfl⟩) (by decide) (by decide)
            have hG26 := hG26.tr hst32 (fun _ h => ⟨h, rfl⟩) (by decide) (by decide)
            have hmf33 : tw_fv E28 a0 14 = .int fv0_14 := (hst32.1 a0 14 hm0 (by rw [hk0]; decide)).trans hmf15
            have hmf34 : tw_fv E28 a0 1 = .int fv0_1 := (hst32.1 a0 1 hm0 (by rw [hk0]; decide)).trans hmf16
            have hmf35 : tw_fv E28 a0 27 = .int xi1 := (hst32.1 a0 27 hm0 (by rw [hk0]; decide)).trans hmf17
            have hmf36 : tw_fv E28 a0 26 = .int xi10 := (hst32.1 a0 26 hm0 (by rw [hk0]; decide)).trans hmf18
            have hmf37 : tw_fv E28 a0 28 = .int xi11 := (hst32.1 a0 28 hm0 (by rw [hk0]; decide)).trans hmf19
            have hmf38 : tw_fv E28 a0 44 = .ref xr27 := (hst32.1 a0 44 hm0 (by rw [hk0]; decide)).trans hxr27
            have hcg26_0_o := hcg26_0
            have hcg26_1_o := hcg26_1
            have hcg26_2_o := hcg26_2
            have hcg26_3_o := hcg26_3
            have hcg26_4_o := hcg26_4
            have hcg26_5_o := hcg26_5
            have hcg26_6_o := hcg26_6
            have hcg26_7_o := hcg26_7
            have hcg26_8_o := hcg26_8
            have hcg26_9_o := hcg26_9
            have hcg26_0 : rd_ok E28 a0 := rd_ok_fr TH hst32 hm0 hk0 (by decide) (by decide) hcg26_0
            have hcg26_1 : eo_ok E28 a0 := eo_ok_fr TH hst32 hm0 hk0 (by decide) (by decide) hcg26_1
            have hcg26_2 : ht_ok E28 a0 := ht_ok_fr TH hst32 hm0 hk0 (by decide) (by decide) hcg26_2
            have hcg26_3 : dr_ok E28 a0 := dr_ok_fr TH hst32 hm0 hk0 (by decide) (by decide) hcg26_3
            have hcg26_4 : ln_ok E28 a0 := ln_ok_fr TH hst32 hm0 hk0 (by decide) (by decide) hcg26_4
            have hcg26_5 : dl_ok E28 a0 := dl_ok_fr TH hst32 hm0 hk0 (by decide) (by decide) hcg26_5
            have hcg26_6 : fw_ok E28 a0 := fw_ok_fr TH hst32 hm0 hk0 (by decide) (by decide) hcg26_6
            have hcg26_7 : kg_ok E28 a0 := kg_ok_fr TH hst32 hm0 hk0 (by decide) (by decide) hcg26_7
            have hcg26_8 : tt_ok E28 a0 := tt_ok_fr TH hst32 hm0 hk0 (by decide) (by decide) hcg26_8
            have hcg26_9 : n44_ok E28 a0 (y26_1.toInt + 1) := n44_push hcg26_9_o rfl (fun j => (by have w := tw_el_st hxr27 hp29 hp30 hp31 j; show _ = (if j = (y26_1.toInt).toNat then (-1) else tw_el Eg26 a0 44 j); rw [w]; (by_cases e : j = (y26_1.toInt).toNat; (rw [if_pos ⟨rfl, e⟩, if_pos e]; decide); (rw [if_neg (fun y => e y.2), if_neg e]))))
            obtain ⟨zi39, ezi39⟩ : ∃ z : Int32, z = y26_1 + Int32.ofInt 1 := ⟨_, rfl⟩
            have hzi39 : zi39.toInt = y26_1.toInt + 1 := by rw [ezi39]; have : ((Int32.ofInt 1).toInt) = 1 := (by decide);  exact (ia_add (by omega) (by omega)).trans (by omega)
            refine lv_iinc (v := zi39) (lv' := [(1, .int zi39), (0, .ref a0)]) hx hb dX12_first_41 hl (k := 0) rfl ezi39.symm (by decide) rfl (fun ls hl => ?_)
            refine lv_goto (tgt := 26) hx hb dX12_first_44 (by decide) ?_
            exact ih26 (n26 - 1) (by   omega) zi39 _ _ _ ls (by omega) (by omega) (by  omega) (by  omega) (by  omega) (by   omega) hG26 hcg26_0 hcg26_1 hcg26_2 hcg26_3 hcg26_4 hcg26_5 hcg26_6 hcg26_7 hcg26_8 (n44_ok_cast (by  omega) hcg26_9) TH hS (lv_sub hl [0, 1] rfl)
      exact hJ26 25 (0 : Int32) _ _ _ ls (by have : ((0 : Int32).toInt) = 0 := (by decide); omega) (by have : ((0 : Int32).toInt) = 0 := (by decide); omega) (by have : ((0 : Int32).toInt) = 0 := (by decide); omega) (by have : ((0 : Int32).toInt) = 0 := (by decide); omega) (by have : ((0 : Int32).toInt) = 0 := (by decide); omega) (by have : ((0 : Int32).toInt) = 0 := (by decide);  omega) tw_fr.rf hgpxc3_0 hgpxc3_1 hgpxc3_2 hgpxc3_3 hgpxc3_4 hgpxc3_5 hgpxc3_6 hgpxc3_7 htt24 (n44_ok_cast (by have : ((0 : Int32).toInt) = 0 := (by decide); omega) hn44) TH hS (lv_sub hl [0, 1] rfl)
    · have hf40 : ¬ (zi12.toInt ≤ 150) := fun q => hc13 ((fa_le _ _).mpr (by have : ((150 : Int32).toInt) = 150 := (by decide); omega))
      refine lv_iconst (v := (-1)) hx hb dX12_first_22 (by decide) ?_
      exact tw_iret hx hb hr hlocks TH hS hex ⟨⟨_, rfl, (show (-1) ≤ Int32.toInt (-1) from by have : (((-1) : Int32).toInt) = (-1) := (by decide); omega), (show Int32.toInt (-1) ≤ 11 from by have : (((-1) : Int32).toInt) = (-1) := (by decide); omega), (by have : (((-1) : Int32).toInt) = (-1) := (by decide); intro _; exact tw_fi_of hmf5), hgpxc3_0, hgpxc3_1, hgpxc3_2, hgpxc3_3, hgpxc3_4, hgpxc3_5, hgpxc3_6, hgpxc3_7⟩, rfl, rfl, hF⟩ (Nat.le_of_ble_eq_true rfl) (Nat.le_of_ble_eq_true rfl) dX12_first_23
set_option maxHeartbeats 4000000 in
set_option maxRecDepth 100000 in
theorem tX12_next__vG (l : Launch) (D : va_G) (cs : Nat → ClassId) {kp : Nat → Nat} {L : List Nat} {E : Nat → va_E} (a0 : Nat) (x1 : Int32) (fv0_14 : Int32) (fv0_1 : Int32) (hm0 : a0 ∈ L) (hk0 : kp a0 = 12) (hfv0_14 : tw_fv E a0 14 = .int fv0_14) (hfv0_1 : tw_fv E a0 1 = .int fv0_1) (hg0 : rd_ok E a0) (hg1 : eo_ok E a0) (hg2 : ht_ok E a0) (hg3 : dr_ok E a0) (hg4 : ln_ok E a0) (hg5 : dl_ok E a0) (hg6 : fw_ok E a0) (hg7 : kg_ok E a0) (sz : Nat) : Met l yX12_next_ (.code yX12_next_ cX12_next_ 4 (some .int) :: cx_big) { frames := 46, cells := 0, slots := 0, locals := 1164 } (tw_P D cs kp L E [.ref a0, .int x1] sz) (tw_Q D cs kp L (fun v kq Lq Eq => (∃ x : Int32, v = some (.int x) ∧ (-1) ≤ x.toInt ∧ x.toInt ≤ 11 ∧ (fv0_14.toInt = 0 → tw_fi Eq a0 1 = fv0_1.toInt) ∧ rd_ok Eq a0 ∧ eo_ok Eq a0 ∧ ht_ok Eq a0 ∧ dr_ok Eq a0 ∧ ln_ok Eq a0 ∧ dl_ok Eq a0 ∧ fw_ok Eq a0 ∧ kg_ok Eq a0) ∧ kp = kq ∧ L = Lq ∧ tw_fr kp L [(12, 1), (12, 2), (12, 3), (12, 4), (12, 26), (12, 27), (12, 28), (12, 50), (12, 51)] [326, 327, 328, 329, 330, 331, 332, 334, 335, 343, 344, 345, 346, 347, 348, 349, 353, 354, 355, 356, 357, 358] E Eq) (va_A (va_pl L E) sz)) 0 0 (va_A (va_pl L E) sz) := by
  refine tw_ofW (by decide) (Nat.le_of_ble_eq_true rfl) ?_
  intro p e s m below meth c A ls hx hb hr hml hB hown hlocks hK hN hA TH hS hl
  have hown : s.vm.findClass "TreeMergeModel" = some m.cls := hown
  have hl : lv_has ls 4 [(0, .ref a0), (1, .int x1)] := hl
  obtain ⟨kp0, ekp⟩ : ∃ z, z = kp := ⟨_, rfl⟩
  obtain ⟨L0, eL⟩ : ∃ z, z = L := ⟨_, rfl⟩
  rw [show tw_Q D cs kp L = tw_Q D cs kp0 L0 by rw [ekp, eL]]
  have hex : ∀ a : Nat, a ∈ L0 → a ∈ L ∧ kp a = kp0 a := fun a h => ⟨by rw [← eL]; exact h, by rw [ekp]⟩
  have hF : tw_fr kp L [(12, 1), (12, 2), (12, 3), (12, 4), (12, 26), (12, 27), (12, 28), (12, 50), (12, 51)] [326, 327, 328, 329, 330, 331, 332, 334, 335, 343, 344, 345, 346, 347, 348, 349, 353, 354, 355, 356, 357, 358] E E := tw_fr.rf
  obtain ⟨qfv0_14, hqfv0_14, hqfv0_14a, hqfv0_14b⟩ := tw_rd TH hm0 hk0 (by decide) (by decide) (k := 14) rfl
  have eqfv0_14 : qfv0_14 = fv0_14 := by have q := hqfv0_14.symm.trans hfv0_14; injection q
  rw [eqfv0_14] at hqfv0_14a hqfv0_14b
  obtain ⟨qfv0_1, hqfv0_1, hqfv0_1a, hqfv0_1b⟩ := tw_rd TH hm0 hk0 (by decide) (by decide) (k := 1) rfl
  have eqfv0_1 : qfv0_1 = fv0_1 := by have q := hqfv0_1.symm.trans hfv0_1; injection q
  rw [eqfv0_1] at hqfv0_1a hqfv0_1b
  refine lv_aload_n hx hb dX12_next__0 rfl (lv_at hl 0 rfl) ?_
  refine lv_iload_n hx hb dX12_next__1 rfl (lv_at hl 1 rfl) ?_
  obtain ⟨xi1, hxi1, hxi1a, hxi1b⟩ := tw_rd TH hm0 hk0 (by decide) (by decide) (k := 27) rfl
  refine tw_Vc (o := a0) (ci := 12) (n := 1) (post := (fun v kq Lq Eq => (∃ x : Int32, v = some (.int x) ∧ 0 ≤ x.toInt ∧ x.toInt ≤ 1 ∧ (x.toInt ≠ 0 → 0 ≤ x1.toInt ∧ x1.toInt < xi1.toInt)) ∧ kp = kq ∧ L = Lq ∧ E = Eq)) (As := [.int x1]) (rest := []) ⟨hx, hb, hml, hown, hB⟩ (fun sz => tX12_isEdition l D cs a0 x1 xi1 hm0 hk0 hxi1 sz) cg_12_396_X12_isEdition rfl rfl (by decide +kernel) ⟨Nat.le_of_ble_eq_true rfl, Nat.le_of_ble_eq_true rfl⟩ hK hN TH hS hA rfl hm0 hk0 (by decide) rfl hl.1 rfl (Nat.le_of_ble_eq_true rfl) dX12_next__2 ⟨Nat.le_of_ble_eq_true rfl, Nat.le_of_ble_eq_true rfl⟩ (fun v2 kp2 L2 E2 H locs hq2 hx2 TH hS => ?_)
  obtain ⟨⟨xc3, rfl, hxc3a, hxc3b, hpoxc3_0⟩, rfl, rfl, rfl⟩ := hq2
  refine W.eq (g2 := F0 m 5 ls [.int xc3]) rfl ?_
  refine lv_if_eq (tgt := 15) hx hb dX12_next__5 (by decide) (fun hc4 => ?_) (fun hc4 => ?_)
  · have hf5 : xc3.toInt = 0 := by have z := (fa_eq _ _).mp hc4; have : ((0 : Int32).toInt) = 0 := (by decide); omega
    refine lv_iconst (v := (-1)) hx hb dX12_next__15 (by decide) ?_
    exact tw_iret hx hb hr hlocks TH hS hex ⟨⟨_, rfl, (show (-1) ≤ Int32.toInt (-1) from by have : (((-1) : Int32).toInt) = (-1) := (by decide); omega), (show Int32.toInt (-1) ≤ 11 from by have : (((-1) : Int32).toInt) = (-1) := (by decide); omega), (by have : (((-1) : Int32).toInt) = (-1) := (by decide); intro _; exact tw_fi_of hfv0_1), hg0, hg1, hg2, hg3, hg4, hg5, hg6, hg7⟩, rfl, rfl, hF⟩ (Nat.le_of_ble_eq_true rfl) (Nat.le_of_ble_eq_true rfl) dX12_next__16
  · have hf6 : ¬ (xc3.toInt = 0) := fun q => hc4 ((fa_eq _ _).mpr (by have : ((0 : Int32).toInt) = 0 := (by decide); omega))
    refine lv_aload_n hx hb dX12_next__8 rfl (lv_at hl 0 rfl) ?_
    refine tw_Vc (o := a0) (ci := 12) (n := 0) (post := (fun v kq Lq Eq => (∃ x : Int32, v = some (.int x) ∧ 0 ≤ x.toInt ∧ x.toInt ≤ 1 ∧ (x.toInt ≠ 0 → xi1.toInt ≤ 11 ∧ fv0_14.toInt ≠ 0) ∧ (x.toInt ≠ 0 → tt_ok Eq a0) ∧ rd_ok Eq a0 ∧ eo_ok Eq a0 ∧ ht_ok Eq a0 ∧ dr_ok Eq a0 ∧ ln_ok Eq a0 ∧ dl_ok Eq a0 ∧ fw_ok Eq a0 ∧ kg_ok Eq a0) ∧ kp = kq ∧ L = Lq ∧ tw_fr kp L [(12, 2), (12, 3), (12, 4), (12, 28)] [326, 327, 328, 329, 332, 343, 344, 345, 346, 347, 348, 349] E Eq)) (As := []) (rest := []) ⟨hx, hb, hml, hown, hB⟩ (fun sz => tX12_canCome l D cs a0 xi1 fv0_14 hm0 hk0 hxi1 hfv0_14 hg0 hg1 hg2 hg3 hg4 hg5 hg6 hg7 sz) cg_12_348_X12_canCome rfl rfl (by decide +kernel) ⟨Nat.le_of_ble_eq_true rfl, Nat.le_of_ble_eq_true rfl⟩ hK hN TH hS hA rfl hm0 hk0 (by decide) rfl hl.1 rfl (Nat.le_of_ble_eq_true rfl) dX12_next__9 ⟨Nat.le_of_ble_eq_true rfl, Nat.le_of_ble_eq_true rfl⟩ (fun v7 kp7 L7 E7 H locs hq7 hx7 TH hS => ?_)
    obtain ⟨⟨xc8, rfl, hxc8a, hxc8b, hpoxc8_0, hpoxc8_1, hgpxc8_0, hgpxc8_1, hgpxc8_2, hgpxc8_3, hgpxc8_4, hgpxc8_5, hgpxc8_6, hgpxc8_7⟩, rfl, rfl, hst7⟩ := hq7
    have hF := hF.tr hst7 (fun _ h => ⟨h, rfl⟩) (by decide) (by decide)
    have hmf9 : tw_fv E7 a0 14 = .int fv0_14 := (hst7.1 a0 14 hm0 (by rw [hk0]; decide)).trans hfv0_14
    have hmf10 : tw_fv E7 a0 1 = .int fv0_1 := (hst7.1 a0 1 hm0 (by rw [hk0]; decide)).trans hfv0_1
    have hmf11 : tw_fv E7 a0 27 = .int xi1 := (hst7.1 a0 27 hm0 (by rw [hk0]; decide)).trans hxi1
    refine W.eq (g2 := F0 m 12 ls [.int xc8]) rfl ?_
    refine lv_if_ne (tgt := 17) hx hb dX12_next__12 (by decide) (fun hc12 => ?_) (fun hc12 => ?_)
    · have hf13 : ¬ (xc8.toInt = 0) := fun q => hc12 ((fa_eq _ _).mpr (by have : ((0 : Int32).toInt) = 0 := (by decide); omega))
      have htt17 : tt_ok E7 a0 := hpoxc8_1 (by omega)
      have hcc := hpoxc8_0 (by omega)
      have hcc1 := hcc.1
      have hrow17 : row_ok E7 a0 (x1.toInt) := hgpxc8_1 (x1.toInt) (by omega) (by rw [tw_fi_of hmf11]; omega)
      refine lv_aload_n hx hb dX12_next__17 rfl (lv_at hl 0 rfl) ?_
      refine lv_iload_n hx hb dX12_next__18 rfl (lv_at hl 1 rfl) ?_
      refine tw_Vc (o := a0) (ci := 12) (n := 1) (post := (fun v kq Lq Eq => v = none ∧ kp = kq ∧ L = Lq ∧ tw_fr kp L [(12, 50), (12, 51)] [354, 355, 356, 357, 358] E7 Eq ∧ (∃ z0 : Int32, tw_fv Eq a0 50 = .int z0 ∧ (z0.toInt ≤ 40)) ∧ ls_ok Eq a0 (x1.toInt) ∧ pi_ok Eq a0)) (As := [.int x1]) (rest := []) ⟨hx, hb, hml, hown, hB⟩ (fun sz => tX12_matches l D cs a0 x1 hm0 hk0 (by omega) (by omega) hrow17 htt17 sz) cg_12_399_X12_matches rfl rfl (by decide +kernel) ⟨Nat.le_of_ble_eq_true rfl, Nat.le_of_ble_eq_true rfl⟩ hK hN TH hS hA rfl hm0 hk0 (by decide) rfl hl.1 rfl (Nat.le_of_ble_eq_true rfl) dX12_next__19 ⟨Nat.le_of_ble_eq_true rfl, Nat.le_of_ble_eq_true rfl⟩ (fun v14 kp14 L14 E14 H locs hq14 hx14 TH hS => ?_)
      obtain ⟨rfl, rfl, rfl, hst14, ⟨zfxc15_0_0, hzfxc15_0_0, hzpxc15_0⟩, hgpxc15_0, hgpxc15_1⟩ := hq14
      have hF := hF.tr hst14 (fun _ h => ⟨h, rfl⟩) (by decide) (by decide)
      have hmf16 : tw_fv E14 a0 14 = .int fv0_14 := (hst14.1 a0 14 hm0 (by rw [hk0]; decide)).trans hmf9
      have hmf17 : tw_fv E14 a0 1 = .int fv0_1 := (hst14.1 a0 1 hm0 (by rw [hk0]; decide)).trans hmf10
      have hmf18 : tw_fv E14 a0 27 = .int xi1 := (hst14.1 a0 27 hm0 (by rw [hk0]; decide)).trans hmf11
      have hgpxc8_0 : rd_ok E14 a0 := rd_ok_fr TH hst14 hm0 hk0 (by decide) (by decide) hgpxc8_0
      have hgpxc8_1 : eo_ok E14 a0 := eo_ok_fr TH hst14 hm0 hk0 (by decide) (by decide) hgpxc8_1
      have hgpxc8_2 : ht_ok E14 a0 := ht_ok_fr TH hst14 hm0 hk0 (by decide) (by decide) hgpxc8_2
      have hgpxc8_3 : dr_ok E14 a0 := dr_ok_fr TH hst14 hm0 hk0 (by decide) (by decide) hgpxc8_3
      have hgpxc8_4 : ln_ok E14 a0 := ln_ok_fr TH hst14 hm0 hk0 (by decide) (by decide) hgpxc8_4
      have hgpxc8_5 : dl_ok E14 a0 := dl_ok_fr TH hst14 hm0 hk0 (by decide) (by decide) hgpxc8_5
      have hgpxc8_6 : fw_ok E14 a0 := fw_ok_fr TH hst14 hm0 hk0 (by decide) (by decide) hgpxc8_6
      have hgpxc8_7 : kg_ok E14 a0 := kg_ok_fr TH hst14 hm0 hk0 (by decide) (by decide) hgpxc8_7
      have htt17 : tt_ok E14 a0 := tt_ok_fr TH hst14 hm0 hk0 (by decide) (by decide) htt17
      have hrow17 : row_ok E14 a0 (x1.toInt) := row_ok_fr TH hst14 hm0 hk0 (by decide) (by decide) (by omega) hrow17
      obtain ⟨qzfxc15_0_0, hqzfxc15_0_0, hqzfxc15_0_0a, hqzfxc15_0_0b⟩ := tw_rd TH hm0 hk0 (by decide) (by decide) (k := 50) rfl
      have eqzfxc15_0_0 : qzfxc15_0_0 = zfxc15_0_0 := by have q := hqzfxc15_0_0.symm.trans hzfxc15_0_0; injection q
      rw [eqzfxc15_0_0] at hqzfxc15_0_0a hqzfxc15_0_0b
      refine W.eq (g2 := F0 m 22 ls []) rfl ?_
      have hnx22 : nx_ok E14 a0 (0) := fun b hb => absurd hb (by omega)
      have hfc22 : fc_ok E14 a0 (0) (0) := rfl
      refine lv_iconst (v := 0) hx hb dX12_next__22 (by decide) ?_
      refine lv_istore_n (lv' := [(2, .int 0), (0, .ref a0), (1, .int x1)]) hx hb dX12_next__23 rfl hl (by decide) rfl (fun ls hl => ?_)
      refine lv_iconst (v := 0) hx hb dX12_next__24 (by decide) ?_
      refine lv_istore_n (lv' := [(3, .int 0), (2, .int 0), (0, .ref a0), (1, .int x1)]) hx hb dX12_next__25 rfl hl (by decide) rfl (fun ls hl => ?_)
      obtain ⟨xi19, hxi19, hxi19a, hxi19b⟩ := tw_rd TH hm0 hk0 (by decide) (by decide) (k := 28) rfl
      have hJ26 : ∀ (n26 : Nat) (y26_3 : Int32) (y26_2 : Int32) (Eg26 : Nat → va_E) (H : Heap) (locs : List Loc) (ls : Array Slot), 0 ≤ y26_3.toInt → y26_3.toInt ≤ 24 → (y26_3.toInt ≤ xi19.toInt) → (0 ≤ y26_2.toInt) → (y26_2.toInt ≤ y26_3.toInt) → (xi1.toInt ≤ 11) → (x1.toInt < xi1.toInt) → (0 ≤ x1.toInt) → 24 - y26_3.toInt ≤ (n26 : Int) → tw_fr kp L [] [353] E14 Eg26 → rd_ok Eg26 a0 → eo_ok Eg26 a0 → ht_ok Eg26 a0 → dr_ok Eg26 a0 → ln_ok Eg26 a0 → dl_ok Eg26 a0 → fw_ok Eg26 a0 → kg_ok Eg26 a0 → tt_ok Eg26 a0 → row_ok Eg26 a0 (x1.toInt) → ls_ok Eg26 a0 (x1.toInt) → pi_ok Eg26 a0 → nx_ok Eg26 a0 (y26_3.toInt) → fc_ok Eg26 a0 (y26_3.toInt) (y26_2.toInt) → tw_H D cs kp L Eg26 A H → va_S A s.heap H locs → lv_has ls 4 [(3, .int y26_3), (2, .int y26_2), (0, .ref a0), (1, .int x1)] → W p l e { frames := 46, cells := 0, slots := 0, locals := 1164 } s m [.ref a0, .int x1].toArray below meth c H locs 0 0 (MQ below (tw_Q D cs kp0 L0 (fun v kq Lq Eq => (∃ x : Int32, v = some (.int x) ∧ (-1) ≤ x.toInt ∧ x.toInt ≤ 11 ∧ (fv0_14.toInt = 0 → tw_fi Eq a0 1 = fv0_1.toInt) ∧ rd_ok Eq a0 ∧ eo_ok Eq a0 ∧ ht_ok Eq a0 ∧ dr_ok Eq a0 ∧ ln_ok Eq a0 ∧ dl_ok Eq a0 ∧ fw_ok Eq a0 ∧ kg_ok Eq a0) ∧ kp = kq ∧ L = Lq ∧ tw_fr kp L [(12, 1), (12, 2), (12, 3), (12, 4), (12, 26), (12, 27), (12, 28), (12, 50), (12, 51)] [326, 327, 328, 329, 330, 331, 332, 334, 335, 343, 344, 345, 346, 347, 348, 349, 353, 354, 355, 356, 357, 358] E Eq) A) [.ref a0, .int x1].toArray s 0 0 A) (F0 m 26 ls []) := by
        intro n26
        induction n26 using Nat.strongRecOn with
        | _ n26 ih26 =>
          intro y26_3 y26_2 Eg26 H locs ls hy26_3a hy26_3b hin26_0 hin26_1 hin26_2 hin26_3 hin26_4 hin26_5 hmeas26 hG26 hcg26_0 hcg26_1 hcg26_2 hcg26_3 hcg26_4 hcg26_5 hcg26_6 hcg26_7 hcg26_8 hcg26_9 hcg26_10 hcg26_11 hcg26_12 hcg26_13 TH hS hl
          have hF := hF.tr hG26 (fun _ h => ⟨h, rfl⟩) (by decide) (by decide)
          have hmf20 : tw_fv Eg26 a0 14 = .int fv0_14 := (hG26.1 a0 14 hm0 (by rw [hk0]; decide)).trans hmf16
          have hmf21 : tw_fv Eg26 a0 1 = .int fv0_1 := (hG26.1 a0 1 hm0 (by rw [hk0]; decide)).trans hmf17
          have hmf22 : tw_fv Eg26 a0 27 = .int xi1 := (hG26.1 a0 27 hm0 (by rw [hk0]; decide)).trans hmf18
          have hmf23 : tw_fv Eg26 a0 50 = .int zfxc15_0_0 := (hG26.1 a0 50 hm0 (by rw [hk0]; decide)).trans hzfxc15_0_0
          have hmf24 : tw_fv Eg26 a0 28 = .int xi19 := (hG26.1 a0 28 hm0 (by rw [hk0]; decide)).trans hxi19
          refine lv_iload_n hx hb dX12_next__26 rfl (lv_at hl 0 rfl) ?_
          refine lv_aload_n hx hb dX12_next__27 rfl (lv_at hl 2 rfl) ?_
          refine tw_get (ci := 12) (C := RX12) (T := TX12) (N := 64) hx hb hB cx_inX12 hown hK TH hm0 hk0 rfl ⟨by decide, rfl⟩ 28 (by decide) cw_1221 (fun _ h9 => h9) dX12_next__28 (fun hv => ?_)
          rw [hmf24]
          refine lv_icmp_ge (tgt := 89) hx hb dX12_next__31 (by decide) (fun hc25 => ?_) (fun hc25 => ?_)
          · have hf26 : xi19.toInt ≤ y26_3.toInt := by have z := (fa_le _ _).mp hc25;  omega
            refine lv_aload_n hx hb dX12_next__89 rfl (lv_at hl 2 rfl) ?_
            refine tw_get (ci := 12) (C := RX12) (T := TX12) (N := 64) hx hb hB cx_inX12 hown hK TH hm0 hk0 rfl ⟨by decide, rfl⟩ 26 (by decide) cw_1219 (fun _ h9 => h9) dX12_next__90 (fun hv => ?_)
            obtain ⟨xi27, hxi27, hxi27a, hxi27b⟩ : ∃ x : Int32, tw_fv Eg26 a0 26 = .int x ∧ 0 ≤ x.toInt ∧ x.toInt ≤ 150 := hv
            rw [hxi27]
            refine lv_iload_n hx hb dX12_next__93 rfl (lv_at hl 1 rfl) ?_
            refine lv_iadd hx hb dX12_next__94 ?_
            refine lv_topi (fun zi28 ezi28 => ?_)
            have hzi28 : zi28.toInt = xi27.toInt + y26_2.toInt := by rw [ezi28];  have := ia_lo xi27; have := ia_hi xi27; have := ia_lo y26_2; have := ia_hi y26_2; exact (ia_add (by omega) (by omega)).trans (by omega)
            refine lv_sipush (v := 150) hx hb dX12_next__95 (by decide) ?_
            refine lv_icmp_le (tgt := 105) hx hb dX12_next__98 (by decide) (fun hc29 => ?_) (fun hc29 => ?_)
            · have hf30 : zi28.toInt ≤ 150 := by have z := (fa_le _ _).mp hc29; have : ((150 : Int32).toInt) = 150 := (by decide); omega
              have h28q : 1 ≤ tw_fi Eg26 a0 28 := hcg26_8.1.1
              have hnx := nx_done (by rw [tw_fi_of hmf24]; exact nx_ok_cast (by omega) hcg26_12) hcg26_11 hcg26_10 hcg26_9 h28q
              refine lv_aload_n hx hb dX12_next__105 rfl (lv_at hl 2 rfl) ?_
              refine lv_iload_n hx hb dX12_next__106 rfl (lv_at hl 3 rfl) ?_
              refine tw_Vc (o := a0) (ci := 12) (n := 1) (post := (fun v kq Lq Eq => (∃ x : Int32, v = some (.int x) ∧ 0 ≤ x.toInt ∧ x.toInt ≤ 11 ∧ rd_ok Eq a0 ∧ eo_ok Eq a0 ∧ ht_ok Eq a0 ∧ dr_ok Eq a0 ∧ ln_ok Eq a0 ∧ dl_ok Eq a0 ∧ fw_ok Eq a0) ∧ kp = kq ∧ L = Lq ∧ tw_fr kp L [(12, 1), (12, 26), (12, 27)] [326, 327, 328, 329, 330, 331, 334, 335, 353] Eg26 Eq)) (As := [.int x1]) (rest := []) ⟨hx, hb, hml, hown, hB⟩ (fun sz => tX12_comes l D cs a0 x1 xi1 xi27 hm0 hk0 (by omega) (by omega) hmf22 hxi27 (by  omega) (by  exact Or.inr ⟨by omega, hnx.2.1, hnx.2.2.2.1, hnx.2.2.2.2⟩) hcg26_8 (by have z := hnx.1; rw [tw_fi_of hxi27] at z; exact z) (by unfold nc2_ok nr_c; have z : _ = _ := hcg26_13; rw [tw_fi_of hxi27, tw_fi_of hmf24]; rw [show (y26_3.toInt).toNat = (xi19.toInt).toNat by omega] at z; omega) hcg26_0 hcg26_1 hcg26_2 hcg26_3 hcg26_4 hcg26_5 hcg26_6 sz) cg_12_351_X12_comes rfl rfl (by decide +kernel) ⟨Nat.le_of_ble_eq_true rfl, Nat.le_of_ble_eq_true rfl⟩ hK hN TH hS hA rfl hm0 hk0 (by decide) rfl hl.1 rfl (Nat.le_of_ble_eq_true rfl) dX12_next__107 ⟨Nat.le_of_ble_eq_true rfl, Nat.le_of_ble_eq_true rfl⟩ (fun v31 kp31 L31 E31 H locs hq31 hx31 TH hS => ?_)
              obtain ⟨⟨xc32, rfl, hxc32a, hxc32b, hgpxc32_0, hgpxc32_1, hgpxc32_2, hgpxc32_3, hgpxc32_4, hgpxc32_5, hgpxc32_6⟩, rfl, rfl, hst31⟩ := hq31
              have hF := hF.tr hst31 (fun _ h => ⟨h, rfl⟩) (by decide) (by decide)
              have hmf33 : tw_fv E31 a0 14 = .int fv0_14 := (hst31.1 a0 14 hm0 (by rw [hk0]; decide)).trans hmf20
              have hmf34 : tw_fv E31 a0 50 = .int zfxc15_0_0 := (hst31.1 a0 50 hm0 (by rw [hk0]; decide)).trans hmf23
              have hmf35 : tw_fv E31 a0 28 = .int xi19 := (hst31.1 a0 28 hm0 (by rw [hk0]; decide)).trans hmf24
              have hcg26_7 : kg_ok E31 a0 := kg_ok_fr TH hst31 hm0 hk0 (by decide) (by decide) hcg26_7
              have hcg26_11 : pi_ok E31 a0 := pi_ok_fr TH hst31 hm0 hk0 (by decide) (by decide) hcg26_11
              refine W.eq (g2 := F0 m 110 ls [.int xc32]) rfl ?_
              exact tw_iret hx hb hr hlocks TH hS hex ⟨⟨_, rfl, (show (-1) ≤ Int32.toInt xc32 from by  omega), (show Int32.toInt xc32 ≤ 11 from by  omega), (by  intro q; exfalso; have w := (hpoxc8_0 (by omega)).2; omega), hgpxc32_0, hgpxc32_1, hgpxc32_2, hgpxc32_3, hgpxc32_4, hgpxc32_5, hgpxc32_6, hcg26_7⟩, rfl, rfl, hF⟩ (Nat.le_of_ble_eq_true rfl) (Nat.le_of_ble_eq_true rfl) dX12_next__110
            · have hf36 : ¬ (zi28.toInt ≤ 150) := fun q => hc29 ((fa_le _ _).mpr (by have : ((150 : Int32).toInt) = 150 := (by decide); omega))
              refine lv_iconst (v := (-1)) hx hb dX12_next__101 (by decide) ?_
              refine lv_goto (tgt := 110) hx hb dX12_next__102 (by decide) ?_
              exact tw_iret hx hb hr hlocks TH hS hex ⟨⟨_, rfl, (show (-1) ≤ Int32.toInt (-1) from by have : (((-1) : Int32).toInt) = (-1) := (by decide); omega), (show Int32.toInt (-1) ≤ 11 from by have : (((-1) : Int32).toInt) = (-1) := (by decide); omega), (by have : (((-1) : Int32).toInt) = (-1) := (by decide); intro _; exact tw_fi_of hmf21), hcg26_0, hcg26_1, hcg26_2, hcg26_3, hcg26_4, hcg26_5, hcg26_6, hcg26_7⟩, rfl, rfl, hF⟩ (Nat.le_of_ble_eq_true rfl) (Nat.le_of_ble_eq_true rfl) dX12_next__110
          · have hf37 : ¬ (xi19.toInt ≤ y26_3.toInt) := fun q => hc25 ((fa_le _ _).mpr (by  omega))
            refine lv_aload_n hx hb dX12_next__34 rfl (lv_at hl 2 rfl) ?_
            refine tw_get (ci := 12) (C := RX12) (T := TX12) (N := 64) hx hb hB cx_inX12 hown hK TH hm0 hk0 rfl ⟨by decide, rfl⟩ 44 (by decide) cw_1237 (fun _ h9 => h9) dX12_next__35 (fun hv => ?_)
            obtain ⟨xr38, hxr38, hmxr38, hkxr38⟩ : ∃ a : Nat, tw_fv Eg26 a0 44 = .ref a ∧ a ∈ L ∧ kp a = 353 := hv
            rw [hxr38]
            refine lv_iload_n hx hb dX12_next__38 rfl (lv_at hl 0 rfl) ?_
            refine lv_aload_n hx hb dX12_next__39 rfl (lv_at hl 2 rfl) ?_
            refine tw_get (ci := 12) (C := RX12) (T := TX12) (N := 64) hx hb hB cx_inX12 hown hK TH hm0 hk0 rfl ⟨by decide, rfl⟩ 47 (by decide) cw_1240 (fun _ h9 => h9) dX12_next__40 (fun hv => ?_)
            obtain ⟨xr39, hxr39, hmxr39, hkxr39⟩ : ∃ a : Nat, tw_fv Eg26 a0 47 = .ref a ∧ a ∈ L ∧ kp a = 356 := hv
            rw [hxr39]
            refine lv_iload_n hx hb dX12_next__43 rfl (lv_at hl 0 rfl) ?_
            refine tw_iald (k := 356) (t0 := 0) (n := 24) (lo := (-1)) (hi := 39) hx hb hK TH hmxr39 hkxr39 (by decide) rfl rfl (i := y26_3) (vp_in_iff.mpr ⟨by  omega, by  omega⟩) dX12_next__44 (fun hxe40a hxe40b => ?_)
            obtain ⟨xe40, exe40⟩ : ∃ z : Int32, tw_iv Eg26 xr39 (Int32.toNatClampNeg y26_3) = z := ⟨_, rfl⟩
            rw [exe40] at hxe40a hxe40b ⊢
            refine lv_iconst (v := (-1)) hx hb dX12_next__45 (by decide) ?_
            refine lv_icmp_ne (tgt := 53) hx hb dX12_next__46 (by decide) (fun hc41 => ?_) (fun hc41 => ?_)
            · have hf42 : ¬ (xe40.toInt = (-1)) := fun q => hc41 ((fa_eq _ _).mpr (by have : (((-1) : Int32).toInt) = (-1) := (by decide); omega))
              refine lv_aload_n hx hb dX12_next__53 rfl (lv_at hl 2 rfl) ?_
              refine tw_get (ci := 12) (C := RX12) (T := TX12) (N := 64) hx hb hB cx_inX12 hown hK TH hm0 hk0 rfl ⟨by decide, rfl⟩ 45 (by decide) cw_1238 (fun _ h9 => h9) dX12_next__54 (fun hv => ?_)
              obtain ⟨xr43, hxr43, hmxr43, hkxr43⟩ : ∃ a : Nat, tw_fv Eg26 a0 45 = .ref a ∧ a ∈ L ∧ kp a = 354 := hv
              rw [hxr43]
              refine lv_aload_n hx hb dX12_next__57 rfl (lv_at hl 2 rfl) ?_
              refine tw_get (ci := 12) (C := RX12) (T := TX12) (N := 64) hx hb hB cx_inX12 hown hK TH hm0 hk0 rfl ⟨by decide, rfl⟩ 47 (by decide) cw_1240 (fun _ h9 => h9) dX12_next__58 (fun hv => ?_)
              rw [hxr39]
              refine lv_iload_n hx hb dX12_next__61 rfl (lv_at hl 0 rfl) ?_
              refine tw_iald (k := 356) (t0 := 0) (n := 24) (lo := (-1)) (hi := 39) hx hb hK TH hmxr39 hkxr39 (by decide) rfl rfl (i := y26_3) (vp_in_iff.mpr ⟨by  omega, by  omega⟩) dX12_next__62 (fun hxe44a hxe44b => ?_)
              rw [exe40]
              refine tw_iald (k := 354) (t0 := 0) (n := 40) (lo := 0) (hi := 149) hx hb hK TH hmxr43 hkxr43 (by decide) rfl rfl (i := xe40) (vp_in_iff.mpr ⟨by  omega, by  omega⟩) dX12_next__63 (fun hxe45a hxe45b => ?_)
              obtain ⟨xe45, exe45⟩ : ∃ z : Int32, tw_iv Eg26 xr43 (Int32.toNatClampNeg xe40) = z := ⟨_, rfl⟩
              rw [exe45] at hxe45a hxe45b ⊢
              refine tw_iast (k := 353) (n := 24) (lo := (-1)) (hi := 149) hx hb hK TH hS hmxr38 hkxr38 (by decide) rfl (i := y26_3) (x := xe45) (vp_in_iff.mpr ⟨by  omega, by  omega⟩) (by omega) (by omega) dX12_next__64 (fun H locs E46 TH hS hp47 hp48 hp49 => ?_)
              have hst50 : tw_fr kp L [] [353] Eg26 E46 := tw_fr.ast tw_fr.rf (fun _ => hkxr38) hp47 hp48 (by decide)
              have hF := hF.tr hst50 (fun _ h => ⟨h, rfl⟩) (by decide) (by decide)
              have hG26 := hG26.tr hst50 (fun _ h => ⟨h, rfl⟩) (by decide) (by decide)
              have hmf51 : tw_fv E46 a0 14 = .int fv0_14 := (hst50.1 a0 14 hm0 (by rw [hk0]; decide)).trans hmf20
              have hmf52 : tw_fv E46 a0 1 = .int fv0_1 := (hst50.1 a0 1 hm0 (by rw [hk0]; decide)).trans hmf21
              have hmf53 : tw_fv E46 a0 27 = .int xi1 := (hst50.1 a0 27 hm0 (by rw [hk0]; decide)).trans hmf22
              have hmf54 : tw_fv E46 a0 50 = .int zfxc15_0_0 := (hst50.1 a0 50 hm0 (by rw [hk0]; decide)).trans hmf23
              have hmf55 : tw_fv E46 a0 28 = .int xi19 := (hst50.1 a0 28 hm0 (by rw [hk0]; decide)).trans hmf24
              have hmf56 : tw_fv E46 a0 44 = .ref xr38 := (hst50.1 a0 44 hm0 (by rw [hk0]; decide)).trans hxr38
              have hmf57 : tw_fv E46 a0 47 = .ref xr39 := (hst50.1 a0 47 hm0 (by rw [hk0]; decide)).trans hxr39
              have hmf58 : tw_fv E46 a0 45 = .ref xr43 := (hst50.1 a0 45 hm0 (by rw [hk0]; decide)).trans hxr43
              have hcg26_0_o := hcg26_0
              have hcg26_1_o := hcg26_1
              have hcg26_2_o := hcg26_2
              have hcg26_3_o := hcg26_3
              have hcg26_4_o := hcg26_4
              have hcg26_5_o := hcg26_5
              have hcg26_6_o := hcg26_6
              have hcg26_7_o := hcg26_7
              have hcg26_8_o := hcg26_8
              have hcg26_9_o := hcg26_9
              have hcg26_10_o := hcg26_10
              have hcg26_11_o := hcg26_11
              have hcg26_12_o := hcg26_12
              have hcg26_13_o := hcg26_13
              have hcg26_0 : rd_ok E46 a0 := rd_ok_fr TH hst50 hm0 hk0 (by decide) (by decide) hcg26_0
              have hcg26_1 : eo_ok E46 a0 := eo_ok_fr TH hst50 hm0 hk0 (by decide) (by decide) hcg26_1
              have hcg26_2 : ht_ok E46 a0 := ht_ok_fr TH hst50 hm0 hk0 (by decide) (by decide) hcg26_2
              have hcg26_3 : dr_ok E46 a0 := dr_ok_fr TH hst50 hm0 hk0 (by decide) (by decide) hcg26_3
              have hcg26_4 : ln_ok E46 a0 := ln_ok_fr TH hst50 hm0 hk0 (by decide) (by decide) hcg26_4
              have hcg26_5 : dl_ok E46 a0 := dl_ok_fr TH hst50 hm0 hk0 (by decide) (by decide) hcg26_5
              have hcg26_6 : fw_ok E46 a0 := fw_ok_fr TH hst50 hm0 hk0 (by decide) (by decide) hcg26_6
              have hcg26_7 : kg_ok E46 a0 := kg_ok_fr TH hst50 hm0 hk0 (by decide) (by decide) hcg26_7
              have hcg26_8 : tt_ok E46 a0 := tt_ok_fr TH hst50 hm0 hk0 (by decide) (by decide) hcg26_8
              have hcg26_9 : row_ok E46 a0 (x1.toInt) := row_ok_fr TH hst50 hm0 hk0 (by decide) (by decide) (by omega) hcg26_9
              have hcg26_10 : ls_ok E46 a0 (x1.toInt) := ls_ok_fr TH hst50 hm0 hk0 (by decide) (by decide) (by omega) hcg26_10
              have hcg26_11 : pi_ok E46 a0 := pi_ok_fr TH hst50 hm0 hk0 (by decide) (by decide) hcg26_11
              have hcg26_12 : nx_ok E46 a0 (y26_3.toInt + 1) := nx_push (v := xe45.toInt) hcg26_12_o (by omega) rfl (by have rf_xe40 : tw_el Eg26 a0 47 (y26_3.toInt).toNat = xe40.toInt := (by rw [tw_el_of hxr39]; exact congrArg Int32.toInt exe40); have rf_xe45 : tw_el Eg26 a0 45 (xe40.toInt).toNat = xe45.toInt := (by rw [tw_el_of hxr43]; exact congrArg Int32.toInt exe45); rw [rf_xe40]; rw [if_neg (by omega), rf_xe45]) (fun j => (by have w := tw_el_st hxr38 hp47 hp48 hp49 j; show _ = (if j = (y26_3.toInt).toNat then xe45.toInt else tw_el Eg26 a0 44 j); rw [w]; (by_cases e : j = (y26_3.toInt).toNat; (rw [if_pos ⟨rfl, e⟩, if_pos e]); (rw [if_neg (fun y => e y.2), if_neg e])))) (tw_el_fr TH hst50 hm0 hk0 (by decide) (by decide) (k := 45) rfl (by decide) (by decide) (by decide)) (tw_el_fr TH hst50 hm0 hk0 (by decide) (by decide) (k := 47) rfl (by decide) (by decide) (by decide))
              have hcg26_13 : fc_ok E46 a0 (y26_3.toInt) (y26_2.toInt) := fc_keep (v := xe45.toInt) hcg26_13_o (by omega) (fun j => (by have w := tw_el_st hxr38 hp47 hp48 hp49 j; show _ = (if j = (y26_3.toInt).toNat then xe45.toInt else tw_el Eg26 a0 44 j); rw [w]; (by_cases e : j = (y26_3.toInt).toNat; (rw [if_pos ⟨rfl, e⟩, if_pos e]); (rw [if_neg (fun y => e y.2), if_neg e]))))
              refine lv_iload_n hx hb dX12_next__65 rfl (lv_at hl 1 rfl) ?_
              refine lv_aload_n hx hb dX12_next__66 rfl (lv_at hl 2 rfl) ?_
              refine tw_get (ci := 12) (C := RX12) (T := TX12) (N := 64) hx hb hB cx_inX12 hown hK TH hm0 hk0 rfl ⟨by decide, rfl⟩ 44 (by decide) cw_1237 (fun _ h9 => h9) dX12_next__67 (fun hv => ?_)
              rw [hmf56]
              refine lv_iload_n hx hb dX12_next__70 rfl (lv_at hl 0 rfl) ?_
              refine tw_iald (k := 353) (t0 := 0) (n := 24) (lo := (-1)) (hi := 149) hx hb hK TH hmxr38 hkxr38 (by decide) rfl rfl (i := y26_3) (vp_in_iff.mpr ⟨by  omega, by  omega⟩) dX12_next__71 (fun hxe59a hxe59b => ?_)
              obtain ⟨xe59, exe59⟩ : ∃ z : Int32, tw_iv E46 xr38 (Int32.toNatClampNeg y26_3) = z := ⟨_, rfl⟩
              rw [exe59] at hxe59a hxe59b ⊢
              refine lv_iconst (v := (-1)) hx hb dX12_next__72 (by decide) ?_
              refine lv_icmp_ne (tgt := 80) hx hb dX12_next__73 (by decide) (fun hc60 => ?_) (fun hc60 => ?_)
              · have hf61 : ¬ (xe59.toInt = (-1)) := fun q => hc60 ((fa_eq _ _).mpr (by have : (((-1) : Int32).toInt) = (-1) := (by decide); omega))
                refine lv_iconst (v := 0) hx hb dX12_next__80 (by decide) ?_
                refine lv_iadd hx hb dX12_next__81 ?_
                refine lv_topi (fun zi62 ezi62 => ?_)
                have hzi62 : zi62.toInt = y26_2.toInt + 0 := by rw [ezi62]; have : ((0 : Int32).toInt) = 0 := (by decide); have := ia_lo y26_2; have := ia_hi y26_2; exact (ia_add (by omega) (by omega)).trans (by omega)
                refine lv_istore_n (lv' := [(2, .int zi62), (3, .int y26_3), (0, .ref a0), (1, .int x1)]) hx hb dX12_next__82 rfl hl (by decide) rfl (fun ls hl => ?_)
                have rf_xe59 : tw_el E46 a0 44 (y26_3.toInt).toNat = xe59.toInt := (by rw [tw_el_of hmf56]; exact congrArg Int32.toInt exe59)
                have hfc83 : fc_ok E46 a0 (y26_3.toInt + 1) (zi62.toInt) := fc_push hcg26_13 (by omega) rfl (by rw [rf_xe59]; omega)
                obtain ⟨zi63, ezi63⟩ : ∃ z : Int32, z = y26_3 + Int32.ofInt 1 := ⟨_, rfl⟩
                have hzi63 : zi63.toInt = y26_3.toInt + 1 := by rw [ezi63]; have : ((Int32.ofInt 1).toInt) = 1 := (by decide);  exact (ia_add (by omega) (by omega)).trans (by omega)
                refine lv_iinc (v := zi63) (lv' := [(3, .int zi63), (2, .int zi62), (0, .ref a0), (1, .int x1)]) hx hb dX12_next__83 hl (k := 1) rfl ezi63.symm (by decide) rfl (fun ls hl => ?_)
                refine lv_goto (tgt := 26) hx hb dX12_next__86 (by decide) ?_
                exact ih26 (n26 - 1) (by   omega) zi63 zi62 _ _ _ ls (by omega) (by omega) (by  omega) (by  omega) (by  omega) (by  omega) (by  omega) (by  omega) (by   omega) hG26 hcg26_0 hcg26_1 hcg26_2 hcg26_3 hcg26_4 hcg26_5 hcg26_6 hcg26_7 hcg26_8 hcg26_9 hcg26_10 hcg26_11 (nx_ok_cast (by  omega) hcg26_12) (fc_ok_cast (by  omega) hfc83) TH hS (lv_sub hl [0, 1, 2, 3] rfl)
              · have hf64 : xe59.toInt = (-1) := by have z := (fa_eq _ _).mp hc60; have : (((-1) : Int32).toInt) = (-1) := (by decide); omega
                refine lv_iconst (v := 1) hx hb dX12_next__76 (by decide) ?_
                refine lv_goto (tgt := 81) hx hb dX12_next__77 (by decide) ?_
                refine lv_iadd hx hb dX12_next__81 ?_
                refine lv_topi (fun zi65 ezi65 => ?_)
                have hzi65 : zi65.toInt = y26_2.toInt + 1 := by rw [ezi65]; have : ((1 : Int32).toInt) = 1 := (by decide); have := ia_lo y26_2; have := ia_hi y26_2; exact (ia_add (by omega) (by omega)).trans (by omega)
                refine lv_istore_n (lv' := [(2, .int zi65), (3, .int y26_3), (0, .ref a0), (1, .int x1)]) hx hb dX12_next__82 rfl hl (by decide) rfl (fun ls hl => ?_)
                have rf_xe59 : tw_el E46 a0 44 (y26_3.toInt).toNat = xe59.toInt := (by rw [tw_el_of hmf56]; exact congrArg Int32.toInt exe59)
                have hfc83 : fc_ok E46 a0 (y26_3.toInt + 1) (zi65.toInt) := fc_push hcg26_13 (by omega) rfl (by rw [rf_xe59]; omega)
                obtain ⟨zi66, ezi66⟩ : ∃ z : Int32, z = y26_3 + Int32.ofInt 1 := ⟨_, rfl⟩
                have hzi66 : zi66.toInt = y26_3.toInt + 1 := by rw [ezi66]; have : ((Int32.ofInt 1).toInt) = 1 := (by decide);  exact (ia_add (by omega) (by omega)).trans (by omega)
                refine lv_iinc (v := zi66) (lv' := [(3, .int zi66), (2, .int zi65), (0, .ref a0), (1, .int x1)]) hx hb dX12_next__83 hl (k := 1) rfl ezi66.symm (by decide) rfl (fun ls hl => ?_)
                refine lv_goto (tgt := 26) hx hb dX12_next__86 (by decide) ?_
                exact ih26 (n26 - 1) (by   omega) zi66 zi65 _ _ _ ls (by omega) (by omega) (by  omega) (by  omega) (by  omega) (by  omega) (by  omega) (by  omega) (by   omega) hG26 hcg26_0 hcg26_1 hcg26_2 hcg26_3 hcg26_4 hcg26_5 hcg26_6 hcg26_7 hcg26_8 hcg26_9 hcg26_10 hcg26_11 (nx_ok_cast (by  omega) hcg26_12) (fc_ok_cast (by  omega) hfc83) TH hS (lv_sub hl [0, 1, 2, 3] rfl)
            · have hf67 : xe40.toInt = (-1) := by have z := (fa_eq _ _).mp hc41; have : (((-1) : Int32).toInt) = (-1) := (by decide); omega
              refine lv_iconst (v := (-1)) hx hb dX12_next__49 (by decide) ?_
              refine lv_goto (tgt := 64) hx hb dX12_next__50 (by decide) ?_
              refine tw_iast (k := 353) (n := 24) (lo := (-1)) (hi := 149) hx hb hK TH hS hmxr38 hkxr38 (by decide) rfl (i := y26_3) (x := (-1)) (vp_in_iff.mpr ⟨by  omega, by  omega⟩) (by have : (((-1) : Int32).toInt) = (-1) := (by decide); omega) (by have : (((-1) : Int32).toInt) = (-1) := (by decide); omega) dX12_next__64 (fun H locs E68 TH hS hp69 hp70 hp71 => ?_)
              have hst72 : tw_fr kp L [] [353] Eg26 E68 := tw_fr.ast tw_fr.rf (fun _ => hkxr38) hp69 hp70 (by decide)
              have hF := hF.tr hst72 (fun _ h => ⟨h, rfl⟩) (by decide) (by decide)
              have hG26 := hG26.tr hst72 (fun _ h => ⟨h, rfl⟩) (by decide) (by decide)
              have hmf73 : tw_fv E68 a0 14 = .int fv0_14 := (hst72.1 a0 14 hm0 (by rw [hk0]; decide)).trans hmf20
              have hmf74 : tw_fv E68 a0 1 = .int fv0_1 := (hst72.1 a0 1 hm0 (by rw [hk0]; decide)).trans hmf21
              have hmf75 : tw_fv E68 a0 27 = .int xi1 := (hst72.1 a0 27 hm0 (by rw [hk0]; decide)).trans hmf22
              have hmf76 : tw_fv E68 a0 50 = .int zfxc15_0_0 := (hst72.1 a0 50 hm0 (by rw [hk0]; decide)).trans hmf23
              have hmf77 : tw_fv E68 a0 28 = .int xi19 := (hst72.1 a0 28 hm0 (by rw [hk0]; decide)).trans hmf24
              have hmf78 : tw_fv E68 a0 44 = .ref xr38 := (hst72.1 a0 44 hm0 (by rw [hk0]; decide)).trans hxr38
              have hmf79 : tw_fv E68 a0 47 = .ref xr39 := (hst72.1 a0 47 hm0 (by rw [hk0]; decide)).trans hxr39
              have hcg26_0_o := hcg26_0
              have hcg26_1_o := hcg26_1
              have hcg26_2_o := hcg26_2
              have hcg26_3_o := hcg26_3
              have hcg26_4_o := hcg26_4
              have hcg26_5_o := hcg26_5
              have hcg26_6_o := hcg26_6
              have hcg26_7_o := hcg26_7
              have hcg26_8_o := hcg26_8
              have hcg26_9_o := hcg26_9
              have hcg26_10_o := hcg26_10
              have hcg26_11_o := hcg26_11
              have hcg26_12_o := hcg26_12
              have hcg26_13_o := hcg26_13
              have hcg26_0 : rd_ok E68 a0 := rd_ok_fr TH hst72 hm0 hk0 (by decide) (by decide) hcg26_0
              have hcg26_1 : eo_ok E68 a0 := eo_ok_fr TH hst72 hm0 hk0 (by decide) (by decide) hcg26_1
              have hcg26_2 : ht_ok E68 a0 := ht_ok_fr TH hst72 hm0 hk0 (by decide) (by decide) hcg26_2
              have hcg26_3 : dr_ok E68 a0 := dr_ok_fr TH hst72 hm0 hk0 (by decide) (by decide) hcg26_3
              have hcg26_4 : ln_ok E68 a0 := ln_ok_fr TH hst72 hm0 hk0 (by decide) (by decide) hcg26_4
              have hcg26_5 : dl_ok E68 a0 := dl_ok_fr TH hst72 hm0 hk0 (by decide) (by decide) hcg26_5
              have hcg26_6 : fw_ok E68 a0 := fw_ok_fr TH hst72 hm0 hk0 (by decide) (by decide) hcg26_6
              have hcg26_7 : kg_ok E68 a0 := kg_ok_fr TH hst72 hm0 hk0 (by decide) (by decide) hcg26_7
              have hcg26_8 : tt_ok E68 a0 := tt_ok_fr TH hst72 hm0 hk0 (by decide) (by decide) hcg26_8
              have hcg26_9 : row_ok E68 a0 (x1.toInt) := row_ok_fr TH hst72 hm0 hk0 (by decide) (by decide) (by omega) hcg26_9
              have hcg26_10 : ls_ok E68 a0 (x1.toInt) := ls_ok_fr TH hst72 hm0 hk0 (by decide) (by decide) (by omega) hcg26_10
              have hcg26_11 : pi_ok E68 a0 := pi_ok_fr TH hst72 hm0 hk0 (by decide) (by decide) hcg26_11
              have hcg26_12 : nx_ok E68 a0 (y26_3.toInt + 1) := nx_push (v := (-1)) hcg26_12_o (by omega) rfl (by have rf_xe40 : tw_el Eg26 a0 47 (y26_3.toInt).toNat = xe40.toInt := (by rw [tw_el_of hxr39]; exact congrArg Int32.toInt exe40); rw [rf_xe40]; rw [if_pos (by omega)]) (fun j => (by have w := tw_el_st hxr38 hp69 hp70 hp71 j; show _ = (if j = (y26_3.toInt).toNat then (-1) else tw_el Eg26 a0 44 j); rw [w]; (by_cases e : j = (y26_3.toInt).toNat; (rw [if_pos ⟨rfl, e⟩, if_pos e]; decide); (rw [if_neg (fun y => e y.2), if_neg e])))) (tw_el_fr TH hst72 hm0 hk0 (by decide) (by decide) (k := 45) rfl (by decide) (by decide) (by decide)) (tw_el_fr TH hst72 hm0 hk0 (by decide) (by decide) (k := 47) rfl (by decide) (by decide) (by decide))
              have hcg26_13 : fc_ok E68 a0 (y26_3.toInt) (y26_2.toInt) := fc_keep (v := (-1)) hcg26_13_o (by omega) (fun j => (by have w := tw_el_st hxr38 hp69 hp70 hp71 j; show _ = (if j = (y26_3.toInt).toNat then (-1) else tw_el Eg26 a0 44 j); rw [w]; (by_cases e : j = (y26_3.toInt).toNat; (rw [if_pos ⟨rfl, e⟩, if_pos e]; decide); (rw [if_neg (fun y => e y.2), if_neg e]))))
              refine lv_iload_n hx hb dX12_next__65 rfl (lv_at hl 1 rfl) ?_
              refine lv_aload_n hx hb dX12_next__66 rfl (lv_at hl 2 rfl) ?_
              refine tw_get (ci := 12) (C := RX12) (T := TX12) (N := 64) hx hb hB cx_inX12 hown hK TH hm0 hk0 rfl ⟨by decide, rfl⟩ 44 (by decide) cw_1237 (fun _ h9 => h9) dX12_next__67 (fun hv => ?_)
              rw [hmf78]
              refine lv_iload_n hx hb dX12_next__70 rfl (lv_at hl 0 rfl) ?_
              refine tw_iald (k := 353) (t0 := 0) (n := 24) (lo := (-1)) (hi := 149) hx hb hK TH hmxr38 hkxr38 (by decide) rfl rfl (i := y26_3) (vp_in_iff.mpr ⟨by  omega, by  omega⟩) dX12_next__71 (fun hxe80a hxe80b => ?_)
              obtain ⟨xe80, exe80⟩ : ∃ z : Int32, tw_iv E68 xr38 (Int32.toNatClampNeg y26_3) = z := ⟨_, rfl⟩
              rw [exe80] at hxe80a hxe80b ⊢
              refine lv_iconst (v := (-1)) hx hb dX12_next__72 (by decide) ?_
              refine lv_icmp_ne (tgt := 80) hx hb dX12_next__73 (by decide) (fun hc81 => ?_) (fun hc81 => ?_)
              · have hf82 : ¬ (xe80.toInt = (-1)) := fun q => hc81 ((fa_eq _ _).mpr (by have : (((-1) : Int32).toInt) = (-1) := (by decide); omega))
                refine lv_iconst (v := 0) hx hb dX12_next__80 (by decide) ?_
                refine lv_iadd hx hb dX12_next__81 ?_
                refine lv_topi (fun zi83 ezi83 => ?_)
                have hzi83 : zi83.toInt = y26_2.toInt + 0 := by rw [ezi83]; have : ((0 : Int32).toInt) = 0 := (by decide); have := ia_lo y26_2; have := ia_hi y26_2; exact (ia_add (by omega) (by omega)).trans (by omega)
                refine lv_istore_n (lv' := [(2, .int zi83), (3, .int y26_3), (0, .ref a0), (1, .int x1)]) hx hb dX12_next__82 rfl hl (by decide) rfl (fun ls hl => ?_)
                have rf_xe80 : tw_el E68 a0 44 (y26_3.toInt).toNat = xe80.toInt := (by rw [tw_el_of hmf78]; exact congrArg Int32.toInt exe80)
                have hfc83 : fc_ok E68 a0 (y26_3.toInt + 1) (zi83.toInt) := fc_push hcg26_13 (by omega) rfl (by rw [rf_xe80]; omega)
                obtain ⟨zi84, ezi84⟩ : ∃ z : Int32, z = y26_3 + Int32.ofInt 1 := ⟨_, rfl⟩
                have hzi84 : zi84.toInt = y26_3.toInt + 1 := by rw [ezi84]; have : ((Int32.ofInt 1).toInt) = 1 := (by decide);  exact (ia_add (by omega) (by omega)).trans (by omega)
                refine lv_iinc (v := zi84) (lv' := [(3, .int zi84), (2, .int zi83), (0, .ref a0), (1, .int x1)]) hx hb dX12_next__83 hl (k := 1) rfl ezi84.symm (by decide) rfl (fun ls hl => ?_)
                refine lv_goto (tgt := 26) hx hb dX12_next__86 (by decide) ?_
                exact ih26 (n26 - 1) (by   omega) zi84 zi83 _ _ _ ls (by omega) (by omega) (by  omega) (by  omega) (by  omega) (by  omega) (by  omega) (by  omega) (by   omega) hG26 hcg26_0 hcg26_1 hcg26_2 hcg26_3 hcg26_4 hcg26_5 hcg26_6 hcg26_7 hcg26_8 hcg26_9 hcg26_10 hcg26_11 (nx_ok_cast (by  omega) hcg26_12) (fc_ok_cast (by  omega) hfc83) TH hS (lv_sub hl [0, 1, 2, 3] rfl)
              · have hf85 : xe80.toInt = (-1) := by have z := (fa_eq _ _).mp hc81; have : (((-1) : Int32).toInt) = (-1) := (by decide); omega
                refine lv_iconst (v := 1) hx hb dX12_next__76 (by decide) ?_
                refine lv_goto (tgt := 81) hx hb dX12_next__77 (by decide) ?_
                refine lv_iadd hx hb dX12_next__81 ?_
                refine lv_topi (fun zi86 ezi86 => ?_)
                have hzi86 : zi86.toInt = y26_2.toInt + 1 := by rw [ezi86]; have : ((1 : Int32).toInt) = 1 := (by decide); have := ia_lo y26_2; have := ia_hi y26_2; exact (ia_add (by omega) (by omega)).trans (by omega)
                refine lv_istore_n (lv' := [(2, .int zi86), (3, .int y26_3), (0, .ref a0), (1, .int x1)]) hx hb dX12_next__82 rfl hl (by decide) rfl (fun ls hl => ?_)
                have rf_xe80 : tw_el E68 a0 44 (y26_3.toInt).toNat = xe80.toInt := (by rw [tw_el_of hmf78]; exact congrArg Int32.toInt exe80)
                have hfc83 : fc_ok E68 a0 (y26_3.toInt + 1) (zi86.toInt) := fc_push hcg26_13 (by omega) rfl (by rw [rf_xe80]; omega)
                obtain ⟨zi87, ezi87⟩ : ∃ z : Int32, z = y26_3 + Int32.ofInt 1 := ⟨_, rfl⟩
                have hzi87 : zi87.toInt = y26_3.toInt + 1 := by rw [ezi87]; have : ((Int32.ofInt 1).toInt) = 1 := (by decide);  exact (ia_add (by omega) (by omega)).trans (by omega)
                refine lv_iinc (v := zi87) (lv' := [(3, .int zi87), (2, .int zi86), (0, .ref a0), (1, .int x1)]) hx hb dX12_next__83 hl (k := 1) rfl ezi87.symm (by decide) rfl (fun ls hl => ?_)
                refine lv_goto (tgt := 26) hx hb dX12_next__86 (by decide) ?_
                exact ih26 (n26 - 1) (by   omega) zi87 zi86 _ _ _ ls (by omega) (by omega) (by  omega) (by  omega) (by  omega) (by  omega) (by  omega) (by  omega) (by   omega) hG26 hcg26_0 hcg26_1 hcg26_2 hcg26_3 hcg26_4 hcg26_5 hcg26_6 hcg26_7 hcg26_8 hcg26_9 hcg26_10 hcg26_11 (nx_ok_cast (by  omega) hcg26_12) (fc_ok_cast (by  omega) hfc83) TH hS (lv_sub hl [0, 1, 2, 3] rfl)
      exact hJ26 25 (0 : Int32) (0 : Int32) _ _ _ ls (by have : ((0 : Int32).toInt) = 0 := (by decide); omega) (by have : ((0 : Int32).toInt) = 0 := (by decide); omega) (by have : ((0 : Int32).toInt) = 0 := (by decide); omega) (by have : ((0 : Int32).toInt) = 0 := (by decide); omega) (by have : ((0 : Int32).toInt) = 0 := (by decide); omega) (by have : ((0 : Int32).toInt) = 0 := (by decide); omega) (by have : ((0 : Int32).toInt) = 0 := (by decide); omega) (by have : ((0 : Int32).toInt) = 0 := (by decide); omega) (by have : ((0 : Int32).toInt) = 0 := (by decide);  omega) tw_fr.rf hgpxc8_0 hgpxc8_1 hgpxc8_2 hgpxc8_3 hgpxc8_4 hgpxc8_5 hgpxc8_6 hgpxc8_7 htt17 hrow17 hgpxc15_0 hgpxc15_1 (nx_ok_cast (by have : ((0 : Int32).toInt) = 0 := (by decide); omega) hnx22) (fc_ok_cast (by have : ((0 : Int32).toInt) = 0 := (by decide); omega) hfc22) TH hS (lv_sub hl [0, 1, 2, 3] rfl)
    · have hf88 : xc8.toInt = 0 := by have z := (fa_eq _ _).mp hc12; have : ((0 : Int32).toInt) = 0 := (by decide); omega
      refine lv_iconst (v := (-1)) hx hb dX12_next__15 (by decide) ?_
      exact tw_iret hx hb hr hlocks TH hS hex ⟨⟨_, rfl, (show (-1) ≤ Int32.toInt (-1) from by have : (((-1) : Int32).toInt) = (-1) := (by decide); omega), (show Int32.toInt (-1) ≤ 11 from by have : (((-1) : Int32).toInt) = (-1) := (by decide); omega), (by have : (((-1) : Int32).toInt) = (-1) := (by decide); intro _; exact tw_fi_of hmf10), hgpxc8_0, hgpxc8_1, hgpxc8_2, hgpxc8_3, hgpxc8_4, hgpxc8_5, hgpxc8_6, hgpxc8_7⟩, rfl, rfl, hF⟩ (Nat.le_of_ble_eq_true rfl) (Nat.le_of_ble_eq_true rfl) dX12_next__16
set_option maxHeartbeats 4000000 in
set_option maxRecDepth 100000 in
theorem tX12_fault (l : Launch) (D : va_G) (cs : Nat → ClassId) {kp : Nat → Nat} {L : List Nat} {E : Nat → va_E} (a0 : Nat) (x1 : Int32) (hm0 : a0 ∈ L) (hk0 : kp a0 = 12) (hp1a : 0 ≤ x1.toInt) (hp1b : x1.toInt ≤ 1) (hg0 : rd_ok E a0) (hg1 : eo_ok E a0) (hg2 : ht_ok E a0) (hg3 : dr_ok E a0) (hg4 : ln_ok E a0) (hg5 : dl_ok E a0) (hg6 : fw_ok E a0) (hg7 : kg_ok E a0) (hg8 : rg_ok E a0) (sz : Nat) : Met l yX12_fault (.code yX12_fault cX12_fault 2 (some .int) :: cx_big) { frames := 15, cells := 0, slots := 0, locals := 367 } (tw_P D cs kp L E [.ref a0, .int x1] sz) (tw_Q D cs kp L (fun v kq Lq Eq => (∃ x : Int32, v = some (.int x) ∧ (-1) ≤ x.toInt ∧ x.toInt ≤ 500 ∧ rd_ok Eq a0 ∧ eo_ok Eq a0 ∧ ht_ok Eq a0 ∧ dr_ok Eq a0 ∧ ln_ok Eq a0 ∧ dl_ok Eq a0 ∧ fw_ok Eq a0 ∧ kg_ok Eq a0 ∧ rg_ok Eq a0) ∧ kp = kq ∧ L = Lq ∧ tw_fr kp L [(12, 2), (12, 3), (12, 4), (12, 15), (12, 28)] [301, 302, 303, 304, 305, 320, 321, 322, 323, 326, 327, 328, 329, 332, 343, 344, 345, 346, 347] E Eq) (va_A (va_pl L E) sz)) 0 0 (va_A (va_pl L E) sz) := by
  refine tw_ofW (by decide) (Nat.le_of_ble_eq_true rfl) ?_
  intro p e s m below meth c A ls hx hb hr hml hB hown hlocks hK hN hA TH hS hl
  have hown : s.vm.findClass "TreeMergeModel" = some m.cls := hown
  have hl : lv_has ls 2 [(0, .ref a0), (1, .int x1)] := hl
  obtain ⟨kp0, ekp⟩ : ∃ z, z = kp := ⟨_, rfl⟩
  obtain ⟨L0, eL⟩ : ∃ z, z = L := ⟨_, rfl⟩
  rw [show tw_Q D cs kp L = tw_Q D cs kp0 L0 by rw [ekp, eL]]
  have hex : ∀ a : Nat, a ∈ L0 → a ∈ L ∧ kp a = kp0 a := fun a h => ⟨by rw [← eL]; exact h, by rw [ekp]⟩
  have hF : tw_fr kp L [(12, 2), (12, 3), (12, 4), (12, 15), (12, 28)] [301, 302, 303, 304, 305, 320, 321, 322, 323, 326, 327, 328, 329, 332, 343, 344, 345, 346, 347] E E := tw_fr.rf
  refine lv_iload_n hx hb dX12_fault_0 rfl (lv_at hl 1 rfl) ?_
  refine lv_if_eq (tgt := 11) hx hb dX12_fault_1 (by decide) (fun hc1 => ?_) (fun hc1 => ?_)
  · have hf2 : x1.toInt = 0 := by have z := (fa_eq _ _).mp hc1; have : ((0 : Int32).toInt) = 0 := (by decide); omega
    refine lv_aload_n hx hb dX12_fault_11 rfl (lv_at hl 0 rfl) ?_
    obtain ⟨xi3, hxi3, hxi3a, hxi3b⟩ := tw_rd TH hm0 hk0 (by decide) (by decide) (k := 1) rfl
    refine tw_Vc (o := a0) (ci := 12) (n := 0) (post := (fun v kq Lq Eq => v = none ∧ kp = kq ∧ L = Lq ∧ tw_fr kp L [(12, 2), (12, 3), (12, 4), (12, 15)] [301, 302, 303, 304, 305, 320, 321, 322, 323] E Eq ∧ (tw_fi Eq a0 4 = -1 → gy_all (tw_el E a0 0) xi3.toInt = tw_fi Eq a0 15 ∧ 1 ≤ tw_fi Eq a0 15) ∧ (tw_fi Eq a0 4 ≠ -1 → gy_all (tw_el E a0 0) xi3.toInt = -1) ∧ (tw_fi Eq a0 4 = -1 → gk_ok Eq a0) ∧ rg_ok Eq a0)) (As := []) (rest := []) ⟨hx, hb, hml, hown, hB⟩ (fun sz => tX12_readsGrammar l D cs a0 xi3 hm0 hk0 hxi3 hg8 sz) cg_12_285_X12_readsGrammar rfl rfl (by decide +kernel) ⟨Nat.le_of_ble_eq_true rfl, Nat.le_of_ble_eq_true rfl⟩ hK hN TH hS hA rfl hm0 hk0 (by decide) rfl hl.1 rfl (Nat.le_of_ble_eq_true rfl) dX12_fault_12 ⟨Nat.le_of_ble_eq_true rfl, Nat.le_of_ble_eq_true rfl⟩ (fun v4 kp4 L4 E4 H locs hq4 hx4 TH hS => ?_)
    obtain ⟨rfl, rfl, rfl, hst4, hpoxc5_0, hpoxc5_1, hpoxc5_2, hgpxc5_0⟩ := hq4
    have hF := hF.tr hst4 (fun _ h => ⟨h, rfl⟩) (by decide) (by decide)
    have hmf6 : tw_fv E4 a0 1 = .int xi3 := (hst4.1 a0 1 hm0 (by rw [hk0]; decide)).trans hxi3
    have hg0 : rd_ok E4 a0 := rd_ok_fr TH hst4 hm0 hk0 (by decide) (by decide) hg0
    have hg1 : eo_ok E4 a0 := eo_ok_fr TH hst4 hm0 hk0 (by decide) (by decide) hg1
    have hg2 : ht_ok E4 a0 := ht_ok_fr TH hst4 hm0 hk0 (by decide) (by decide) hg2
    have hg3 : dr_ok E4 a0 := dr_ok_fr TH hst4 hm0 hk0 (by decide) (by decide) hg3
    have hg4 : ln_ok E4 a0 := ln_ok_fr TH hst4 hm0 hk0 (by decide) (by decide) hg4
    have hg5 : dl_ok E4 a0 := dl_ok_fr TH hst4 hm0 hk0 (by decide) (by decide) hg5
    have hg6 : fw_ok E4 a0 := fw_ok_fr TH hst4 hm0 hk0 (by decide) (by decide) hg6
    have hg7 : kg_ok E4 a0 := kg_ok_fr TH hst4 hm0 hk0 (by decide) (by decide) hg7
    refine W.eq (g2 := F0 m 15 ls []) rfl ?_
    refine lv_aload_n hx hb dX12_fault_15 rfl (lv_at hl 0 rfl) ?_
    refine tw_get (ci := 12) (C := RX12) (T := TX12) (N := 64) hx hb hB cx_inX12 hown hK TH hm0 hk0 rfl ⟨by decide, rfl⟩ 4 (by decide) cw_1197 (fun _ h9 => h9) dX12_fault_16 (fun hv => ?_)
    obtain ⟨xi7, hxi7, hxi7a, hxi7b⟩ : ∃ x : Int32, tw_fv E4 a0 4 = .int x ∧ (-1) ≤ x.toInt ∧ x.toInt ≤ 500 := hv
    rw [hxi7]
    exact tw_iret hx hb hr hlocks TH hS hex ⟨⟨_, rfl, (show (-1) ≤ Int32.toInt xi7 from by  omega), (show Int32.toInt xi7 ≤ 500 from by  omega), hg0, hg1, hg2, hg3, hg4, hg5, hg6, hg7, hgpxc5_0⟩, rfl, rfl, hF⟩ (Nat.le_of_ble_eq_true rfl) (Nat.le_of_ble_eq_true rfl) dX12_fault_19
  · have hf8 : ¬ (x1.toInt = 0) := fun q => hc1 ((fa_eq _ _).mpr (by have : ((0 : Int32).toInt) = 0 := (by decide); omega))
    refine lv_aload_n hx hb dX12_fault_4 rfl (lv_at hl 0 rfl) ?_
    obtain ⟨xi9, hxi9, hxi9a, hxi9b⟩ := tw_rd TH hm0 hk0 (by decide) (by decide) (k := 27) rfl
    have hk27 := trivial
    refine tw_Vc (o := a0) (ci := 12) (n := 0) (post := (fun v kq Lq Eq => v = none ∧ kp = kq ∧ L = Lq ∧ tw_fr kp L [(12, 2), (12, 3), (12, 4), (12, 28)] [326, 327, 328, 329, 332, 343, 344, 345, 346, 347] E Eq ∧ (ot_ok Eq a0 15 E) ∧ (tw_fi Eq a0 4 = -1 → tt_ok Eq a0) ∧ (ht_ok Eq a0) ∧ rd_ok Eq a0 ∧ kg_ok Eq a0)) (As := []) (rest := []) ⟨hx, hb, hml, hown, hB⟩ (fun sz => tX12_readsTree l D cs a0 hm0 hk0 hg0 hg7 sz) cg_12_282_X12_readsTree rfl rfl (by decide +kernel) ⟨Nat.le_of_ble_eq_true rfl, Nat.le_of_ble_eq_true rfl⟩ hK hN TH hS hA rfl hm0 hk0 (by decide) rfl hl.1 rfl (Nat.le_of_ble_eq_true rfl) dX12_fault_5 ⟨Nat.le_of_ble_eq_true rfl, Nat.le_of_ble_eq_true rfl⟩ (fun v10 kp10 L10 E10 H locs hq10 hx10 TH hS => ?_)
    obtain ⟨rfl, rfl, rfl, hst10, hpoxc11_0, hpoxc11_1, hpoxc11_2, hgpxc11_0, hgpxc11_1⟩ := hq10
    have hF := hF.tr hst10 (fun _ h => ⟨h, rfl⟩) (by decide) (by decide)
    have hmf12 : tw_fv E10 a0 27 = .int xi9 := (hst10.1 a0 27 hm0 (by rw [hk0]; decide)).trans hxi9
    have hg1_o := hg1
    have hg2_o := hg2
    have hg3_o := hg3
    have hg4_o := hg4
    have hg5_o := hg5
    have hg6_o := hg6
    have hg8_o := hg8
    have hg1 : eo_ok E10 a0 := eo_ok_ot (r := 15) TH hst10 hm0 hk0 (by decide) (by have e14 : ((14 : Int32).toInt) = 14 := (by decide); have q := hpoxc11_0; (try rw [e14] at q); exact q) (by rw [tw_fi_of hxi9]; omega) hg1_o
    have hg2 : ht_ok E10 a0 := hpoxc11_2
    have hg3 : dr_ok E10 a0 := dr_ok_ot (r := 15) hst10 hm0 hk0 (by decide) (by have e14 : ((14 : Int32).toInt) = 14 := (by decide); have q := hpoxc11_0; (try rw [e14] at q); exact q) (by decide) hg3_o
    have hg4 : ln_ok E10 a0 := ln_ok_ot (r := 15) TH hst10 hm0 hk0 (by decide) (by decide) (by have e14 : ((14 : Int32).toInt) = 14 := (by decide); have q := hpoxc11_0; (try rw [e14] at q); exact q) (by rw [tw_fi_of hxi9]; omega) hg4_o
    have hg5 : dl_ok E10 a0 := dl_ok_ot (r := 15) TH hst10 hm0 hk0 (by decide) (by have e14 : ((14 : Int32).toInt) = 14 := (by decide); have q := hpoxc11_0; (try rw [e14] at q); exact q) (by decide) (by rw [tw_fi_of hxi9]; omega) hg5_o
    have hg6 : fw_ok E10 a0 := fw_ok_ot (r := 15) TH hst10 hm0 hk0 (by decide) (by have e14 : ((14 : Int32).toInt) = 14 := (by decide); have q := hpoxc11_0; (try rw [e14] at q); exact q) (by decide) hg6_o
    have hg8 : rg_ok E10 a0 := rg_ok_fr TH hst10 hm0 hk0 (by decide) (by decide) hg8
    refine W.eq (g2 := F0 m 8 ls []) rfl ?_
    refine lv_goto (tgt := 15) hx hb dX12_fault_8 (by decide) ?_
    refine lv_aload_n hx hb dX12_fault_15 rfl (lv_at hl 0 rfl) ?_
    refine tw_get (ci := 12) (C := RX12) (T := TX12) (N := 64) hx hb hB cx_inX12 hown hK TH hm0 hk0 rfl ⟨by decide, rfl⟩ 4 (by decide) cw_1197 (fun _ h9 => h9) dX12_fault_16 (fun hv => ?_)
    obtain ⟨xi13, hxi13, hxi13a, hxi13b⟩ : ∃ x : Int32, tw_fv E10 a0 4 = .int x ∧ (-1) ≤ x.toInt ∧ x.toInt ≤ 500 := hv
    rw [hxi13]
    exact tw_iret hx hb hr hlocks TH hS hex ⟨⟨_, rfl, (show (-1) ≤ Int32.toInt xi13 from by  omega), (show Int32.toInt xi13 ≤ 500 from by  omega), hgpxc11_0, hg1, hg2, hg3, hg4, hg5, hg6, hgpxc11_1, hg8⟩, rfl, rfl, hF⟩ (Nat.le_of_ble_eq_true rfl) (Nat.le_of_ble_eq_true rfl) dX12_fault_19
set_option maxHeartbeats 4000000 in
set_option maxRecDepth 100000 in
theorem tX12_grammar (l : Launch) (D : va_G) (cs : Nat → ClassId) {kp : Nat → Nat} {L : List Nat} {E : Nat → va_E} (a0 : Nat) (fv0_14 : Int32) (fv0_1 : Int32) (hm0 : a0 ∈ L) (hk0 : kp a0 = 12) (hfv0_14 : tw_fv E a0 14 = .int fv0_14) (hfv0_1 : tw_fv E a0 1 = .int fv0_1) (hg0 : kg_ok E a0) (hg1 : rg_ok E a0) (sz : Nat) : Met l yX12_grammar (.code yX12_grammar cX12_grammar 3 (some .int) :: cx_big) { frames := 9, cells := 0, slots := 0, locals := 197 } (tw_P D cs kp L E [.ref a0] sz) (tw_Q D cs kp L (fun v kq Lq Eq => (∃ x : Int32, v = some (.int x) ∧ (0 < fv0_14.toInt → x.toInt = -1 ∧ tw_fi Eq a0 14 = fv0_14.toInt) ∧ (fv0_14.toInt = 0 → x.toInt = gy_all (tw_el E a0 0) fv0_1.toInt) ∧ (fv0_14.toInt = 0 → (x.toInt = -1 ∧ tw_fi Eq a0 14 = 0 ∧ tw_fi Eq a0 1 = fv0_1.toInt) ∨ (1 ≤ tw_fi Eq a0 14 ∧ x.toInt = tw_fi Eq a0 14)) ∧ kg_ok Eq a0 ∧ rg_ok Eq a0) ∧ kp = kq ∧ L = Lq ∧ tw_fr kp L [(12, 1), (12, 2), (12, 3), (12, 4), (12, 14), (12, 15)] [301, 302, 303, 304, 305, 320, 321, 322, 323, 336, 337, 338, 339, 340, 351, 352] E Eq) (va_A (va_pl L E) sz)) 0 0 (va_A (va_pl L E) sz) := by
  refine tw_ofW (by decide) (Nat.le_of_ble_eq_true rfl) ?_
  intro p e s m below meth c A ls hx hb hr hml hB hown hlocks hK hN hA TH hS hl
  have hown : s.vm.findClass "TreeMergeModel" = some m.cls := hown
  have hl : lv_has ls 3 [(0, .ref a0)] := hl
  obtain ⟨kp0, ekp⟩ : ∃ z, z = kp := ⟨_, rfl⟩
  obtain ⟨L0, eL⟩ : ∃ z, z = L := ⟨_, rfl⟩
  rw [show tw_Q D cs kp L = tw_Q D cs kp0 L0 by rw [ekp, eL]]
  have hex : ∀ a : Nat, a ∈ L0 → a ∈ L ∧ kp a = kp0 a := fun a h => ⟨by rw [← eL]; exact h, by rw [ekp]⟩
  have hF : tw_fr kp L [(12, 1), (12, 2), (12, 3), (12, 4), (12, 14), (12, 15)] [301, 302, 303, 304, 305, 320, 321, 322, 323, 336, 337, 338, 339, 340, 351, 352] E E := tw_fr.rf
  obtain ⟨qfv0_14, hqfv0_14, hqfv0_14a, hqfv0_14b⟩ := tw_rd TH hm0 hk0 (by decide) (by decide) (k := 14) rfl
  have eqfv0_14 : qfv0_14 = fv0_14 := by have q := hqfv0_14.symm.trans hfv0_14; injection q
  rw [eqfv0_14] at hqfv0_14a hqfv0_14b
  obtain ⟨qfv0_1, hqfv0_1, hqfv0_1a, hqfv0_1b⟩ := tw_rd TH hm0 hk0 (by decide) (by decide) (k := 1) rfl
  have eqfv0_1 : qfv0_1 = fv0_1 := by have q := hqfv0_1.symm.trans hfv0_1; injection q
  rw [eqfv0_1] at hqfv0_1a hqfv0_1b
  refine lv_aload_n hx hb dX12_grammar_0 rfl (lv_at hl 0 rfl) ?_
  refine tw_get (ci := 12) (C := RX12) (T := TX12) (N := 64) hx hb hB cx_inX12 hown hK TH hm0 hk0 rfl ⟨by decide, rfl⟩ 14 (by decide) cw_1207 (fun _ h9 => h9) dX12_grammar_1 (fun hv => ?_)
  rw [hfv0_14]
  refine lv_if_le (tgt := 9) hx hb dX12_grammar_4 (by decide) (fun hc1 => ?_) (fun hc1 => ?_)
  · have hf2 : fv0_14.toInt ≤ 0 := by have z := (fa_le _ _).mp hc1; have : ((0 : Int32).toInt) = 0 := (by decide); omega
    refine lv_aload_n hx hb dX12_grammar_9 rfl (lv_at hl 0 rfl) ?_
    refine tw_Vc (o := a0) (ci := 12) (n := 0) (post := (fun v kq Lq Eq => v = none ∧ kp = kq ∧ L = Lq ∧ tw_fr kp L [(12, 2), (12, 3), (12, 4), (12, 15)] [301, 302, 303, 304, 305, 320, 321, 322, 323] E Eq ∧ (tw_fi Eq a0 4 = -1 → gy_all (tw_el E a0 0) fv0_1.toInt = tw_fi Eq a0 15 ∧ 1 ≤ tw_fi Eq a0 15) ∧ (tw_fi Eq a0 4 ≠ -1 → gy_all (tw_el E a0 0) fv0_1.toInt = -1) ∧ (tw_fi Eq a0 4 = -1 → gk_ok Eq a0) ∧ rg_ok Eq a0)) (As := []) (rest := []) ⟨hx, hb, hml, hown, hB⟩ (fun sz => tX12_readsGrammar l D cs a0 fv0_1 hm0 hk0 hfv0_1 hg1 sz) cg_12_285_X12_readsGrammar rfl rfl (by decide +kernel) ⟨Nat.le_of_ble_eq_true rfl, Nat.le_of_ble_eq_true rfl⟩ hK hN TH hS hA rfl hm0 hk0 (by decide) rfl hl.1 rfl (Nat.le_of_ble_eq_true rfl) dX12_grammar_10 ⟨Nat.le_of_ble_eq_true rfl, Nat.le_of_ble_eq_true rfl⟩ (fun v3 kp3 L3 E3 H locs hq3 hx3 TH hS => ?_)
    obtain ⟨rfl, rfl, rfl, hst3, hpoxc4_0, hpoxc4_1, hpoxc4_2, hgpxc4_0⟩ := hq3
    have hF := hF.tr hst3 (fun _ h => ⟨h, rfl⟩) (by decide) (by decide)
    have hmf5 : tw_fv E3 a0 14 = .int fv0_14 := (hst3.1 a0 14 hm0 (by rw [hk0]; decide)).trans hfv0_14
    have hmf6 : tw_fv E3 a0 1 = .int fv0_1 := (hst3.1 a0 1 hm0 (by rw [hk0]; decide)).trans hfv0_1
    have hg0 : kg_ok E3 a0 := kg_ok_fr TH hst3 hm0 hk0 (by decide) (by decide) hg0
    refine W.eq (g2 := F0 m 13 ls []) rfl ?_
    refine lv_aload_n hx hb dX12_grammar_13 rfl (lv_at hl 0 rfl) ?_
    refine tw_get (ci := 12) (C := RX12) (T := TX12) (N := 64) hx hb hB cx_inX12 hown hK TH hm0 hk0 rfl ⟨by decide, rfl⟩ 4 (by decide) cw_1197 (fun _ h9 => h9) dX12_grammar_14 (fun hv => ?_)
    obtain ⟨xi7, hxi7, hxi7a, hxi7b⟩ : ∃ x : Int32, tw_fv E3 a0 4 = .int x ∧ (-1) ≤ x.toInt ∧ x.toInt ≤ 500 := hv
    rw [hxi7]
    refine lv_iconst (v := (-1)) hx hb dX12_grammar_17 (by decide) ?_
    refine lv_icmp_eq (tgt := 23) hx hb dX12_grammar_18 (by decide) (fun hc8 => ?_) (fun hc8 => ?_)
    · have hf9 : xi7.toInt = (-1) := by have z := (fa_eq _ _).mp hc8; have : (((-1) : Int32).toInt) = (-1) := (by decide); omega
      obtain ⟨xi10, hxi10, hxi10a, hxi10b⟩ := tw_rd TH hm0 hk0 (by decide) (by decide) (k := 15) rfl
      have hwz := hpoxc4_0 (by rw [tw_fi_of hxi7]; omega)
      rw [tw_fi_of hxi10] at hwz
      have hgk23 : gk_ok E3 a0 := hpoxc4_2 (by rw [tw_fi_of hxi7]; omega)
      refine lv_aload_n hx hb dX12_grammar_23 rfl (lv_at hl 0 rfl) ?_
      refine lv_aload_n hx hb dX12_grammar_24 rfl (lv_at hl 0 rfl) ?_
      refine tw_get (ci := 12) (C := RX12) (T := TX12) (N := 64) hx hb hB cx_inX12 hown hK TH hm0 hk0 rfl ⟨by decide, rfl⟩ 15 (by decide) cw_1208 (fun _ h9 => h9) dX12_grammar_25 (fun hv => ?_)
      rw [hxi10]
      refine tw_put (ci := 12) (v := .int xi10) (ty := .int) (C := RX12) (T := TX12) (N := 64) hx hb hB cx_inX12 tyX12 tyX12_ok nmX12 hown hK TH hS hm0 hk0 rfl ⟨by decide, rfl⟩ 14 (by decide) cw_1207 (fun _ h9 => h9) rfl (by decide +kernel) rfl rfl ⟨_, rfl, (show 0 ≤ Int32.toInt xi10 from by  omega), (show Int32.toInt xi10 ≤ 10 from by  omega)⟩ dX12_grammar_28 (fun H locs E11 TH hS hmf15 hp12 hp13 => ?_)
      have hst14 : tw_fr kp L [(12, 14)] [] E3 E11 := tw_fr.put tw_fr.rf (fun _ => hk0) (by decide) hp12 hp13 (by decide)
      have hF := hF.tr hst14 (fun _ h => ⟨h, rfl⟩) (by decide) (by decide)
      have hmf16 : tw_fv E11 a0 1 = .int fv0_1 := (hst14.1 a0 1 hm0 (by rw [hk0]; decide)).trans hmf6
      have hmf17 : tw_fv E11 a0 4 = .int xi7 := (hst14.1 a0 4 hm0 (by rw [hk0]; decide)).trans hxi7
      have hmf18 : tw_fv E11 a0 15 = .int xi10 := (hst14.1 a0 15 hm0 (by rw [hk0]; decide)).trans hxi10
      have hg0 : kg_ok E11 a0 := kg_ok_fr TH hst14 hm0 hk0 (by decide) (by decide) hg0
      have hgpxc4_0 : rg_ok E11 a0 := rg_ok_fr TH hst14 hm0 hk0 (by decide) (by decide) hgpxc4_0
      have hgk23 : gk_ok E11 a0 := gk_ok_fr TH hst14 hm0 hk0 (by decide) (by decide) hgk23
      refine lv_iconst (v := 0) hx hb dX12_grammar_31 (by decide) ?_
      refine lv_istore_n (lv' := [(1, .int 0), (0, .ref a0)]) hx hb dX12_grammar_32 rfl hl (by decide) rfl (fun ls hl => ?_)
      have hJ33 : ∀ (n33 : Nat) (y33_1 : Int32) (Eg33 : Nat → va_E) (H : Heap) (locs : List Loc) (ls : Array Slot), 0 ≤ y33_1.toInt → y33_1.toInt ≤ 500 → 500 - y33_1.toInt ≤ (n33 : Int) → tw_fr kp L [] [336] E11 Eg33 → kg_ok Eg33 a0 → rg_ok Eg33 a0 → gk_ok Eg33 a0 → tw_H D cs kp L Eg33 A H → va_S A s.heap H locs → lv_has ls 3 [(1, .int y33_1), (0, .ref a0)] → W p l e { frames := 9, cells := 0, slots := 0, locals := 197 } s m [.ref a0].toArray below meth c H locs 0 0 (MQ below (tw_Q D cs kp0 L0 (fun v kq Lq Eq => (∃ x : Int32, v = some (.int x) ∧ (0 < fv0_14.toInt → x.toInt = -1 ∧ tw_fi Eq a0 14 = fv0_14.toInt) ∧ (fv0_14.toInt = 0 → x.toInt = gy_all (tw_el E a0 0) fv0_1.toInt) ∧ (fv0_14.toInt = 0 → (x.toInt = -1 ∧ tw_fi Eq a0 14 = 0 ∧ tw_fi Eq a0 1 = fv0_1.toInt) ∨ (1 ≤ tw_fi Eq a0 14 ∧ x.toInt = tw_fi Eq a0 14)) ∧ kg_ok Eq a0 ∧ rg_ok Eq a0) ∧ kp = kq ∧ L = Lq ∧ tw_fr kp L [(12, 1), (12, 2), (12, 3), (12, 4), (12, 14), (12, 15)] [301, 302, 303, 304, 305, 320, 321, 322, 323, 336, 337, 338, 339, 340, 351, 352] E Eq) A) [.ref a0].toArray s 0 0 A) (F0 m 33 ls []) := by
        intro n33
        induction n33 using Nat.strongRecOn with
        | _ n33 ih33 =>
          intro y33_1 Eg33 H locs ls hy33_1a hy33_1b hmeas33 hG33 hcg33_0 hcg33_1 hcg33_2 TH hS hl
          have hF := hF.tr hG33 (fun _ h => ⟨h, rfl⟩) (by decide) (by decide)
          have hmf19 : tw_fv Eg33 a0 1 = .int fv0_1 := (hG33.1 a0 1 hm0 (by rw [hk0]; decide)).trans hmf16
          have hmf20 : tw_fv Eg33 a0 4 = .int xi7 := (hG33.1 a0 4 hm0 (by rw [hk0]; decide)).trans hmf17
          have hmf21 : tw_fv Eg33 a0 15 = .int xi10 := (hG33.1 a0 15 hm0 (by rw [hk0]; decide)).trans hmf18
          have hmf22 : tw_fv Eg33 a0 14 = .int xi10 := (hG33.1 a0 14 hm0 (by rw [hk0]; decide)).trans hmf15
          refine lv_iload_n hx hb dX12_grammar_33 rfl (lv_at hl 0 rfl) ?_
          refine lv_sipush (v := 500) hx hb dX12_grammar_34 (by decide) ?_
          refine lv_icmp_ge (tgt := 58) hx hb dX12_grammar_37 (by decide) (fun hc23 => ?_) (fun hc23 => ?_)
          · have hf24 : 500 ≤ y33_1.toInt := by have z := (fa_le _ _).mp hc23; have : ((500 : Int32).toInt) = 500 := (by decide); omega
            refine lv_iconst (v := 0) hx hb dX12_grammar_58 (by decide) ?_
            refine lv_istore_n (lv' := [(1, .int 0), (0, .ref a0)]) hx hb dX12_grammar_59 rfl hl (by decide) rfl (fun ls hl => ?_)
            have hJ60 : ∀ (n60 : Nat) (y60_1 : Int32) (Eg60 : Nat → va_E) (H : Heap) (locs : List Loc) (ls : Array Slot), 0 ≤ y60_1.toInt → y60_1.toInt ≤ 10 → 10 - y60_1.toInt ≤ (n60 : Int) → tw_fr kp L [] [337, 338, 339, 340, 351, 352] Eg33 Eg60 → kg_ok Eg60 a0 → rg_ok Eg60 a0 → gk_ok Eg60 a0 → tw_H D cs kp L Eg60 A H → va_S A s.heap H locs → lv_has ls 3 [(1, .int y60_1), (0, .ref a0)] → W p l e { frames := 9, cells := 0, slots := 0, locals := 197 } s m [.ref a0].toArray below meth c H locs 0 0 (MQ below (tw_Q D cs kp0 L0 (fun v kq Lq Eq => (∃ x : Int32, v = some (.int x) ∧ (0 < fv0_14.toInt → x.toInt = -1 ∧ tw_fi Eq a0 14 = fv0_14.toInt) ∧ (fv0_14.toInt = 0 → x.toInt = gy_all (tw_el E a0 0) fv0_1.toInt) ∧ (fv0_14.toInt = 0 → (x.toInt = -1 ∧ tw_fi Eq a0 14 = 0 ∧ tw_fi Eq a0 1 = fv0_1.toInt) ∨ (1 ≤ tw_fi Eq a0 14 ∧ x.toInt = tw_fi Eq a0 14)) ∧ kg_ok Eq a0 ∧ rg_ok Eq a0) ∧ kp = kq ∧ L = Lq ∧ tw_fr kp L [(12, 1), (12, 2), (12, 3), (12, 4), (12, 14), (12, 15)] [301, 302, 303, 304, 305, 320, 321, 322, 323, 336, 337, 338, 339, 340, 351, 352] E Eq) A) [.ref a0].toArray s 0 0 A) (F0 m 60 ls []) := by
              intro n60
              induction n60 using Nat.strongRecOn with
              | _ n60 ih60 =>
                intro y60_1 Eg60 H locs ls hy60_1a hy60_1b hmeas60 hG60 hcg60_0 hcg60_1 hcg60_2 TH hS hl
                have hF := hF.tr hG60 (fun _ h => ⟨h, rfl⟩) (by decide) (by decide)
                have hmf25 : tw_fv Eg60 a0 1 = .int fv0_1 := (hG60.1 a0 1 hm0 (by rw [hk0]; decide)).trans hmf19
                have hmf26 : tw_fv Eg60 a0 4 = .int xi7 := (hG60.1 a0 4 hm0 (by rw [hk0]; decide)).trans hmf20
                have hmf27 : tw_fv Eg60 a0 15 = .int xi10 := (hG60.1 a0 15 hm0 (by rw [hk0]; decide)).trans hmf21
                have hmf28 : tw_fv Eg60 a0 14 = .int xi10 := (hG60.1 a0 14 hm0 (by rw [hk0]; decide)).trans hmf22
                refine lv_iload_n hx hb dX12_grammar_60 rfl (lv_at hl 0 rfl) ?_
                refine lv_aload_n hx hb dX12_grammar_61 rfl (lv_at hl 1 rfl) ?_
                refine tw_get (ci := 12) (C := RX12) (T := TX12) (N := 64) hx hb hB cx_inX12 hown hK TH hm0 hk0 rfl ⟨by decide, rfl⟩ 14 (by decide) cw_1207 (fun _ h9 => h9) dX12_grammar_62 (fun hv => ?_)
                rw [hmf28]
                refine lv_icmp_ge (tgt := 172) hx hb dX12_grammar_65 (by decide) (fun hc29 => ?_) (fun hc29 => ?_)
                · have hf30 : xi10.toInt ≤ y60_1.toInt := by have z := (fa_le _ _).mp hc29;  omega
                  refine lv_aload_n hx hb dX12_grammar_172 rfl (lv_at hl 1 rfl) ?_
                  refine lv_iconst (v := 0) hx hb dX12_grammar_173 (by decide) ?_
                  refine tw_put (ci := 12) (v := .int 0) (ty := .int) (C := RX12) (T := TX12) (N := 64) hx hb hB cx_inX12 tyX12 tyX12_ok nmX12 hown hK TH hS hm0 hk0 rfl ⟨by decide, rfl⟩ 1 (by decide) cw_1194 (fun _ h9 => h9) rfl (by decide +kernel) rfl rfl ⟨_, rfl, (show 0 ≤ Int32.toInt 0 from by have : ((0 : Int32).toInt) = 0 := (by decide); omega), (show Int32.toInt 0 ≤ 500 from by have : ((0 : Int32).toInt) = 0 := (by decide); omega)⟩ dX12_grammar_174 (fun H locs E31 TH hS hmf35 hp32 hp33 => ?_)
                  have hst34 : tw_fr kp L [(12, 1)] [] Eg60 E31 := tw_fr.put tw_fr.rf (fun _ => hk0) (by decide) hp32 hp33 (by decide)
                  have hF := hF.tr hst34 (fun _ h => ⟨h, rfl⟩) (by decide) (by decide)
                  have hmf36 : tw_fv E31 a0 4 = .int xi7 := (hst34.1 a0 4 hm0 (by rw [hk0]; decide)).trans hmf26
                  have hmf37 : tw_fv E31 a0 15 = .int xi10 := (hst34.1 a0 15 hm0 (by rw [hk0]; decide)).trans hmf27
                  have hmf38 : tw_fv E31 a0 14 = .int xi10 := (hst34.1 a0 14 hm0 (by rw [hk0]; decide)).trans hmf28
                  have hcg60_0 : kg_ok E31 a0 := kg_ok_fr TH hst34 hm0 hk0 (by decide) (by decide) hcg60_0
                  have hcg60_1 : rg_ok E31 a0 := rg_ok_fr TH hst34 hm0 hk0 (by decide) (by decide) hcg60_1
                  refine lv_aload_n hx hb dX12_grammar_177 rfl (lv_at hl 1 rfl) ?_
                  refine tw_get (ci := 12) (C := RX12) (T := TX12) (N := 64) hx hb hB cx_inX12 hown hK TH hm0 hk0 rfl ⟨by decide, rfl⟩ 14 (by decide) cw_1207 (fun _ h9 => h9) dX12_grammar_178 (fun hv => ?_)
                  rw [hmf38]
                  exact tw_iret hx hb hr hlocks TH hS hex ⟨⟨_, rfl, (by have : ((0 : Int32).toInt) = 0 := (by decide); intro q; exfalso; omega), (by have : ((0 : Int32).toInt) = 0 := (by decide); intro _; rw [hwz.1]), (by have : ((0 : Int32).toInt) = 0 := (by decide); intro _; refine Or.inr ?_; rw [tw_fi_of hmf38]; have w := hwz.2; exact ⟨by omega, rfl⟩), hcg60_0, hcg60_1⟩, rfl, rfl, hF⟩ (Nat.le_of_ble_eq_true rfl) (Nat.le_of_ble_eq_true rfl) dX12_grammar_181
                · have hf39 : ¬ (xi10.toInt ≤ y60_1.toInt) := fun q => hc29 ((fa_le _ _).mpr (by  omega))
                  have hfn31 : p31_ok Eg60 a0 (tw_el Eg60 a0 31) := fun _ => rfl
                  have hfn32 : p32_ok Eg60 a0 (tw_el Eg60 a0 32) := fun _ => rfl
                  have hkg68 := hcg60_0
                  have hgk68 := hcg60_2
                  refine lv_aload_n hx hb dX12_grammar_68 rfl (lv_at hl 1 rfl) ?_
                  refine tw_get (ci := 12) (C := RX12) (T := TX12) (N := 64) hx hb hB cx_inX12 hown hK TH hm0 hk0 rfl ⟨by decide, rfl⟩ 31 (by decide) cw_1224 (fun _ h9 => h9) dX12_grammar_69 (fun hv => ?_)
                  obtain ⟨xr40, hxr40, hmxr40, hkxr40⟩ : ∃ a : Nat, tw_fv Eg60 a0 31 = .ref a ∧ a ∈ L ∧ kp a = 337 := hv
                  rw [hxr40]
                  refine lv_iload_n hx hb dX12_grammar_72 rfl (lv_at hl 0 rfl) ?_
                  refine lv_aload_n hx hb dX12_grammar_73 rfl (lv_at hl 1 rfl) ?_
                  refine tw_get (ci := 12) (C := RX12) (T := TX12) (N := 64) hx hb hB cx_inX12 hown hK TH hm0 hk0 rfl ⟨by decide, rfl⟩ 6 (by decide) cw_1199 (fun _ h9 => h9) dX12_grammar_74 (fun hv => ?_)
                  obtain ⟨xr41, hxr41, hmxr41, hkxr41⟩ : ∃ a : Nat, tw_fv Eg60 a0 6 = .ref a ∧ a ∈ L ∧ kp a = 302 := hv
                  rw [hxr41]
                  refine lv_iload_n hx hb dX12_grammar_77 rfl (lv_at hl 0 rfl) ?_
                  refine tw_iald (k := 302) (t0 := 0) (n := 10) (lo := 0) (hi := 500) hx hb hK TH hmxr41 hkxr41 (by decide) rfl rfl (i := y60_1) (vp_in_iff.mpr ⟨by  omega, by  omega⟩) dX12_grammar_78 (fun hxe42a hxe42b => ?_)
                  obtain ⟨xe42, exe42⟩ : ∃ z : Int32, tw_iv Eg60 xr41 (Int32.toNatClampNeg y60_1) = z := ⟨_, rfl⟩
                  rw [exe42] at hxe42a hxe42b ⊢
                  have rf_xe42 : tw_el Eg60 a0 6 (y60_1.toInt).toNat = xe42.toInt := (by rw [tw_el_of hxr41]; exact congrArg Int32.toInt exe42)
                  have hg79 := hgk68 (y60_1.toInt).toNat (by rw [tw_fi_of hmf27]; omega)
                  rw [rf_xe42, tw_fi_of hmf25] at hg79
                  refine tw_iast (k := 337) (n := 10) (lo := 0) (hi := 500) hx hb hK TH hS hmxr40 hkxr40 (by decide) rfl (i := y60_1) (x := xe42) (vp_in_iff.mpr ⟨by  omega, by  omega⟩) (by omega) (by omega) dX12_grammar_79 (fun H locs E43 TH hS hp44 hp45 hp46 => ?_)
                  have hst47 : tw_fr kp L [] [337] Eg60 E43 := tw_fr.ast tw_fr.rf (fun _ => hkxr40) hp44 hp45 (by decide)
                  have hF := hF.tr hst47 (fun _ h => ⟨h, rfl⟩) (by decide) (by decide)
                  have hG60 := hG60.tr hst47 (fun _ h => ⟨h, rfl⟩) (by decide) (by decide)
                  have hmf48 : tw_fv E43 a0 1 = .int fv0_1 := (hst47.1 a0 1 hm0 (by rw [hk0]; decide)).trans hmf25
                  have hmf49 : tw_fv E43 a0 4 = .int xi7 := (hst47.1 a0 4 hm0 (by rw [hk0]; decide)).trans hmf26
                  have hmf50 : tw_fv E43 a0 15 = .int xi10 := (hst47.1 a0 15 hm0 (by rw [hk0]; decide)).trans hmf27
                  have hmf51 : tw_fv E43 a0 14 = .int xi10 := (hst47.1 a0 14 hm0 (by rw [hk0]; decide)).trans hmf28
                  have hmf52 : tw_fv E43 a0 31 = .ref xr40 := (hst47.1 a0 31 hm0 (by rw [hk0]; decide)).trans hxr40
                  have hmf53 : tw_fv E43 a0 6 = .ref xr41 := (hst47.1 a0 6 hm0 (by rw [hk0]; decide)).trans hxr41
                  have hcg60_0_o := hcg60_0
                  have hcg60_1_o := hcg60_1
                  have hcg60_2_o := hcg60_2
                  have hfn31_o := hfn31
                  have hfn32_o := hfn32
                  have hcg60_1 : rg_ok E43 a0 := rg_ok_fr TH hst47 hm0 hk0 (by decide) (by decide) hcg60_1
                  have hcg60_2 : gk_ok E43 a0 := gk_ok_fr TH hst47 hm0 hk0 (by decide) (by decide) hcg60_2
                  have hfn31 : p31_ok E43 a0 (fun j => if j = (y60_1.toInt).toNat then xe42.toInt else (tw_el Eg60 a0 31) j) := (fun j => (by have w := tw_el_st hxr40 hp44 hp45 hp46 j; rw [w]; show _ = (if j = (y60_1.toInt).toNat then xe42.toInt else (tw_el Eg60 a0 31) j); (by_cases e : j = (y60_1.toInt).toNat; (rw [if_pos ⟨rfl, e⟩, if_pos e]); (rw [if_neg (fun y => e y.2), if_neg e]; (try exact hfn31_o j)))))
                  have hfn32 : p32_ok E43 a0 (tw_el Eg60 a0 32) := p32_ok_fr TH hst47 hm0 hk0 (by decide) (by decide) hfn32
                  refine lv_aload_n hx hb dX12_grammar_80 rfl (lv_at hl 1 rfl) ?_
                  refine tw_get (ci := 12) (C := RX12) (T := TX12) (N := 64) hx hb hB cx_inX12 hown hK TH hm0 hk0 rfl ⟨by decide, rfl⟩ 32 (by decide) cw_1225 (fun _ h9 => h9) dX12_grammar_81 (fun hv => ?_)
                  obtain ⟨xr54, hxr54, hmxr54, hkxr54⟩ : ∃ a : Nat, tw_fv E43 a0 32 = .ref a ∧ a ∈ L ∧ kp a = 338 := hv
                  rw [hxr54]
                  refine lv_iload_n hx hb dX12_grammar_84 rfl (lv_at hl 0 rfl) ?_
                  refine lv_aload_n hx hb dX12_grammar_85 rfl (lv_at hl 1 rfl) ?_
                  refine tw_get (ci := 12) (C := RX12) (T := TX12) (N := 64) hx hb hB cx_inX12 hown hK TH hm0 hk0 rfl ⟨by decide, rfl⟩ 7 (by decide) cw_1200 (fun _ h9 => h9) dX12_grammar_86 (fun hv => ?_)
                  obtain ⟨xr55, hxr55, hmxr55, hkxr55⟩ : ∃ a : Nat, tw_fv E43 a0 7 = .ref a ∧ a ∈ L ∧ kp a = 303 := hv
                  rw [hxr55]
                  refine lv_iload_n hx hb dX12_grammar_89 rfl (lv_at hl 0 rfl) ?_
                  refine tw_iald (k := 303) (t0 := 0) (n := 10) (lo := 0) (hi := 500) hx hb hK TH hmxr55 hkxr55 (by decide) rfl rfl (i := y60_1) (vp_in_iff.mpr ⟨by  omega, by  omega⟩) dX12_grammar_90 (fun hxe56a hxe56b => ?_)
                  obtain ⟨xe56, exe56⟩ : ∃ z : Int32, tw_iv E43 xr55 (Int32.toNatClampNeg y60_1) = z := ⟨_, rfl⟩
                  rw [exe56] at hxe56a hxe56b ⊢
                  have rf_xe56 : tw_el E43 a0 7 (y60_1.toInt).toNat = xe56.toInt := (by rw [tw_el_of hxr55]; exact congrArg Int32.toInt exe56)
                  have f7 := el_fr TH hst47 hm0 hk0 (k := 7) (by decide) rfl (by decide) (by decide) (by decide)
                  rw [f7] at rf_xe56
                  rw [rf_xe56] at hg79
                  refine tw_iast (k := 338) (n := 10) (lo := 0) (hi := 500) hx hb hK TH hS hmxr54 hkxr54 (by decide) rfl (i := y60_1) (x := xe56) (vp_in_iff.mpr ⟨by  omega, by  omega⟩) (by omega) (by omega) dX12_grammar_91 (fun H locs E57 TH hS hp58 hp59 hp60 => ?_)
                  have hst61 : tw_fr kp L [] [338] E43 E57 := tw_fr.ast tw_fr.rf (fun _ => hkxr54) hp58 hp59 (by decide)
                  have hF := hF.tr hst61 (fun _ h => ⟨h, rfl⟩) (by decide) (by decide)
                  have hG60 := hG60.tr hst61 (fun _ h => ⟨h, rfl⟩) (by decide) (by decide)
                  have hmf62 : tw_fv E57 a0 1 = .int fv0_1 := (hst61.1 a0 1 hm0 (by rw [hk0]; decide)).trans hmf48
                  have hmf63 : tw_fv E57 a0 4 = .int xi7 := (hst61.1 a0 4 hm0 (by rw [hk0]; decide)).trans hmf49
                  have hmf64 : tw_fv E57 a0 15 = .int xi10 := (hst61.1 a0 15 hm0 (by rw [hk0]; decide)).trans hmf50
                  have hmf65 : tw_fv E57 a0 14 = .int xi10 := (hst61.1 a0 14 hm0 (by rw [hk0]; decide)).trans hmf51
                  have hmf66 : tw_fv E57 a0 31 = .ref xr40 := (hst61.1 a0 31 hm0 (by rw [hk0]; decide)).trans hmf52
                  have hmf67 : tw_fv E57 a0 6 = .ref xr41 := (hst61.1 a0 6 hm0 (by rw [hk0]; decide)).trans hmf53
                  have hmf68 : tw_fv E57 a0 32 = .ref xr54 := (hst61.1 a0 32 hm0 (by rw [hk0]; decide)).trans hxr54
                  have hmf69 : tw_fv E57 a0 7 = .ref xr55 := (hst61.1 a0 7 hm0 (by rw [hk0]; decide)).trans hxr55
                  have hcg60_1_o := hcg60_1
                  have hcg60_2_o := hcg60_2
                  have hfn31_o := hfn31
                  have hfn32_o := hfn32
                  have hcg60_1 : rg_ok E57 a0 := rg_ok_fr TH hst61 hm0 hk0 (by decide) (by decide) hcg60_1
                  have hcg60_2 : gk_ok E57 a0 := gk_ok_fr TH hst61 hm0 hk0 (by decide) (by decide) hcg60_2
                  have hfn31 : p31_ok E57 a0 (fun j => if j = (y60_1.toInt).toNat then xe42.toInt else (tw_el Eg60 a0 31) j) := p31_ok_fr TH hst61 hm0 hk0 (by decide) (by decide) hfn31
                  have hfn32 : p32_ok E57 a0 (fun j => if j = (y60_1.toInt).toNat then xe56.toInt else (tw_el Eg60 a0 32) j) := (fun j => (by have w := tw_el_st hxr54 hp58 hp59 hp60 j; rw [w]; show _ = (if j = (y60_1.toInt).toNat then xe56.toInt else (tw_el Eg60 a0 32) j); (by_cases e : j = (y60_1.toInt).toNat; (rw [if_pos ⟨rfl, e⟩, if_pos e]); (rw [if_neg (fun y => e y.2), if_neg e]; (try exact hfn32_o j)))))
                  have hgn70 : kg_ok E57 a0 := kg_push (k := y60_1.toInt) (s := xe42.toInt) (l := xe56.toInt) hkg68 hfn31 hfn32 (by omega)
                  refine lv_aload_n hx hb dX12_grammar_92 rfl (lv_at hl 1 rfl) ?_
                  refine tw_get (ci := 12) (C := RX12) (T := TX12) (N := 64) hx hb hB cx_inX12 hown hK TH hm0 hk0 rfl ⟨by decide, rfl⟩ 33 (by decide) cw_1226 (fun _ h9 => h9) dX12_grammar_93 (fun hv => ?_)
                  obtain ⟨xr71, hxr71, hmxr71, hkxr71⟩ : ∃ a : Nat, tw_fv E57 a0 33 = .ref a ∧ a ∈ L ∧ kp a = 339 := hv
                  rw [hxr71]
                  refine lv_iload_n hx hb dX12_grammar_96 rfl (lv_at hl 0 rfl) ?_
                  refine lv_aload_n hx hb dX12_grammar_97 rfl (lv_at hl 1 rfl) ?_
                  refine tw_get (ci := 12) (C := RX12) (T := TX12) (N := 64) hx hb hB cx_inX12 hown hK TH hm0 hk0 rfl ⟨by decide, rfl⟩ 8 (by decide) cw_1201 (fun _ h9 => h9) dX12_grammar_98 (fun hv => ?_)
                  obtain ⟨xr72, hxr72, hmxr72, hkxr72⟩ : ∃ a : Nat, tw_fv E57 a0 8 = .ref a ∧ a ∈ L ∧ kp a = 304 := hv
                  rw [hxr72]
                  refine lv_iload_n hx hb dX12_grammar_101 rfl (lv_at hl 0 rfl) ?_
                  refine tw_iald (k := 304) (t0 := 0) (n := 10) (lo := 0) (hi := 2) hx hb hK TH hmxr72 hkxr72 (by decide) rfl rfl (i := y60_1) (vp_in_iff.mpr ⟨by  omega, by  omega⟩) dX12_grammar_102 (fun hxe73a hxe73b => ?_)
                  obtain ⟨xe73, exe73⟩ : ∃ z : Int32, tw_iv E57 xr72 (Int32.toNatClampNeg y60_1) = z := ⟨_, rfl⟩
                  rw [exe73] at hxe73a hxe73b ⊢
                  refine tw_iast (k := 339) (n := 10) (lo := 0) (hi := 2) hx hb hK TH hS hmxr71 hkxr71 (by decide) rfl (i := y60_1) (x := xe73) (vp_in_iff.mpr ⟨by  omega, by  omega⟩) (by omega) (by omega) dX12_grammar_103 (fun H locs E74 TH hS hp75 hp76 hp77 => ?_)
                  have hst78 : tw_fr kp L [] [339] E57 E74 := tw_fr.ast tw_fr.rf (fun _ => hkxr71) hp75 hp76 (by decide)
                  have hF := hF.tr hst78 (fun _ h => ⟨h, rfl⟩) (by decide) (by decide)
                  have hG60 := hG60.tr hst78 (fun _ h => ⟨h, rfl⟩) (by decide) (by decide)
                  have hmf79 : tw_fv E74 a0 1 = .int fv0_1 := (hst78.1 a0 1 hm0 (by rw [hk0]; decide)).trans hmf62
                  have hmf80 : tw_fv E74 a0 4 = .int xi7 := (hst78.1 a0 4 hm0 (by rw [hk0]; decide)).trans hmf63
                  have hmf81 : tw_fv E74 a0 15 = .int xi10 := (hst78.1 a0 15 hm0 (by rw [hk0]; decide)).trans hmf64
                  have hmf82 : tw_fv E74 a0 14 = .int xi10 := (hst78.1 a0 14 hm0 (by rw [hk0]; decide)).trans hmf65
                  have hmf83 : tw_fv E74 a0 31 = .ref xr40 := (hst78.1 a0 31 hm0 (by rw [hk0]; decide)).trans hmf66
                  have hmf84 : tw_fv E74 a0 6 = .ref xr41 := (hst78.1 a0 6 hm0 (by rw [hk0]; decide)).trans hmf67
                  have hmf85 : tw_fv E74 a0 32 = .ref xr54 := (hst78.1 a0 32 hm0 (by rw [hk0]; decide)).trans hmf68
                  have hmf86 : tw_fv E74 a0 7 = .ref xr55 := (hst78.1 a0 7 hm0 (by rw [hk0]; decide)).trans hmf69
                  have hmf87 : tw_fv E74 a0 33 = .ref xr71 := (hst78.1 a0 33 hm0 (by rw [hk0]; decide)).trans hxr71
                  have hmf88 : tw_fv E74 a0 8 = .ref xr72 := (hst78.1 a0 8 hm0 (by rw [hk0]; decide)).trans hxr72
                  have hcg60_1 : rg_ok E74 a0 := rg_ok_fr TH hst78 hm0 hk0 (by decide) (by decide) hcg60_1
                  have hcg60_2 : gk_ok E74 a0 := gk_ok_fr TH hst78 hm0 hk0 (by decide) (by decide) hcg60_2
                  have hfn31 : p31_ok E74 a0 (fun j => if j = (y60_1.toInt).toNat then xe42.toInt else (tw_el Eg60 a0 31) j) := p31_ok_fr TH hst78 hm0 hk0 (by decide) (by decide) hfn31
                  have hfn32 : p32_ok E74 a0 (fun j => if j = (y60_1.toInt).toNat then xe56.toInt else (tw_el Eg60 a0 32) j) := p32_ok_fr TH hst78 hm0 hk0 (by decide) (by decide) hfn32
                  have hgn70 : kg_ok E74 a0 := kg_ok_fr TH hst78 hm0 hk0 (by decide) (by decide) hgn70
                  refine lv_aload_n hx hb dX12_grammar_104 rfl (lv_at hl 1 rfl) ?_
                  refine tw_get (ci := 12) (C := RX12) (T := TX12) (N := 64) hx hb hB cx_inX12 hown hK TH hm0 hk0 rfl ⟨by decide, rfl⟩ 34 (by decide) cw_1227 (fun _ h9 => h9) dX12_grammar_105 (fun hv => ?_)
                  obtain ⟨xr89, hxr89, hmxr89, hkxr89⟩ : ∃ a : Nat, tw_fv E74 a0 34 = .ref a ∧ a ∈ L ∧ kp a = 340 := hv
                  rw [hxr89]
                  refine lv_iload_n hx hb dX12_grammar_108 rfl (lv_at hl 0 rfl) ?_
                  refine lv_aload_n hx hb dX12_grammar_109 rfl (lv_at hl 1 rfl) ?_
                  refine tw_get (ci := 12) (C := RX12) (T := TX12) (N := 64) hx hb hB cx_inX12 hown hK TH hm0 hk0 rfl ⟨by decide, rfl⟩ 9 (by decide) cw_1202 (fun _ h9 => h9) dX12_grammar_110 (fun hv => ?_)
                  obtain ⟨xr90, hxr90, hmxr90, hkxr90⟩ : ∃ a : Nat, tw_fv E74 a0 9 = .ref a ∧ a ∈ L ∧ kp a = 305 := hv
                  rw [hxr90]
                  refine lv_iload_n hx hb dX12_grammar_113 rfl (lv_at hl 0 rfl) ?_
                  refine tw_iald (k := 305) (t0 := 0) (n := 10) (lo := 0) (hi := 252) hx hb hK TH hmxr90 hkxr90 (by decide) rfl rfl (i := y60_1) (vp_in_iff.mpr ⟨by  omega, by  omega⟩) dX12_grammar_114 (fun hxe91a hxe91b => ?_)
                  obtain ⟨xe91, exe91⟩ : ∃ z : Int32, tw_iv E74 xr90 (Int32.toNatClampNeg y60_1) = z := ⟨_, rfl⟩
                  rw [exe91] at hxe91a hxe91b ⊢
                  refine tw_iast (k := 340) (n := 10) (lo := 0) (hi := 252) hx hb hK TH hS hmxr89 hkxr89 (by decide) rfl (i := y60_1) (x := xe91) (vp_in_iff.mpr ⟨by  omega, by  omega⟩) (by omega) (by omega) dX12_grammar_115 (fun H locs E92 TH hS hp93 hp94 hp95 => ?_)
                  have hst96 : tw_fr kp L [] [340] E74 E92 := tw_fr.ast tw_fr.rf (fun _ => hkxr89) hp93 hp94 (by decide)
                  have hF := hF.tr hst96 (fun _ h => ⟨h, rfl⟩) (by decide) (by decide)
                  have hG60 := hG60.tr hst96 (fun _ h => ⟨h, rfl⟩) (by decide) (by decide)
                  have hmf97 : tw_fv E92 a0 1 = .int fv0_1 := (hst96.1 a0 1 hm0 (by rw [hk0]; decide)).trans hmf79
                  have hmf98 : tw_fv E92 a0 4 = .int xi7 := (hst96.1 a0 4 hm0 (by rw [hk0]; decide)).trans hmf80
                  have hmf99 : tw_fv E92 a0 15 = .int xi10 := (hst96.1 a0 15 hm0 (by rw [hk0]; decide)).trans hmf81
                  have hmf100 : tw_fv E92 a0 14 = .int xi10 := (hst96.1 a0 14 hm0 (by rw [hk0]; decide)).trans hmf82
                  have hmf101 : tw_fv E92 a0 31 = .ref xr40 := (hst96.1 a0 31 hm0 (by rw [hk0]; decide)).trans hmf83
                  have hmf102 : tw_fv E92 a0 6 = .ref xr41 := (hst96.1 a0 6 hm0 (by rw [hk0]; decide)).trans hmf84
                  have hmf103 : tw_fv E92 a0 32 = .ref xr54 := (hst96.1 a0 32 hm0 (by rw [hk0]; decide)).trans hmf85
                  have hmf104 : tw_fv E92 a0 7 = .ref xr55 := (hst96.1 a0 7 hm0 (by rw [hk0]; decide)).trans hmf86
                  have hmf105 : tw_fv E92 a0 33 = .ref xr71 := (hst96.1 a0 33 hm0 (by rw [hk0]; decide)).trans hmf87
                  have hmf106 : tw_fv E92 a0 8 = .ref xr72 := (hst96.1 a0 8 hm0 (by rw [hk0]; decide)).trans hmf88
                  have hmf107 : tw_fv E92 a0 34 = .ref xr89 := (hst96.1 a0 34 hm0 (by rw [hk0]; decide)).trans hxr89
                  have hmf108 : tw_fv E92 a0 9 = .ref xr90 := (hst96.1 a0 9 hm0 (by rw [hk0]; decide)).trans hxr90
                  have hcg60_1 : rg_ok E92 a0 := rg_ok_fr TH hst96 hm0 hk0 (by decide) (by decide) hcg60_1
                  have hcg60_2 : gk_ok E92 a0 := gk_ok_fr TH hst96 hm0 hk0 (by decide) (by decide) hcg60_2
                  have hfn31 : p31_ok E92 a0 (fun j => if j = (y60_1.toInt).toNat then xe42.toInt else (tw_el Eg60 a0 31) j) := p31_ok_fr TH hst96 hm0 hk0 (by decide) (by decide) hfn31
                  have hfn32 : p32_ok E92 a0 (fun j => if j = (y60_1.toInt).toNat then xe56.toInt else (tw_el Eg60 a0 32) j) := p32_ok_fr TH hst96 hm0 hk0 (by decide) (by decide) hfn32
                  have hgn70 : kg_ok E92 a0 := kg_ok_fr TH hst96 hm0 hk0 (by decide) (by decide) hgn70
                  refine lv_iconst (v := 0) hx hb dX12_grammar_116 (by decide) ?_
                  refine lv_istore_n (lv' := [(2, .int 0), (1, .int y60_1), (0, .ref a0)]) hx hb dX12_grammar_117 rfl hl (by decide) rfl (fun ls hl => ?_)
                  have hJ118 : ∀ (n118 : Nat) (y118_2 : Int32) (Eg118 : Nat → va_E) (H : Heap) (locs : List Loc) (ls : Array Slot), 0 ≤ y118_2.toInt → y118_2.toInt ≤ 252 → 252 - y118_2.toInt ≤ (n118 : Int) → tw_fr kp L [] [351, 352] E92 Eg118 → kg_ok Eg118 a0 → rg_ok Eg118 a0 → gk_ok Eg118 a0 → tw_H D cs kp L Eg118 A H → va_S A s.heap H locs → lv_has ls 3 [(2, .int y118_2), (1, .int y60_1), (0, .ref a0)] → W p l e { frames := 9, cells := 0, slots := 0, locals := 197 } s m [.ref a0].toArray below meth c H locs 0 0 (MQ below (tw_Q D cs kp0 L0 (fun v kq Lq Eq => (∃ x : Int32, v = some (.int x) ∧ (0 < fv0_14.toInt → x.toInt = -1 ∧ tw_fi Eq a0 14 = fv0_14.toInt) ∧ (fv0_14.toInt = 0 → x.toInt = gy_all (tw_el E a0 0) fv0_1.toInt) ∧ (fv0_14.toInt = 0 → (x.toInt = -1 ∧ tw_fi Eq a0 14 = 0 ∧ tw_fi Eq a0 1 = fv0_1.toInt) ∨ (1 ≤ tw_fi Eq a0 14 ∧ x.toInt = tw_fi Eq a0 14)) ∧ kg_ok Eq a0 ∧ rg_ok Eq a0) ∧ kp = kq ∧ L = Lq ∧ tw_fr kp L [(12, 1), (12, 2), (12, 3), (12, 4), (12, 14), (12, 15)] [301, 302, 303, 304, 305, 320, 321, 322, 323, 336, 337, 338, 339, 340, 351, 352] E Eq) A) [.ref a0].toArray s 0 0 A) (F0 m 118 ls []) := by
                    intro n118
                    induction n118 using Nat.strongRecOn with
                    | _ n118 ih118 =>
                      intro y118_2 Eg118 H locs ls hy118_2a hy118_2b hmeas118 hG118 hcg118_0 hcg118_1 hcg118_2 TH hS hl
                      have hF := hF.tr hG118 (fun _ h => ⟨h, rfl⟩) (by decide) (by decide)
                      have hG60 := hG60.tr hG118 (fun _ h => ⟨h, rfl⟩) (by decide) (by decide)
                      have hmf109 : tw_fv Eg118 a0 1 = .int fv0_1 := (hG118.1 a0 1 hm0 (by rw [hk0]; decide)).trans hmf97
                      have hmf110 : tw_fv Eg118 a0 4 = .int xi7 := (hG118.1 a0 4 hm0 (by rw [hk0]; decide)).trans hmf98
                      have hmf111 : tw_fv Eg118 a0 15 = .int xi10 := (hG118.1 a0 15 hm0 (by rw [hk0]; decide)).trans hmf99
                      have hmf112 : tw_fv Eg118 a0 14 = .int xi10 := (hG118.1 a0 14 hm0 (by rw [hk0]; decide)).trans hmf100
                      have hmf113 : tw_fv Eg118 a0 31 = .ref xr40 := (hG118.1 a0 31 hm0 (by rw [hk0]; decide)).trans hmf101
                      have hmf114 : tw_fv Eg118 a0 6 = .ref xr41 := (hG118.1 a0 6 hm0 (by rw [hk0]; decide)).trans hmf102
                      have hmf115 : tw_fv Eg118 a0 32 = .ref xr54 := (hG118.1 a0 32 hm0 (by rw [hk0]; decide)).trans hmf103
                      have hmf116 : tw_fv Eg118 a0 7 = .ref xr55 := (hG118.1 a0 7 hm0 (by rw [hk0]; decide)).trans hmf104
                      have hmf117 : tw_fv Eg118 a0 33 = .ref xr71 := (hG118.1 a0 33 hm0 (by rw [hk0]; decide)).trans hmf105
                      have hmf118 : tw_fv Eg118 a0 8 = .ref xr72 := (hG118.1 a0 8 hm0 (by rw [hk0]; decide)).trans hmf106
                      have hmf119 : tw_fv Eg118 a0 34 = .ref xr89 := (hG118.1 a0 34 hm0 (by rw [hk0]; decide)).trans hmf107
                      have hmf120 : tw_fv Eg118 a0 9 = .ref xr90 := (hG118.1 a0 9 hm0 (by rw [hk0]; decide)).trans hmf108
                      refine lv_iload_n hx hb dX12_grammar_118 rfl (lv_at hl 0 rfl) ?_
                      refine lv_aload_n hx hb dX12_grammar_119 rfl (lv_at hl 2 rfl) ?_
                      refine tw_get (ci := 12) (C := RX12) (T := TX12) (N := 64) hx hb hB cx_inX12 hown hK TH hm0 hk0 rfl ⟨by decide, rfl⟩ 9 (by decide) cw_1202 (fun _ h9 => h9) dX12_grammar_120 (fun hv => ?_)
                      rw [hmf120]
                      refine lv_iload_n hx hb dX12_grammar_123 rfl (lv_at hl 1 rfl) ?_
                      refine tw_iald (k := 305) (t0 := 0) (n := 10) (lo := 0) (hi := 252) hx hb hK TH hmxr90 hkxr90 (by decide) rfl rfl (i := y60_1) (vp_in_iff.mpr ⟨by  omega, by  omega⟩) dX12_grammar_124 (fun hxe121a hxe121b => ?_)
                      obtain ⟨xe121, exe121⟩ : ∃ z : Int32, tw_iv Eg118 xr90 (Int32.toNatClampNeg y60_1) = z := ⟨_, rfl⟩
                      rw [exe121] at hxe121a hxe121b ⊢
                      refine lv_icmp_ge (tgt := 166) hx hb dX12_grammar_125 (by decide) (fun hc122 => ?_) (fun hc122 => ?_)
                      · have hf123 : xe121.toInt ≤ y118_2.toInt := by have z := (fa_le _ _).mp hc122;  omega
                        obtain ⟨zi124, ezi124⟩ : ∃ z : Int32, z = y60_1 + Int32.ofInt 1 := ⟨_, rfl⟩
                        have hzi124 : zi124.toInt = y60_1.toInt + 1 := by rw [ezi124]; have : ((Int32.ofInt 1).toInt) = 1 := (by decide);  exact (ia_add (by omega) (by omega)).trans (by omega)
                        refine lv_iinc (v := zi124) (lv' := [(1, .int zi124), (2, .int y118_2), (0, .ref a0)]) hx hb dX12_grammar_166 hl (k := 1) rfl ezi124.symm (by decide) rfl (fun ls hl => ?_)
                        refine lv_goto (tgt := 60) hx hb dX12_grammar_169 (by decide) ?_
                        exact ih60 (n60 - 1) (by   omega) zi124 _ _ _ ls (by omega) (by omega) (by   omega) hG60 hcg118_0 hcg118_1 hcg118_2 TH hS (lv_sub hl [0, 2] rfl)
                      · have hf125 : ¬ (xe121.toInt ≤ y118_2.toInt) := fun q => hc122 ((fa_le _ _).mpr (by  omega))
                        refine lv_aload_n hx hb dX12_grammar_128 rfl (lv_at hl 2 rfl) ?_
                        refine tw_get (ci := 12) (C := RX12) (T := TX12) (N := 64) hx hb hB cx_inX12 hown hK TH hm0 hk0 rfl ⟨by decide, rfl⟩ 35 (by decide) cw_1228 (fun _ h9 => h9) dX12_grammar_129 (fun hv => ?_)
                        obtain ⟨xr126, hxr126, hmxr126, hkxr126⟩ : ∃ a : Nat, tw_fv Eg118 a0 35 = .ref a ∧ a ∈ L ∧ kp a = 341 := hv
                        rw [hxr126]
                        refine lv_iload_n hx hb dX12_grammar_132 rfl (lv_at hl 1 rfl) ?_
                        refine tw_aald (k := 341) (t0 := 4) (n := 10) (lo := 351) (hi := 0) (ty := .int) hx hb hK TH hmxr126 hkxr126 (by decide) rfl rfl (i := y60_1) (vp_in_iff.mpr ⟨by  omega, by  omega⟩) dX12_grammar_133 (fun xr127 exr127 hmxr127 hkxr127 => ?_)
                        have hkxr127 : kp xr127 = 351 := hkxr127
                        refine lv_iload_n hx hb dX12_grammar_134 rfl (lv_at hl 0 rfl) ?_
                        refine lv_aload_n hx hb dX12_grammar_135 rfl (lv_at hl 2 rfl) ?_
                        refine tw_get (ci := 12) (C := RX12) (T := TX12) (N := 64) hx hb hB cx_inX12 hown hK TH hm0 hk0 rfl ⟨by decide, rfl⟩ 12 (by decide) cw_1205 (fun _ h9 => h9) dX12_grammar_136 (fun hv => ?_)
                        obtain ⟨xr128, hxr128, hmxr128, hkxr128⟩ : ∃ a : Nat, tw_fv Eg118 a0 12 = .ref a ∧ a ∈ L ∧ kp a = 312 := hv
                        rw [hxr128]
                        refine lv_iload_n hx hb dX12_grammar_139 rfl (lv_at hl 1 rfl) ?_
                        refine tw_aald (k := 312) (t0 := 4) (n := 10) (lo := 322) (hi := 0) (ty := .int) hx hb hK TH hmxr128 hkxr128 (by decide) rfl rfl (i := y60_1) (vp_in_iff.mpr ⟨by  omega, by  omega⟩) dX12_grammar_140 (fun xr129 exr129 hmxr129 hkxr129 => ?_)
                        have hkxr129 : kp xr129 = 322 := hkxr129
                        refine lv_iload_n hx hb dX12_grammar_141 rfl (lv_at hl 0 rfl) ?_
                        refine tw_iald (k := 322) (t0 := 0) (n := 252) (lo := (-128)) (hi := 127) hx hb hK TH hmxr129 hkxr129 (by decide) rfl rfl (i := y118_2) (vp_in_iff.mpr ⟨by  omega, by  omega⟩) dX12_grammar_142 (fun hxe130a hxe130b => ?_)
                        obtain ⟨xe130, exe130⟩ : ∃ z : Int32, tw_iv Eg118 xr129 (Int32.toNatClampNeg y118_2) = z := ⟨_, rfl⟩
                        rw [exe130] at hxe130a hxe130b ⊢
                        refine tw_iast (k := 351) (n := 252) (lo := (-128)) (hi := 127) hx hb hK TH hS hmxr127 hkxr127 (by decide) rfl (i := y118_2) (x := xe130) (vp_in_iff.mpr ⟨by  omega, by  omega⟩) (by omega) (by omega) dX12_grammar_143 (fun H locs E131 TH hS hp132 hp133 hp134 => ?_)
                        have hst135 : tw_fr kp L [] [351] Eg118 E131 := tw_fr.ast tw_fr.rf (fun _ => hkxr127) hp132 hp133 (by decide)
                        have hF := hF.tr hst135 (fun _ h => ⟨h, rfl⟩) (by decide) (by decide)
                        have hG60 := hG60.tr hst135 (fun _ h => ⟨h, rfl⟩) (by decide) (by decide)
                        have hG118 := hG118.tr hst135 (fun _ h => ⟨h, rfl⟩) (by decide) (by decide)
                        have hmf136 : tw_fv E131 a0 1 = .int fv0_1 := (hst135.1 a0 1 hm0 (by rw [hk0]; decide)).trans hmf109
                        have hmf137 : tw_fv E131 a0 4 = .int xi7 := (hst135.1 a0 4 hm0 (by rw [hk0]; decide)).trans hmf110
                        have hmf138 : tw_fv E131 a0 15 = .int xi10 := (hst135.1 a0 15 hm0 (by rw [hk0]; decide)).trans hmf111
                        have hmf139 : tw_fv E131 a0 14 = .int xi10 := (hst135.1 a0 14 hm0 (by rw [hk0]; decide)).trans hmf112
                        have hmf140 : tw_fv E131 a0 31 = .ref xr40 := (hst135.1 a0 31 hm0 (by rw [hk0]; decide)).trans hmf113
                        have hmf141 : tw_fv E131 a0 6 = .ref xr41 := (hst135.1 a0 6 hm0 (by rw [hk0]; decide)).trans hmf114
                        have hmf142 : tw_fv E131 a0 32 = .ref xr54 := (hst135.1 a0 32 hm0 (by rw [hk0]; decide)).trans hmf115
                        have hmf143 : tw_fv E131 a0 7 = .ref xr55 := (hst135.1 a0 7 hm0 (by rw [hk0]; decide)).trans hmf116
                        have hmf144 : tw_fv E131 a0 33 = .ref xr71 := (hst135.1 a0 33 hm0 (by rw [hk0]; decide)).trans hmf117
                        have hmf145 : tw_fv E131 a0 8 = .ref xr72 := (hst135.1 a0 8 hm0 (by rw [hk0]; decide)).trans hmf118
                        have hmf146 : tw_fv E131 a0 34 = .ref xr89 := (hst135.1 a0 34 hm0 (by rw [hk0]; decide)).trans hmf119
                        have hmf147 : tw_fv E131 a0 9 = .ref xr90 := (hst135.1 a0 9 hm0 (by rw [hk0]; decide)).trans hmf120
                        have hmf148 : tw_fv E131 a0 35 = .ref xr126 := (hst135.1 a0 35 hm0 (by rw [hk0]; decide)).trans hxr126
                        have hmf149 : tw_fv E131 a0 12 = .ref xr128 := (hst135.1 a0 12 hm0 (by rw [hk0]; decide)).trans hxr128
                        have hcg118_0 : kg_ok E131 a0 := kg_ok_fr TH hst135 hm0 hk0 (by decide) (by decide) hcg118_0
                        have hcg118_1 : rg_ok E131 a0 := rg_ok_fr TH hst135 hm0 hk0 (by decide) (by decide) hcg118_1
                        have hcg118_2 : gk_ok E131 a0 := gk_ok_fr TH hst135 hm0 hk0 (by decide) (by decide) hcg118_2
                        refine lv_aload_n hx hb dX12_grammar_144 rfl (lv_at hl 2 rfl) ?_
                        refine tw_get (ci := 12) (C := RX12) (T := TX12) (N := 64) hx hb hB cx_inX12 hown hK TH hm0 hk0 rfl ⟨by decide, rfl⟩ 36 (by decide) cw_1229 (fun _ h9 => h9) dX12_grammar_145 (fun hv => ?_)
                        obtain ⟨xr150, hxr150, hmxr150, hkxr150⟩ : ∃ a : Nat, tw_fv E131 a0 36 = .ref a ∧ a ∈ L ∧ kp a = 342 := hv
                        rw [hxr150]
                        refine lv_iload_n hx hb dX12_grammar_148 rfl (lv_at hl 1 rfl) ?_
                        refine tw_aald (k := 342) (t0 := 4) (n := 10) (lo := 352) (hi := 0) (ty := .int) hx hb hK TH hmxr150 hkxr150 (by decide) rfl rfl (i := y60_1) (vp_in_iff.mpr ⟨by  omega, by  omega⟩) dX12_grammar_149 (fun xr151 exr151 hmxr151 hkxr151 => ?_)
                        have hkxr151 : kp xr151 = 352 := hkxr151
                        refine lv_iload_n hx hb dX12_grammar_150 rfl (lv_at hl 0 rfl) ?_
                        refine lv_aload_n hx hb dX12_grammar_151 rfl (lv_at hl 2 rfl) ?_
                        refine tw_get (ci := 12) (C := RX12) (T := TX12) (N := 64) hx hb hB cx_inX12 hown hK TH hm0 hk0 rfl ⟨by decide, rfl⟩ 13 (by decide) cw_1206 (fun _ h9 => h9) dX12_grammar_152 (fun hv => ?_)
                        obtain ⟨xr152, hxr152, hmxr152, hkxr152⟩ : ∃ a : Nat, tw_fv E131 a0 13 = .ref a ∧ a ∈ L ∧ kp a = 313 := hv
                        rw [hxr152]
                        refine lv_iload_n hx hb dX12_grammar_155 rfl (lv_at hl 1 rfl) ?_
                        refine tw_aald (k := 313) (t0 := 4) (n := 10) (lo := 323) (hi := 0) (ty := .int) hx hb hK TH hmxr152 hkxr152 (by decide) rfl rfl (i := y60_1) (vp_in_iff.mpr ⟨by  omega, by  omega⟩) dX12_grammar_156 (fun xr153 exr153 hmxr153 hkxr153 => ?_)
                        have hkxr153 : kp xr153 = 323 := hkxr153
                        refine lv_iload_n hx hb dX12_grammar_157 rfl (lv_at hl 0 rfl) ?_
                        refine tw_iald (k := 323) (t0 := 0) (n := 252) (lo := (-1)) (hi := 9) hx hb hK TH hmxr153 hkxr153 (by decide) rfl rfl (i := y118_2) (vp_in_iff.mpr ⟨by  omega, by  omega⟩) dX12_grammar_158 (fun hxe154a hxe154b => ?_)
                        obtain ⟨xe154, exe154⟩ : ∃ z : Int32, tw_iv E131 xr153 (Int32.toNatClampNeg y118_2) = z := ⟨_, rfl⟩
                        rw [exe154] at hxe154a hxe154b ⊢
                        refine tw_iast (k := 352) (n := 252) (lo := (-1)) (hi := 9) hx hb hK TH hS hmxr151 hkxr151 (by decide) rfl (i := y118_2) (x := xe154) (vp_in_iff.mpr ⟨by  omega, by  omega⟩) (by omega) (by omega) dX12_grammar_159 (fun H locs E155 TH hS hp156 hp157 hp158 => ?_)
                        have hst159 : tw_fr kp L [] [352] E131 E155 := tw_fr.ast tw_fr.rf (fun _ => hkxr151) hp156 hp157 (by decide)
                        have hF := hF.tr hst159 (fun _ h => ⟨h, rfl⟩) (by decide) (by decide)
                        have hG60 := hG60.tr hst159 (fun _ h => ⟨h, rfl⟩) (by decide) (by decide)
                        have hG118 := hG118.tr hst159 (fun _ h => ⟨h, rfl⟩) (by decide) (by decide)
                        have hmf160 : tw_fv E155 a0 1 = .int fv0_1 := (hst159.1 a0 1 hm0 (by rw [hk0]; decide)).trans hmf136
                        have hmf161 : tw_fv E155 a0 4 = .int xi7 := (hst159.1 a0 4 hm0 (by rw [hk0]; decide)).trans hmf137
                        have hmf162 : tw_fv E155 a0 15 = .int xi10 := (hst159.1 a0 15 hm0 (by rw [hk0]; decide)).trans hmf138
                        have hmf163 : tw_fv E155 a0 14 = .int xi10 := (hst159.1 a0 14 hm0 (by rw [hk0]; decide)).trans hmf139
                        have hmf164 : tw_fv E155 a0 31 = .ref xr40 := (hst159.1 a0 31 hm0 (by rw [hk0]; decide)).trans hmf140
                        have hmf165 : tw_fv E155 a0 6 = .ref xr41 := (hst159.1 a0 6 hm0 (by rw [hk0]; decide)).trans hmf141
                        have hmf166 : tw_fv E155 a0 32 = .ref xr54 := (hst159.1 a0 32 hm0 (by rw [hk0]; decide)).trans hmf142
                        have hmf167 : tw_fv E155 a0 7 = .ref xr55 := (hst159.1 a0 7 hm0 (by rw [hk0]; decide)).trans hmf143
                        have hmf168 : tw_fv E155 a0 33 = .ref xr71 := (hst159.1 a0 33 hm0 (by rw [hk0]; decide)).trans hmf144
                        have hmf169 : tw_fv E155 a0 8 = .ref xr72 := (hst159.1 a0 8 hm0 (by rw [hk0]; decide)).trans hmf145
                        have hmf170 : tw_fv E155 a0 34 = .ref xr89 := (hst159.1 a0 34 hm0 (by rw [hk0]; decide)).trans hmf146
                        have hmf171 : tw_fv E155 a0 9 = .ref xr90 := (hst159.1 a0 9 hm0 (by rw [hk0]; decide)).trans hmf147
                        have hmf172 : tw_fv E155 a0 35 = .ref xr126 := (hst159.1 a0 35 hm0 (by rw [hk0]; decide)).trans hmf148
                        have hmf173 : tw_fv E155 a0 12 = .ref xr128 := (hst159.1 a0 12 hm0 (by rw [hk0]; decide)).trans hmf149
                        have hmf174 : tw_fv E155 a0 36 = .ref xr150 := (hst159.1 a0 36 hm0 (by rw [hk0]; decide)).trans hxr150
                        have hmf175 : tw_fv E155 a0 13 = .ref xr152 := (hst159.1 a0 13 hm0 (by rw [hk0]; decide)).trans hxr152
                        have hcg118_0 : kg_ok E155 a0 := kg_ok_fr TH hst159 hm0 hk0 (by decide) (by decide) hcg118_0
                        have hcg118_1 : rg_ok E155 a0 := rg_ok_fr TH hst159 hm0 hk0 (by decide) (by decide) hcg118_1
                        have hcg118_2 : gk_ok E155 a0 := gk_ok_fr TH hst159 hm0 hk0 (by decide) (by decide) hcg118_2
                        obtain ⟨zi176, ezi176⟩ : ∃ z : Int32, z = y118_2 + Int32.ofInt 1 := ⟨_, rfl⟩
                        have hzi176 : zi176.toInt = y118_2.toInt + 1 := by rw [ezi176]; have : ((Int32.ofInt 1).toInt) = 1 := (by decide);  exact (ia_add (by omega) (by omega)).trans (by omega)
                        refine lv_iinc (v := zi176) (lv' := [(2, .int zi176), (1, .int y60_1), (0, .ref a0)]) hx hb dX12_grammar_160 hl (k := 0) rfl ezi176.symm (by decide) rfl (fun ls hl => ?_)
                        refine lv_goto (tgt := 118) hx hb dX12_grammar_163 (by decide) ?_
                        exact ih118 (n118 - 1) (by   omega) zi176 _ _ _ ls (by omega) (by omega) (by   omega) hG118 hcg118_0 hcg118_1 hcg118_2 TH hS (lv_sub hl [0, 1, 2] rfl)
                  exact hJ118 253 (0 : Int32) _ _ _ ls (by have : ((0 : Int32).toInt) = 0 := (by decide); omega) (by have : ((0 : Int32).toInt) = 0 := (by decide); omega) (by have : ((0 : Int32).toInt) = 0 := (by decide);  omega) tw_fr.rf hgn70 hcg60_1 hcg60_2 TH hS (lv_sub hl [0, 1, 2] rfl)
            exact hJ60 11 (0 : Int32) _ _ _ ls (by have : ((0 : Int32).toInt) = 0 := (by decide); omega) (by have : ((0 : Int32).toInt) = 0 := (by decide); omega) (by have : ((0 : Int32).toInt) = 0 := (by decide);  omega) tw_fr.rf hcg33_0 hcg33_1 hcg33_2 TH hS (lv_sub hl [0, 1] rfl)
          · have hf177 : ¬ (500 ≤ y33_1.toInt) := fun q => hc23 ((fa_le _ _).mpr (by have : ((500 : Int32).toInt) = 500 := (by decide); omega))
            refine lv_aload_n hx hb dX12_grammar_40 rfl (lv_at hl 1 rfl) ?_
            refine tw_get (ci := 12) (C := RX12) (T := TX12) (N := 64) hx hb hB cx_inX12 hown hK TH hm0 hk0 rfl ⟨by decide, rfl⟩ 30 (by decide) cw_1223 (fun _ h9 => h9) dX12_grammar_41 (fun hv => ?_)
            obtain ⟨xr178, hxr178, hmxr178, hkxr178⟩ : ∃ a : Nat, tw_fv Eg33 a0 30 = .ref a ∧ a ∈ L ∧ kp a = 336 := hv
            rw [hxr178]
            refine lv_iload_n hx hb dX12_grammar_44 rfl (lv_at hl 0 rfl) ?_
            refine lv_aload_n hx hb dX12_grammar_45 rfl (lv_at hl 1 rfl) ?_
            refine tw_get (ci := 12) (C := RX12) (T := TX12) (N := 64) hx hb hB cx_inX12 hown hK TH hm0 hk0 rfl ⟨by decide, rfl⟩ 5 (by decide) cw_1198 (fun _ h9 => h9) dX12_grammar_46 (fun hv => ?_)
            obtain ⟨xr179, hxr179, hmxr179, hkxr179⟩ : ∃ a : Nat, tw_fv Eg33 a0 5 = .ref a ∧ a ∈ L ∧ kp a = 301 := hv
            rw [hxr179]
            refine lv_iload_n hx hb dX12_grammar_49 rfl (lv_at hl 0 rfl) ?_
            refine tw_bald (k := 301) (t0 := 2) (n := 500) (lo := (-128)) (hi := 127) hx hb hK TH hmxr179 hkxr179 (by decide) rfl rfl (i := y33_1) (vp_in_iff.mpr ⟨by  omega, by  omega⟩) dX12_grammar_50 (fun hxe180a hxe180b => ?_)
            obtain ⟨xe180, exe180⟩ : ∃ z : Int32, tw_iv Eg33 xr179 (Int32.toNatClampNeg y33_1) = z := ⟨_, rfl⟩
            rw [exe180] at hxe180a hxe180b ⊢
            refine tw_bast (k := 336) (n := 500) (lo := (-128)) (hi := 127) hx hb hK TH hS hmxr178 hkxr178 (by decide) rfl (i := y33_1) (x := xe180) (vp_in_iff.mpr ⟨by  omega, by  omega⟩) (by omega) (by omega) (by omega) (by omega) dX12_grammar_51 (fun H locs E181 TH hS hp182 hp183 hp184 => ?_)
            have hst185 : tw_fr kp L [] [336] Eg33 E181 := tw_fr.ast tw_fr.rf (fun _ => hkxr178) hp182 hp183 (by decide)
            have hF := hF.tr hst185 (fun _ h => ⟨h, rfl⟩) (by decide) (by decide)
            have hG33 := hG33.tr hst185 (fun _ h => ⟨h, rfl⟩) (by decide) (by decide)
            have hmf186 : tw_fv E181 a0 1 = .int fv0_1 := (hst185.1 a0 1 hm0 (by rw [hk0]; decide)).trans hmf19
            have hmf187 : tw_fv E181 a0 4 = .int xi7 := (hst185.1 a0 4 hm0 (by rw [hk0]; decide)).trans hmf20
            have hmf188 : tw_fv E181 a0 15 = .int xi10 := (hst185.1 a0 15 hm0 (by rw [hk0]; decide)).trans hmf21
            have hmf189 : tw_fv E181 a0 14 = .int xi10 := (hst185.1 a0 14 hm0 (by rw [hk0]; decide)).trans hmf22
            have hmf190 : tw_fv E181 a0 30 = .ref xr178 := (hst185.1 a0 30 hm0 (by rw [hk0]; decide)).trans hxr178
            have hmf191 : tw_fv E181 a0 5 = .ref xr179 := (hst185.1 a0 5 hm0 (by rw [hk0]; decide)).trans hxr179
            have hcg33_0 : kg_ok E181 a0 := kg_ok_fr TH hst185 hm0 hk0 (by decide) (by decide) hcg33_0
            have hcg33_1 : rg_ok E181 a0 := rg_ok_fr TH hst185 hm0 hk0 (by decide) (by decide) hcg33_1
            have hcg33_2 : gk_ok E181 a0 := gk_ok_fr TH hst185 hm0 hk0 (by decide) (by decide) hcg33_2
            obtain ⟨zi192, ezi192⟩ : ∃ z : Int32, z = y33_1 + Int32.ofInt 1 := ⟨_, rfl⟩
            have hzi192 : zi192.toInt = y33_1.toInt + 1 := by rw [ezi192]; have : ((Int32.ofInt 1).toInt) = 1 := (by decide);  exact (ia_add (by omega) (by omega)).trans (by omega)
            refine lv_iinc (v := zi192) (lv' := [(1, .int zi192), (0, .ref a0)]) hx hb dX12_grammar_52 hl (k := 0) rfl ezi192.symm (by decide) rfl (fun ls hl => ?_)
            refine lv_goto (tgt := 33) hx hb dX12_grammar_55 (by decide) ?_
            exact ih33 (n33 - 1) (by   omega) zi192 _ _ _ ls (by omega) (by omega) (by   omega) hG33 hcg33_0 hcg33_1 hcg33_2 TH hS (lv_sub hl [0, 1] rfl)
      exact hJ33 501 (0 : Int32) _ _ _ ls (by have : ((0 : Int32).toInt) = 0 := (by decide); omega) (by have : ((0 : Int32).toInt) = 0 := (by decide); omega) (by have : ((0 : Int32).toInt) = 0 := (by decide);  omega) tw_fr.rf hg0 hgpxc4_0 hgk23 TH hS (lv_sub hl [0, 1] rfl)
    · have hf193 : ¬ (xi7.toInt = (-1)) := fun q => hc8 ((fa_eq _ _).mpr (by have : (((-1) : Int32).toInt) = (-1) := (by decide); omega))
      refine lv_iconst (v := (-1)) hx hb dX12_grammar_21 (by decide) ?_
      exact tw_iret hx hb hr hlocks TH hS hex ⟨⟨_, rfl, (by have : (((-1) : Int32).toInt) = (-1) := (by decide); intro q; exfalso; omega), (by have : (((-1) : Int32).toInt) = (-1) := (by decide); intro _; exact (hpoxc4_1 (by rw [tw_fi_of hxi7]; omega)).symm), (by have : (((-1) : Int32).toInt) = (-1) := (by decide); intro _; exact Or.inl ⟨by decide, by rw [tw_fi_of hmf5]; omega, tw_fi_of hmf6⟩), hg0, hgpxc4_0⟩, rfl, rfl, hF⟩ (Nat.le_of_ble_eq_true rfl) (Nat.le_of_ble_eq_true rfl) dX12_grammar_22
  · have hf194 : ¬ (fv0_14.toInt ≤ 0) := fun q => hc1 ((fa_le _ _).mpr (by have : ((0 : Int32).toInt) = 0 := (by decide); omega))
    refine lv_iconst (v := (-1)) hx hb dX12_grammar_7 (by decide) ?_
    exact tw_iret hx hb hr hlocks TH hS hex ⟨⟨_, rfl, (by have : (((-1) : Int32).toInt) = (-1) := (by decide); intro _; exact ⟨by decide, tw_fi_of hfv0_14⟩), (by have : (((-1) : Int32).toInt) = (-1) := (by decide); intro q; exfalso; omega), (by have : (((-1) : Int32).toInt) = (-1) := (by decide); intro q; exfalso; omega), hg0, hg1⟩, rfl, rfl, hF⟩ (Nat.le_of_ble_eq_true rfl) (Nat.le_of_ble_eq_true rfl) dX12_grammar_8
set_option maxHeartbeats 4000000 in
set_option maxRecDepth 100000 in
theorem tX11_isLetter_vG (l : Launch) (D : va_G) (cs : Nat → ClassId) {kp : Nat → Nat} {L : List Nat} {E : Nat → va_E} (x0 : Int32)  (sz : Nat) : Met l yX11_isLetter (.code yX11_isLetter cX11_isLetter 1 (some .boolean) :: cx_big) { frames := 0, cells := 0, slots := 0, locals := 0 } (tw_P D cs kp L E [.int x0] sz) (tw_Q D cs kp L (fun v kq Lq Eq => (∃ x : Int32, v = some (.int x) ∧ 0 ≤ x.toInt ∧ x.toInt ≤ 1 ∧ (x.toInt ≠ 0 ↔ (97 ≤ x0.toInt ∧ x0.toInt ≤ 122))) ∧ kp = kq ∧ L = Lq ∧ E = Eq) (va_A (va_pl L E) sz)) 0 0 (va_A (va_pl L E) sz) := by
  refine tw_ofW (by decide) (Nat.le_of_ble_eq_true rfl) ?_
  intro p e s m below meth c A ls hx hb hr hml hB hown hlocks hK hN hA TH hS hl
  have hown : s.vm.findClass "TreeMerge" = some m.cls := hown
  have hl : lv_has ls 1 [(0, .int x0)] := hl
  obtain ⟨kp0, ekp⟩ : ∃ z, z = kp := ⟨_, rfl⟩
  obtain ⟨L0, eL⟩ : ∃ z, z = L := ⟨_, rfl⟩
  rw [show tw_Q D cs kp L = tw_Q D cs kp0 L0 by rw [ekp, eL]]
  have hex : ∀ a : Nat, a ∈ L0 → a ∈ L ∧ kp a = kp0 a := fun a h => ⟨by rw [← eL]; exact h, by rw [ekp]⟩
  refine lv_iload_n hx hb dX11_isLetter_0 rfl (lv_at hl 0 rfl) ?_
  refine lv_bipush (v := 97) hx hb dX11_isLetter_1 (by decide) ?_
  refine lv_icmp_lt (tgt := 16) hx hb dX11_isLetter_3 (by decide) (fun hc1 => ?_) (fun hc1 => ?_)
  · have hf2 : x0.toInt < 97 := by have z := (fa_lt _ _).mp hc1; have : ((97 : Int32).toInt) = 97 := (by decide); omega
    refine lv_iconst (v := 0) hx hb dX11_isLetter_16 (by decide) ?_
    exact tw_zret hx hb hr hlocks (by decide) TH hS hex ⟨⟨_, rfl, (show 0 ≤ Int32.toInt 0 from by have : ((0 : Int32).toInt) = 0 := (by decide); omega), (show Int32.toInt 0 ≤ 1 from by have : ((0 : Int32).toInt) = 0 := (by decide); omega), (by have : ((0 : Int32).toInt) = 0 := (by decide); omega)⟩, rfl, rfl, rfl⟩ (Nat.le_of_ble_eq_true rfl) (Nat.le_of_ble_eq_true rfl) dX11_isLetter_17
  · have hf3 : ¬ (x0.toInt < 97) := fun q => hc1 ((fa_lt _ _).mpr (by have : ((97 : Int32).toInt) = 97 := (by decide); omega))
    refine lv_iload_n hx hb dX11_isLetter_6 rfl (lv_at hl 0 rfl) ?_
    refine lv_bipush (v := 122) hx hb dX11_isLetter_7 (by decide) ?_
    refine lv_icmp_gt (tgt := 16) hx hb dX11_isLetter_9 (by decide) (fun hc4 => ?_) (fun hc4 => ?_)
    · have hf5 : 122 < x0.toInt := by have z := (fa_lt _ _).mp hc4; have : ((122 : Int32).toInt) = 122 := (by decide); omega
      refine lv_iconst (v := 0) hx hb dX11_isLetter_16 (by decide) ?_
      exact tw_zret hx hb hr hlocks (by decide) TH hS hex ⟨⟨_, rfl, (show 0 ≤ Int32.toInt 0 from by have : ((0 : Int32).toInt) = 0 := (by decide); omega), (show Int32.toInt 0 ≤ 1 from by have : ((0 : Int32).toInt) = 0 := (by decide); omega), (by have : ((0 : Int32).toInt) = 0 := (by decide); omega)⟩, rfl, rfl, rfl⟩ (Nat.le_of_ble_eq_true rfl) (Nat.le_of_ble_eq_true rfl) dX11_isLetter_17
    · have hf6 : ¬ (122 < x0.toInt) := fun q => hc4 ((fa_lt _ _).mpr (by have : ((122 : Int32).toInt) = 122 := (by decide); omega))
      refine lv_iconst (v := 1) hx hb dX11_isLetter_12 (by decide) ?_
      refine lv_goto (tgt := 17) hx hb dX11_isLetter_13 (by decide) ?_
      exact tw_zret hx hb hr hlocks (by decide) TH hS hex ⟨⟨_, rfl, (show 0 ≤ Int32.toInt 1 from by have : ((1 : Int32).toInt) = 1 := (by decide); omega), (show Int32.toInt 1 ≤ 1 from by have : ((1 : Int32).toInt) = 1 := (by decide); omega), (by have : ((1 : Int32).toInt) = 1 := (by decide); omega)⟩, rfl, rfl, rfl⟩ (Nat.le_of_ble_eq_true rfl) (Nat.le_of_ble_eq_true rfl) dX11_isLetter_17
set_option maxHeartbeats 4000000 in
set_option maxRecDepth 100000 in
theorem tX9_isSign_vG (l : Launch) (D : va_G) (cs : Nat → ClassId) {kp : Nat → Nat} {L : List Nat} {E : Nat → va_E} (x0 : Int32)  (sz : Nat) : Met l yX9_isSign (.code yX9_isSign cX9_isSign 1 (some .boolean) :: cx_big) { frames := 0, cells := 0, slots := 0, locals := 0 } (tw_P D cs kp L E [.int x0] sz) (tw_Q D cs kp L (fun v kq Lq Eq => (∃ x : Int32, v = some (.int x) ∧ 0 ≤ x.toInt ∧ x.toInt ≤ 1 ∧ (x.toInt ≠ 0 ↔ (x0.toInt = 61 ∨ x0.toInt = 59 ∨ x0.toInt = 42 ∨ x0.toInt = 63 ∨ x0.toInt = 40 ∨ x0.toInt = 41))) ∧ kp = kq ∧ L = Lq ∧ E = Eq) (va_A (va_pl L E) sz)) 0 0 (va_A (va_pl L E) sz) := by
  refine tw_ofW (by decide) (Nat.le_of_ble_eq_true rfl) ?_
  intro p e s m below meth c A ls hx hb hr hml hB hown hlocks hK hN hA TH hS hl
  have hown : s.vm.findClass "TreeMerge$Text" = some m.cls := hown
  have hl : lv_has ls 1 [(0, .int x0)] := hl
  obtain ⟨kp0, ekp⟩ : ∃ z, z = kp := ⟨_, rfl⟩
  obtain ⟨L0, eL⟩ : ∃ z, z = L := ⟨_, rfl⟩
  rw [show tw_Q D cs kp L = tw_Q D cs kp0 L0 by rw [ekp, eL]]
  have hex : ∀ a : Nat, a ∈ L0 → a ∈ L ∧ kp a = kp0 a := fun a h => ⟨by rw [← eL]; exact h, by rw [ekp]⟩
  refine lv_iload_n hx hb dX9_isSign_0 rfl (lv_at hl 0 rfl) ?_
  refine lv_bipush (v := 61) hx hb dX9_isSign_1 (by decide) ?_
  refine lv_icmp_eq (tgt := 36) hx hb dX9_isSign_3 (by decide) (fun hc1 => ?_) (fun hc1 => ?_)
  · have hf2 : x0.toInt = 61 := by have z := (fa_eq _ _).mp hc1; have : ((61 : Int32).toInt) = 61 := (by decide); omega
    refine lv_iconst (v := 1) hx hb dX9_isSign_36 (by decide) ?_
    refine lv_goto (tgt := 41) hx hb dX9_isSign_37 (by decide) ?_
    exact tw_zret hx hb hr hlocks (by decide) TH hS hex ⟨⟨_, rfl, (show 0 ≤ Int32.toInt 1 from by have : ((1 : Int32).toInt) = 1 := (by decide); omega), (show Int32.toInt 1 ≤ 1 from by have : ((1 : Int32).toInt) = 1 := (by decide); omega), (by have : ((1 : Int32).toInt) = 1 := (by decide); omega)⟩, rfl, rfl, rfl⟩ (Nat.le_of_ble_eq_true rfl) (Nat.le_of_ble_eq_true rfl) dX9_isSign_41
  · have hf3 : ¬ (x0.toInt = 61) := fun q => hc1 ((fa_eq _ _).mpr (by have : ((61 : Int32).toInt) = 61 := (by decide); omega))
    refine lv_iload_n hx hb dX9_isSign_6 rfl (lv_at hl 0 rfl) ?_
    refine lv_bipush (v := 59) hx hb dX9_isSign_7 (by decide) ?_
    refine lv_icmp_eq (tgt := 36) hx hb dX9_isSign_9 (by decide) (fun hc4 => ?_) (fun hc4 => ?_)
    · have hf5 : x0.toInt = 59 := by have z := (fa_eq _ _).mp hc4; have : ((59 : Int32).toInt) = 59 := (by decide); omega
      refine lv_iconst (v := 1) hx hb dX9_isSign_36 (by decide) ?_
      refine lv_goto (tgt := 41) hx hb dX9_isSign_37 (by decide) ?_
      exact tw_zret hx hb hr hlocks (by decide) TH hS hex ⟨⟨_, rfl, (show 0 ≤ Int32.toInt 1 from by have : ((1 : Int32).toInt) = 1 := (by decide); omega), (show Int32.toInt 1 ≤ 1 from by have : ((1 : Int32).toInt) = 1 := (by decide); omega), (by have : ((1 : Int32).toInt) = 1 := (by decide); omega)⟩, rfl, rfl, rfl⟩ (Nat.le_of_ble_eq_true rfl) (Nat.le_of_ble_eq_true rfl) dX9_isSign_41
    · have hf6 : ¬ (x0.toInt = 59) := fun q => hc4 ((fa_eq _ _).mpr (by have : ((59 : Int32).toInt) = 59 := (by decide); omega))
      refine lv_iload_n hx hb dX9_isSign_12 rfl (lv_at hl 0 rfl) ?_
      refine lv_bipush (v := 42) hx hb dX9_isSign_13 (by decide) ?_
      refine lv_icmp_eq (tgt := 36) hx hb dX9_isSign_15 (by decide) (fun hc7 => ?_) (fun hc7 => ?_)
      · have hf8 : x0.toInt = 42 := by have z := (fa_eq _ _).mp hc7; have : ((42 : Int32).toInt) = 42 := (by decide); omega
        refine lv_iconst (v := 1) hx hb dX9_isSign_36 (by decide) ?_
        refine lv_goto (tgt := 41) hx hb dX9_isSign_37 (by decide) ?_
        exact tw_zret hx hb hr hlocks (by decide) TH hS hex ⟨⟨_, rfl, (show 0 ≤ Int32.toInt 1 from by have : ((1 : Int32).toInt) = 1 := (by decide); omega), (show Int32.toInt 1 ≤ 1 from by have : ((1 : Int32).toInt) = 1 := (by decide); omega), (by have : ((1 : Int32).toInt) = 1 := (by decide); omega)⟩, rfl, rfl, rfl⟩ (Nat.le_of_ble_eq_true rfl) (Nat.le_of_ble_eq_true rfl) dX9_isSign_41
      · have hf9 : ¬ (x0.toInt = 42) := fun q => hc7 ((fa_eq _ _).mpr (by have : ((42 : Int32).toInt) = 42 := (by decide); omega))
        refine lv_iload_n hx hb dX9_isSign_18 rfl (lv_at hl 0 rfl) ?_
        refine lv_bipush (v := 63) hx hb dX9_isSign_19 (by decide) ?_
        refine lv_icmp_eq (tgt := 36) hx hb dX9_isSign_21 (by decide) (fun hc10 => ?_) (fun hc10 => ?_)
        · have hf11 : x0.toInt = 63 := by have z := (fa_eq _ _).mp hc10; have : ((63 : Int32).toInt) = 63 := (by decide); omega
          refine lv_iconst (v := 1) hx hb dX9_isSign_36 (by decide) ?_
          refine lv_goto (tgt := 41) hx hb dX9_isSign_37 (by decide) ?_
          exact tw_zret hx hb hr hlocks (by decide) TH hS hex ⟨⟨_, rfl, (show 0 ≤ Int32.toInt 1 from by have : ((1 : Int32).toInt) = 1 := (by decide); omega), (show Int32.toInt 1 ≤ 1 from by have : ((1 : Int32).toInt) = 1 := (by decide); omega), (by have : ((1 : Int32).toInt) = 1 := (by decide); omega)⟩, rfl, rfl, rfl⟩ (Nat.le_of_ble_eq_true rfl) (Nat.le_of_ble_eq_true rfl) dX9_isSign_41
        · have hf12 : ¬ (x0.toInt = 63) := fun q => hc10 ((fa_eq _ _).mpr (by have : ((63 : Int32).toInt) = 63 := (by decide); omega))
          refine lv_iload_n hx hb dX9_isSign_24 rfl (lv_at hl 0 rfl) ?_
          refine lv_bipush (v := 40) hx hb dX9_isSign_25 (by decide) ?_
          refine lv_icmp_eq (tgt := 36) hx hb dX9_isSign_27 (by decide) (fun hc13 => ?_) (fun hc13 => ?_)
          · have hf14 : x0.toInt = 40 := by have z := (fa_eq _ _).mp hc13; have : ((40 : Int32).toInt) = 40 := (by decide); omega
            refine lv_iconst (v := 1) hx hb dX9_isSign_36 (by decide) ?_
            refine lv_goto (tgt := 41) hx hb dX9_isSign_37 (by decide) ?_
            exact tw_zret hx hb hr hlocks (by decide) TH hS hex ⟨⟨_, rfl, (show 0 ≤ Int32.toInt 1 from by have : ((1 : Int32).toInt) = 1 := (by decide); omega), (show Int32.toInt 1 ≤ 1 from by have : ((1 : Int32).toInt) = 1 := (by decide); omega), (by have : ((1 : Int32).toInt) = 1 := (by decide); omega)⟩, rfl, rfl, rfl⟩ (Nat.le_of_ble_eq_true rfl) (Nat.le_of_ble_eq_true rfl) dX9_isSign_41
          · have hf15 : ¬ (x0.toInt = 40) := fun q => hc13 ((fa_eq _ _).mpr (by have : ((40 : Int32).toInt) = 40 := (by decide); omega))
            refine lv_iload_n hx hb dX9_isSign_30 rfl (lv_at hl 0 rfl) ?_
            refine lv_bipush (v := 41) hx hb dX9_isSign_31 (by decide) ?_
            refine lv_icmp_ne (tgt := 40) hx hb dX9_isSign_33 (by decide) (fun hc16 => ?_) (fun hc16 => ?_)
            · have hf17 : ¬ (x0.toInt = 41) := fun q => hc16 ((fa_eq _ _).mpr (by have : ((41 : Int32).toInt) = 41 := (by decide); omega))
              refine lv_iconst (v := 0) hx hb dX9_isSign_40 (by decide) ?_
              exact tw_zret hx hb hr hlocks (by decide) TH hS hex ⟨⟨_, rfl, (show 0 ≤ Int32.toInt 0 from by have : ((0 : Int32).toInt) = 0 := (by decide); omega), (show Int32.toInt 0 ≤ 1 from by have : ((0 : Int32).toInt) = 0 := (by decide); omega), (by have : ((0 : Int32).toInt) = 0 := (by decide); omega)⟩, rfl, rfl, rfl⟩ (Nat.le_of_ble_eq_true rfl) (Nat.le_of_ble_eq_true rfl) dX9_isSign_41
            · have hf18 : x0.toInt = 41 := by have z := (fa_eq _ _).mp hc16; have : ((41 : Int32).toInt) = 41 := (by decide); omega
              refine lv_iconst (v := 1) hx hb dX9_isSign_36 (by decide) ?_
              refine lv_goto (tgt := 41) hx hb dX9_isSign_37 (by decide) ?_
              exact tw_zret hx hb hr hlocks (by decide) TH hS hex ⟨⟨_, rfl, (show 0 ≤ Int32.toInt 1 from by have : ((1 : Int32).toInt) = 1 := (by decide); omega), (show Int32.toInt 1 ≤ 1 from by have : ((1 : Int32).toInt) = 1 := (by decide); omega), (by have : ((1 : Int32).toInt) = 1 := (by decide); omega)⟩, rfl, rfl, rfl⟩ (Nat.le_of_ble_eq_true rfl) (Nat.le_of_ble_eq_true rfl) dX9_isSign_41
set_option maxHeartbeats 4000000 in
set_option maxRecDepth 100000 in
theorem tX9_hasRoom_vG (l : Launch) (D : va_G) (cs : Nat → ClassId) {kp : Nat → Nat} {L : List Nat} {E : Nat → va_E} (a0 : Nat) (x1 : Int32) (fv0_1 : Int32) (hm0 : a0 ∈ L) (hk0 : kp a0 = 9) (hp1a : 0 ≤ x1.toInt) (hp1b : x1.toInt ≤ 1000) (hfv0_1 : tw_fv E a0 1 = .int fv0_1) (sz : Nat) : Met l yX9_hasRoom (.code yX9_hasRoom cX9_hasRoom 2 (some .boolean) :: cx_big) { frames := 0, cells := 0, slots := 0, locals := 0 } (tw_P D cs kp L E [.ref a0, .int x1] sz) (tw_Q D cs kp L (fun v kq Lq Eq => (∃ x : Int32, v = some (.int x) ∧ 0 ≤ x.toInt ∧ x.toInt ≤ 1 ∧ (x.toInt ≠ 0 ↔ fv0_1.toInt + x1.toInt ≤ 500)) ∧ kp = kq ∧ L = Lq ∧ E = Eq) (va_A (va_pl L E) sz)) 0 0 (va_A (va_pl L E) sz) := by
  refine tw_ofW (by decide) (Nat.le_of_ble_eq_true rfl) ?_
  intro p e s m below meth c A ls hx hb hr hml hB hown hlocks hK hN hA TH hS hl
  have hown : s.vm.findClass "TreeMerge$Text" = some m.cls := hown
  have hl : lv_has ls 2 [(0, .ref a0), (1, .int x1)] := hl
  obtain ⟨kp0, ekp⟩ : ∃ z, z = kp := ⟨_, rfl⟩
  obtain ⟨L0, eL⟩ : ∃ z, z = L := ⟨_, rfl⟩
  rw [show tw_Q D cs kp L = tw_Q D cs kp0 L0 by rw [ekp, eL]]
  have hex : ∀ a : Nat, a ∈ L0 → a ∈ L ∧ kp a = kp0 a := fun a h => ⟨by rw [← eL]; exact h, by rw [ekp]⟩
  obtain ⟨qfv0_1, hqfv0_1, hqfv0_1a, hqfv0_1b⟩ := tw_rd TH hm0 hk0 (by decide) (by decide) (k := 1) rfl
  have eqfv0_1 : qfv0_1 = fv0_1 := by have q := hqfv0_1.symm.trans hfv0_1; injection q
  rw [eqfv0_1] at hqfv0_1a hqfv0_1b
  refine lv_aload_n hx hb dX9_hasRoom_0 rfl (lv_at hl 0 rfl) ?_
  refine tw_get (ci := 9) (C := RX9) (T := TX9) (N := 5) hx hb hB cx_inX9 hown hK TH hm0 hk0 rfl ⟨by decide, rfl⟩ 1 (by decide) cw_36 (fun _ h9 => h9) dX9_hasRoom_1 (fun hv => ?_)
  rw [hfv0_1]
  refine lv_iload_n hx hb dX9_hasRoom_4 rfl (lv_at hl 1 rfl) ?_
  refine lv_iadd hx hb dX9_hasRoom_5 ?_
  refine lv_topi (fun zi1 ezi1 => ?_)
  have hzi1 : zi1.toInt = fv0_1.toInt + x1.toInt := by rw [ezi1];  have := ia_lo fv0_1; have := ia_hi fv0_1; have := ia_lo x1; have := ia_hi x1; exact (ia_add (by omega) (by omega)).trans (by omega)
  refine lv_sipush (v := 500) hx hb dX9_hasRoom_6 (by decide) ?_
  refine lv_icmp_gt (tgt := 16) hx hb dX9_hasRoom_9 (by decide) (fun hc2 => ?_) (fun hc2 => ?_)
  · have hf3 : 500 < zi1.toInt := by have z := (fa_lt _ _).mp hc2; have : ((500 : Int32).toInt) = 500 := (by decide); omega
    refine lv_iconst (v := 0) hx hb dX9_hasRoom_16 (by decide) ?_
    exact tw_zret hx hb hr hlocks (by decide) TH hS hex ⟨⟨_, rfl, (show 0 ≤ Int32.toInt 0 from by have : ((0 : Int32).toInt) = 0 := (by decide); omega), (show Int32.toInt 0 ≤ 1 from by have : ((0 : Int32).toInt) = 0 := (by decide); omega), (by have : ((0 : Int32).toInt) = 0 := (by decide); omega)⟩, rfl, rfl, rfl⟩ (Nat.le_of_ble_eq_true rfl) (Nat.le_of_ble_eq_true rfl) dX9_hasRoom_17
  · have hf4 : ¬ (500 < zi1.toInt) := fun q => hc2 ((fa_lt _ _).mpr (by have : ((500 : Int32).toInt) = 500 := (by decide); omega))
    refine lv_iconst (v := 1) hx hb dX9_hasRoom_12 (by decide) ?_
    refine lv_goto (tgt := 17) hx hb dX9_hasRoom_13 (by decide) ?_
    exact tw_zret hx hb hr hlocks (by decide) TH hS hex ⟨⟨_, rfl, (show 0 ≤ Int32.toInt 1 from by have : ((1 : Int32).toInt) = 1 := (by decide); omega), (show Int32.toInt 1 ≤ 1 from by have : ((1 : Int32).toInt) = 1 := (by decide); omega), (by have : ((1 : Int32).toInt) = 1 := (by decide); omega)⟩, rfl, rfl, rfl⟩ (Nat.le_of_ble_eq_true rfl) (Nat.le_of_ble_eq_true rfl) dX9_hasRoom_17
set_option maxHeartbeats 4000000 in
set_option maxRecDepth 100000 in
theorem tX9_rewind_vG (l : Launch) (D : va_G) (cs : Nat → ClassId) {kp : Nat → Nat} {L : List Nat} {E : Nat → va_E} (a0 : Nat) (hm0 : a0 ∈ L) (hk0 : kp a0 = 9) (sz : Nat) : Met l yX9_rewind (.code yX9_rewind cX9_rewind 1 none :: cx_big) { frames := 0, cells := 0, slots := 0, locals := 0 } (tw_P D cs kp L E [.ref a0] sz) (tw_Q D cs kp L (fun v kq Lq Eq => v = none ∧ kp = kq ∧ L = Lq ∧ tw_fr kp L [(9, 4)] [] E Eq ∧ (∃ z0 : Int32, tw_fv Eq a0 4 = .int z0 ∧ (z0.toInt = 0))) (va_A (va_pl L E) sz)) 0 0 (va_A (va_pl L E) sz) := by
  refine tw_ofW (by decide) (Nat.le_of_ble_eq_true rfl) ?_
  intro p e s m below meth c A ls hx hb hr hml hB hown hlocks hK hN hA TH hS hl
  have hown : s.vm.findClass "TreeMerge$Text" = some m.cls := hown
  have hl : lv_has ls 1 [(0, .ref a0)] := hl
  obtain ⟨kp0, ekp⟩ : ∃ z, z = kp := ⟨_, rfl⟩
  obtain ⟨L0, eL⟩ : ∃ z, z = L := ⟨_, rfl⟩
  rw [show tw_Q D cs kp L = tw_Q D cs kp0 L0 by rw [ekp, eL]]
  have hex : ∀ a : Nat, a ∈ L0 → a ∈ L ∧ kp a = kp0 a := fun a h => ⟨by rw [← eL]; exact h, by rw [ekp]⟩
  have hF : tw_fr kp L [(9, 4)] [] E E := tw_fr.rf
  refine lv_aload_n hx hb dX9_rewind_0 rfl (lv_at hl 0 rfl) ?_
  refine lv_iconst (v := 0) hx hb dX9_rewind_1 (by decide) ?_
  refine tw_put (ci := 9) (v := .int 0) (ty := .int) (C := RX9) (T := TX9) (N := 5) hx hb hB cx_inX9 tyX9 tyX9_ok nmX9 hown hK TH hS hm0 hk0 rfl ⟨by decide, rfl⟩ 4 (by decide) cw_46 (fun _ h9 => h9) rfl (by decide +kernel) rfl rfl ⟨_, rfl, (show 0 ≤ Int32.toInt 0 from by have : ((0 : Int32).toInt) = 0 := (by decide); omega), (show Int32.toInt 0 ≤ 500 from by have : ((0 : Int32).toInt) = 0 := (by decide); omega)⟩ dX9_rewind_2 (fun H locs E1 TH hS hmf5 hp2 hp3 => ?_)
  have hst4 : tw_fr kp L [(9, 4)] [] E E1 := tw_fr.put tw_fr.rf (fun _ => hk0) (by decide) hp2 hp3 (by decide)
  have hF := hF.tr hst4 (fun _ h => ⟨h, rfl⟩) (by decide) (by decide)
  exact tw_vret hx hb hr hlocks TH hS hex ⟨rfl, rfl, rfl, hF, ⟨(0 : Int32), hmf5, by have : ((0 : Int32).toInt) = 0 := (by decide); omega⟩⟩ (Nat.le_of_ble_eq_true rfl) (Nat.le_of_ble_eq_true rfl) dX9_rewind_5
set_option maxHeartbeats 4000000 in
set_option maxRecDepth 100000 in
theorem tX9_spells_vG0 (l : Launch) (D : va_G) (cs : Nat → ClassId) {kp : Nat → Nat} {L : List Nat} {E : Nat → va_E} (a0 : Nat) (fv0_3 : Int32) (fv0_1 : Int32) (fv0_4 : Int32) (hm0 : a0 ∈ L) (hk0 : kp a0 = 9) (hfv0_3 : tw_fv E a0 3 = .int fv0_3) (hfv0_1 : tw_fv E a0 1 = .int fv0_1) (hfv0_4 : tw_fv E a0 4 = .int fv0_4) (hpre0 : fv0_3.toInt < fv0_1.toInt) (sz : Nat) : Met l yX9_spells (.code yX9_spells cX9_spells 3 (some .boolean) :: cx_big) { frames := 4, cells := 0, slots := 0, locals := 85 } (tw_P D cs kp L E [.ref a0, .ref (D.2 100 0)] sz) (tw_Q D cs kp L (fun v kq Lq Eq => (∃ x : Int32, v = some (.int x) ∧ 0 ≤ x.toInt ∧ x.toInt ≤ 1 ∧ (x.toInt ≠ 0 ↔ lx_rs (tw_el E a0 0) fv0_1.toInt fv0_3.toInt fv0_4.toInt 0)) ∧ kp = kq ∧ L = Lq ∧ E = Eq) (va_A (va_pl L E) sz)) 0 0 (va_A (va_pl L E) sz) := by
  refine tw_ofW (by decide) (Nat.le_of_ble_eq_true rfl) ?_
  intro p e s m below meth c A ls hx hb hr hml hB hown hlocks hK hN hA TH hS hl
  have hown : s.vm.findClass "TreeMerge$Text" = some m.cls := hown
  have hl : lv_has ls 3 [(0, .ref a0), (1, .ref (D.2 100 0))] := hl
  obtain ⟨kp0, ekp⟩ : ∃ z, z = kp := ⟨_, rfl⟩
  obtain ⟨L0, eL⟩ : ∃ z, z = L := ⟨_, rfl⟩
  rw [show tw_Q D cs kp L = tw_Q D cs kp0 L0 by rw [ekp, eL]]
  have hex : ∀ a : Nat, a ∈ L0 → a ∈ L ∧ kp a = kp0 a := fun a h => ⟨by rw [← eL]; exact h, by rw [ekp]⟩
  obtain ⟨qfv0_3, hqfv0_3, hqfv0_3a, hqfv0_3b⟩ := tw_rd TH hm0 hk0 (by decide) (by decide) (k := 3) rfl
  have eqfv0_3 : qfv0_3 = fv0_3 := by have q := hqfv0_3.symm.trans hfv0_3; injection q
  rw [eqfv0_3] at hqfv0_3a hqfv0_3b
  obtain ⟨qfv0_1, hqfv0_1, hqfv0_1a, hqfv0_1b⟩ := tw_rd TH hm0 hk0 (by decide) (by decide) (k := 1) rfl
  have eqfv0_1 : qfv0_1 = fv0_1 := by have q := hqfv0_1.symm.trans hfv0_1; injection q
  rw [eqfv0_1] at hqfv0_1a hqfv0_1b
  obtain ⟨qfv0_4, hqfv0_4, hqfv0_4a, hqfv0_4b⟩ := tw_rd TH hm0 hk0 (by decide) (by decide) (k := 4) rfl
  have eqfv0_4 : qfv0_4 = fv0_4 := by have q := hqfv0_4.symm.trans hfv0_4; injection q
  rw [eqfv0_4] at hqfv0_4a hqfv0_4b
  refine lv_aload_n hx hb dX9_spells_0 rfl (lv_at hl 0 rfl) ?_
  refine tw_get (ci := 9) (C := RX9) (T := TX9) (N := 5) hx hb hB cx_inX9 hown hK TH hm0 hk0 rfl ⟨by decide, rfl⟩ 4 (by decide) cw_46 (fun _ h9 => h9) dX9_spells_1 (fun hv => ?_)
  rw [hfv0_4]
  refine lv_aload_n hx hb dX9_spells_4 rfl (lv_at hl 0 rfl) ?_
  refine tw_get (ci := 9) (C := RX9) (T := TX9) (N := 5) hx hb hB cx_inX9 hown hK TH hm0 hk0 rfl ⟨by decide, rfl⟩ 3 (by decide) cw_43 (fun _ h9 => h9) dX9_spells_5 (fun hv => ?_)
  rw [hfv0_3]
  refine lv_isub hx hb dX9_spells_8 ?_
  refine lv_topi (fun zi1 ezi1 => ?_)
  have hzi1 : zi1.toInt = fv0_4.toInt - fv0_3.toInt := by rw [ezi1];  have := ia_lo fv0_4; have := ia_hi fv0_4; have := ia_lo fv0_3; have := ia_hi fv0_3; exact (ia_sub (by omega) (by omega)).trans (by omega)
  refine lv_aload_n hx hb dX9_spells_9 rfl (lv_at hl 1 rfl) ?_
  refine tw_VSc (i := 0) (n := 0) (post := (fun v kq Lq Eq => v = some (.int 4) ∧ kp = kq ∧ L = Lq ∧ E = Eq)) (As := []) (rest := [.int zi1]) ⟨hx, hb, hml, hown, hB⟩ (fun sz => tj_length0 l D cs sz) gj_len9 rfl rfl (by decide +kernel) ⟨Nat.le_of_ble_eq_true rfl, Nat.le_of_ble_eq_true rfl⟩ hK hN TH hS hA (by decide) rfl hl.1 rfl (Nat.le_of_ble_eq_true rfl) dX9_spells_10 ⟨Nat.le_of_ble_eq_true rfl, Nat.le_of_ble_eq_true rfl⟩ (fun v2 kp2 L2 E2 H locs hq2 hx2 TH hS => ?_)
  obtain ⟨rfl, rfl, rfl, rfl⟩ := hq2
  refine W.eq (g2 := F0 m 13 ls [.int 4, .int zi1]) rfl ?_
  refine lv_icmp_eq (tgt := 18) hx hb dX9_spells_13 (by decide) (fun hc3 => ?_) (fun hc3 => ?_)
  · have hf4 : zi1.toInt = 4 := by have z := (fa_eq _ _).mp hc3; have : ((4 : Int32).toInt) = 4 := (by decide); omega
    refine lv_iconst (v := 0) hx hb dX9_spells_18 (by decide) ?_
    refine lv_istore_n (lv' := [(2, .int 0), (0, .ref a0), (1, .ref (D.2 100 0))]) hx hb dX9_spells_19 rfl hl (by decide) rfl (fun ls hl => ?_)
    have hJ20 : ∀ (n20 : Nat) (y20_2 : Int32) (H : Heap) (locs : List Loc) (ls : Array Slot), 0 ≤ y20_2.toInt → y20_2.toInt ≤ 5 → (lx_rk (tw_el E a0 0) (fv0_3.toInt) 0 (y20_2.toInt)) → 5 - y20_2.toInt ≤ (n20 : Int) → tw_H D cs kp L E A H → va_S A s.heap H locs → lv_has ls 3 [(2, .int y20_2), (0, .ref a0), (1, .ref (D.2 100 0))] → W p l e { frames := 4, cells := 0, slots := 0, locals := 85 } s m [.ref a0, .ref (D.2 100 0)].toArray below meth c H locs 0 0 (MQ below (tw_Q D cs kp0 L0 (fun v kq Lq Eq => (∃ x : Int32, v = some (.int x) ∧ 0 ≤ x.toInt ∧ x.toInt ≤ 1 ∧ (x.toInt ≠ 0 ↔ lx_rs (tw_el E a0 0) fv0_1.toInt fv0_3.toInt fv0_4.toInt 0)) ∧ kp = kq ∧ L = Lq ∧ E = Eq) A) [.ref a0, .ref (D.2 100 0)].toArray s 0 0 A) (F0 m 20 ls []) := by
      intro n20
      induction n20 using Nat.strongRecOn with
      | _ n20 ih20 =>
        intro y20_2 H locs ls hy20_2a hy20_2b hin20_0 hmeas20 TH hS hl
        refine lv_iload_n hx hb dX9_spells_20 rfl (lv_at hl 0 rfl) ?_
        refine lv_aload_n hx hb dX9_spells_21 rfl (lv_at hl 2 rfl) ?_
        refine tw_VSc (i := 0) (n := 0) (post := (fun v kq Lq Eq => v = some (.int 4) ∧ kp = kq ∧ L = Lq ∧ E = Eq)) (As := []) (rest := [.int y20_2]) ⟨hx, hb, hml, hown, hB⟩ (fun sz => tj_length0 l D cs sz) gj_len9 rfl rfl (by decide +kernel) ⟨Nat.le_of_ble_eq_true rfl, Nat.le_of_ble_eq_true rfl⟩ hK hN TH hS hA (by decide) rfl hl.1 rfl (Nat.le_of_ble_eq_true rfl) dX9_spells_22 ⟨Nat.le_of_ble_eq_true rfl, Nat.le_of_ble_eq_true rfl⟩ (fun v5 kp5 L5 E5 H locs hq5 hx5 TH hS => ?_)
        obtain ⟨rfl, rfl, rfl, rfl⟩ := hq5
        refine W.eq (g2 := F0 m 25 ls [.int 4, .int y20_2]) rfl ?_
        refine lv_icmp_ge (tgt := 55) hx hb dX9_spells_25 (by decide) (fun hc6 => ?_) (fun hc6 => ?_)
        · have hf7 : 4 ≤ y20_2.toInt := by have z := (fa_le _ _).mp hc6; have : ((4 : Int32).toInt) = 4 := (by decide); omega
          refine lv_iconst (v := 1) hx hb dX9_spells_55 (by decide) ?_
          exact tw_zret hx hb hr hlocks (by decide) TH hS hex ⟨⟨_, rfl, (show 0 ≤ Int32.toInt 1 from by have : ((1 : Int32).toInt) = 1 := (by decide); omega), (show Int32.toInt 1 ≤ 1 from by have : ((1 : Int32).toInt) = 1 := (by decide); omega), (by have : ((1 : Int32).toInt) = 1 := (by decide); refine ⟨fun _ => lx_rs_of0 (by omega) (by omega) hin20_0 (by omega), fun _ => by decide⟩)⟩, rfl, rfl, rfl⟩ (Nat.le_of_ble_eq_true rfl) (Nat.le_of_ble_eq_true rfl) dX9_spells_56
        · have hf8 : ¬ (4 ≤ y20_2.toInt) := fun q => hc6 ((fa_le _ _).mpr (by have : ((4 : Int32).toInt) = 4 := (by decide); omega))
          refine lv_aload_n hx hb dX9_spells_28 rfl (lv_at hl 1 rfl) ?_
          refine tw_get (ci := 9) (C := RX9) (T := TX9) (N := 5) hx hb hB cx_inX9 hown hK TH hm0 hk0 rfl ⟨by decide, rfl⟩ 0 (by decide) cw_34 (fun _ h9 => h9) dX9_spells_29 (fun hv => ?_)
          obtain ⟨xr9, hxr9, hmxr9, hkxr9⟩ : ∃ a : Nat, tw_fv E a0 0 = .ref a ∧ a ∈ L ∧ kp a = 100 := hv
          rw [hxr9]
          refine lv_aload_n hx hb dX9_spells_32 rfl (lv_at hl 1 rfl) ?_
          refine tw_get (ci := 9) (C := RX9) (T := TX9) (N := 5) hx hb hB cx_inX9 hown hK TH hm0 hk0 rfl ⟨by decide, rfl⟩ 3 (by decide) cw_43 (fun _ h9 => h9) dX9_spells_33 (fun hv => ?_)
          rw [hfv0_3]
          refine lv_iload_n hx hb dX9_spells_36 rfl (lv_at hl 0 rfl) ?_
          refine lv_iadd hx hb dX9_spells_37 ?_
          refine lv_topi (fun zi10 ezi10 => ?_)
          have hzi10 : zi10.toInt = fv0_3.toInt + y20_2.toInt := by rw [ezi10];  have := ia_lo fv0_3; have := ia_hi fv0_3; have := ia_lo y20_2; have := ia_hi y20_2; exact (ia_add (by omega) (by omega)).trans (by omega)
          refine tw_iald (k := 100) (t0 := 0) (n := 500) (lo := 0) (hi := 255) hx hb hK TH hmxr9 hkxr9 (by decide) rfl rfl (i := zi10) (vp_in_iff.mpr ⟨by  omega, by  omega⟩) dX9_spells_38 (fun hxe11a hxe11b => ?_)
          obtain ⟨xe11, exe11⟩ : ∃ z : Int32, tw_iv E xr9 (Int32.toNatClampNeg zi10) = z := ⟨_, rfl⟩
          rw [exe11] at hxe11a hxe11b ⊢
          have ht50 : tw_el E a0 0 (zi10.toInt).toNat = xe11.toInt := (by rw [tw_el_of hxr9]; exact congrArg Int32.toInt exe11)
          obtain ⟨zadd, ezadd⟩ : ∃ z : Int32, z = zi10 := ⟨_, rfl⟩
          rw [← ezadd] at ht50
          have hzadd : zadd.toInt = fv0_3.toInt + y20_2.toInt := (by rw [ezadd]; omega)
          refine lv_aload_n hx hb dX9_spells_39 rfl (lv_at hl 2 rfl) ?_
          refine lv_iload_n hx hb dX9_spells_40 rfl (lv_at hl 0 rfl) ?_
          refine tw_VSc (i := 0) (n := 1) (post := (fun v kq Lq Eq => v = some (.int (st_ch 0 (Int32.toNatClampNeg y20_2))) ∧ kp = kq ∧ L = Lq ∧ E = Eq)) (As := [.int y20_2]) (rest := [.int xe11]) ⟨hx, hb, hml, hown, hB⟩ (fun sz => tj_charAt0 l D cs y20_2 (by omega) (by omega) sz) gj_at9 rfl rfl (by decide +kernel) ⟨Nat.le_of_ble_eq_true rfl, Nat.le_of_ble_eq_true rfl⟩ hK hN TH hS hA (by decide) rfl hl.1 rfl (Nat.le_of_ble_eq_true rfl) dX9_spells_41 ⟨Nat.le_of_ble_eq_true rfl, Nat.le_of_ble_eq_true rfl⟩ (fun v12 kp12 L12 E12 H locs hq12 hx12 TH hS => ?_)
          obtain ⟨rfl, rfl, rfl, rfl⟩ := hq12
          obtain ⟨xk13, exk13⟩ : ∃ z : Int32, st_ch 0 (Int32.toNatClampNeg y20_2) = z := ⟨_, rfl⟩
          rw [exk13]
          refine W.eq (g2 := F0 m 44 ls [.int xk13, .int xe11]) rfl ?_
          obtain ⟨zch, ezc⟩ : ∃ z : Int32, z = xk13 := ⟨_, rfl⟩
          have ezch : st_ch 0 (y20_2.toInt).toNat = zch := (by rw [ezc]; exact exk13)
          have hzch : zch.toInt = xk13.toInt := (by rw [ezc])
          refine lv_icmp_eq (tgt := 49) hx hb dX9_spells_44 (by decide) (fun hc14 => ?_) (fun hc14 => ?_)
          · have hf15 : xe11.toInt = xk13.toInt := by have z := (fa_eq _ _).mp hc14;  omega
            obtain ⟨zi16, ezi16⟩ : ∃ z : Int32, z = y20_2 + Int32.ofInt 1 := ⟨_, rfl⟩
            have hzi16 : zi16.toInt = y20_2.toInt + 1 := by rw [ezi16]; have : ((Int32.ofInt 1).toInt) = 1 := (by decide);  exact (ia_add (by omega) (by omega)).trans (by omega)
            refine lv_iinc (v := zi16) (lv' := [(2, .int zi16), (0, .ref a0), (1, .ref (D.2 100 0))]) hx hb dX9_spells_49 hl (k := 0) rfl ezi16.symm (by decide) rfl (fun ls hl => ?_)
            refine lv_goto (tgt := 20) hx hb dX9_spells_52 (by decide) ?_
            exact ih20 (n20 - 1) (by   omega) zi16 _ _ ls (by omega) (by omega) (by  intro j hj; by_cases e : j = (y20_2.toInt).toNat; (subst e; rw [show (fv0_3.toInt + (((y20_2.toInt).toNat : Nat) : Int)).toNat = (zadd.toInt).toNat by omega, ht50, show st_ch 0 (y20_2.toInt).toNat = zch from ezch]; omega); exact hin20_0 j (by omega)) (by   omega) TH hS (lv_sub hl [0, 1, 2] rfl)
          · have hf17 : ¬ (xe11.toInt = xk13.toInt) := fun q => hc14 ((fa_eq _ _).mpr (by  omega))
            refine lv_iconst (v := 0) hx hb dX9_spells_47 (by decide) ?_
            exact tw_zret hx hb hr hlocks (by decide) TH hS hex ⟨⟨_, rfl, (show 0 ≤ Int32.toInt 0 from by have : ((0 : Int32).toInt) = 0 := (by decide); omega), (show Int32.toInt 0 ≤ 1 from by have : ((0 : Int32).toInt) = 0 := (by decide); omega), (by have : ((0 : Int32).toInt) = 0 := (by decide); refine ⟨fun q => absurd (show ((0 : Int32).toInt) = 0 from by decide) q, fun h => ?_⟩; exfalso; have h1 := lx_rk_of0 h (y20_2.toInt).toNat (by omega); rw [show (fv0_3.toInt + (((y20_2.toInt).toNat : Nat) : Int)).toNat = (zadd.toInt).toNat by omega, ht50, show st_ch 0 (y20_2.toInt).toNat = zch from ezch] at h1; omega)⟩, rfl, rfl, rfl⟩ (Nat.le_of_ble_eq_true rfl) (Nat.le_of_ble_eq_true rfl) dX9_spells_48
    exact hJ20 6 (0 : Int32) _ _ ls (by have : ((0 : Int32).toInt) = 0 := (by decide); omega) (by have : ((0 : Int32).toInt) = 0 := (by decide); omega) (by have : ((0 : Int32).toInt) = 0 := (by decide); intro j hj; exact absurd hj (by omega)) (by have : ((0 : Int32).toInt) = 0 := (by decide);  omega) TH hS (lv_sub hl [0, 1, 2] rfl)
  · have hf18 : ¬ (zi1.toInt = 4) := fun q => hc3 ((fa_eq _ _).mpr (by have : ((4 : Int32).toInt) = 4 := (by decide); omega))
    refine lv_iconst (v := 0) hx hb dX9_spells_16 (by decide) ?_
    exact tw_zret hx hb hr hlocks (by decide) TH hS hex ⟨⟨_, rfl, (show 0 ≤ Int32.toInt 0 from by have : ((0 : Int32).toInt) = 0 := (by decide); omega), (show Int32.toInt 0 ≤ 1 from by have : ((0 : Int32).toInt) = 0 := (by decide); omega), (by have : ((0 : Int32).toInt) = 0 := (by decide); refine ⟨fun q => absurd (show ((0 : Int32).toInt) = 0 from by decide) q, fun h => ?_⟩; exfalso; have h1 := h.1; have h2 := h.2.1; omega)⟩, rfl, rfl, rfl⟩ (Nat.le_of_ble_eq_true rfl) (Nat.le_of_ble_eq_true rfl) dX9_spells_17
set_option maxHeartbeats 4000000 in
set_option maxRecDepth 100000 in
theorem tX9_spells_vG1 (l : Launch) (D : va_G) (cs : Nat → ClassId) {kp : Nat → Nat} {L : List Nat} {E : Nat → va_E} (a0 : Nat) (fv0_3 : Int32) (fv0_1 : Int32) (fv0_4 : Int32) (hm0 : a0 ∈ L) (hk0 : kp a0 = 9) (hfv0_3 : tw_fv E a0 3 = .int fv0_3) (hfv0_1 : tw_fv E a0 1 = .int fv0_1) (hfv0_4 : tw_fv E a0 4 = .int fv0_4) (hpre0 : fv0_3.toInt < fv0_1.toInt) (sz : Nat) : Met l yX9_spells (.code yX9_spells cX9_spells 3 (some .boolean) :: cx_big) { frames := 4, cells := 0, slots := 0, locals := 85 } (tw_P D cs kp L E [.ref a0, .ref (D.2 100 1)] sz) (tw_Q D cs kp L (fun v kq Lq Eq => (∃ x : Int32, v = some (.int x) ∧ 0 ≤ x.toInt ∧ x.toInt ≤ 1 ∧ (x.toInt ≠ 0 ↔ lx_rs (tw_el E a0 0) fv0_1.toInt fv0_3.toInt fv0_4.toInt 1)) ∧ kp = kq ∧ L = Lq ∧ E = Eq) (va_A (va_pl L E) sz)) 0 0 (va_A (va_pl L E) sz) := by
  refine tw_ofW (by decide) (Nat.le_of_ble_eq_true rfl) ?_
  intro p e s m below meth c A ls hx hb hr hml hB hown hlocks hK hN hA TH hS hl
  have hown : s.vm.findClass "TreeMerge$Text" = some m.cls := hown
  have hl : lv_has ls 3 [(0, .ref a0), (1, .ref (D.2 100 1))] := hl
  obtain ⟨kp0, ekp⟩ : ∃ z, z = kp := ⟨_, rfl⟩
  obtain ⟨L0, eL⟩ : ∃ z, z = L := ⟨_, rfl⟩
  rw [show tw_Q D cs kp L = tw_Q D cs kp0 L0 by rw [ekp, eL]]
  have hex : ∀ a : Nat, a ∈ L0 → a ∈ L ∧ kp a = kp0 a := fun a h => ⟨by rw [← eL]; exact h, by rw [ekp]⟩
  obtain ⟨qfv0_3, hqfv0_3, hqfv0_3a, hqfv0_3b⟩ := tw_rd TH hm0 hk0 (by decide) (by decide) (k := 3) rfl
  have eqfv0_3 : qfv0_3 = fv0_3 := by have q := hqfv0_3.symm.trans hfv0_3; injection q
  rw [eqfv0_3] at hqfv0_3a hqfv0_3b
  obtain ⟨qfv0_1, hqfv0_1, hqfv0_1a, hqfv0_1b⟩ := tw_rd TH hm0 hk0 (by decide) (by decide) (k := 1) rfl
  have eqfv0_1 : qfv0_1 = fv0_1 := by have q := hqfv0_1.symm.trans hfv0_1; injection q
  rw [eqfv0_1] at hqfv0_1a hqfv0_1b
  obtain ⟨qfv0_4, hqfv0_4, hqfv0_4a, hqfv0_4b⟩ := tw_rd TH hm0 hk0 (by decide) (by decide) (k := 4) rfl
  have eqfv0_4 : qfv0_4 = fv0_4 := by have q := hqfv0_4.symm.trans hfv0_4; injection q
  rw [eqfv0_4] at hqfv0_4a hqfv0_4b
  refine lv_aload_n hx hb dX9_spells_0 rfl (lv_at hl 0 rfl) ?_
  refine tw_get (ci := 9) (C := RX9) (T := TX9) (N := 5) hx hb hB cx_inX9 hown hK TH hm0 hk0 rfl ⟨by decide, rfl⟩ 4 (by decide) cw_46 (fun _ h9 => h9) dX9_spells_1 (fun hv => ?_)
  rw [hfv0_4]
  refine lv_aload_n hx hb dX9_spells_4 rfl (lv_at hl 0 rfl) ?_
  refine tw_get (ci := 9) (C := RX9) (T := TX9) (N := 5) hx hb hB cx_inX9 hown hK TH hm0 hk0 rfl ⟨by decide, rfl⟩ 3 (by decide) cw_43 (fun _ h9 => h9) dX9_spells_5 (fun hv => ?_)
  rw [hfv0_3]
  refine lv_isub hx hb dX9_spells_8 ?_
  refine lv_topi (fun zi1 ezi1 => ?_)
  have hzi1 : zi1.toInt = fv0_4.toInt - fv0_3.toInt := by rw [ezi1];  have := ia_lo fv0_4; have := ia_hi fv0_4; have := ia_lo fv0_3; have := ia_hi fv0_3; exact (ia_sub (by omega) (by omega)).trans (by omega)
  refine lv_aload_n hx hb dX9_spells_9 rfl (lv_at hl 1 rfl) ?_
  refine tw_VSc (i := 1) (n := 0) (post := (fun v kq Lq Eq => v = some (.int 3) ∧ kp = kq ∧ L = Lq ∧ E = Eq)) (As := []) (rest := [.int zi1]) ⟨hx, hb, hml, hown, hB⟩ (fun sz => tj_length1 l D cs sz) gj_len9 rfl rfl (by decide +kernel) ⟨Nat.le_of_ble_eq_true rfl, Nat.le_of_ble_eq_true rfl⟩ hK hN TH hS hA (by decide) rfl hl.1 rfl (Nat.le_of_ble_eq_true rfl) dX9_spells_10 ⟨Nat.le_of_ble_eq_true rfl, Nat.le_of_ble_eq_true rfl⟩ (fun v2 kp2 L2 E2 H locs hq2 hx2 TH hS => ?_)
  obtain ⟨rfl, rfl, rfl, rfl⟩ := hq2
  refine W.eq (g2 := F0 m 13 ls [.int 3, .int zi1]) rfl ?_
  refine lv_icmp_eq (tgt := 18) hx hb dX9_spells_13 (by decide) (fun hc3 => ?_) (fun hc3 => ?_)
  · have hf4 : zi1.toInt = 3 := by have z := (fa_eq _ _).mp hc3; have : ((3 : Int32).toInt) = 3 := (by decide); omega
    refine lv_iconst (v := 0) hx hb dX9_spells_18 (by decide) ?_
    refine lv_istore_n (lv' := [(2, .int 0), (0, .ref a0), (1, .ref (D.2 100 1))]) hx hb dX9_spells_19 rfl hl (by decide) rfl (fun ls hl => ?_)
    have hJ20 : ∀ (n20 : Nat) (y20_2 : Int32) (H : Heap) (locs : List Loc) (ls : Array Slot), 0 ≤ y20_2.toInt → y20_2.toInt ≤ 3 → (lx_rk (tw_el E a0 0) (fv0_3.toInt) 1 (y20_2.toInt)) → 3 - y20_2.toInt ≤ (n20 : Int) → tw_H D cs kp L E A H → va_S A s.heap H locs → lv_has ls 3 [(2, .int y20_2), (0, .ref a0), (1, .ref (D.2 100 1))] → W p l e { frames := 4, cells := 0, slots := 0, locals := 85 } s m [.ref a0, .ref (D.2 100 1)].toArray below meth c H locs 0 0 (MQ below (tw_Q D cs kp0 L0 (fun v kq Lq Eq => (∃ x : Int32, v = some (.int x) ∧ 0 ≤ x.toInt ∧ x.toInt ≤ 1 ∧ (x.toInt ≠ 0 ↔ lx_rs (tw_el E a0 0) fv0_1.toInt fv0_3.toInt fv0_4.toInt 1)) ∧ kp = kq ∧ L = Lq ∧ E = Eq) A) [.ref a0, .ref (D.2 100 1)].toArray s 0 0 A) (F0 m 20 ls []) := by
      intro n20
      induction n20 using Nat.strongRecOn with
      | _ n20 ih20 =>
        intro y20_2 H locs ls hy20_2a hy20_2b hin20_0 hmeas20 TH hS hl
        refine lv_iload_n hx hb dX9_spells_20 rfl (lv_at hl 0 rfl) ?_
        refine lv_aload_n hx hb dX9_spells_21 rfl (lv_at hl 2 rfl) ?_
        refine tw_VSc (i := 1) (n := 0) (post := (fun v kq Lq Eq => v = some (.int 3) ∧ kp = kq ∧ L = Lq ∧ E = Eq)) (As := []) (rest := [.int y20_2]) ⟨hx, hb, hml, hown, hB⟩ (fun sz => tj_length1 l D cs sz) gj_len9 rfl rfl (by decide +kernel) ⟨Nat.le_of_ble_eq_true rfl, Nat.le_of_ble_eq_true rfl⟩ hK hN TH hS hA (by decide) rfl hl.1 rfl (Nat.le_of_ble_eq_true rfl) dX9_spells_22 ⟨Nat.le_of_ble_eq_true rfl, Nat.le_of_ble_eq_true rfl⟩ (fun v5 kp5 L5 E5 H locs hq5 hx5 TH hS => ?_)
        obtain ⟨rfl, rfl, rfl, rfl⟩ := hq5
        refine W.eq (g2 := F0 m 25 ls [.int 3, .int y20_2]) rfl ?_
        refine lv_icmp_ge (tgt := 55) hx hb dX9_spells_25 (by decide) (fun hc6 => ?_) (fun hc6 => ?_)
        · have hf7 : 3 ≤ y20_2.toInt := by have z := (fa_le _ _).mp hc6; have : ((3 : Int32).toInt) = 3 := (by decide); omega
          refine lv_iconst (v := 1) hx hb dX9_spells_55 (by decide) ?_
          exact tw_zret hx hb hr hlocks (by decide) TH hS hex ⟨⟨_, rfl, (show 0 ≤ Int32.toInt 1 from by have : ((1 : Int32).toInt) = 1 := (by decide); omega), (show Int32.toInt 1 ≤ 1 from by have : ((1 : Int32).toInt) = 1 := (by decide); omega), (by have : ((1 : Int32).toInt) = 1 := (by decide); refine ⟨fun _ => lx_rs_of1 (by omega) (by omega) hin20_0 (by omega), fun _ => by decide⟩)⟩, rfl, rfl, rfl⟩ (Nat.le_of_ble_eq_true rfl) (Nat.le_of_ble_eq_true rfl) dX9_spells_56
        · have hf8 : ¬ (3 ≤ y20_2.toInt) := fun q => hc6 ((fa_le _ _).mpr (by have : ((3 : Int32).toInt) = 3 := (by decide); omega))
          refine lv_aload_n hx hb dX9_spells_28 rfl (lv_at hl 1 rfl) ?_
          refine tw_get (ci := 9) (C := RX9) (T := TX9) (N := 5) hx hb hB cx_inX9 hown hK TH hm0 hk0 rfl ⟨by decide, rfl⟩ 0 (by decide) cw_34 (fun _ h9 => h9) dX9_spells_29 (fun hv => ?_)
          obtain ⟨xr9, hxr9, hmxr9, hkxr9⟩ : ∃ a : Nat, tw_fv E a0 0 = .ref a ∧ a ∈ L ∧ kp a = 100 := hv
          rw [hxr9]
          refine lv_aload_n hx hb dX9_spells_32 rfl (lv_at hl 1 rfl) ?_
          refine tw_get (ci := 9) (C := RX9) (T := TX9) (N := 5) hx hb hB cx_inX9 hown hK TH hm0 hk0 rfl ⟨by decide, rfl⟩ 3 (by decide) cw_43 (fun _ h9 => h9) dX9_spells_33 (fun hv => ?_)
          rw [hfv0_3]
          refine lv_iload_n hx hb dX9_spells_36 rfl (lv_at hl 0 rfl) ?_
          refine lv_iadd hx hb dX9_spells_37 ?_
          refine lv_topi (fun zi10 ezi10 => ?_)
          have hzi10 : zi10.toInt = fv0_3.toInt + y20_2.toInt := by rw [ezi10];  have := ia_lo fv0_3; have := ia_hi fv0_3; have := ia_lo y20_2; have := ia_hi y20_2; exact (ia_add (by omega) (by omega)).trans (by omega)
          refine tw_iald (k := 100) (t0 := 0) (n := 500) (lo := 0) (hi := 255) hx hb hK TH hmxr9 hkxr9 (by decide) rfl rfl (i := zi10) (vp_in_iff.mpr ⟨by  omega, by  omega⟩) dX9_spells_38 (fun hxe11a hxe11b => ?_)
          obtain ⟨xe11, exe11⟩ : ∃ z : Int32, tw_iv E xr9 (Int32.toNatClampNeg zi10) = z := ⟨_, rfl⟩
          rw [exe11] at hxe11a hxe11b ⊢
          have ht50 : tw_el E a0 0 (zi10.toInt).toNat = xe11.toInt := (by rw [tw_el_of hxr9]; exact congrArg Int32.toInt exe11)
          obtain ⟨zadd, ezadd⟩ : ∃ z : Int32, z = zi10 := ⟨_, rfl⟩
          rw [← ezadd] at ht50
          have hzadd : zadd.toInt = fv0_3.toInt + y20_2.toInt := (by rw [ezadd]; omega)
          refine lv_aload_n hx hb dX9_spells_39 rfl (lv_at hl 2 rfl) ?_
          refine lv_iload_n hx hb dX9_spells_40 rfl (lv_at hl 0 rfl) ?_
          refine tw_VSc (i := 1) (n := 1) (post := (fun v kq Lq Eq => v = some (.int (st_ch 1 (Int32.toNatClampNeg y20_2))) ∧ kp = kq ∧ L = Lq ∧ E = Eq)) (As := [.int y20_2]) (rest := [.int xe11]) ⟨hx, hb, hml, hown, hB⟩ (fun sz => tj_charAt1 l D cs y20_2 (by omega) (by omega) sz) gj_at9 rfl rfl (by decide +kernel) ⟨Nat.le_of_ble_eq_true rfl, Nat.le_of_ble_eq_true rfl⟩ hK hN TH hS hA (by decide) rfl hl.1 rfl (Nat.le_of_ble_eq_true rfl) dX9_spells_41 ⟨Nat.le_of_ble_eq_true rfl, Nat.le_of_ble_eq_true rfl⟩ (fun v12 kp12 L12 E12 H locs hq12 hx12 TH hS => ?_)
          obtain ⟨rfl, rfl, rfl, rfl⟩ := hq12
          obtain ⟨xk13, exk13⟩ : ∃ z : Int32, st_ch 1 (Int32.toNatClampNeg y20_2) = z := ⟨_, rfl⟩
          rw [exk13]
          refine W.eq (g2 := F0 m 44 ls [.int xk13, .int xe11]) rfl ?_
          obtain ⟨zch, ezc⟩ : ∃ z : Int32, z = xk13 := ⟨_, rfl⟩
          have ezch : st_ch 1 (y20_2.toInt).toNat = zch := (by rw [ezc]; exact exk13)
          have hzch : zch.toInt = xk13.toInt := (by rw [ezc])
          refine lv_icmp_eq (tgt := 49) hx hb dX9_spells_44 (by decide) (fun hc14 => ?_) (fun hc14 => ?_)
          · have hf15 : xe11.toInt = xk13.toInt := by have z := (fa_eq _ _).mp hc14;  omega
            obtain ⟨zi16, ezi16⟩ : ∃ z : Int32, z = y20_2 + Int32.ofInt 1 := ⟨_, rfl⟩
            have hzi16 : zi16.toInt = y20_2.toInt + 1 := by rw [ezi16]; have : ((Int32.ofInt 1).toInt) = 1 := (by decide);  exact (ia_add (by omega) (by omega)).trans (by omega)
            refine lv_iinc (v := zi16) (lv' := [(2, .int zi16), (0, .ref a0), (1, .ref (D.2 100 1))]) hx hb dX9_spells_49 hl (k := 0) rfl ezi16.symm (by decide) rfl (fun ls hl => ?_)
            refine lv_goto (tgt := 20) hx hb dX9_spells_52 (by decide) ?_
            exact ih20 (n20 - 1) (by   omega) zi16 _ _ ls (by omega) (by omega) (by  intro j hj; by_cases e : j = (y20_2.toInt).toNat; (subst e; rw [show (fv0_3.toInt + (((y20_2.toInt).toNat : Nat) : Int)).toNat = (zadd.toInt).toNat by omega, ht50, show st_ch 1 (y20_2.toInt).toNat = zch from ezch]; omega); exact hin20_0 j (by omega)) (by   omega) TH hS (lv_sub hl [0, 1, 2] rfl)
          · have hf17 : ¬ (xe11.toInt = xk13.toInt) := fun q => hc14 ((fa_eq _ _).mpr (by  omega))
            refine lv_iconst (v := 0) hx hb dX9_spells_47 (by decide) ?_
            exact tw_zret hx hb hr hlocks (by decide) TH hS hex ⟨⟨_, rfl, (show 0 ≤ Int32.toInt 0 from by have : ((0 : Int32).toInt) = 0 := (by decide); omega), (show Int32.toInt 0 ≤ 1 from by have : ((0 : Int32).toInt) = 0 := (by decide); omega), (by have : ((0 : Int32).toInt) = 0 := (by decide); refine ⟨fun q => absurd (show ((0 : Int32).toInt) = 0 from by decide) q, fun h => ?_⟩; exfalso; have h1 := lx_rk_of1 h (y20_2.toInt).toNat (by omega); rw [show (fv0_3.toInt + (((y20_2.toInt).toNat : Nat) : Int)).toNat = (zadd.toInt).toNat by omega, ht50, show st_ch 1 (y20_2.toInt).toNat = zch from ezch] at h1; omega)⟩, rfl, rfl, rfl⟩ (Nat.le_of_ble_eq_true rfl) (Nat.le_of_ble_eq_true rfl) dX9_spells_48
    exact hJ20 4 (0 : Int32) _ _ ls (by have : ((0 : Int32).toInt) = 0 := (by decide); omega) (by have : ((0 : Int32).toInt) = 0 := (by decide); omega) (by have : ((0 : Int32).toInt) = 0 := (by decide); intro j hj; exact absurd hj (by omega)) (by have : ((0 : Int32).toInt) = 0 := (by decide);  omega) TH hS (lv_sub hl [0, 1, 2] rfl)
  · have hf18 : ¬ (zi1.toInt = 3) := fun q => hc3 ((fa_eq _ _).mpr (by have : ((3 : Int32).toInt) = 3 := (by decide); omega))
    refine lv_iconst (v := 0) hx hb dX9_spells_16 (by decide) ?_
    exact tw_zret hx hb hr hlocks (by decide) TH hS hex ⟨⟨_, rfl, (show 0 ≤ Int32.toInt 0 from by have : ((0 : Int32).toInt) = 0 := (by decide); omega), (show Int32.toInt 0 ≤ 1 from by have : ((0 : Int32).toInt) = 0 := (by decide); omega), (by have : ((0 : Int32).toInt) = 0 := (by decide); refine ⟨fun q => absurd (show ((0 : Int32).toInt) = 0 from by decide) q, fun h => ?_⟩; exfalso; have h1 := h.1; have h2 := h.2.1; omega)⟩, rfl, rfl, rfl⟩ (Nat.le_of_ble_eq_true rfl) (Nat.le_of_ble_eq_true rfl) dX9_spells_17
set_option maxHeartbeats 4000000 in
set_option maxRecDepth 100000 in
theorem tX9_cutName_vG (l : Launch) (D : va_G) (cs : Nat → ClassId) {kp : Nat → Nat} {L : List Nat} {E : Nat → va_E} (a0 : Nat) (fv0_3 : Int32) (fv0_4 : Int32) (fv0_1 : Int32) (hm0 : a0 ∈ L) (hk0 : kp a0 = 9) (hfv0_3 : tw_fv E a0 3 = .int fv0_3) (hfv0_4 : tw_fv E a0 4 = .int fv0_4) (hfv0_1 : tw_fv E a0 1 = .int fv0_1) (hpre0 : fv0_3.toInt = fv0_4.toInt) (hpre1 : fv0_3.toInt < fv0_1.toInt) (hpre2 : lx_le (tw_el E a0 0 (fv0_3.toInt).toNat)) (sz : Nat) : Met l yX9_cutName (.code yX9_cutName cX9_cutName 1 none :: cx_big) { frames := 5, cells := 0, slots := 0, locals := 107 } (tw_P D cs kp L E [.ref a0] sz) (tw_Q D cs kp L (fun v kq Lq Eq => v = none ∧ kp = kq ∧ L = Lq ∧ tw_fr kp L [(9, 2), (9, 4)] [] E Eq ∧ (tc_tk (tw_el E a0 0) fv0_1.toInt fv0_3.toInt (tw_fi Eq a0 4) (tw_fi Eq a0 2)) ∧ (∃ z0 z1 : Int32, tw_fv Eq a0 3 = .int z0 ∧ tw_fv Eq a0 4 = .int z1 ∧ (z0.toInt ≤ z1.toInt ∧ z0.toInt = fv0_3.toInt ∧ z1.toInt ≤ fv0_1.toInt))) (va_A (va_pl L E) sz)) 0 0 (va_A (va_pl L E) sz) := by
  refine tw_ofW (by decide) (Nat.le_of_ble_eq_true rfl) ?_
  intro p e s m below meth c A ls hx hb hr hml hB hown hlocks hK hN hA TH hS hl
  have hown : s.vm.findClass "TreeMerge$Text" = some m.cls := hown
  have hl : lv_has ls 1 [(0, .ref a0)] := hl
  obtain ⟨kp0, ekp⟩ : ∃ z, z = kp := ⟨_, rfl⟩
  obtain ⟨L0, eL⟩ : ∃ z, z = L := ⟨_, rfl⟩
  rw [show tw_Q D cs kp L = tw_Q D cs kp0 L0 by rw [ekp, eL]]
  have hex : ∀ a : Nat, a ∈ L0 → a ∈ L ∧ kp a = kp0 a := fun a h => ⟨by rw [← eL]; exact h, by rw [ekp]⟩
  have hF : tw_fr kp L [(9, 2), (9, 4)] [] E E := tw_fr.rf
  obtain ⟨qfv0_3, hqfv0_3, hqfv0_3a, hqfv0_3b⟩ := tw_rd TH hm0 hk0 (by decide) (by decide) (k := 3) rfl
  have eqfv0_3 : qfv0_3 = fv0_3 := by have q := hqfv0_3.symm.trans hfv0_3; injection q
  rw [eqfv0_3] at hqfv0_3a hqfv0_3b
  obtain ⟨qfv0_4, hqfv0_4, hqfv0_4a, hqfv0_4b⟩ := tw_rd TH hm0 hk0 (by decide) (by decide) (k := 4) rfl
  have eqfv0_4 : qfv0_4 = fv0_4 := by have q := hqfv0_4.symm.trans hfv0_4; injection q
  rw [eqfv0_4] at hqfv0_4a hqfv0_4b
  obtain ⟨qfv0_1, hqfv0_1, hqfv0_1a, hqfv0_1b⟩ := tw_rd TH hm0 hk0 (by decide) (by decide) (k := 1) rfl
  have eqfv0_1 : qfv0_1 = fv0_1 := by have q := hqfv0_1.symm.trans hfv0_1; injection q
  rw [eqfv0_1] at hqfv0_1a hqfv0_1b
  have hJ0 : ∀ (n0 : Nat) (u0_0_4 : Int32) (Eg0 : Nat → va_E) (H : Heap) (locs : List Loc) (ls : Array Slot), 0 ≤ u0_0_4.toInt → u0_0_4.toInt ≤ 500 → (fv0_3.toInt ≤ u0_0_4.toInt) → (u0_0_4.toInt ≤ fv0_1.toInt) → (lx_al lx_le (tw_el E a0 0) (fv0_3.toInt) (u0_0_4.toInt)) → 500 - u0_0_4.toInt ≤ (n0 : Int) → tw_fv Eg0 a0 4 = .int u0_0_4 → tw_fr kp L [(9, 4)] [] E Eg0 → tw_H D cs kp L Eg0 A H → va_S A s.heap H locs → lv_has ls 1 [(0, .ref a0)] → W p l e { frames := 5, cells := 0, slots := 0, locals := 107 } s m [.ref a0].toArray below meth c H locs 0 0 (MQ below (tw_Q D cs kp0 L0 (fun v kq Lq Eq => v = none ∧ kp = kq ∧ L = Lq ∧ tw_fr kp L [(9, 2), (9, 4)] [] E Eq ∧ (tc_tk (tw_el E a0 0) fv0_1.toInt fv0_3.toInt (tw_fi Eq a0 4) (tw_fi Eq a0 2)) ∧ (∃ z0 z1 : Int32, tw_fv Eq a0 3 = .int z0 ∧ tw_fv Eq a0 4 = .int z1 ∧ (z0.toInt ≤ z1.toInt ∧ z0.toInt = fv0_3.toInt ∧ z1.toInt ≤ fv0_1.toInt))) A) [.ref a0].toArray s 0 0 A) (F0 m 0 ls []) := by
    intro n0
    induction n0 using Nat.strongRecOn with
    | _ n0 ih0 =>
      intro u0_0_4 Eg0 H locs ls hu0_0_4a hu0_0_4b hin0_0 hin0_1 hin0_2 hmeas0 hfm0_0 hG0 TH hS hl
      have hF := hF.tr hG0 (fun _ h => ⟨h, rfl⟩) (by decide) (by decide)
      have hmf1 : tw_fv Eg0 a0 3 = .int fv0_3 := (hG0.1 a0 3 hm0 (by rw [hk0]; decide)).trans hfv0_3
      have hmf2 : tw_fv Eg0 a0 1 = .int fv0_1 := (hG0.1 a0 1 hm0 (by rw [hk0]; decide)).trans hfv0_1
      refine lv_aload_n hx hb dX9_cutName_0 rfl (lv_at hl 0 rfl) ?_
      refine tw_get (ci := 9) (C := RX9) (T := TX9) (N := 5) hx hb hB cx_inX9 hown hK TH hm0 hk0 rfl ⟨by decide, rfl⟩ 4 (by decide) cw_46 (fun _ h9 => h9) dX9_cutName_1 (fun hv => ?_)
      rw [hfm0_0]
      refine lv_aload_n hx hb dX9_cutName_4 rfl (lv_at hl 0 rfl) ?_
      refine tw_get (ci := 9) (C := RX9) (T := TX9) (N := 5) hx hb hB cx_inX9 hown hK TH hm0 hk0 rfl ⟨by decide, rfl⟩ 1 (by decide) cw_36 (fun _ h9 => h9) dX9_cutName_5 (fun hv => ?_)
      rw [hmf2]
      refine lv_icmp_ge (tgt := 39) hx hb dX9_cutName_8 (by decide) (fun hc3 => ?_) (fun hc3 => ?_)
      · have hf4 : fv0_1.toInt ≤ u0_0_4.toInt := by have z := (fa_le _ _).mp hc3;  omega
        refine lv_aload_n hx hb dX9_cutName_39 rfl (lv_at hl 0 rfl) ?_
        refine lv_iconst (v := 1) hx hb dX9_cutName_40 (by decide) ?_
        refine tw_put (ci := 9) (v := .int 1) (ty := .int) (C := RX9) (T := TX9) (N := 5) hx hb hB cx_inX9 tyX9 tyX9_ok nmX9 hown hK TH hS hm0 hk0 rfl ⟨by decide, rfl⟩ 2 (by decide) cw_41 (fun _ h9 => h9) rfl (by decide +kernel) rfl rfl ⟨_, rfl, (show 0 ≤ Int32.toInt 1 from by have : ((1 : Int32).toInt) = 1 := (by decide); omega), (show Int32.toInt 1 ≤ 255 from by have : ((1 : Int32).toInt) = 1 := (by decide); omega)⟩ dX9_cutName_41 (fun H locs E5 TH hS hmf9 hp6 hp7 => ?_)
        have hst8 : tw_fr kp L [(9, 2)] [] Eg0 E5 := tw_fr.put tw_fr.rf (fun _ => hk0) (by decide) hp6 hp7 (by decide)
        have hF := hF.tr hst8 (fun _ h => ⟨h, rfl⟩) (by decide) (by decide)
        have hmf10 : tw_fv E5 a0 3 = .int fv0_3 := (hst8.1 a0 3 hm0 (by rw [hk0]; decide)).trans hmf1
        have hmf11 : tw_fv E5 a0 1 = .int fv0_1 := (hst8.1 a0 1 hm0 (by rw [hk0]; decide)).trans hmf2
        have hmf12 : tw_fv E5 a0 4 = .int u0_0_4 := (hst8.1 a0 4 hm0 (by rw [hk0]; decide)).trans hfm0_0
        refine lv_aload_n hx hb dX9_cutName_44 rfl (lv_at hl 0 rfl) ?_
        refine va_ldcS (q := D.2 100 0) hx hb hown hN.2.2.2.2.1 dX9_cutName_45 ?_
        refine tw_Vc (o := a0) (ci := 9) (n := 1) (post := (fun v kq Lq Eq => (∃ x : Int32, v = some (.int x) ∧ 0 ≤ x.toInt ∧ x.toInt ≤ 1 ∧ (x.toInt ≠ 0 ↔ lx_rs (tw_el E5 a0 0) fv0_1.toInt fv0_3.toInt u0_0_4.toInt 0)) ∧ kp = kq ∧ L = Lq ∧ E5 = Eq)) (As := [.ref (D.2 100 0)]) (rest := []) ⟨hx, hb, hml, hown, hB⟩ (fun sz => tX9_spells_vG0 l D cs a0 fv0_3 fv0_1 u0_0_4 hm0 hk0 hmf10 hmf11 hmf12 (by  omega) sz) cg_9_43_X9_spells rfl rfl (by decide +kernel) ⟨Nat.le_of_ble_eq_true rfl, Nat.le_of_ble_eq_true rfl⟩ hK hN TH hS hA rfl hm0 hk0 (by decide) rfl hl.1 rfl (Nat.le_of_ble_eq_true rfl) dX9_cutName_47 ⟨Nat.le_of_ble_eq_true rfl, Nat.le_of_ble_eq_true rfl⟩ (fun v13 kp13 L13 E13 H locs hq13 hx13 TH hS => ?_)
        obtain ⟨⟨xc14, rfl, hxc14a, hxc14b, hpoxc14_0⟩, rfl, rfl, rfl⟩ := hq13
        refine W.eq (g2 := F0 m 50 ls [.int xc14]) rfl ?_
        have fs0 := elg_fr TH hF hm0 hk0 (k := 0) (by decide) (by decide) rfl (by decide) (by decide) (by decide)
        have hs0 := hpoxc14_0
        rw [fs0] at hs0
        refine lv_if_eq (tgt := 61) hx hb dX9_cutName_50 (by decide) (fun hc15 => ?_) (fun hc15 => ?_)
        · have hf16 : xc14.toInt = 0 := by have z := (fa_eq _ _).mp hc15; have : ((0 : Int32).toInt) = 0 := (by decide); omega
          refine lv_aload_n hx hb dX9_cutName_61 rfl (lv_at hl 0 rfl) ?_
          refine va_ldcS (q := D.2 100 1) hx hb hown hN.2.2.2.2.2.1 dX9_cutName_62 ?_
          refine tw_Vc (o := a0) (ci := 9) (n := 1) (post := (fun v kq Lq Eq => (∃ x : Int32, v = some (.int x) ∧ 0 ≤ x.toInt ∧ x.toInt ≤ 1 ∧ (x.toInt ≠ 0 ↔ lx_rs (tw_el E5 a0 0) fv0_1.toInt fv0_3.toInt u0_0_4.toInt 1)) ∧ kp = kq ∧ L = Lq ∧ E5 = Eq)) (As := [.ref (D.2 100 1)]) (rest := []) ⟨hx, hb, hml, hown, hB⟩ (fun sz => tX9_spells_vG1 l D cs a0 fv0_3 fv0_1 u0_0_4 hm0 hk0 hmf10 hmf11 hmf12 (by  omega) sz) cg_9_43_X9_spells rfl rfl (by decide +kernel) ⟨Nat.le_of_ble_eq_true rfl, Nat.le_of_ble_eq_true rfl⟩ hK hN TH hS hA rfl hm0 hk0 (by decide) rfl hl.1 rfl (Nat.le_of_ble_eq_true rfl) dX9_cutName_64 ⟨Nat.le_of_ble_eq_true rfl, Nat.le_of_ble_eq_true rfl⟩ (fun v17 kp17 L17 E17 H locs hq17 hx17 TH hS => ?_)
          obtain ⟨⟨xc18, rfl, hxc18a, hxc18b, hpoxc18_0⟩, rfl, rfl, rfl⟩ := hq17
          refine W.eq (g2 := F0 m 67 ls [.int xc18]) rfl ?_
          have fs1 := elg_fr TH hF hm0 hk0 (k := 0) (by decide) (by decide) rfl (by decide) (by decide) (by decide)
          have hs1 := hpoxc18_0
          rw [fs1] at hs1
          refine lv_if_eq (tgt := 75) hx hb dX9_cutName_67 (by decide) (fun hc19 => ?_) (fun hc19 => ?_)
          · have hf20 : xc18.toInt = 0 := by have z := (fa_eq _ _).mp hc19; have : ((0 : Int32).toInt) = 0 := (by decide); omega
            exact tw_vret hx hb hr hlocks TH hS hex ⟨rfl, rfl, rfl, hF, (by have : ((1 : Int32).toInt) = 1 := (by decide); rw [tw_fi_of hmf12, tw_fi_of hmf9]; exact Or.inr (Or.inl ⟨by omega, hpre2, (by omega), by omega, hin0_2, (fun z => absurd z (by omega)), Or.inl ⟨by decide, (fun z => (by have w := hs0.2 z; omega)), (fun z => (by have w := hs1.2 z; omega))⟩⟩)), ⟨fv0_3, u0_0_4, hmf10, hmf12, by have : ((1 : Int32).toInt) = 1 := (by decide); omega⟩⟩ (Nat.le_of_ble_eq_true rfl) (Nat.le_of_ble_eq_true rfl) dX9_cutName_75
          · have hf21 : ¬ (xc18.toInt = 0) := fun q => hc19 ((fa_eq _ _).mpr (by have : ((0 : Int32).toInt) = 0 := (by decide); omega))
            refine lv_aload_n hx hb dX9_cutName_70 rfl (lv_at hl 0 rfl) ?_
            refine lv_iconst (v := 3) hx hb dX9_cutName_71 (by decide) ?_
            refine tw_put (ci := 9) (v := .int 3) (ty := .int) (C := RX9) (T := TX9) (N := 5) hx hb hB cx_inX9 tyX9 tyX9_ok nmX9 hown hK TH hS hm0 hk0 rfl ⟨by decide, rfl⟩ 2 (by decide) cw_41 (fun _ h9 => h9) rfl (by decide +kernel) rfl rfl ⟨_, rfl, (show 0 ≤ Int32.toInt 3 from by have : ((3 : Int32).toInt) = 3 := (by decide); omega), (show Int32.toInt 3 ≤ 255 from by have : ((3 : Int32).toInt) = 3 := (by decide); omega)⟩ dX9_cutName_72 (fun H locs E22 TH hS hmf26 hp23 hp24 => ?_)
            have hst25 : tw_fr kp L [(9, 2)] [] E5 E22 := tw_fr.put tw_fr.rf (fun _ => hk0) (by decide) hp23 hp24 (by decide)
            have hF := hF.tr hst25 (fun _ h => ⟨h, rfl⟩) (by decide) (by decide)
            have hmf27 : tw_fv E22 a0 3 = .int fv0_3 := (hst25.1 a0 3 hm0 (by rw [hk0]; decide)).trans hmf10
            have hmf28 : tw_fv E22 a0 1 = .int fv0_1 := (hst25.1 a0 1 hm0 (by rw [hk0]; decide)).trans hmf11
            have hmf29 : tw_fv E22 a0 4 = .int u0_0_4 := (hst25.1 a0 4 hm0 (by rw [hk0]; decide)).trans hmf12
            exact tw_vret hx hb hr hlocks TH hS hex ⟨rfl, rfl, rfl, hF, (by have : ((3 : Int32).toInt) = 3 := (by decide); rw [tw_fi_of hmf29, tw_fi_of hmf26]; exact Or.inr (Or.inl ⟨by omega, hpre2, (by omega), by omega, hin0_2, (fun z => absurd z (by omega)), Or.inr (Or.inr ⟨by decide, (fun z => (by have w := hs0.2 z; omega)), hs1.1 (by omega)⟩)⟩)), ⟨fv0_3, u0_0_4, hmf27, hmf29, by have : ((3 : Int32).toInt) = 3 := (by decide); omega⟩⟩ (Nat.le_of_ble_eq_true rfl) (Nat.le_of_ble_eq_true rfl) dX9_cutName_75
        · have hf30 : ¬ (xc14.toInt = 0) := fun q => hc15 ((fa_eq _ _).mpr (by have : ((0 : Int32).toInt) = 0 := (by decide); omega))
          refine lv_aload_n hx hb dX9_cutName_53 rfl (lv_at hl 0 rfl) ?_
          refine lv_iconst (v := 2) hx hb dX9_cutName_54 (by decide) ?_
          refine tw_put (ci := 9) (v := .int 2) (ty := .int) (C := RX9) (T := TX9) (N := 5) hx hb hB cx_inX9 tyX9 tyX9_ok nmX9 hown hK TH hS hm0 hk0 rfl ⟨by decide, rfl⟩ 2 (by decide) cw_41 (fun _ h9 => h9) rfl (by decide +kernel) rfl rfl ⟨_, rfl, (show 0 ≤ Int32.toInt 2 from by have : ((2 : Int32).toInt) = 2 := (by decide); omega), (show Int32.toInt 2 ≤ 255 from by have : ((2 : Int32).toInt) = 2 := (by decide); omega)⟩ dX9_cutName_55 (fun H locs E31 TH hS hmf35 hp32 hp33 => ?_)
          have hst34 : tw_fr kp L [(9, 2)] [] E5 E31 := tw_fr.put tw_fr.rf (fun _ => hk0) (by decide) hp32 hp33 (by decide)
          have hF := hF.tr hst34 (fun _ h => ⟨h, rfl⟩) (by decide) (by decide)
          have hmf36 : tw_fv E31 a0 3 = .int fv0_3 := (hst34.1 a0 3 hm0 (by rw [hk0]; decide)).trans hmf10
          have hmf37 : tw_fv E31 a0 1 = .int fv0_1 := (hst34.1 a0 1 hm0 (by rw [hk0]; decide)).trans hmf11
          have hmf38 : tw_fv E31 a0 4 = .int u0_0_4 := (hst34.1 a0 4 hm0 (by rw [hk0]; decide)).trans hmf12
          refine lv_goto (tgt := 75) hx hb dX9_cutName_58 (by decide) ?_
          exact tw_vret hx hb hr hlocks TH hS hex ⟨rfl, rfl, rfl, hF, (by have : ((2 : Int32).toInt) = 2 := (by decide); rw [tw_fi_of hmf38, tw_fi_of hmf35]; exact Or.inr (Or.inl ⟨by omega, hpre2, (by omega), by omega, hin0_2, (fun z => absurd z (by omega)), Or.inr (Or.inl ⟨by decide, hs0.1 (by omega)⟩)⟩)), ⟨fv0_3, u0_0_4, hmf36, hmf38, by have : ((2 : Int32).toInt) = 2 := (by decide); omega⟩⟩ (Nat.le_of_ble_eq_true rfl) (Nat.le_of_ble_eq_true rfl) dX9_cutName_75
      · have hf39 : ¬ (fv0_1.toInt ≤ u0_0_4.toInt) := fun q => hc3 ((fa_le _ _).mpr (by  omega))
        refine lv_aload_n hx hb dX9_cutName_11 rfl (lv_at hl 0 rfl) ?_
        refine tw_get (ci := 9) (C := RX9) (T := TX9) (N := 5) hx hb hB cx_inX9 hown hK TH hm0 hk0 rfl ⟨by decide, rfl⟩ 0 (by decide) cw_34 (fun _ h9 => h9) dX9_cutName_12 (fun hv => ?_)
        obtain ⟨xr40, hxr40, hmxr40, hkxr40⟩ : ∃ a : Nat, tw_fv Eg0 a0 0 = .ref a ∧ a ∈ L ∧ kp a = 100 := hv
        rw [hxr40]
        refine lv_aload_n hx hb dX9_cutName_15 rfl (lv_at hl 0 rfl) ?_
        refine tw_get (ci := 9) (C := RX9) (T := TX9) (N := 5) hx hb hB cx_inX9 hown hK TH hm0 hk0 rfl ⟨by decide, rfl⟩ 4 (by decide) cw_46 (fun _ h9 => h9) dX9_cutName_16 (fun hv => ?_)
        rw [hfm0_0]
        refine tw_iald (k := 100) (t0 := 0) (n := 500) (lo := 0) (hi := 255) hx hb hK TH hmxr40 hkxr40 (by decide) rfl rfl (i := u0_0_4) (vp_in_iff.mpr ⟨by  omega, by  omega⟩) dX9_cutName_19 (fun hxe41a hxe41b => ?_)
        obtain ⟨xe41, exe41⟩ : ∃ z : Int32, tw_iv Eg0 xr40 (Int32.toNatClampNeg u0_0_4) = z := ⟨_, rfl⟩
        rw [exe41] at hxe41a hxe41b ⊢
        have ftht20 := elg_fr TH hF hm0 hk0 (k := 0) (by decide) (by decide) rfl (by decide) (by decide) (by decide)
        have ht20 : tw_el E a0 0 (u0_0_4.toInt).toNat = xe41.toInt := (by rw [← ftht20]; exact (by rw [tw_el_of hxr40]; exact congrArg Int32.toInt exe41))
        refine tw_SNc (n := 1) (post := (fun v kq Lq Eq => (∃ x : Int32, v = some (.int x) ∧ 0 ≤ x.toInt ∧ x.toInt ≤ 1 ∧ (x.toInt ≠ 0 ↔ (97 ≤ xe41.toInt ∧ xe41.toInt ≤ 122))) ∧ kp = kq ∧ L = Lq ∧ Eg0 = Eq)) (As := [.int xe41]) (rest := []) ⟨hx, hb, hml, hown, hB⟩ (fun sz => tX11_isLetter_vG l D cs xe41  sz) cw_483 cw_1 (by decide +kernel) cw_482 rfl rfl (by decide +kernel) ⟨Nat.le_of_ble_eq_true rfl, Nat.le_of_ble_eq_true rfl⟩ hK hN TH hS hA rfl hl.1 rfl (Nat.le_of_ble_eq_true rfl) dX9_cutName_20 ⟨Nat.le_of_ble_eq_true rfl, Nat.le_of_ble_eq_true rfl⟩ (fun v42 kp42 L42 E42 H locs hq42 hx42 TH hS => ?_)
        obtain ⟨⟨xc43, rfl, hxc43a, hxc43b, hpoxc43_0⟩, rfl, rfl, rfl⟩ := hq42
        refine W.eq (g2 := F0 m 23 ls [.int xc43]) rfl ?_
        refine lv_if_eq (tgt := 39) hx hb dX9_cutName_23 (by decide) (fun hc44 => ?_) (fun hc44 => ?_)
        · have hf45 : xc43.toInt = 0 := by have z := (fa_eq _ _).mp hc44; have : ((0 : Int32).toInt) = 0 := (by decide); omega
          refine lv_aload_n hx hb dX9_cutName_39 rfl (lv_at hl 0 rfl) ?_
          refine lv_iconst (v := 1) hx hb dX9_cutName_40 (by decide) ?_
          refine tw_put (ci := 9) (v := .int 1) (ty := .int) (C := RX9) (T := TX9) (N := 5) hx hb hB cx_inX9 tyX9 tyX9_ok nmX9 hown hK TH hS hm0 hk0 rfl ⟨by decide, rfl⟩ 2 (by decide) cw_41 (fun _ h9 => h9) rfl (by decide +kernel) rfl rfl ⟨_, rfl, (show 0 ≤ Int32.toInt 1 from by have : ((1 : Int32).toInt) = 1 := (by decide); omega), (show Int32.toInt 1 ≤ 255 from by have : ((1 : Int32).toInt) = 1 := (by decide); omega)⟩ dX9_cutName_41 (fun H locs E46 TH hS hmf50 hp47 hp48 => ?_)
          have hst49 : tw_fr kp L [(9, 2)] [] Eg0 E46 := tw_fr.put tw_fr.rf (fun _ => hk0) (by decide) hp47 hp48 (by decide)
          have hF := hF.tr hst49 (fun _ h => ⟨h, rfl⟩) (by decide) (by decide)
          have hmf51 : tw_fv E46 a0 3 = .int fv0_3 := (hst49.1 a0 3 hm0 (by rw [hk0]; decide)).trans hmf1
          have hmf52 : tw_fv E46 a0 1 = .int fv0_1 := (hst49.1 a0 1 hm0 (by rw [hk0]; decide)).trans hmf2
          have hmf53 : tw_fv E46 a0 4 = .int u0_0_4 := (hst49.1 a0 4 hm0 (by rw [hk0]; decide)).trans hfm0_0
          have hmf54 : tw_fv E46 a0 0 = .ref xr40 := (hst49.1 a0 0 hm0 (by rw [hk0]; decide)).trans hxr40
          refine lv_aload_n hx hb dX9_cutName_44 rfl (lv_at hl 0 rfl) ?_
          refine va_ldcS (q := D.2 100 0) hx hb hown hN.2.2.2.2.1 dX9_cutName_45 ?_
          refine tw_Vc (o := a0) (ci := 9) (n := 1) (post := (fun v kq Lq Eq => (∃ x : Int32, v = some (.int x) ∧ 0 ≤ x.toInt ∧ x.toInt ≤ 1 ∧ (x.toInt ≠ 0 ↔ lx_rs (tw_el E46 a0 0) fv0_1.toInt fv0_3.toInt u0_0_4.toInt 0)) ∧ kp = kq ∧ L = Lq ∧ E46 = Eq)) (As := [.ref (D.2 100 0)]) (rest := []) ⟨hx, hb, hml, hown, hB⟩ (fun sz => tX9_spells_vG0 l D cs a0 fv0_3 fv0_1 u0_0_4 hm0 hk0 hmf51 hmf52 hmf53 (by  omega) sz) cg_9_43_X9_spells rfl rfl (by decide +kernel) ⟨Nat.le_of_ble_eq_true rfl, Nat.le_of_ble_eq_true rfl⟩ hK hN TH hS hA rfl hm0 hk0 (by decide) rfl hl.1 rfl (Nat.le_of_ble_eq_true rfl) dX9_cutName_47 ⟨Nat.le_of_ble_eq_true rfl, Nat.le_of_ble_eq_true rfl⟩ (fun v55 kp55 L55 E55 H locs hq55 hx55 TH hS => ?_)
          obtain ⟨⟨xc56, rfl, hxc56a, hxc56b, hpoxc56_0⟩, rfl, rfl, rfl⟩ := hq55
          refine W.eq (g2 := F0 m 50 ls [.int xc56]) rfl ?_
          have fs0 := elg_fr TH hF hm0 hk0 (k := 0) (by decide) (by decide) rfl (by decide) (by decide) (by decide)
          have hs0 := hpoxc56_0
          rw [fs0] at hs0
          refine lv_if_eq (tgt := 61) hx hb dX9_cutName_50 (by decide) (fun hc57 => ?_) (fun hc57 => ?_)
          · have hf58 : xc56.toInt = 0 := by have z := (fa_eq _ _).mp hc57; have : ((0 : Int32).toInt) = 0 := (by decide); omega
            refine lv_aload_n hx hb dX9_cutName_61 rfl (lv_at hl 0 rfl) ?_
            refine va_ldcS (q := D.2 100 1) hx hb hown hN.2.2.2.2.2.1 dX9_cutName_62 ?_
            refine tw_Vc (o := a0) (ci := 9) (n := 1) (post := (fun v kq Lq Eq => (∃ x : Int32, v = some (.int x) ∧ 0 ≤ x.toInt ∧ x.toInt ≤ 1 ∧ (x.toInt ≠ 0 ↔ lx_rs (tw_el E46 a0 0) fv0_1.toInt fv0_3.toInt u0_0_4.toInt 1)) ∧ kp = kq ∧ L = Lq ∧ E46 = Eq)) (As := [.ref (D.2 100 1)]) (rest := []) ⟨hx, hb, hml, hown, hB⟩ (fun sz => tX9_spells_vG1 l D cs a0 fv0_3 fv0_1 u0_0_4 hm0 hk0 hmf51 hmf52 hmf53 (by  omega) sz) cg_9_43_X9_spells rfl rfl (by decide +kernel) ⟨Nat.le_of_ble_eq_true rfl, Nat.le_of_ble_eq_true rfl⟩ hK hN TH hS hA rfl hm0 hk0 (by decide) rfl hl.1 rfl (Nat.le_of_ble_eq_true rfl) dX9_cutName_64 ⟨Nat.le_of_ble_eq_true rfl, Nat.le_of_ble_eq_true rfl⟩ (fun v59 kp59 L59 E59 H locs hq59 hx59 TH hS => ?_)
            obtain ⟨⟨xc60, rfl, hxc60a, hxc60b, hpoxc60_0⟩, rfl, rfl, rfl⟩ := hq59
            refine W.eq (g2 := F0 m 67 ls [.int xc60]) rfl ?_
            have fs1 := elg_fr TH hF hm0 hk0 (k := 0) (by decide) (by decide) rfl (by decide) (by decide) (by decide)
            have hs1 := hpoxc60_0
            rw [fs1] at hs1
            refine lv_if_eq (tgt := 75) hx hb dX9_cutName_67 (by decide) (fun hc61 => ?_) (fun hc61 => ?_)
            · have hf62 : xc60.toInt = 0 := by have z := (fa_eq _ _).mp hc61; have : ((0 : Int32).toInt) = 0 := (by decide); omega
              exact tw_vret hx hb hr hlocks TH hS hex ⟨rfl, rfl, rfl, hF, (by have : ((1 : Int32).toInt) = 1 := (by decide); rw [tw_fi_of hmf53, tw_fi_of hmf50]; exact Or.inr (Or.inl ⟨by omega, hpre2, (by (by_cases z : fv0_3.toInt = u0_0_4.toInt; (exact absurd (z ▸ hpre2) (show ¬ lx_le (tw_el E a0 0 (u0_0_4.toInt).toNat) from (fun y => (by unfold lx_le at y; rw [ht20] at y; have y2 := hpoxc43_0.2 y; omega)))); omega)), by omega, hin0_2, (fun _ => (show ¬ lx_le (tw_el E a0 0 (u0_0_4.toInt).toNat) from (fun y => (by unfold lx_le at y; rw [ht20] at y; have y2 := hpoxc43_0.2 y; omega)))), Or.inl ⟨by decide, (fun z => (by have w := hs0.2 z; omega)), (fun z => (by have w := hs1.2 z; omega))⟩⟩)), ⟨fv0_3, u0_0_4, hmf51, hmf53, by have : ((1 : Int32).toInt) = 1 := (by decide); omega⟩⟩ (Nat.le_of_ble_eq_true rfl) (Nat.le_of_ble_eq_true rfl) dX9_cutName_75
            · have hf63 : ¬ (xc60.toInt = 0) := fun q => hc61 ((fa_eq _ _).mpr (by have : ((0 : Int32).toInt) = 0 := (by decide); omega))
              refine lv_aload_n hx hb dX9_cutName_70 rfl (lv_at hl 0 rfl) ?_
              refine lv_iconst (v := 3) hx hb dX9_cutName_71 (by decide) ?_
              refine tw_put (ci := 9) (v := .int 3) (ty := .int) (C := RX9) (T := TX9) (N := 5) hx hb hB cx_inX9 tyX9 tyX9_ok nmX9 hown hK TH hS hm0 hk0 rfl ⟨by decide, rfl⟩ 2 (by decide) cw_41 (fun _ h9 => h9) rfl (by decide +kernel) rfl rfl ⟨_, rfl, (show 0 ≤ Int32.toInt 3 from by have : ((3 : Int32).toInt) = 3 := (by decide); omega), (show Int32.toInt 3 ≤ 255 from by have : ((3 : Int32).toInt) = 3 := (by decide); omega)⟩ dX9_cutName_72 (fun H locs E64 TH hS hmf68 hp65 hp66 => ?_)
              have hst67 : tw_fr kp L [(9, 2)] [] E46 E64 := tw_fr.put tw_fr.rf (fun _ => hk0) (by decide) hp65 hp66 (by decide)
              have hF := hF.tr hst67 (fun _ h => ⟨h, rfl⟩) (by decide) (by decide)
              have hmf69 : tw_fv E64 a0 3 = .int fv0_3 := (hst67.1 a0 3 hm0 (by rw [hk0]; decide)).trans hmf51
              have hmf70 : tw_fv E64 a0 1 = .int fv0_1 := (hst67.1 a0 1 hm0 (by rw [hk0]; decide)).trans hmf52
              have hmf71 : tw_fv E64 a0 4 = .int u0_0_4 := (hst67.1 a0 4 hm0 (by rw [hk0]; decide)).trans hmf53
              have hmf72 : tw_fv E64 a0 0 = .ref xr40 := (hst67.1 a0 0 hm0 (by rw [hk0]; decide)).trans hmf54
              exact tw_vret hx hb hr hlocks TH hS hex ⟨rfl, rfl, rfl, hF, (by have : ((3 : Int32).toInt) = 3 := (by decide); rw [tw_fi_of hmf71, tw_fi_of hmf68]; exact Or.inr (Or.inl ⟨by omega, hpre2, (by (by_cases z : fv0_3.toInt = u0_0_4.toInt; (exact absurd (z ▸ hpre2) (show ¬ lx_le (tw_el E a0 0 (u0_0_4.toInt).toNat) from (fun y => (by unfold lx_le at y; rw [ht20] at y; have y2 := hpoxc43_0.2 y; omega)))); omega)), by omega, hin0_2, (fun _ => (show ¬ lx_le (tw_el E a0 0 (u0_0_4.toInt).toNat) from (fun y => (by unfold lx_le at y; rw [ht20] at y; have y2 := hpoxc43_0.2 y; omega)))), Or.inr (Or.inr ⟨by decide, (fun z => (by have w := hs0.2 z; omega)), hs1.1 (by omega)⟩)⟩)), ⟨fv0_3, u0_0_4, hmf69, hmf71, by have : ((3 : Int32).toInt) = 3 := (by decide); omega⟩⟩ (Nat.le_of_ble_eq_true rfl) (Nat.le_of_ble_eq_true rfl) dX9_cutName_75
          · have hf73 : ¬ (xc56.toInt = 0) := fun q => hc57 ((fa_eq _ _).mpr (by have : ((0 : Int32).toInt) = 0 := (by decide); omega))
            refine lv_aload_n hx hb dX9_cutName_53 rfl (lv_at hl 0 rfl) ?_
            refine lv_iconst (v := 2) hx hb dX9_cutName_54 (by decide) ?_
            refine tw_put (ci := 9) (v := .int 2) (ty := .int) (C := RX9) (T := TX9) (N := 5) hx hb hB cx_inX9 tyX9 tyX9_ok nmX9 hown hK TH hS hm0 hk0 rfl ⟨by decide, rfl⟩ 2 (by decide) cw_41 (fun _ h9 => h9) rfl (by decide +kernel) rfl rfl ⟨_, rfl, (show 0 ≤ Int32.toInt 2 from by have : ((2 : Int32).toInt) = 2 := (by decide); omega), (show Int32.toInt 2 ≤ 255 from by have : ((2 : Int32).toInt) = 2 := (by decide); omega)⟩ dX9_cutName_55 (fun H locs E74 TH hS hmf78 hp75 hp76 => ?_)
            have hst77 : tw_fr kp L [(9, 2)] [] E46 E74 := tw_fr.put tw_fr.rf (fun _ => hk0) (by decide) hp75 hp76 (by decide)
            have hF := hF.tr hst77 (fun _ h => ⟨h, rfl⟩) (by decide) (by decide)
            have hmf79 : tw_fv E74 a0 3 = .int fv0_3 := (hst77.1 a0 3 hm0 (by rw [hk0]; decide)).trans hmf51
            have hmf80 : tw_fv E74 a0 1 = .int fv0_1 := (hst77.1 a0 1 hm0 (by rw [hk0]; decide)).trans hmf52
            have hmf81 : tw_fv E74 a0 4 = .int u0_0_4 := (hst77.1 a0 4 hm0 (by rw [hk0]; decide)).trans hmf53
            have hmf82 : tw_fv E74 a0 0 = .ref xr40 := (hst77.1 a0 0 hm0 (by rw [hk0]; decide)).trans hmf54
            refine lv_goto (tgt := 75) hx hb dX9_cutName_58 (by decide) ?_
            exact tw_vret hx hb hr hlocks TH hS hex ⟨rfl, rfl, rfl, hF, (by have : ((2 : Int32).toInt) = 2 := (by decide); rw [tw_fi_of hmf81, tw_fi_of hmf78]; exact Or.inr (Or.inl ⟨by omega, hpre2, (by (by_cases z : fv0_3.toInt = u0_0_4.toInt; (exact absurd (z ▸ hpre2) (show ¬ lx_le (tw_el E a0 0 (u0_0_4.toInt).toNat) from (fun y => (by unfold lx_le at y; rw [ht20] at y; have y2 := hpoxc43_0.2 y; omega)))); omega)), by omega, hin0_2, (fun _ => (show ¬ lx_le (tw_el E a0 0 (u0_0_4.toInt).toNat) from (fun y => (by unfold lx_le at y; rw [ht20] at y; have y2 := hpoxc43_0.2 y; omega)))), Or.inr (Or.inl ⟨by decide, hs0.1 (by omega)⟩)⟩)), ⟨fv0_3, u0_0_4, hmf79, hmf81, by have : ((2 : Int32).toInt) = 2 := (by decide); omega⟩⟩ (Nat.le_of_ble_eq_true rfl) (Nat.le_of_ble_eq_true rfl) dX9_cutName_75
        · have hf83 : ¬ (xc43.toInt = 0) := fun q => hc44 ((fa_eq _ _).mpr (by have : ((0 : Int32).toInt) = 0 := (by decide); omega))
          refine lv_aload_n hx hb dX9_cutName_26 rfl (lv_at hl 0 rfl) ?_
          refine lv_dup hx hb dX9_cutName_27 rfl ?_
          refine tw_get (ci := 9) (C := RX9) (T := TX9) (N := 5) hx hb hB cx_inX9 hown hK TH hm0 hk0 rfl ⟨by decide, rfl⟩ 4 (by decide) cw_46 (fun _ h9 => h9) dX9_cutName_28 (fun hv => ?_)
          rw [hfm0_0]
          refine lv_iconst (v := 1) hx hb dX9_cutName_31 (by decide) ?_
          refine lv_iadd hx hb dX9_cutName_32 ?_
          refine lv_topi (fun zi84 ezi84 => ?_)
          have hzi84 : zi84.toInt = u0_0_4.toInt + 1 := by rw [ezi84]; have : ((1 : Int32).toInt) = 1 := (by decide); have := ia_lo u0_0_4; have := ia_hi u0_0_4; exact (ia_add (by omega) (by omega)).trans (by omega)
          refine tw_put (ci := 9) (v := .int zi84) (ty := .int) (C := RX9) (T := TX9) (N := 5) hx hb hB cx_inX9 tyX9 tyX9_ok nmX9 hown hK TH hS hm0 hk0 rfl ⟨by decide, rfl⟩ 4 (by decide) cw_46 (fun _ h9 => h9) rfl (by decide +kernel) rfl rfl ⟨_, rfl, (show 0 ≤ Int32.toInt zi84 from by  omega), (show Int32.toInt zi84 ≤ 500 from by  omega)⟩ dX9_cutName_33 (fun H locs E85 TH hS hmf89 hp86 hp87 => ?_)
          have hst88 : tw_fr kp L [(9, 4)] [] Eg0 E85 := tw_fr.put tw_fr.rf (fun _ => hk0) (by decide) hp86 hp87 (by decide)
          have hF := hF.tr hst88 (fun _ h => ⟨h, rfl⟩) (by decide) (by decide)
          have hG0 := hG0.tr hst88 (fun _ h => ⟨h, rfl⟩) (by decide) (by decide)
          have hmf90 : tw_fv E85 a0 3 = .int fv0_3 := (hst88.1 a0 3 hm0 (by rw [hk0]; decide)).trans hmf1
          have hmf91 : tw_fv E85 a0 1 = .int fv0_1 := (hst88.1 a0 1 hm0 (by rw [hk0]; decide)).trans hmf2
          have hmf92 : tw_fv E85 a0 0 = .ref xr40 := (hst88.1 a0 0 hm0 (by rw [hk0]; decide)).trans hxr40
          refine lv_goto (tgt := 0) hx hb dX9_cutName_36 (by decide) ?_
          exact ih0 (n0 - 1) (by   omega) zi84 _ _ _ ls (by omega) (by omega) (by  omega) (by  omega) (by  exact lx_al_push hin0_2 (by omega) (by omega) (by have w := hpoxc43_0.1 (by omega); unfold lx_le; rw [ht20]; exact w)) (by   omega) hmf89 hG0 TH hS (lv_sub hl [0] rfl)
  exact hJ0 501 fv0_4 _ _ _ ls (by omega) (by omega) (by  omega) (by  omega) (by  exact lx_al_zero (by omega)) (by   omega) hfv0_4 tw_fr.rf TH hS (lv_sub hl [0] rfl)
set_option maxHeartbeats 4000000 in
set_option maxRecDepth 100000 in
theorem tX9_cutWord_vG (l : Launch) (D : va_G) (cs : Nat → ClassId) {kp : Nat → Nat} {L : List Nat} {E : Nat → va_E} (a0 : Nat) (fv0_3 : Int32) (fv0_1 : Int32) (hm0 : a0 ∈ L) (hk0 : kp a0 = 9) (hfv0_3 : tw_fv E a0 3 = .int fv0_3) (hfv0_1 : tw_fv E a0 1 = .int fv0_1) (hpre0 : fv0_3.toInt < fv0_1.toInt) (sz : Nat) : Met l yX9_cutWord (.code yX9_cutWord cX9_cutWord 1 none :: cx_big) { frames := 2, cells := 0, slots := 0, locals := 40 } (tw_P D cs kp L E [.ref a0] sz) (tw_Q D cs kp L (fun v kq Lq Eq => v = none ∧ kp = kq ∧ L = Lq ∧ tw_fr kp L [(9, 2), (9, 4)] [] E Eq ∧ (∃ z0 z1 z2 : Int32, tw_fv Eq a0 2 = .int z0 ∧ tw_fv Eq a0 3 = .int z1 ∧ tw_fv Eq a0 4 = .int z2 ∧ (z1.toInt < z2.toInt ∧ z2.toInt ≤ fv0_1.toInt ∧ 4 ≤ z0.toInt ∧ z0.toInt ≤ 6 ∧ z1.toInt = fv0_3.toInt))) (va_A (va_pl L E) sz)) 0 0 (va_A (va_pl L E) sz) := by
  refine tw_ofW (by decide) (Nat.le_of_ble_eq_true rfl) ?_
  intro p e s m below meth c A ls hx hb hr hml hB hown hlocks hK hN hA TH hS hl
  have hown : s.vm.findClass "TreeMerge$Text" = some m.cls := hown
  have hl : lv_has ls 1 [(0, .ref a0)] := hl
  obtain ⟨kp0, ekp⟩ : ∃ z, z = kp := ⟨_, rfl⟩
  obtain ⟨L0, eL⟩ : ∃ z, z = L := ⟨_, rfl⟩
  rw [show tw_Q D cs kp L = tw_Q D cs kp0 L0 by rw [ekp, eL]]
  have hex : ∀ a : Nat, a ∈ L0 → a ∈ L ∧ kp a = kp0 a := fun a h => ⟨by rw [← eL]; exact h, by rw [ekp]⟩
  have hF : tw_fr kp L [(9, 2), (9, 4)] [] E E := tw_fr.rf
  obtain ⟨qfv0_3, hqfv0_3, hqfv0_3a, hqfv0_3b⟩ := tw_rd TH hm0 hk0 (by decide) (by decide) (k := 3) rfl
  have eqfv0_3 : qfv0_3 = fv0_3 := by have q := hqfv0_3.symm.trans hfv0_3; injection q
  rw [eqfv0_3] at hqfv0_3a hqfv0_3b
  obtain ⟨qfv0_1, hqfv0_1, hqfv0_1a, hqfv0_1b⟩ := tw_rd TH hm0 hk0 (by decide) (by decide) (k := 1) rfl
  have eqfv0_1 : qfv0_1 = fv0_1 := by have q := hqfv0_1.symm.trans hfv0_1; injection q
  rw [eqfv0_1] at hqfv0_1a hqfv0_1b
  refine lv_aload_n hx hb dX9_cutWord_0 rfl (lv_at hl 0 rfl) ?_
  refine lv_aload_n hx hb dX9_cutWord_1 rfl (lv_at hl 0 rfl) ?_
  refine tw_get (ci := 9) (C := RX9) (T := TX9) (N := 5) hx hb hB cx_inX9 hown hK TH hm0 hk0 rfl ⟨by decide, rfl⟩ 3 (by decide) cw_43 (fun _ h9 => h9) dX9_cutWord_2 (fun hv => ?_)
  rw [hfv0_3]
  refine lv_iconst (v := 1) hx hb dX9_cutWord_5 (by decide) ?_
  refine lv_iadd hx hb dX9_cutWord_6 ?_
  refine lv_topi (fun zi1 ezi1 => ?_)
  have hzi1 : zi1.toInt = fv0_3.toInt + 1 := by rw [ezi1]; have : ((1 : Int32).toInt) = 1 := (by decide); have := ia_lo fv0_3; have := ia_hi fv0_3; exact (ia_add (by omega) (by omega)).trans (by omega)
  refine tw_put (ci := 9) (v := .int zi1) (ty := .int) (C := RX9) (T := TX9) (N := 5) hx hb hB cx_inX9 tyX9 tyX9_ok nmX9 hown hK TH hS hm0 hk0 rfl ⟨by decide, rfl⟩ 4 (by decide) cw_46 (fun _ h9 => h9) rfl (by decide +kernel) rfl rfl ⟨_, rfl, (show 0 ≤ Int32.toInt zi1 from by  omega), (show Int32.toInt zi1 ≤ 500 from by  omega)⟩ dX9_cutWord_7 (fun H locs E2 TH hS hmf6 hp3 hp4 => ?_)
  have hst5 : tw_fr kp L [(9, 4)] [] E E2 := tw_fr.put tw_fr.rf (fun _ => hk0) (by decide) hp3 hp4 (by decide)
  have hF := hF.tr hst5 (fun _ h => ⟨h, rfl⟩) (by decide) (by decide)
  have hmf7 : tw_fv E2 a0 3 = .int fv0_3 := (hst5.1 a0 3 hm0 (by rw [hk0]; decide)).trans hfv0_3
  have hmf8 : tw_fv E2 a0 1 = .int fv0_1 := (hst5.1 a0 1 hm0 (by rw [hk0]; decide)).trans hfv0_1
  have hJ10 : ∀ (n10 : Nat) (w10_0_4 : Int32) (Eg10 : Nat → va_E) (H : Heap) (locs : List Loc) (ls : Array Slot), 1 ≤ w10_0_4.toInt → w10_0_4.toInt ≤ 501 → (fv0_3.toInt + 1 ≤ w10_0_4.toInt) → (w10_0_4.toInt ≤ fv0_1.toInt) → 500 - w10_0_4.toInt ≤ (n10 : Int) → tw_fv Eg10 a0 4 = .int w10_0_4 → tw_fr kp L [(9, 4)] [] E2 Eg10 → tw_H D cs kp L Eg10 A H → va_S A s.heap H locs → lv_has ls 1 [(0, .ref a0)] → W p l e { frames := 2, cells := 0, slots := 0, locals := 40 } s m [.ref a0].toArray below meth c H locs 0 0 (MQ below (tw_Q D cs kp0 L0 (fun v kq Lq Eq => v = none ∧ kp = kq ∧ L = Lq ∧ tw_fr kp L [(9, 2), (9, 4)] [] E Eq ∧ (∃ z0 z1 z2 : Int32, tw_fv Eq a0 2 = .int z0 ∧ tw_fv Eq a0 3 = .int z1 ∧ tw_fv Eq a0 4 = .int z2 ∧ (z1.toInt < z2.toInt ∧ z2.toInt ≤ fv0_1.toInt ∧ 4 ≤ z0.toInt ∧ z0.toInt ≤ 6 ∧ z1.toInt = fv0_3.toInt))) A) [.ref a0].toArray s 0 0 A) (F0 m 10 ls []) := by
    intro n10
    induction n10 using Nat.strongRecOn with
    | _ n10 ih10 =>
      intro w10_0_4 Eg10 H locs ls hw10_0_4a hw10_0_4b hin10_0 hin10_1 hmeas10 hfm10_0 hG10 TH hS hl
      have hF := hF.tr hG10 (fun _ h => ⟨h, rfl⟩) (by decide) (by decide)
      have hmf9 : tw_fv Eg10 a0 3 = .int fv0_3 := (hG10.1 a0 3 hm0 (by rw [hk0]; decide)).trans hmf7
      have hmf10 : tw_fv Eg10 a0 1 = .int fv0_1 := (hG10.1 a0 1 hm0 (by rw [hk0]; decide)).trans hmf8
      refine lv_aload_n hx hb dX9_cutWord_10 rfl (lv_at hl 0 rfl) ?_
      refine tw_get (ci := 9) (C := RX9) (T := TX9) (N := 5) hx hb hB cx_inX9 hown hK TH hm0 hk0 rfl ⟨by decide, rfl⟩ 4 (by decide) cw_46 (fun _ h9 => h9) dX9_cutWord_11 (fun hv => ?_)
      rw [hfm10_0]
      refine lv_aload_n hx hb dX9_cutWord_14 rfl (lv_at hl 0 rfl) ?_
      refine tw_get (ci := 9) (C := RX9) (T := TX9) (N := 5) hx hb hB cx_inX9 hown hK TH hm0 hk0 rfl ⟨by decide, rfl⟩ 1 (by decide) cw_36 (fun _ h9 => h9) dX9_cutWord_15 (fun hv => ?_)
      rw [hmf10]
      refine lv_icmp_ge (tgt := 63) hx hb dX9_cutWord_18 (by decide) (fun hc11 => ?_) (fun hc11 => ?_)
      · have hf12 : fv0_1.toInt ≤ w10_0_4.toInt := by have z := (fa_le _ _).mp hc11;  omega
        refine lv_aload_n hx hb dX9_cutWord_63 rfl (lv_at hl 0 rfl) ?_
        refine tw_get (ci := 9) (C := RX9) (T := TX9) (N := 5) hx hb hB cx_inX9 hown hK TH hm0 hk0 rfl ⟨by decide, rfl⟩ 4 (by decide) cw_46 (fun _ h9 => h9) dX9_cutWord_64 (fun hv => ?_)
        rw [hfm10_0]
        refine lv_aload_n hx hb dX9_cutWord_67 rfl (lv_at hl 0 rfl) ?_
        refine tw_get (ci := 9) (C := RX9) (T := TX9) (N := 5) hx hb hB cx_inX9 hown hK TH hm0 hk0 rfl ⟨by decide, rfl⟩ 1 (by decide) cw_36 (fun _ h9 => h9) dX9_cutWord_68 (fun hv => ?_)
        rw [hmf10]
        refine lv_icmp_lt (tgt := 82) hx hb dX9_cutWord_71 (by decide) (fun hc13 => ?_) (fun hc13 => ?_)
        · have hf14 : w10_0_4.toInt < fv0_1.toInt := by have z := (fa_lt _ _).mp hc13;  omega
          refine lv_aload_n hx hb dX9_cutWord_82 rfl (lv_at hl 0 rfl) ?_
          refine tw_get (ci := 9) (C := RX9) (T := TX9) (N := 5) hx hb hB cx_inX9 hown hK TH hm0 hk0 rfl ⟨by decide, rfl⟩ 0 (by decide) cw_34 (fun _ h9 => h9) dX9_cutWord_83 (fun hv => ?_)
          obtain ⟨xr15, hxr15, hmxr15, hkxr15⟩ : ∃ a : Nat, tw_fv Eg10 a0 0 = .ref a ∧ a ∈ L ∧ kp a = 100 := hv
          rw [hxr15]
          refine lv_aload_n hx hb dX9_cutWord_86 rfl (lv_at hl 0 rfl) ?_
          refine tw_get (ci := 9) (C := RX9) (T := TX9) (N := 5) hx hb hB cx_inX9 hown hK TH hm0 hk0 rfl ⟨by decide, rfl⟩ 4 (by decide) cw_46 (fun _ h9 => h9) dX9_cutWord_87 (fun hv => ?_)
          rw [hfm10_0]
          refine tw_iald (k := 100) (t0 := 0) (n := 500) (lo := 0) (hi := 255) hx hb hK TH hmxr15 hkxr15 (by decide) rfl rfl (i := w10_0_4) (vp_in_iff.mpr ⟨by  omega, by  omega⟩) dX9_cutWord_90 (fun hxe16a hxe16b => ?_)
          obtain ⟨xe16, exe16⟩ : ∃ z : Int32, tw_iv Eg10 xr15 (Int32.toNatClampNeg w10_0_4) = z := ⟨_, rfl⟩
          rw [exe16] at hxe16a hxe16b ⊢
          refine lv_bipush (v := 125) hx hb dX9_cutWord_91 (by decide) ?_
          refine lv_icmp_ne (tgt := 127) hx hb dX9_cutWord_93 (by decide) (fun hc17 => ?_) (fun hc17 => ?_)
          · have hf18 : ¬ (xe16.toInt = 125) := fun q => hc17 ((fa_eq _ _).mpr (by have : ((125 : Int32).toInt) = 125 := (by decide); omega))
            refine lv_aload_n hx hb dX9_cutWord_127 rfl (lv_at hl 0 rfl) ?_
            refine lv_bipush (v := 6) hx hb dX9_cutWord_128 (by decide) ?_
            refine tw_put (ci := 9) (v := .int 6) (ty := .int) (C := RX9) (T := TX9) (N := 5) hx hb hB cx_inX9 tyX9 tyX9_ok nmX9 hown hK TH hS hm0 hk0 rfl ⟨by decide, rfl⟩ 2 (by decide) cw_41 (fun _ h9 => h9) rfl (by decide +kernel) rfl rfl ⟨_, rfl, (show 0 ≤ Int32.toInt 6 from by have : ((6 : Int32).toInt) = 6 := (by decide); omega), (show Int32.toInt 6 ≤ 255 from by have : ((6 : Int32).toInt) = 6 := (by decide); omega)⟩ dX9_cutWord_130 (fun H locs E19 TH hS hmf23 hp20 hp21 => ?_)
            have hst22 : tw_fr kp L [(9, 2)] [] Eg10 E19 := tw_fr.put tw_fr.rf (fun _ => hk0) (by decide) hp20 hp21 (by decide)
            have hF := hF.tr hst22 (fun _ h => ⟨h, rfl⟩) (by decide) (by decide)
            have hmf24 : tw_fv E19 a0 3 = .int fv0_3 := (hst22.1 a0 3 hm0 (by rw [hk0]; decide)).trans hmf9
            have hmf25 : tw_fv E19 a0 1 = .int fv0_1 := (hst22.1 a0 1 hm0 (by rw [hk0]; decide)).trans hmf10
            have hmf26 : tw_fv E19 a0 4 = .int w10_0_4 := (hst22.1 a0 4 hm0 (by rw [hk0]; decide)).trans hfm10_0
            have hmf27 : tw_fv E19 a0 0 = .ref xr15 := (hst22.1 a0 0 hm0 (by rw [hk0]; decide)).trans hxr15
            exact tw_vret hx hb hr hlocks TH hS hex ⟨rfl, rfl, rfl, hF, ⟨(6 : Int32), fv0_3, w10_0_4, hmf23, hmf24, hmf26, by have : ((6 : Int32).toInt) = 6 := (by decide); omega⟩⟩ (Nat.le_of_ble_eq_true rfl) (Nat.le_of_ble_eq_true rfl) dX9_cutWord_133
          · have hf28 : xe16.toInt = 125 := by have z := (fa_eq _ _).mp hc17; have : ((125 : Int32).toInt) = 125 := (by decide); omega
            refine lv_aload_n hx hb dX9_cutWord_96 rfl (lv_at hl 0 rfl) ?_
            refine tw_get (ci := 9) (C := RX9) (T := TX9) (N := 5) hx hb hB cx_inX9 hown hK TH hm0 hk0 rfl ⟨by decide, rfl⟩ 4 (by decide) cw_46 (fun _ h9 => h9) dX9_cutWord_97 (fun hv => ?_)
            rw [hfm10_0]
            refine lv_aload_n hx hb dX9_cutWord_100 rfl (lv_at hl 0 rfl) ?_
            refine tw_get (ci := 9) (C := RX9) (T := TX9) (N := 5) hx hb hB cx_inX9 hown hK TH hm0 hk0 rfl ⟨by decide, rfl⟩ 3 (by decide) cw_43 (fun _ h9 => h9) dX9_cutWord_101 (fun hv => ?_)
            rw [hmf9]
            refine lv_isub hx hb dX9_cutWord_104 ?_
            refine lv_topi (fun zi29 ezi29 => ?_)
            have hzi29 : zi29.toInt = w10_0_4.toInt - fv0_3.toInt := by rw [ezi29];  have := ia_lo w10_0_4; have := ia_hi w10_0_4; have := ia_lo fv0_3; have := ia_hi fv0_3; exact (ia_sub (by omega) (by omega)).trans (by omega)
            refine lv_iconst (v := 1) hx hb dX9_cutWord_105 (by decide) ?_
            refine lv_icmp_le (tgt := 127) hx hb dX9_cutWord_106 (by decide) (fun hc30 => ?_) (fun hc30 => ?_)
            · have hf31 : zi29.toInt ≤ 1 := by have z := (fa_le _ _).mp hc30; have : ((1 : Int32).toInt) = 1 := (by decide); omega
              refine lv_aload_n hx hb dX9_cutWord_127 rfl (lv_at hl 0 rfl) ?_
              refine lv_bipush (v := 6) hx hb dX9_cutWord_128 (by decide) ?_
              refine tw_put (ci := 9) (v := .int 6) (ty := .int) (C := RX9) (T := TX9) (N := 5) hx hb hB cx_inX9 tyX9 tyX9_ok nmX9 hown hK TH hS hm0 hk0 rfl ⟨by decide, rfl⟩ 2 (by decide) cw_41 (fun _ h9 => h9) rfl (by decide +kernel) rfl rfl ⟨_, rfl, (show 0 ≤ Int32.toInt 6 from by have : ((6 : Int32).toInt) = 6 := (by decide); omega), (show Int32.toInt 6 ≤ 255 from by have : ((6 : Int32).toInt) = 6 := (by decide); omega)⟩ dX9_cutWord_130 (fun H locs E32 TH hS hmf36 hp33 hp34 => ?_)
              have hst35 : tw_fr kp L [(9, 2)] [] Eg10 E32 := tw_fr.put tw_fr.rf (fun _ => hk0) (by decide) hp33 hp34 (by decide)
              have hF := hF.tr hst35 (fun _ h => ⟨h, rfl⟩) (by decide) (by decide)
              have hmf37 : tw_fv E32 a0 3 = .int fv0_3 := (hst35.1 a0 3 hm0 (by rw [hk0]; decide)).trans hmf9
              have hmf38 : tw_fv E32 a0 1 = .int fv0_1 := (hst35.1 a0 1 hm0 (by rw [hk0]; decide)).trans hmf10
              have hmf39 : tw_fv E32 a0 4 = .int w10_0_4 := (hst35.1 a0 4 hm0 (by rw [hk0]; decide)).trans hfm10_0
              have hmf40 : tw_fv E32 a0 0 = .ref xr15 := (hst35.1 a0 0 hm0 (by rw [hk0]; decide)).trans hxr15
              exact tw_vret hx hb hr hlocks TH hS hex ⟨rfl, rfl, rfl, hF, ⟨(6 : Int32), fv0_3, w10_0_4, hmf36, hmf37, hmf39, by have : ((6 : Int32).toInt) = 6 := (by decide); omega⟩⟩ (Nat.le_of_ble_eq_true rfl) (Nat.le_of_ble_eq_true rfl) dX9_cutWord_133
            · have hf41 : ¬ (zi29.toInt ≤ 1) := fun q => hc30 ((fa_le _ _).mpr (by have : ((1 : Int32).toInt) = 1 := (by decide); omega))
              refine lv_aload_n hx hb dX9_cutWord_109 rfl (lv_at hl 0 rfl) ?_
              refine lv_iconst (v := 4) hx hb dX9_cutWord_110 (by decide) ?_
              refine tw_put (ci := 9) (v := .int 4) (ty := .int) (C := RX9) (T := TX9) (N := 5) hx hb hB cx_inX9 tyX9 tyX9_ok nmX9 hown hK TH hS hm0 hk0 rfl ⟨by decide, rfl⟩ 2 (by decide) cw_41 (fun _ h9 => h9) rfl (by decide +kernel) rfl rfl ⟨_, rfl, (show 0 ≤ Int32.toInt 4 from by have : ((4 : Int32).toInt) = 4 := (by decide); omega), (show Int32.toInt 4 ≤ 255 from by have : ((4 : Int32).toInt) = 4 := (by decide); omega)⟩ dX9_cutWord_111 (fun H locs E42 TH hS hmf46 hp43 hp44 => ?_)
              have hst45 : tw_fr kp L [(9, 2)] [] Eg10 E42 := tw_fr.put tw_fr.rf (fun _ => hk0) (by decide) hp43 hp44 (by decide)
              have hF := hF.tr hst45 (fun _ h => ⟨h, rfl⟩) (by decide) (by decide)
              have hmf47 : tw_fv E42 a0 3 = .int fv0_3 := (hst45.1 a0 3 hm0 (by rw [hk0]; decide)).trans hmf9
              have hmf48 : tw_fv E42 a0 1 = .int fv0_1 := (hst45.1 a0 1 hm0 (by rw [hk0]; decide)).trans hmf10
              have hmf49 : tw_fv E42 a0 4 = .int w10_0_4 := (hst45.1 a0 4 hm0 (by rw [hk0]; decide)).trans hfm10_0
              have hmf50 : tw_fv E42 a0 0 = .ref xr15 := (hst45.1 a0 0 hm0 (by rw [hk0]; decide)).trans hxr15
              refine lv_aload_n hx hb dX9_cutWord_114 rfl (lv_at hl 0 rfl) ?_
              refine lv_dup hx hb dX9_cutWord_115 rfl ?_
              refine tw_get (ci := 9) (C := RX9) (T := TX9) (N := 5) hx hb hB cx_inX9 hown hK TH hm0 hk0 rfl ⟨by decide, rfl⟩ 4 (by decide) cw_46 (fun _ h9 => h9) dX9_cutWord_116 (fun hv => ?_)
              rw [hmf49]
              refine lv_iconst (v := 1) hx hb dX9_cutWord_119 (by decide) ?_
              refine lv_iadd hx hb dX9_cutWord_120 ?_
              refine lv_topi (fun zi51 ezi51 => ?_)
              have hzi51 : zi51.toInt = w10_0_4.toInt + 1 := by rw [ezi51]; have : ((1 : Int32).toInt) = 1 := (by decide); have := ia_lo w10_0_4; have := ia_hi w10_0_4; exact (ia_add (by omega) (by omega)).trans (by omega)
              refine tw_put (ci := 9) (v := .int zi51) (ty := .int) (C := RX9) (T := TX9) (N := 5) hx hb hB cx_inX9 tyX9 tyX9_ok nmX9 hown hK TH hS hm0 hk0 rfl ⟨by decide, rfl⟩ 4 (by decide) cw_46 (fun _ h9 => h9) rfl (by decide +kernel) rfl rfl ⟨_, rfl, (show 0 ≤ Int32.toInt zi51 from by  omega), (show Int32.toInt zi51 ≤ 500 from by  omega)⟩ dX9_cutWord_121 (fun H locs E52 TH hS hmf56 hp53 hp54 => ?_)
              have hst55 : tw_fr kp L [(9, 4)] [] E42 E52 := tw_fr.put tw_fr.rf (fun _ => hk0) (by decide) hp53 hp54 (by decide)
              have hF := hF.tr hst55 (fun _ h => ⟨h, rfl⟩) (by decide) (by decide)
              have hmf57 : tw_fv E52 a0 3 = .int fv0_3 := (hst55.1 a0 3 hm0 (by rw [hk0]; decide)).trans hmf47
              have hmf58 : tw_fv E52 a0 1 = .int fv0_1 := (hst55.1 a0 1 hm0 (by rw [hk0]; decide)).trans hmf48
              have hmf59 : tw_fv E52 a0 0 = .ref xr15 := (hst55.1 a0 0 hm0 (by rw [hk0]; decide)).trans hmf50
              have hmf60 : tw_fv E52 a0 2 = .int 4 := (hst55.1 a0 2 hm0 (by rw [hk0]; decide)).trans hmf46
              refine lv_goto (tgt := 133) hx hb dX9_cutWord_124 (by decide) ?_
              exact tw_vret hx hb hr hlocks TH hS hex ⟨rfl, rfl, rfl, hF, ⟨(4 : Int32), fv0_3, zi51, hmf60, hmf57, hmf56, by have : ((4 : Int32).toInt) = 4 := (by decide); omega⟩⟩ (Nat.le_of_ble_eq_true rfl) (Nat.le_of_ble_eq_true rfl) dX9_cutWord_133
        · have hf61 : ¬ (w10_0_4.toInt < fv0_1.toInt) := fun q => hc13 ((fa_lt _ _).mpr (by  omega))
          refine lv_aload_n hx hb dX9_cutWord_74 rfl (lv_at hl 0 rfl) ?_
          refine lv_iconst (v := 5) hx hb dX9_cutWord_75 (by decide) ?_
          refine tw_put (ci := 9) (v := .int 5) (ty := .int) (C := RX9) (T := TX9) (N := 5) hx hb hB cx_inX9 tyX9 tyX9_ok nmX9 hown hK TH hS hm0 hk0 rfl ⟨by decide, rfl⟩ 2 (by decide) cw_41 (fun _ h9 => h9) rfl (by decide +kernel) rfl rfl ⟨_, rfl, (show 0 ≤ Int32.toInt 5 from by have : ((5 : Int32).toInt) = 5 := (by decide); omega), (show Int32.toInt 5 ≤ 255 from by have : ((5 : Int32).toInt) = 5 := (by decide); omega)⟩ dX9_cutWord_76 (fun H locs E62 TH hS hmf66 hp63 hp64 => ?_)
          have hst65 : tw_fr kp L [(9, 2)] [] Eg10 E62 := tw_fr.put tw_fr.rf (fun _ => hk0) (by decide) hp63 hp64 (by decide)
          have hF := hF.tr hst65 (fun _ h => ⟨h, rfl⟩) (by decide) (by decide)
          have hmf67 : tw_fv E62 a0 3 = .int fv0_3 := (hst65.1 a0 3 hm0 (by rw [hk0]; decide)).trans hmf9
          have hmf68 : tw_fv E62 a0 1 = .int fv0_1 := (hst65.1 a0 1 hm0 (by rw [hk0]; decide)).trans hmf10
          have hmf69 : tw_fv E62 a0 4 = .int w10_0_4 := (hst65.1 a0 4 hm0 (by rw [hk0]; decide)).trans hfm10_0
          refine lv_goto (tgt := 133) hx hb dX9_cutWord_79 (by decide) ?_
          exact tw_vret hx hb hr hlocks TH hS hex ⟨rfl, rfl, rfl, hF, ⟨(5 : Int32), fv0_3, w10_0_4, hmf66, hmf67, hmf69, by have : ((5 : Int32).toInt) = 5 := (by decide); omega⟩⟩ (Nat.le_of_ble_eq_true rfl) (Nat.le_of_ble_eq_true rfl) dX9_cutWord_133
      · have hf70 : ¬ (fv0_1.toInt ≤ w10_0_4.toInt) := fun q => hc11 ((fa_le _ _).mpr (by  omega))
        refine lv_aload_n hx hb dX9_cutWord_21 rfl (lv_at hl 0 rfl) ?_
        refine tw_get (ci := 9) (C := RX9) (T := TX9) (N := 5) hx hb hB cx_inX9 hown hK TH hm0 hk0 rfl ⟨by decide, rfl⟩ 4 (by decide) cw_46 (fun _ h9 => h9) dX9_cutWord_22 (fun hv => ?_)
        rw [hfm10_0]
        refine lv_aload_n hx hb dX9_cutWord_25 rfl (lv_at hl 0 rfl) ?_
        refine tw_get (ci := 9) (C := RX9) (T := TX9) (N := 5) hx hb hB cx_inX9 hown hK TH hm0 hk0 rfl ⟨by decide, rfl⟩ 3 (by decide) cw_43 (fun _ h9 => h9) dX9_cutWord_26 (fun hv => ?_)
        rw [hmf9]
        refine lv_isub hx hb dX9_cutWord_29 ?_
        refine lv_topi (fun zi71 ezi71 => ?_)
        have hzi71 : zi71.toInt = w10_0_4.toInt - fv0_3.toInt := by rw [ezi71];  have := ia_lo w10_0_4; have := ia_hi w10_0_4; have := ia_lo fv0_3; have := ia_hi fv0_3; exact (ia_sub (by omega) (by omega)).trans (by omega)
        refine lv_bipush (v := 8) hx hb dX9_cutWord_30 (by decide) ?_
        refine lv_icmp_gt (tgt := 63) hx hb dX9_cutWord_32 (by decide) (fun hc72 => ?_) (fun hc72 => ?_)
        · have hf73 : 8 < zi71.toInt := by have z := (fa_lt _ _).mp hc72; have : ((8 : Int32).toInt) = 8 := (by decide); omega
          refine lv_aload_n hx hb dX9_cutWord_63 rfl (lv_at hl 0 rfl) ?_
          refine tw_get (ci := 9) (C := RX9) (T := TX9) (N := 5) hx hb hB cx_inX9 hown hK TH hm0 hk0 rfl ⟨by decide, rfl⟩ 4 (by decide) cw_46 (fun _ h9 => h9) dX9_cutWord_64 (fun hv => ?_)
          rw [hfm10_0]
          refine lv_aload_n hx hb dX9_cutWord_67 rfl (lv_at hl 0 rfl) ?_
          refine tw_get (ci := 9) (C := RX9) (T := TX9) (N := 5) hx hb hB cx_inX9 hown hK TH hm0 hk0 rfl ⟨by decide, rfl⟩ 1 (by decide) cw_36 (fun _ h9 => h9) dX9_cutWord_68 (fun hv => ?_)
          rw [hmf10]
          refine lv_icmp_lt (tgt := 82) hx hb dX9_cutWord_71 (by decide) (fun hc74 => ?_) (fun hc74 => ?_)
          · have hf75 : w10_0_4.toInt < fv0_1.toInt := by have z := (fa_lt _ _).mp hc74;  omega
            refine lv_aload_n hx hb dX9_cutWord_82 rfl (lv_at hl 0 rfl) ?_
            refine tw_get (ci := 9) (C := RX9) (T := TX9) (N := 5) hx hb hB cx_inX9 hown hK TH hm0 hk0 rfl ⟨by decide, rfl⟩ 0 (by decide) cw_34 (fun _ h9 => h9) dX9_cutWord_83 (fun hv => ?_)
            obtain ⟨xr76, hxr76, hmxr76, hkxr76⟩ : ∃ a : Nat, tw_fv Eg10 a0 0 = .ref a ∧ a ∈ L ∧ kp a = 100 := hv
            rw [hxr76]
            refine lv_aload_n hx hb dX9_cutWord_86 rfl (lv_at hl 0 rfl) ?_
            refine tw_get (ci := 9) (C := RX9) (T := TX9) (N := 5) hx hb hB cx_inX9 hown hK TH hm0 hk0 rfl ⟨by decide, rfl⟩ 4 (by decide) cw_46 (fun _ h9 => h9) dX9_cutWord_87 (fun hv => ?_)
            rw [hfm10_0]
            refine tw_iald (k := 100) (t0 := 0) (n := 500) (lo := 0) (hi := 255) hx hb hK TH hmxr76 hkxr76 (by decide) rfl rfl (i := w10_0_4) (vp_in_iff.mpr ⟨by  omega, by  omega⟩) dX9_cutWord_90 (fun hxe77a hxe77b => ?_)
            obtain ⟨xe77, exe77⟩ : ∃ z : Int32, tw_iv Eg10 xr76 (Int32.toNatClampNeg w10_0_4) = z := ⟨_, rfl⟩
            rw [exe77] at hxe77a hxe77b ⊢
            refine lv_bipush (v := 125) hx hb dX9_cutWord_91 (by decide) ?_
            refine lv_icmp_ne (tgt := 127) hx hb dX9_cutWord_93 (by decide) (fun hc78 => ?_) (fun hc78 => ?_)
            · have hf79 : ¬ (xe77.toInt = 125) := fun q => hc78 ((fa_eq _ _).mpr (by have : ((125 : Int32).toInt) = 125 := (by decide); omega))
              refine lv_aload_n hx hb dX9_cutWord_127 rfl (lv_at hl 0 rfl) ?_
              refine lv_bipush (v := 6) hx hb dX9_cutWord_128 (by decide) ?_
              refine tw_put (ci := 9) (v := .int 6) (ty := .int) (C := RX9) (T := TX9) (N := 5) hx hb hB cx_inX9 tyX9 tyX9_ok nmX9 hown hK TH hS hm0 hk0 rfl ⟨by decide, rfl⟩ 2 (by decide) cw_41 (fun _ h9 => h9) rfl (by decide +kernel) rfl rfl ⟨_, rfl, (show 0 ≤ Int32.toInt 6 from by have : ((6 : Int32).toInt) = 6 := (by decide); omega), (show Int32.toInt 6 ≤ 255 from by have : ((6 : Int32).toInt) = 6 := (by decide); omega)⟩ dX9_cutWord_130 (fun H locs E80 TH hS hmf84 hp81 hp82 => ?_)
              have hst83 : tw_fr kp L [(9, 2)] [] Eg10 E80 := tw_fr.put tw_fr.rf (fun _ => hk0) (by decide) hp81 hp82 (by decide)
              have hF := hF.tr hst83 (fun _ h => ⟨h, rfl⟩) (by decide) (by decide)
              have hmf85 : tw_fv E80 a0 3 = .int fv0_3 := (hst83.1 a0 3 hm0 (by rw [hk0]; decide)).trans hmf9
              have hmf86 : tw_fv E80 a0 1 = .int fv0_1 := (hst83.1 a0 1 hm0 (by rw [hk0]; decide)).trans hmf10
              have hmf87 : tw_fv E80 a0 4 = .int w10_0_4 := (hst83.1 a0 4 hm0 (by rw [hk0]; decide)).trans hfm10_0
              have hmf88 : tw_fv E80 a0 0 = .ref xr76 := (hst83.1 a0 0 hm0 (by rw [hk0]; decide)).trans hxr76
              exact tw_vret hx hb hr hlocks TH hS hex ⟨rfl, rfl, rfl, hF, ⟨(6 : Int32), fv0_3, w10_0_4, hmf84, hmf85, hmf87, by have : ((6 : Int32).toInt) = 6 := (by decide); omega⟩⟩ (Nat.le_of_ble_eq_true rfl) (Nat.le_of_ble_eq_true rfl) dX9_cutWord_133
            · have hf89 : xe77.toInt = 125 := by have z := (fa_eq _ _).mp hc78; have : ((125 : Int32).toInt) = 125 := (by decide); omega
              refine lv_aload_n hx hb dX9_cutWord_96 rfl (lv_at hl 0 rfl) ?_
              refine tw_get (ci := 9) (C := RX9) (T := TX9) (N := 5) hx hb hB cx_inX9 hown hK TH hm0 hk0 rfl ⟨by decide, rfl⟩ 4 (by decide) cw_46 (fun _ h9 => h9) dX9_cutWord_97 (fun hv => ?_)
              rw [hfm10_0]
              refine lv_aload_n hx hb dX9_cutWord_100 rfl (lv_at hl 0 rfl) ?_
              refine tw_get (ci := 9) (C := RX9) (T := TX9) (N := 5) hx hb hB cx_inX9 hown hK TH hm0 hk0 rfl ⟨by decide, rfl⟩ 3 (by decide) cw_43 (fun _ h9 => h9) dX9_cutWord_101 (fun hv => ?_)
              rw [hmf9]
              refine lv_isub hx hb dX9_cutWord_104 ?_
              refine lv_topi (fun zi90 ezi90 => ?_)
              have hzi90 : zi90.toInt = w10_0_4.toInt - fv0_3.toInt := by rw [ezi90];  have := ia_lo w10_0_4; have := ia_hi w10_0_4; have := ia_lo fv0_3; have := ia_hi fv0_3; exact (ia_sub (by omega) (by omega)).trans (by omega)
              refine lv_iconst (v := 1) hx hb dX9_cutWord_105 (by decide) ?_
              refine lv_icmp_le (tgt := 127) hx hb dX9_cutWord_106 (by decide) (fun hc91 => ?_) (fun hc91 => ?_)
              · have hf92 : zi90.toInt ≤ 1 := by have z := (fa_le _ _).mp hc91; have : ((1 : Int32).toInt) = 1 := (by decide); omega
                refine lv_aload_n hx hb dX9_cutWord_127 rfl (lv_at hl 0 rfl) ?_
                refine lv_bipush (v := 6) hx hb dX9_cutWord_128 (by decide) ?_
                refine tw_put (ci := 9) (v := .int 6) (ty := .int) (C := RX9) (T := TX9) (N := 5) hx hb hB cx_inX9 tyX9 tyX9_ok nmX9 hown hK TH hS hm0 hk0 rfl ⟨by decide, rfl⟩ 2 (by decide) cw_41 (fun _ h9 => h9) rfl (by decide +kernel) rfl rfl ⟨_, rfl, (show 0 ≤ Int32.toInt 6 from by have : ((6 : Int32).toInt) = 6 := (by decide); omega), (show Int32.toInt 6 ≤ 255 from by have : ((6 : Int32).toInt) = 6 := (by decide); omega)⟩ dX9_cutWord_130 (fun H locs E93 TH hS hmf97 hp94 hp95 => ?_)
                have hst96 : tw_fr kp L [(9, 2)] [] Eg10 E93 := tw_fr.put tw_fr.rf (fun _ => hk0) (by decide) hp94 hp95 (by decide)
                have hF := hF.tr hst96 (fun _ h => ⟨h, rfl⟩) (by decide) (by decide)
                have hmf98 : tw_fv E93 a0 3 = .int fv0_3 := (hst96.1 a0 3 hm0 (by rw [hk0]; decide)).trans hmf9
                have hmf99 : tw_fv E93 a0 1 = .int fv0_1 := (hst96.1 a0 1 hm0 (by rw [hk0]; decide)).trans hmf10
                have hmf100 : tw_fv E93 a0 4 = .int w10_0_4 := (hst96.1 a0 4 hm0 (by rw [hk0]; decide)).trans hfm10_0
                have hmf101 : tw_fv E93 a0 0 = .ref xr76 := (hst96.1 a0 0 hm0 (by rw [hk0]; decide)).trans hxr76
                exact tw_vret hx hb hr hlocks TH hS hex ⟨rfl, rfl, rfl, hF, ⟨(6 : Int32), fv0_3, w10_0_4, hmf97, hmf98, hmf100, by have : ((6 : Int32).toInt) = 6 := (by decide); omega⟩⟩ (Nat.le_of_ble_eq_true rfl) (Nat.le_of_ble_eq_true rfl) dX9_cutWord_133
              · have hf102 : ¬ (zi90.toInt ≤ 1) := fun q => hc91 ((fa_le _ _).mpr (by have : ((1 : Int32).toInt) = 1 := (by decide); omega))
                refine lv_aload_n hx hb dX9_cutWord_109 rfl (lv_at hl 0 rfl) ?_
                refine lv_iconst (v := 4) hx hb dX9_cutWord_110 (by decide) ?_
                refine tw_put (ci := 9) (v := .int 4) (ty := .int) (C := RX9) (T := TX9) (N := 5) hx hb hB cx_inX9 tyX9 tyX9_ok nmX9 hown hK TH hS hm0 hk0 rfl ⟨by decide, rfl⟩ 2 (by decide) cw_41 (fun _ h9 => h9) rfl (by decide +kernel) rfl rfl ⟨_, rfl, (show 0 ≤ Int32.toInt 4 from by have : ((4 : Int32).toInt) = 4 := (by decide); omega), (show Int32.toInt 4 ≤ 255 from by have : ((4 : Int32).toInt) = 4 := (by decide); omega)⟩ dX9_cutWord_111 (fun H locs E103 TH hS hmf107 hp104 hp105 => ?_)
                have hst106 : tw_fr kp L [(9, 2)] [] Eg10 E103 := tw_fr.put tw_fr.rf (fun _ => hk0) (by decide) hp104 hp105 (by decide)
                have hF := hF.tr hst106 (fun _ h => ⟨h, rfl⟩) (by decide) (by decide)
                have hmf108 : tw_fv E103 a0 3 = .int fv0_3 := (hst106.1 a0 3 hm0 (by rw [hk0]; decide)).trans hmf9
                have hmf109 : tw_fv E103 a0 1 = .int fv0_1 := (hst106.1 a0 1 hm0 (by rw [hk0]; decide)).trans hmf10
                have hmf110 : tw_fv E103 a0 4 = .int w10_0_4 := (hst106.1 a0 4 hm0 (by rw [hk0]; decide)).trans hfm10_0
                have hmf111 : tw_fv E103 a0 0 = .ref xr76 := (hst106.1 a0 0 hm0 (by rw [hk0]; decide)).trans hxr76
                refine lv_aload_n hx hb dX9_cutWord_114 rfl (lv_at hl 0 rfl) ?_
                refine lv_dup hx hb dX9_cutWord_115 rfl ?_
                refine tw_get (ci := 9) (C := RX9) (T := TX9) (N := 5) hx hb hB cx_inX9 hown hK TH hm0 hk0 rfl ⟨by decide, rfl⟩ 4 (by decide) cw_46 (fun _ h9 => h9) dX9_cutWord_116 (fun hv => ?_)
                rw [hmf110]
                refine lv_iconst (v := 1) hx hb dX9_cutWord_119 (by decide) ?_
                refine lv_iadd hx hb dX9_cutWord_120 ?_
                refine lv_topi (fun zi112 ezi112 => ?_)
                have hzi112 : zi112.toInt = w10_0_4.toInt + 1 := by rw [ezi112]; have : ((1 : Int32).toInt) = 1 := (by decide); have := ia_lo w10_0_4; have := ia_hi w10_0_4; exact (ia_add (by omega) (by omega)).trans (by omega)
                refine tw_put (ci := 9) (v := .int zi112) (ty := .int) (C := RX9) (T := TX9) (N := 5) hx hb hB cx_inX9 tyX9 tyX9_ok nmX9 hown hK TH hS hm0 hk0 rfl ⟨by decide, rfl⟩ 4 (by decide) cw_46 (fun _ h9 => h9) rfl (by decide +kernel) rfl rfl ⟨_, rfl, (show 0 ≤ Int32.toInt zi112 from by  omega), (show Int32.toInt zi112 ≤ 500 from by  omega)⟩ dX9_cutWord_121 (fun H locs E113 TH hS hmf117 hp114 hp115 => ?_)
                have hst116 : tw_fr kp L [(9, 4)] [] E103 E113 := tw_fr.put tw_fr.rf (fun _ => hk0) (by decide) hp114 hp115 (by decide)
                have hF := hF.tr hst116 (fun _ h => ⟨h, rfl⟩) (by decide) (by decide)
                have hmf118 : tw_fv E113 a0 3 = .int fv0_3 := (hst116.1 a0 3 hm0 (by rw [hk0]; decide)).trans hmf108
                have hmf119 : tw_fv E113 a0 1 = .int fv0_1 := (hst116.1 a0 1 hm0 (by rw [hk0]; decide)).trans hmf109
                have hmf120 : tw_fv E113 a0 0 = .ref xr76 := (hst116.1 a0 0 hm0 (by rw [hk0]; decide)).trans hmf111
                have hmf121 : tw_fv E113 a0 2 = .int 4 := (hst116.1 a0 2 hm0 (by rw [hk0]; decide)).trans hmf107
                refine lv_goto (tgt := 133) hx hb dX9_cutWord_124 (by decide) ?_
                exact tw_vret hx hb hr hlocks TH hS hex ⟨rfl, rfl, rfl, hF, ⟨(4 : Int32), fv0_3, zi112, hmf121, hmf118, hmf117, by have : ((4 : Int32).toInt) = 4 := (by decide); omega⟩⟩ (Nat.le_of_ble_eq_true rfl) (Nat.le_of_ble_eq_true rfl) dX9_cutWord_133
          · have hf122 : ¬ (w10_0_4.toInt < fv0_1.toInt) := fun q => hc74 ((fa_lt _ _).mpr (by  omega))
            refine lv_aload_n hx hb dX9_cutWord_74 rfl (lv_at hl 0 rfl) ?_
            refine lv_iconst (v := 5) hx hb dX9_cutWord_75 (by decide) ?_
            refine tw_put (ci := 9) (v := .int 5) (ty := .int) (C := RX9) (T := TX9) (N := 5) hx hb hB cx_inX9 tyX9 tyX9_ok nmX9 hown hK TH hS hm0 hk0 rfl ⟨by decide, rfl⟩ 2 (by decide) cw_41 (fun _ h9 => h9) rfl (by decide +kernel) rfl rfl ⟨_, rfl, (show 0 ≤ Int32.toInt 5 from by have : ((5 : Int32).toInt) = 5 := (by decide); omega), (show Int32.toInt 5 ≤ 255 from by have : ((5 : Int32).toInt) = 5 := (by decide); omega)⟩ dX9_cutWord_76 (fun H locs E123 TH hS hmf127 hp124 hp125 => ?_)
            have hst126 : tw_fr kp L [(9, 2)] [] Eg10 E123 := tw_fr.put tw_fr.rf (fun _ => hk0) (by decide) hp124 hp125 (by decide)
            have hF := hF.tr hst126 (fun _ h => ⟨h, rfl⟩) (by decide) (by decide)
            have hmf128 : tw_fv E123 a0 3 = .int fv0_3 := (hst126.1 a0 3 hm0 (by rw [hk0]; decide)).trans hmf9
            have hmf129 : tw_fv E123 a0 1 = .int fv0_1 := (hst126.1 a0 1 hm0 (by rw [hk0]; decide)).trans hmf10
            have hmf130 : tw_fv E123 a0 4 = .int w10_0_4 := (hst126.1 a0 4 hm0 (by rw [hk0]; decide)).trans hfm10_0
            refine lv_goto (tgt := 133) hx hb dX9_cutWord_79 (by decide) ?_
            exact tw_vret hx hb hr hlocks TH hS hex ⟨rfl, rfl, rfl, hF, ⟨(5 : Int32), fv0_3, w10_0_4, hmf127, hmf128, hmf130, by have : ((5 : Int32).toInt) = 5 := (by decide); omega⟩⟩ (Nat.le_of_ble_eq_true rfl) (Nat.le_of_ble_eq_true rfl) dX9_cutWord_133
        · have hf131 : ¬ (8 < zi71.toInt) := fun q => hc72 ((fa_lt _ _).mpr (by have : ((8 : Int32).toInt) = 8 := (by decide); omega))
          refine lv_aload_n hx hb dX9_cutWord_35 rfl (lv_at hl 0 rfl) ?_
          refine tw_get (ci := 9) (C := RX9) (T := TX9) (N := 5) hx hb hB cx_inX9 hown hK TH hm0 hk0 rfl ⟨by decide, rfl⟩ 0 (by decide) cw_34 (fun _ h9 => h9) dX9_cutWord_36 (fun hv => ?_)
          obtain ⟨xr132, hxr132, hmxr132, hkxr132⟩ : ∃ a : Nat, tw_fv Eg10 a0 0 = .ref a ∧ a ∈ L ∧ kp a = 100 := hv
          rw [hxr132]
          refine lv_aload_n hx hb dX9_cutWord_39 rfl (lv_at hl 0 rfl) ?_
          refine tw_get (ci := 9) (C := RX9) (T := TX9) (N := 5) hx hb hB cx_inX9 hown hK TH hm0 hk0 rfl ⟨by decide, rfl⟩ 4 (by decide) cw_46 (fun _ h9 => h9) dX9_cutWord_40 (fun hv => ?_)
          rw [hfm10_0]
          refine tw_iald (k := 100) (t0 := 0) (n := 500) (lo := 0) (hi := 255) hx hb hK TH hmxr132 hkxr132 (by decide) rfl rfl (i := w10_0_4) (vp_in_iff.mpr ⟨by  omega, by  omega⟩) dX9_cutWord_43 (fun hxe133a hxe133b => ?_)
          obtain ⟨xe133, exe133⟩ : ∃ z : Int32, tw_iv Eg10 xr132 (Int32.toNatClampNeg w10_0_4) = z := ⟨_, rfl⟩
          rw [exe133] at hxe133a hxe133b ⊢
          refine tw_SNc (n := 1) (post := (fun v kq Lq Eq => (∃ x : Int32, v = some (.int x) ∧ 0 ≤ x.toInt ∧ x.toInt ≤ 1) ∧ kp = kq ∧ L = Lq ∧ Eg10 = Eq)) (As := [.int xe133]) (rest := []) ⟨hx, hb, hml, hown, hB⟩ (fun sz => tX11_isWordByte l D cs xe133  sz) cw_548 cw_1 (by decide +kernel) cw_547 rfl rfl (by decide +kernel) ⟨Nat.le_of_ble_eq_true rfl, Nat.le_of_ble_eq_true rfl⟩ hK hN TH hS hA rfl hl.1 rfl (Nat.le_of_ble_eq_true rfl) dX9_cutWord_44 ⟨Nat.le_of_ble_eq_true rfl, Nat.le_of_ble_eq_true rfl⟩ (fun v134 kp134 L134 E134 H locs hq134 hx134 TH hS => ?_)
          obtain ⟨⟨xc135, rfl, hxc135a, hxc135b⟩, rfl, rfl, rfl⟩ := hq134
          refine W.eq (g2 := F0 m 47 ls [.int xc135]) rfl ?_
          refine lv_if_eq (tgt := 63) hx hb dX9_cutWord_47 (by decide) (fun hc136 => ?_) (fun hc136 => ?_)
          · have hf137 : xc135.toInt = 0 := by have z := (fa_eq _ _).mp hc136; have : ((0 : Int32).toInt) = 0 := (by decide); omega
            refine lv_aload_n hx hb dX9_cutWord_63 rfl (lv_at hl 0 rfl) ?_
            refine tw_get (ci := 9) (C := RX9) (T := TX9) (N := 5) hx hb hB cx_inX9 hown hK TH hm0 hk0 rfl ⟨by decide, rfl⟩ 4 (by decide) cw_46 (fun _ h9 => h9) dX9_cutWord_64 (fun hv => ?_)
            rw [hfm10_0]
            refine lv_aload_n hx hb dX9_cutWord_67 rfl (lv_at hl 0 rfl) ?_
            refine tw_get (ci := 9) (C := RX9) (T := TX9) (N := 5) hx hb hB cx_inX9 hown hK TH hm0 hk0 rfl ⟨by decide, rfl⟩ 1 (by decide) cw_36 (fun _ h9 => h9) dX9_cutWord_68 (fun hv => ?_)
            rw [hmf10]
            refine lv_icmp_lt (tgt := 82) hx hb dX9_cutWord_71 (by decide) (fun hc138 => ?_) (fun hc138 => ?_)
            · have hf139 : w10_0_4.toInt < fv0_1.toInt := by have z := (fa_lt _ _).mp hc138;  omega
              refine lv_aload_n hx hb dX9_cutWord_82 rfl (lv_at hl 0 rfl) ?_
              refine tw_get (ci := 9) (C := RX9) (T := TX9) (N := 5) hx hb hB cx_inX9 hown hK TH hm0 hk0 rfl ⟨by decide, rfl⟩ 0 (by decide) cw_34 (fun _ h9 => h9) dX9_cutWord_83 (fun hv => ?_)
              rw [hxr132]
              refine lv_aload_n hx hb dX9_cutWord_86 rfl (lv_at hl 0 rfl) ?_
              refine tw_get (ci := 9) (C := RX9) (T := TX9) (N := 5) hx hb hB cx_inX9 hown hK TH hm0 hk0 rfl ⟨by decide, rfl⟩ 4 (by decide) cw_46 (fun _ h9 => h9) dX9_cutWord_87 (fun hv => ?_)
              rw [hfm10_0]
              refine tw_iald (k := 100) (t0 := 0) (n := 500) (lo := 0) (hi := 255) hx hb hK TH hmxr132 hkxr132 (by decide) rfl rfl (i := w10_0_4) (vp_in_iff.mpr ⟨by  omega, by  omega⟩) dX9_cutWord_90 (fun hxe140a hxe140b => ?_)
              rw [exe133]
              refine lv_bipush (v := 125) hx hb dX9_cutWord_91 (by decide) ?_
              refine lv_icmp_ne (tgt := 127) hx hb dX9_cutWord_93 (by decide) (fun hc141 => ?_) (fun hc141 => ?_)
              · have hf142 : ¬ (xe133.toInt = 125) := fun q => hc141 ((fa_eq _ _).mpr (by have : ((125 : Int32).toInt) = 125 := (by decide); omega))
                refine lv_aload_n hx hb dX9_cutWord_127 rfl (lv_at hl 0 rfl) ?_
                refine lv_bipush (v := 6) hx hb dX9_cutWord_128 (by decide) ?_
                refine tw_put (ci := 9) (v := .int 6) (ty := .int) (C := RX9) (T := TX9) (N := 5) hx hb hB cx_inX9 tyX9 tyX9_ok nmX9 hown hK TH hS hm0 hk0 rfl ⟨by decide, rfl⟩ 2 (by decide) cw_41 (fun _ h9 => h9) rfl (by decide +kernel) rfl rfl ⟨_, rfl, (show 0 ≤ Int32.toInt 6 from by have : ((6 : Int32).toInt) = 6 := (by decide); omega), (show Int32.toInt 6 ≤ 255 from by have : ((6 : Int32).toInt) = 6 := (by decide); omega)⟩ dX9_cutWord_130 (fun H locs E143 TH hS hmf147 hp144 hp145 => ?_)
                have hst146 : tw_fr kp L [(9, 2)] [] Eg10 E143 := tw_fr.put tw_fr.rf (fun _ => hk0) (by decide) hp144 hp145 (by decide)
                have hF := hF.tr hst146 (fun _ h => ⟨h, rfl⟩) (by decide) (by decide)
                have hmf148 : tw_fv E143 a0 3 = .int fv0_3 := (hst146.1 a0 3 hm0 (by rw [hk0]; decide)).trans hmf9
                have hmf149 : tw_fv E143 a0 1 = .int fv0_1 := (hst146.1 a0 1 hm0 (by rw [hk0]; decide)).trans hmf10
                have hmf150 : tw_fv E143 a0 4 = .int w10_0_4 := (hst146.1 a0 4 hm0 (by rw [hk0]; decide)).trans hfm10_0
                have hmf151 : tw_fv E143 a0 0 = .ref xr132 := (hst146.1 a0 0 hm0 (by rw [hk0]; decide)).trans hxr132
                exact tw_vret hx hb hr hlocks TH hS hex ⟨rfl, rfl, rfl, hF, ⟨(6 : Int32), fv0_3, w10_0_4, hmf147, hmf148, hmf150, by have : ((6 : Int32).toInt) = 6 := (by decide); omega⟩⟩ (Nat.le_of_ble_eq_true rfl) (Nat.le_of_ble_eq_true rfl) dX9_cutWord_133
              · have hf152 : xe133.toInt = 125 := by have z := (fa_eq _ _).mp hc141; have : ((125 : Int32).toInt) = 125 := (by decide); omega
                refine lv_aload_n hx hb dX9_cutWord_96 rfl (lv_at hl 0 rfl) ?_
                refine tw_get (ci := 9) (C := RX9) (T := TX9) (N := 5) hx hb hB cx_inX9 hown hK TH hm0 hk0 rfl ⟨by decide, rfl⟩ 4 (by decide) cw_46 (fun _ h9 => h9) dX9_cutWord_97 (fun hv => ?_)
                rw [hfm10_0]
                refine lv_aload_n hx hb dX9_cutWord_100 rfl (lv_at hl 0 rfl) ?_
                refine tw_get (ci := 9) (C := RX9) (T := TX9) (N := 5) hx hb hB cx_inX9 hown hK TH hm0 hk0 rfl ⟨by decide, rfl⟩ 3 (by decide) cw_43 (fun _ h9 => h9) dX9_cutWord_101 (fun hv => ?_)
                rw [hmf9]
                refine lv_isub hx hb dX9_cutWord_104 ?_
                refine lv_topi (fun zi153 ezi153 => ?_)
                have hzi153 : zi153.toInt = w10_0_4.toInt - fv0_3.toInt := by rw [ezi153];  have := ia_lo w10_0_4; have := ia_hi w10_0_4; have := ia_lo fv0_3; have := ia_hi fv0_3; exact (ia_sub (by omega) (by omega)).trans (by omega)
                refine lv_iconst (v := 1) hx hb dX9_cutWord_105 (by decide) ?_
                refine lv_icmp_le (tgt := 127) hx hb dX9_cutWord_106 (by decide) (fun hc154 => ?_) (fun hc154 => ?_)
                · have hf155 : zi153.toInt ≤ 1 := by have z := (fa_le _ _).mp hc154; have : ((1 : Int32).toInt) = 1 := (by decide); omega
                  refine lv_aload_n hx hb dX9_cutWord_127 rfl (lv_at hl 0 rfl) ?_
                  refine lv_bipush (v := 6) hx hb dX9_cutWord_128 (by decide) ?_
                  refine tw_put (ci := 9) (v := .int 6) (ty := .int) (C := RX9) (T := TX9) (N := 5) hx hb hB cx_inX9 tyX9 tyX9_ok nmX9 hown hK TH hS hm0 hk0 rfl ⟨by decide, rfl⟩ 2 (by decide) cw_41 (fun _ h9 => h9) rfl (by decide +kernel) rfl rfl ⟨_, rfl, (show 0 ≤ Int32.toInt 6 from by have : ((6 : Int32).toInt) = 6 := (by decide); omega), (show Int32.toInt 6 ≤ 255 from by have : ((6 : Int32).toInt) = 6 := (by decide); omega)⟩ dX9_cutWord_130 (fun H locs E156 TH hS hmf160 hp157 hp158 => ?_)
                  have hst159 : tw_fr kp L [(9, 2)] [] Eg10 E156 := tw_fr.put tw_fr.rf (fun _ => hk0) (by decide) hp157 hp158 (by decide)
                  have hF := hF.tr hst159 (fun _ h => ⟨h, rfl⟩) (by decide) (by decide)
                  have hmf161 : tw_fv E156 a0 3 = .int fv0_3 := (hst159.1 a0 3 hm0 (by rw [hk0]; decide)).trans hmf9
                  have hmf162 : tw_fv E156 a0 1 = .int fv0_1 := (hst159.1 a0 1 hm0 (by rw [hk0]; decide)).trans hmf10
                  have hmf163 : tw_fv E156 a0 4 = .int w10_0_4 := (hst159.1 a0 4 hm0 (by rw [hk0]; decide)).trans hfm10_0
                  have hmf164 : tw_fv E156 a0 0 = .ref xr132 := (hst159.1 a0 0 hm0 (by rw [hk0]; decide)).trans hxr132
                  exact tw_vret hx hb hr hlocks TH hS hex ⟨rfl, rfl, rfl, hF, ⟨(6 : Int32), fv0_3, w10_0_4, hmf160, hmf161, hmf163, by have : ((6 : Int32).toInt) = 6 := (by decide); omega⟩⟩ (Nat.le_of_ble_eq_true rfl) (Nat.le_of_ble_eq_true rfl) dX9_cutWord_133
                · have hf165 : ¬ (zi153.toInt ≤ 1) := fun q => hc154 ((fa_le _ _).mpr (by have : ((1 : Int32).toInt) = 1 := (by decide); omega))
                  refine lv_aload_n hx hb dX9_cutWord_109 rfl (lv_at hl 0 rfl) ?_
                  refine lv_iconst (v := 4) hx hb dX9_cutWord_110 (by decide) ?_
                  refine tw_put (ci := 9) (v := .int 4) (ty := .int) (C := RX9) (T := TX9) (N := 5) hx hb hB cx_inX9 tyX9 tyX9_ok nmX9 hown hK TH hS hm0 hk0 rfl ⟨by decide, rfl⟩ 2 (by decide) cw_41 (fun _ h9 => h9) rfl (by decide +kernel) rfl rfl ⟨_, rfl, (show 0 ≤ Int32.toInt 4 from by have : ((4 : Int32).toInt) = 4 := (by decide); omega), (show Int32.toInt 4 ≤ 255 from by have : ((4 : Int32).toInt) = 4 := (by decide); omega)⟩ dX9_cutWord_111 (fun H locs E166 TH hS hmf170 hp167 hp168 => ?_)
                  have hst169 : tw_fr kp L [(9, 2)] [] Eg10 E166 := tw_fr.put tw_fr.rf (fun _ => hk0) (by decide) hp167 hp168 (by decide)
                  have hF := hF.tr hst169 (fun _ h => ⟨h, rfl⟩) (by decide) (by decide)
                  have hmf171 : tw_fv E166 a0 3 = .int fv0_3 := (hst169.1 a0 3 hm0 (by rw [hk0]; decide)).trans hmf9
                  have hmf172 : tw_fv E166 a0 1 = .int fv0_1 := (hst169.1 a0 1 hm0 (by rw [hk0]; decide)).trans hmf10
                  have hmf173 : tw_fv E166 a0 4 = .int w10_0_4 := (hst169.1 a0 4 hm0 (by rw [hk0]; decide)).trans hfm10_0
                  have hmf174 : tw_fv E166 a0 0 = .ref xr132 := (hst169.1 a0 0 hm0 (by rw [hk0]; decide)).trans hxr132
                  refine lv_aload_n hx hb dX9_cutWord_114 rfl (lv_at hl 0 rfl) ?_
                  refine lv_dup hx hb dX9_cutWord_115 rfl ?_
                  refine tw_get (ci := 9) (C := RX9) (T := TX9) (N := 5) hx hb hB cx_inX9 hown hK TH hm0 hk0 rfl ⟨by decide, rfl⟩ 4 (by decide) cw_46 (fun _ h9 => h9) dX9_cutWord_116 (fun hv => ?_)
                  rw [hmf173]
                  refine lv_iconst (v := 1) hx hb dX9_cutWord_119 (by decide) ?_
                  refine lv_iadd hx hb dX9_cutWord_120 ?_
                  refine lv_topi (fun zi175 ezi175 => ?_)
                  have hzi175 : zi175.toInt = w10_0_4.toInt + 1 := by rw [ezi175]; have : ((1 : Int32).toInt) = 1 := (by decide); have := ia_lo w10_0_4; have := ia_hi w10_0_4; exact (ia_add (by omega) (by omega)).trans (by omega)
                  refine tw_put (ci := 9) (v := .int zi175) (ty := .int) (C := RX9) (T := TX9) (N := 5) hx hb hB cx_inX9 tyX9 tyX9_ok nmX9 hown hK TH hS hm0 hk0 rfl ⟨by decide, rfl⟩ 4 (by decide) cw_46 (fun _ h9 => h9) rfl (by decide +kernel) rfl rfl ⟨_, rfl, (show 0 ≤ Int32.toInt zi175 from by  omega), (show Int32.toInt zi175 ≤ 500 from by  omega)⟩ dX9_cutWord_121 (fun H locs E176 TH hS hmf180 hp177 hp178 => ?_)
                  have hst179 : tw_fr kp L [(9, 4)] [] E166 E176 := tw_fr.put tw_fr.rf (fun _ => hk0) (by decide) hp177 hp178 (by decide)
                  have hF := hF.tr hst179 (fun _ h => ⟨h, rfl⟩) (by decide) (by decide)
                  have hmf181 : tw_fv E176 a0 3 = .int fv0_3 := (hst179.1 a0 3 hm0 (by rw [hk0]; decide)).trans hmf171
                  have hmf182 : tw_fv E176 a0 1 = .int fv0_1 := (hst179.1 a0 1 hm0 (by rw [hk0]; decide)).trans hmf172
                  have hmf183 : tw_fv E176 a0 0 = .ref xr132 := (hst179.1 a0 0 hm0 (by rw [hk0]; decide)).trans hmf174
                  have hmf184 : tw_fv E176 a0 2 = .int 4 := (hst179.1 a0 2 hm0 (by rw [hk0]; decide)).trans hmf170
                  refine lv_goto (tgt := 133) hx hb dX9_cutWord_124 (by decide) ?_
                  exact tw_vret hx hb hr hlocks TH hS hex ⟨rfl, rfl, rfl, hF, ⟨(4 : Int32), fv0_3, zi175, hmf184, hmf181, hmf180, by have : ((4 : Int32).toInt) = 4 := (by decide); omega⟩⟩ (Nat.le_of_ble_eq_true rfl) (Nat.le_of_ble_eq_true rfl) dX9_cutWord_133
            · have hf185 : ¬ (w10_0_4.toInt < fv0_1.toInt) := fun q => hc138 ((fa_lt _ _).mpr (by  omega))
              refine lv_aload_n hx hb dX9_cutWord_74 rfl (lv_at hl 0 rfl) ?_
              refine lv_iconst (v := 5) hx hb dX9_cutWord_75 (by decide) ?_
              refine tw_put (ci := 9) (v := .int 5) (ty := .int) (C := RX9) (T := TX9) (N := 5) hx hb hB cx_inX9 tyX9 tyX9_ok nmX9 hown hK TH hS hm0 hk0 rfl ⟨by decide, rfl⟩ 2 (by decide) cw_41 (fun _ h9 => h9) rfl (by decide +kernel) rfl rfl ⟨_, rfl, (show 0 ≤ Int32.toInt 5 from by have : ((5 : Int32).toInt) = 5 := (by decide); omega), (show Int32.toInt 5 ≤ 255 from by have : ((5 : Int32).toInt) = 5 := (by decide); omega)⟩ dX9_cutWord_76 (fun H locs E186 TH hS hmf190 hp187 hp188 => ?_)
              have hst189 : tw_fr kp L [(9, 2)] [] Eg10 E186 := tw_fr.put tw_fr.rf (fun _ => hk0) (by decide) hp187 hp188 (by decide)
              have hF := hF.tr hst189 (fun _ h => ⟨h, rfl⟩) (by decide) (by decide)
              have hmf191 : tw_fv E186 a0 3 = .int fv0_3 := (hst189.1 a0 3 hm0 (by rw [hk0]; decide)).trans hmf9
              have hmf192 : tw_fv E186 a0 1 = .int fv0_1 := (hst189.1 a0 1 hm0 (by rw [hk0]; decide)).trans hmf10
              have hmf193 : tw_fv E186 a0 4 = .int w10_0_4 := (hst189.1 a0 4 hm0 (by rw [hk0]; decide)).trans hfm10_0
              have hmf194 : tw_fv E186 a0 0 = .ref xr132 := (hst189.1 a0 0 hm0 (by rw [hk0]; decide)).trans hxr132
              refine lv_goto (tgt := 133) hx hb dX9_cutWord_79 (by decide) ?_
              exact tw_vret hx hb hr hlocks TH hS hex ⟨rfl, rfl, rfl, hF, ⟨(5 : Int32), fv0_3, w10_0_4, hmf190, hmf191, hmf193, by have : ((5 : Int32).toInt) = 5 := (by decide); omega⟩⟩ (Nat.le_of_ble_eq_true rfl) (Nat.le_of_ble_eq_true rfl) dX9_cutWord_133
          · have hf195 : ¬ (xc135.toInt = 0) := fun q => hc136 ((fa_eq _ _).mpr (by have : ((0 : Int32).toInt) = 0 := (by decide); omega))
            refine lv_aload_n hx hb dX9_cutWord_50 rfl (lv_at hl 0 rfl) ?_
            refine lv_dup hx hb dX9_cutWord_51 rfl ?_
            refine tw_get (ci := 9) (C := RX9) (T := TX9) (N := 5) hx hb hB cx_inX9 hown hK TH hm0 hk0 rfl ⟨by decide, rfl⟩ 4 (by decide) cw_46 (fun _ h9 => h9) dX9_cutWord_52 (fun hv => ?_)
            rw [hfm10_0]
            refine lv_iconst (v := 1) hx hb dX9_cutWord_55 (by decide) ?_
            refine lv_iadd hx hb dX9_cutWord_56 ?_
            refine lv_topi (fun zi196 ezi196 => ?_)
            have hzi196 : zi196.toInt = w10_0_4.toInt + 1 := by rw [ezi196]; have : ((1 : Int32).toInt) = 1 := (by decide); have := ia_lo w10_0_4; have := ia_hi w10_0_4; exact (ia_add (by omega) (by omega)).trans (by omega)
            refine tw_put (ci := 9) (v := .int zi196) (ty := .int) (C := RX9) (T := TX9) (N := 5) hx hb hB cx_inX9 tyX9 tyX9_ok nmX9 hown hK TH hS hm0 hk0 rfl ⟨by decide, rfl⟩ 4 (by decide) cw_46 (fun _ h9 => h9) rfl (by decide +kernel) rfl rfl ⟨_, rfl, (show 0 ≤ Int32.toInt zi196 from by  omega), (show Int32.toInt zi196 ≤ 500 from by  omega)⟩ dX9_cutWord_57 (fun H locs E197 TH hS hmf201 hp198 hp199 => ?_)
            have hst200 : tw_fr kp L [(9, 4)] [] Eg10 E197 := tw_fr.put tw_fr.rf (fun _ => hk0) (by decide) hp198 hp199 (by decide)
            have hF := hF.tr hst200 (fun _ h => ⟨h, rfl⟩) (by decide) (by decide)
            have hG10 := hG10.tr hst200 (fun _ h => ⟨h, rfl⟩) (by decide) (by decide)
            have hmf202 : tw_fv E197 a0 3 = .int fv0_3 := (hst200.1 a0 3 hm0 (by rw [hk0]; decide)).trans hmf9
            have hmf203 : tw_fv E197 a0 1 = .int fv0_1 := (hst200.1 a0 1 hm0 (by rw [hk0]; decide)).trans hmf10
            have hmf204 : tw_fv E197 a0 0 = .ref xr132 := (hst200.1 a0 0 hm0 (by rw [hk0]; decide)).trans hxr132
            refine lv_goto (tgt := 10) hx hb dX9_cutWord_60 (by decide) ?_
            exact ih10 (n10 - 1) (by   omega) zi196 _ _ _ ls (by omega) (by omega) (by  omega) (by  omega) (by   omega) hmf201 hG10 TH hS (lv_sub hl [0] rfl)
  exact hJ10 500 zi1 _ _ _ ls (by omega) (by omega) (by  omega) (by  omega) (by   omega) hmf6 tw_fr.rf TH hS (lv_sub hl [0] rfl)
set_option maxHeartbeats 4000000 in
set_option maxRecDepth 100000 in
theorem tX9_advance_vG (l : Launch) (D : va_G) (cs : Nat → ClassId) {kp : Nat → Nat} {L : List Nat} {E : Nat → va_E} (a0 : Nat) (fv0_4 : Int32) (fv0_1 : Int32) (hm0 : a0 ∈ L) (hk0 : kp a0 = 9) (hfv0_4 : tw_fv E a0 4 = .int fv0_4) (hfv0_1 : tw_fv E a0 1 = .int fv0_1) (hpre0 : fv0_4.toInt ≤ fv0_1.toInt) (sz : Nat) : Met l yX9_advance (.code yX9_advance cX9_advance 1 none :: cx_big) { frames := 6, cells := 0, slots := 0, locals := 127 } (tw_P D cs kp L E [.ref a0] sz) (tw_Q D cs kp L (fun v kq Lq Eq => v = none ∧ kp = kq ∧ L = Lq ∧ tw_fr kp L [(9, 2), (9, 3), (9, 4)] [] E Eq ∧ (lx_WS (tw_el E a0 0) fv0_1.toInt fv0_4.toInt (tw_fi Eq a0 3) ∧ tc_tk (tw_el E a0 0) fv0_1.toInt (tw_fi Eq a0 3) (tw_fi Eq a0 4) (tw_fi Eq a0 2)) ∧ (∃ z0 z1 : Int32, tw_fv Eq a0 3 = .int z0 ∧ tw_fv Eq a0 4 = .int z1 ∧ (z0.toInt ≤ z1.toInt ∧ z1.toInt ≤ fv0_1.toInt ∧ fv0_4.toInt ≤ z0.toInt))) (va_A (va_pl L E) sz)) 0 0 (va_A (va_pl L E) sz) := by
  refine tw_ofW (by decide) (Nat.le_of_ble_eq_true rfl) ?_
  intro p e s m below meth c A ls hx hb hr hml hB hown hlocks hK hN hA TH hS hl
  have hown : s.vm.findClass "TreeMerge$Text" = some m.cls := hown
  have hl : lv_has ls 1 [(0, .ref a0)] := hl
  obtain ⟨kp0, ekp⟩ : ∃ z, z = kp := ⟨_, rfl⟩
  obtain ⟨L0, eL⟩ : ∃ z, z = L := ⟨_, rfl⟩
  rw [show tw_Q D cs kp L = tw_Q D cs kp0 L0 by rw [ekp, eL]]
  have hex : ∀ a : Nat, a ∈ L0 → a ∈ L ∧ kp a = kp0 a := fun a h => ⟨by rw [← eL]; exact h, by rw [ekp]⟩
  have hF : tw_fr kp L [(9, 2), (9, 3), (9, 4)] [] E E := tw_fr.rf
  obtain ⟨qfv0_4, hqfv0_4, hqfv0_4a, hqfv0_4b⟩ := tw_rd TH hm0 hk0 (by decide) (by decide) (k := 4) rfl
  have eqfv0_4 : qfv0_4 = fv0_4 := by have q := hqfv0_4.symm.trans hfv0_4; injection q
  rw [eqfv0_4] at hqfv0_4a hqfv0_4b
  obtain ⟨qfv0_1, hqfv0_1, hqfv0_1a, hqfv0_1b⟩ := tw_rd TH hm0 hk0 (by decide) (by decide) (k := 1) rfl
  have eqfv0_1 : qfv0_1 = fv0_1 := by have q := hqfv0_1.symm.trans hfv0_1; injection q
  rw [eqfv0_1] at hqfv0_1a hqfv0_1b
  refine lv_aload_n hx hb dX9_advance_0 rfl (lv_at hl 0 rfl) ?_
  refine lv_aload_n hx hb dX9_advance_1 rfl (lv_at hl 0 rfl) ?_
  refine tw_get (ci := 9) (C := RX9) (T := TX9) (N := 5) hx hb hB cx_inX9 hown hK TH hm0 hk0 rfl ⟨by decide, rfl⟩ 4 (by decide) cw_46 (fun _ h9 => h9) dX9_advance_2 (fun hv => ?_)
  rw [hfv0_4]
  refine tw_put (ci := 9) (v := .int fv0_4) (ty := .int) (C := RX9) (T := TX9) (N := 5) hx hb hB cx_inX9 tyX9 tyX9_ok nmX9 hown hK TH hS hm0 hk0 rfl ⟨by decide, rfl⟩ 3 (by decide) cw_43 (fun _ h9 => h9) rfl (by decide +kernel) rfl rfl ⟨_, rfl, (show 0 ≤ Int32.toInt fv0_4 from by  omega), (show Int32.toInt fv0_4 ≤ 500 from by  omega)⟩ dX9_advance_5 (fun H locs E1 TH hS hmf5 hp2 hp3 => ?_)
  have hst4 : tw_fr kp L [(9, 3)] [] E E1 := tw_fr.put tw_fr.rf (fun _ => hk0) (by decide) hp2 hp3 (by decide)
  have hF := hF.tr hst4 (fun _ h => ⟨h, rfl⟩) (by decide) (by decide)
  have hmf6 : tw_fv E1 a0 4 = .int fv0_4 := (hst4.1 a0 4 hm0 (by rw [hk0]; decide)).trans hfv0_4
  have hmf7 : tw_fv E1 a0 1 = .int fv0_1 := (hst4.1 a0 1 hm0 (by rw [hk0]; decide)).trans hfv0_1
  have hJ8 : ∀ (n8 : Nat) (w8_0_3 : Int32) (Eg8 : Nat → va_E) (H : Heap) (locs : List Loc) (ls : Array Slot), 0 ≤ w8_0_3.toInt → w8_0_3.toInt ≤ 500 → (fv0_4.toInt ≤ w8_0_3.toInt) → (w8_0_3.toInt ≤ fv0_1.toInt) → (lx_al lx_sp (tw_el E a0 0) fv0_4.toInt (w8_0_3.toInt)) → 500 - w8_0_3.toInt ≤ (n8 : Int) → tw_fv Eg8 a0 3 = .int w8_0_3 → tw_fr kp L [(9, 3)] [] E1 Eg8 → tw_H D cs kp L Eg8 A H → va_S A s.heap H locs → lv_has ls 1 [(0, .ref a0)] → W p l e { frames := 6, cells := 0, slots := 0, locals := 127 } s m [.ref a0].toArray below meth c H locs 0 0 (MQ below (tw_Q D cs kp0 L0 (fun v kq Lq Eq => v = none ∧ kp = kq ∧ L = Lq ∧ tw_fr kp L [(9, 2), (9, 3), (9, 4)] [] E Eq ∧ (lx_WS (tw_el E a0 0) fv0_1.toInt fv0_4.toInt (tw_fi Eq a0 3) ∧ tc_tk (tw_el E a0 0) fv0_1.toInt (tw_fi Eq a0 3) (tw_fi Eq a0 4) (tw_fi Eq a0 2)) ∧ (∃ z0 z1 : Int32, tw_fv Eq a0 3 = .int z0 ∧ tw_fv Eq a0 4 = .int z1 ∧ (z0.toInt ≤ z1.toInt ∧ z1.toInt ≤ fv0_1.toInt ∧ fv0_4.toInt ≤ z0.toInt))) A) [.ref a0].toArray s 0 0 A) (F0 m 8 ls []) := by
    intro n8
    induction n8 using Nat.strongRecOn with
    | _ n8 ih8 =>
      intro w8_0_3 Eg8 H locs ls hw8_0_3a hw8_0_3b hin8_0 hin8_1 hin8_2 hmeas8 hfm8_0 hG8 TH hS hl
      have hF := hF.tr hG8 (fun _ h => ⟨h, rfl⟩) (by decide) (by decide)
      have hmf8 : tw_fv Eg8 a0 4 = .int fv0_4 := (hG8.1 a0 4 hm0 (by rw [hk0]; decide)).trans hmf6
      have hmf9 : tw_fv Eg8 a0 1 = .int fv0_1 := (hG8.1 a0 1 hm0 (by rw [hk0]; decide)).trans hmf7
      refine lv_aload_n hx hb dX9_advance_8 rfl (lv_at hl 0 rfl) ?_
      refine tw_get (ci := 9) (C := RX9) (T := TX9) (N := 5) hx hb hB cx_inX9 hown hK TH hm0 hk0 rfl ⟨by decide, rfl⟩ 3 (by decide) cw_43 (fun _ h9 => h9) dX9_advance_9 (fun hv => ?_)
      rw [hfm8_0]
      refine lv_aload_n hx hb dX9_advance_12 rfl (lv_at hl 0 rfl) ?_
      refine tw_get (ci := 9) (C := RX9) (T := TX9) (N := 5) hx hb hB cx_inX9 hown hK TH hm0 hk0 rfl ⟨by decide, rfl⟩ 1 (by decide) cw_36 (fun _ h9 => h9) dX9_advance_13 (fun hv => ?_)
      rw [hmf9]
      refine lv_icmp_ge (tgt := 60) hx hb dX9_advance_16 (by decide) (fun hc10 => ?_) (fun hc10 => ?_)
      · have hf11 : fv0_1.toInt ≤ w8_0_3.toInt := by have z := (fa_le _ _).mp hc10;  omega
        have hws : lx_WS (tw_el E a0 0) fv0_1.toInt fv0_4.toInt (w8_0_3.toInt) := ⟨by omega, by omega, hin8_2, (fun z => absurd z (by omega))⟩
        refine lv_aload_n hx hb dX9_advance_60 rfl (lv_at hl 0 rfl) ?_
        refine lv_aload_n hx hb dX9_advance_61 rfl (lv_at hl 0 rfl) ?_
        refine tw_get (ci := 9) (C := RX9) (T := TX9) (N := 5) hx hb hB cx_inX9 hown hK TH hm0 hk0 rfl ⟨by decide, rfl⟩ 3 (by decide) cw_43 (fun _ h9 => h9) dX9_advance_62 (fun hv => ?_)
        rw [hfm8_0]
        refine tw_put (ci := 9) (v := .int w8_0_3) (ty := .int) (C := RX9) (T := TX9) (N := 5) hx hb hB cx_inX9 tyX9 tyX9_ok nmX9 hown hK TH hS hm0 hk0 rfl ⟨by decide, rfl⟩ 4 (by decide) cw_46 (fun _ h9 => h9) rfl (by decide +kernel) rfl rfl ⟨_, rfl, (show 0 ≤ Int32.toInt w8_0_3 from by  omega), (show Int32.toInt w8_0_3 ≤ 500 from by  omega)⟩ dX9_advance_65 (fun H locs E12 TH hS hmf16 hp13 hp14 => ?_)
        have hst15 : tw_fr kp L [(9, 4)] [] Eg8 E12 := tw_fr.put tw_fr.rf (fun _ => hk0) (by decide) hp13 hp14 (by decide)
        have hF := hF.tr hst15 (fun _ h => ⟨h, rfl⟩) (by decide) (by decide)
        have hmf17 : tw_fv E12 a0 1 = .int fv0_1 := (hst15.1 a0 1 hm0 (by rw [hk0]; decide)).trans hmf9
        have hmf18 : tw_fv E12 a0 3 = .int w8_0_3 := (hst15.1 a0 3 hm0 (by rw [hk0]; decide)).trans hfm8_0
        refine lv_aload_n hx hb dX9_advance_68 rfl (lv_at hl 0 rfl) ?_
        refine tw_get (ci := 9) (C := RX9) (T := TX9) (N := 5) hx hb hB cx_inX9 hown hK TH hm0 hk0 rfl ⟨by decide, rfl⟩ 3 (by decide) cw_43 (fun _ h9 => h9) dX9_advance_69 (fun hv => ?_)
        rw [hmf18]
        refine lv_aload_n hx hb dX9_advance_72 rfl (lv_at hl 0 rfl) ?_
        refine tw_get (ci := 9) (C := RX9) (T := TX9) (N := 5) hx hb hB cx_inX9 hown hK TH hm0 hk0 rfl ⟨by decide, rfl⟩ 1 (by decide) cw_36 (fun _ h9 => h9) dX9_advance_73 (fun hv => ?_)
        rw [hmf17]
        refine lv_icmp_lt (tgt := 87) hx hb dX9_advance_76 (by decide) (fun hc19 => ?_) (fun hc19 => ?_)
        · have hf20 : w8_0_3.toInt < fv0_1.toInt := by have z := (fa_lt _ _).mp hc19;  omega
          refine lv_aload_n hx hb dX9_advance_87 rfl (lv_at hl 0 rfl) ?_
          refine tw_get (ci := 9) (C := RX9) (T := TX9) (N := 5) hx hb hB cx_inX9 hown hK TH hm0 hk0 rfl ⟨by decide, rfl⟩ 0 (by decide) cw_34 (fun _ h9 => h9) dX9_advance_88 (fun hv => ?_)
          obtain ⟨xr21, hxr21, hmxr21, hkxr21⟩ : ∃ a : Nat, tw_fv E12 a0 0 = .ref a ∧ a ∈ L ∧ kp a = 100 := hv
          rw [hxr21]
          refine lv_aload_n hx hb dX9_advance_91 rfl (lv_at hl 0 rfl) ?_
          refine tw_get (ci := 9) (C := RX9) (T := TX9) (N := 5) hx hb hB cx_inX9 hown hK TH hm0 hk0 rfl ⟨by decide, rfl⟩ 3 (by decide) cw_43 (fun _ h9 => h9) dX9_advance_92 (fun hv => ?_)
          rw [hmf18]
          refine tw_iald (k := 100) (t0 := 0) (n := 500) (lo := 0) (hi := 255) hx hb hK TH hmxr21 hkxr21 (by decide) rfl rfl (i := w8_0_3) (vp_in_iff.mpr ⟨by  omega, by  omega⟩) dX9_advance_95 (fun hxe22a hxe22b => ?_)
          obtain ⟨xe22, exe22⟩ : ∃ z : Int32, tw_iv E12 xr21 (Int32.toNatClampNeg w8_0_3) = z := ⟨_, rfl⟩
          rw [exe22] at hxe22a hxe22b ⊢
          have ftht96 := elg_fr TH hF hm0 hk0 (k := 0) (by decide) (by decide) rfl (by decide) (by decide) (by decide)
          have ht96 : tw_el E a0 0 (w8_0_3.toInt).toNat = xe22.toInt := (by rw [← ftht96]; exact (by rw [tw_el_of hxr21]; exact congrArg Int32.toInt exe22))
          refine tw_SNc (n := 1) (post := (fun v kq Lq Eq => (∃ x : Int32, v = some (.int x) ∧ 0 ≤ x.toInt ∧ x.toInt ≤ 1 ∧ (x.toInt ≠ 0 ↔ (97 ≤ xe22.toInt ∧ xe22.toInt ≤ 122))) ∧ kp = kq ∧ L = Lq ∧ E12 = Eq)) (As := [.int xe22]) (rest := []) ⟨hx, hb, hml, hown, hB⟩ (fun sz => tX11_isLetter_vG l D cs xe22  sz) cw_483 cw_1 (by decide +kernel) cw_482 rfl rfl (by decide +kernel) ⟨Nat.le_of_ble_eq_true rfl, Nat.le_of_ble_eq_true rfl⟩ hK hN TH hS hA rfl hl.1 rfl (Nat.le_of_ble_eq_true rfl) dX9_advance_96 ⟨Nat.le_of_ble_eq_true rfl, Nat.le_of_ble_eq_true rfl⟩ (fun v23 kp23 L23 E23 H locs hq23 hx23 TH hS => ?_)
          obtain ⟨⟨xc24, rfl, hxc24a, hxc24b, hpoxc24_0⟩, rfl, rfl, rfl⟩ := hq23
          refine W.eq (g2 := F0 m 99 ls [.int xc24]) rfl ?_
          refine lv_if_eq (tgt := 109) hx hb dX9_advance_99 (by decide) (fun hc25 => ?_) (fun hc25 => ?_)
          · have hf26 : xc24.toInt = 0 := by have z := (fa_eq _ _).mp hc25; have : ((0 : Int32).toInt) = 0 := (by decide); omega
            refine lv_aload_n hx hb dX9_advance_109 rfl (lv_at hl 0 rfl) ?_
            refine tw_get (ci := 9) (C := RX9) (T := TX9) (N := 5) hx hb hB cx_inX9 hown hK TH hm0 hk0 rfl ⟨by decide, rfl⟩ 0 (by decide) cw_34 (fun _ h9 => h9) dX9_advance_110 (fun hv => ?_)
            rw [hxr21]
            refine lv_aload_n hx hb dX9_advance_113 rfl (lv_at hl 0 rfl) ?_
            refine tw_get (ci := 9) (C := RX9) (T := TX9) (N := 5) hx hb hB cx_inX9 hown hK TH hm0 hk0 rfl ⟨by decide, rfl⟩ 3 (by decide) cw_43 (fun _ h9 => h9) dX9_advance_114 (fun hv => ?_)
            rw [hmf18]
            refine tw_iald (k := 100) (t0 := 0) (n := 500) (lo := 0) (hi := 255) hx hb hK TH hmxr21 hkxr21 (by decide) rfl rfl (i := w8_0_3) (vp_in_iff.mpr ⟨by  omega, by  omega⟩) dX9_advance_117 (fun hxe27a hxe27b => ?_)
            rw [exe22]
            refine lv_bipush (v := 123) hx hb dX9_advance_118 (by decide) ?_
            refine lv_icmp_ne (tgt := 130) hx hb dX9_advance_120 (by decide) (fun hc28 => ?_) (fun hc28 => ?_)
            · have hf29 : ¬ (xe22.toInt = 123) := fun q => hc28 ((fa_eq _ _).mpr (by have : ((123 : Int32).toInt) = 123 := (by decide); omega))
              refine lv_aload_n hx hb dX9_advance_130 rfl (lv_at hl 0 rfl) ?_
              refine lv_aload_n hx hb dX9_advance_131 rfl (lv_at hl 0 rfl) ?_
              refine tw_get (ci := 9) (C := RX9) (T := TX9) (N := 5) hx hb hB cx_inX9 hown hK TH hm0 hk0 rfl ⟨by decide, rfl⟩ 0 (by decide) cw_34 (fun _ h9 => h9) dX9_advance_132 (fun hv => ?_)
              rw [hxr21]
              refine lv_aload_n hx hb dX9_advance_135 rfl (lv_at hl 0 rfl) ?_
              refine tw_get (ci := 9) (C := RX9) (T := TX9) (N := 5) hx hb hB cx_inX9 hown hK TH hm0 hk0 rfl ⟨by decide, rfl⟩ 3 (by decide) cw_43 (fun _ h9 => h9) dX9_advance_136 (fun hv => ?_)
              rw [hmf18]
              refine tw_iald (k := 100) (t0 := 0) (n := 500) (lo := 0) (hi := 255) hx hb hK TH hmxr21 hkxr21 (by decide) rfl rfl (i := w8_0_3) (vp_in_iff.mpr ⟨by  omega, by  omega⟩) dX9_advance_139 (fun hxe30a hxe30b => ?_)
              rw [exe22]
              refine tw_Sc (n := 1) (post := (fun v kq Lq Eq => (∃ x : Int32, v = some (.int x) ∧ 0 ≤ x.toInt ∧ x.toInt ≤ 1 ∧ (x.toInt ≠ 0 ↔ (xe22.toInt = 61 ∨ xe22.toInt = 59 ∨ xe22.toInt = 42 ∨ xe22.toInt = 63 ∨ xe22.toInt = 40 ∨ xe22.toInt = 41))) ∧ kp = kq ∧ L = Lq ∧ E12 = Eq)) (As := [.int xe22]) (rest := [.ref a0]) ⟨hx, hb, hml, hown, hB⟩ (fun sz => tX9_isSign_vG l D cs xe22  sz) cg_9_38_X9_isSign rfl rfl (by decide +kernel) ⟨Nat.le_of_ble_eq_true rfl, Nat.le_of_ble_eq_true rfl⟩ hK hN TH hS hA rfl hl.1 rfl (Nat.le_of_ble_eq_true rfl) dX9_advance_140 ⟨Nat.le_of_ble_eq_true rfl, Nat.le_of_ble_eq_true rfl⟩ (fun v31 kp31 L31 E31 H locs hq31 hx31 TH hS => ?_)
              obtain ⟨⟨xc32, rfl, hxc32a, hxc32b, hpoxc32_0⟩, rfl, rfl, rfl⟩ := hq31
              refine W.eq (g2 := F0 m 143 ls [.int xc32, .ref a0]) rfl ?_
              refine lv_if_eq (tgt := 158) hx hb dX9_advance_143 (by decide) (fun hc33 => ?_) (fun hc33 => ?_)
              · have hf34 : xc32.toInt = 0 := by have z := (fa_eq _ _).mp hc33; have : ((0 : Int32).toInt) = 0 := (by decide); omega
                refine lv_bipush (v := 6) hx hb dX9_advance_158 (by decide) ?_
                refine tw_put (ci := 9) (v := .int 6) (ty := .int) (C := RX9) (T := TX9) (N := 5) hx hb hB cx_inX9 tyX9 tyX9_ok nmX9 hown hK TH hS hm0 hk0 rfl ⟨by decide, rfl⟩ 2 (by decide) cw_41 (fun _ h9 => h9) rfl (by decide +kernel) rfl rfl ⟨_, rfl, (show 0 ≤ Int32.toInt 6 from by have : ((6 : Int32).toInt) = 6 := (by decide); omega), (show Int32.toInt 6 ≤ 255 from by have : ((6 : Int32).toInt) = 6 := (by decide); omega)⟩ dX9_advance_160 (fun H locs E35 TH hS hmf39 hp36 hp37 => ?_)
                have hst38 : tw_fr kp L [(9, 2)] [] E12 E35 := tw_fr.put tw_fr.rf (fun _ => hk0) (by decide) hp36 hp37 (by decide)
                have hF := hF.tr hst38 (fun _ h => ⟨h, rfl⟩) (by decide) (by decide)
                have hmf40 : tw_fv E35 a0 1 = .int fv0_1 := (hst38.1 a0 1 hm0 (by rw [hk0]; decide)).trans hmf17
                have hmf41 : tw_fv E35 a0 3 = .int w8_0_3 := (hst38.1 a0 3 hm0 (by rw [hk0]; decide)).trans hmf18
                have hmf42 : tw_fv E35 a0 4 = .int w8_0_3 := (hst38.1 a0 4 hm0 (by rw [hk0]; decide)).trans hmf16
                have hmf43 : tw_fv E35 a0 0 = .ref xr21 := (hst38.1 a0 0 hm0 (by rw [hk0]; decide)).trans hxr21
                refine lv_aload_n hx hb dX9_advance_163 rfl (lv_at hl 0 rfl) ?_
                refine lv_aload_n hx hb dX9_advance_164 rfl (lv_at hl 0 rfl) ?_
                refine tw_get (ci := 9) (C := RX9) (T := TX9) (N := 5) hx hb hB cx_inX9 hown hK TH hm0 hk0 rfl ⟨by decide, rfl⟩ 3 (by decide) cw_43 (fun _ h9 => h9) dX9_advance_165 (fun hv => ?_)
                rw [hmf41]
                refine lv_iconst (v := 1) hx hb dX9_advance_168 (by decide) ?_
                refine lv_iadd hx hb dX9_advance_169 ?_
                refine lv_topi (fun zi44 ezi44 => ?_)
                have hzi44 : zi44.toInt = w8_0_3.toInt + 1 := by rw [ezi44]; have : ((1 : Int32).toInt) = 1 := (by decide); have := ia_lo w8_0_3; have := ia_hi w8_0_3; exact (ia_add (by omega) (by omega)).trans (by omega)
                refine tw_put (ci := 9) (v := .int zi44) (ty := .int) (C := RX9) (T := TX9) (N := 5) hx hb hB cx_inX9 tyX9 tyX9_ok nmX9 hown hK TH hS hm0 hk0 rfl ⟨by decide, rfl⟩ 4 (by decide) cw_46 (fun _ h9 => h9) rfl (by decide +kernel) rfl rfl ⟨_, rfl, (show 0 ≤ Int32.toInt zi44 from by  omega), (show Int32.toInt zi44 ≤ 500 from by  omega)⟩ dX9_advance_170 (fun H locs E45 TH hS hmf49 hp46 hp47 => ?_)
                have hst48 : tw_fr kp L [(9, 4)] [] E35 E45 := tw_fr.put tw_fr.rf (fun _ => hk0) (by decide) hp46 hp47 (by decide)
                have hF := hF.tr hst48 (fun _ h => ⟨h, rfl⟩) (by decide) (by decide)
                have hmf50 : tw_fv E45 a0 1 = .int fv0_1 := (hst48.1 a0 1 hm0 (by rw [hk0]; decide)).trans hmf40
                have hmf51 : tw_fv E45 a0 3 = .int w8_0_3 := (hst48.1 a0 3 hm0 (by rw [hk0]; decide)).trans hmf41
                have hmf52 : tw_fv E45 a0 0 = .ref xr21 := (hst48.1 a0 0 hm0 (by rw [hk0]; decide)).trans hmf43
                have hmf53 : tw_fv E45 a0 2 = .int 6 := (hst48.1 a0 2 hm0 (by rw [hk0]; decide)).trans hmf39
                exact tw_vret hx hb hr hlocks TH hS hex ⟨rfl, rfl, rfl, hF, (by have : ((6 : Int32).toInt) = 6 := (by decide); rw [tw_fi_of hmf51, tw_fi_of hmf49, tw_fi_of hmf53]; refine ⟨(by have w := hws; rw [show (w8_0_3.toInt : Int) = w8_0_3.toInt by omega] at w; exact w), ?_⟩; exact Or.inr (Or.inr ⟨by omega, (fun y => (by rw [show (w8_0_3.toInt).toNat = (w8_0_3.toInt).toNat by omega, ht96] at y; unfold lx_le at y; have w := hpoxc24_0.2 y; omega)), by omega, by omega, Or.inr ⟨(fun y => (by rw [show (w8_0_3.toInt).toNat = (w8_0_3.toInt).toNat by omega, ht96] at y; unfold tc_sg at y; have w := hpoxc32_0.2 y; omega)), by decide, by decide⟩⟩)), ⟨w8_0_3, zi44, hmf51, hmf49, by have : ((6 : Int32).toInt) = 6 := (by decide); omega⟩⟩ (Nat.le_of_ble_eq_true rfl) (Nat.le_of_ble_eq_true rfl) dX9_advance_173
              · have hf54 : ¬ (xc32.toInt = 0) := fun q => hc33 ((fa_eq _ _).mpr (by have : ((0 : Int32).toInt) = 0 := (by decide); omega))
                refine lv_aload_n hx hb dX9_advance_146 rfl (lv_at hl 0 rfl) ?_
                refine tw_get (ci := 9) (C := RX9) (T := TX9) (N := 5) hx hb hB cx_inX9 hown hK TH hm0 hk0 rfl ⟨by decide, rfl⟩ 0 (by decide) cw_34 (fun _ h9 => h9) dX9_advance_147 (fun hv => ?_)
                rw [hxr21]
                refine lv_aload_n hx hb dX9_advance_150 rfl (lv_at hl 0 rfl) ?_
                refine tw_get (ci := 9) (C := RX9) (T := TX9) (N := 5) hx hb hB cx_inX9 hown hK TH hm0 hk0 rfl ⟨by decide, rfl⟩ 3 (by decide) cw_43 (fun _ h9 => h9) dX9_advance_151 (fun hv => ?_)
                rw [hmf18]
                refine tw_iald (k := 100) (t0 := 0) (n := 500) (lo := 0) (hi := 255) hx hb hK TH hmxr21 hkxr21 (by decide) rfl rfl (i := w8_0_3) (vp_in_iff.mpr ⟨by  omega, by  omega⟩) dX9_advance_154 (fun hxe55a hxe55b => ?_)
                rw [exe22]
                refine lv_goto (tgt := 160) hx hb dX9_advance_155 (by decide) ?_
                refine tw_put (ci := 9) (v := .int xe22) (ty := .int) (C := RX9) (T := TX9) (N := 5) hx hb hB cx_inX9 tyX9 tyX9_ok nmX9 hown hK TH hS hm0 hk0 rfl ⟨by decide, rfl⟩ 2 (by decide) cw_41 (fun _ h9 => h9) rfl (by decide +kernel) rfl rfl ⟨_, rfl, (show 0 ≤ Int32.toInt xe22 from by  omega), (show Int32.toInt xe22 ≤ 255 from by  omega)⟩ dX9_advance_160 (fun H locs E56 TH hS hmf60 hp57 hp58 => ?_)
                have hst59 : tw_fr kp L [(9, 2)] [] E12 E56 := tw_fr.put tw_fr.rf (fun _ => hk0) (by decide) hp57 hp58 (by decide)
                have hF := hF.tr hst59 (fun _ h => ⟨h, rfl⟩) (by decide) (by decide)
                have hmf61 : tw_fv E56 a0 1 = .int fv0_1 := (hst59.1 a0 1 hm0 (by rw [hk0]; decide)).trans hmf17
                have hmf62 : tw_fv E56 a0 3 = .int w8_0_3 := (hst59.1 a0 3 hm0 (by rw [hk0]; decide)).trans hmf18
                have hmf63 : tw_fv E56 a0 4 = .int w8_0_3 := (hst59.1 a0 4 hm0 (by rw [hk0]; decide)).trans hmf16
                have hmf64 : tw_fv E56 a0 0 = .ref xr21 := (hst59.1 a0 0 hm0 (by rw [hk0]; decide)).trans hxr21
                refine lv_aload_n hx hb dX9_advance_163 rfl (lv_at hl 0 rfl) ?_
                refine lv_aload_n hx hb dX9_advance_164 rfl (lv_at hl 0 rfl) ?_
                refine tw_get (ci := 9) (C := RX9) (T := TX9) (N := 5) hx hb hB cx_inX9 hown hK TH hm0 hk0 rfl ⟨by decide, rfl⟩ 3 (by decide) cw_43 (fun _ h9 => h9) dX9_advance_165 (fun hv => ?_)
                rw [hmf62]
                refine lv_iconst (v := 1) hx hb dX9_advance_168 (by decide) ?_
                refine lv_iadd hx hb dX9_advance_169 ?_
                refine lv_topi (fun zi65 ezi65 => ?_)
                have hzi65 : zi65.toInt = w8_0_3.toInt + 1 := by rw [ezi65]; have : ((1 : Int32).toInt) = 1 := (by decide); have := ia_lo w8_0_3; have := ia_hi w8_0_3; exact (ia_add (by omega) (by omega)).trans (by omega)
                refine tw_put (ci := 9) (v := .int zi65) (ty := .int) (C := RX9) (T := TX9) (N := 5) hx hb hB cx_inX9 tyX9 tyX9_ok nmX9 hown hK TH hS hm0 hk0 rfl ⟨by decide, rfl⟩ 4 (by decide) cw_46 (fun _ h9 => h9) rfl (by decide +kernel) rfl rfl ⟨_, rfl, (show 0 ≤ Int32.toInt zi65 from by  omega), (show Int32.toInt zi65 ≤ 500 from by  omega)⟩ dX9_advance_170 (fun H locs E66 TH hS hmf70 hp67 hp68 => ?_)
                have hst69 : tw_fr kp L [(9, 4)] [] E56 E66 := tw_fr.put tw_fr.rf (fun _ => hk0) (by decide) hp67 hp68 (by decide)
                have hF := hF.tr hst69 (fun _ h => ⟨h, rfl⟩) (by decide) (by decide)
                have hmf71 : tw_fv E66 a0 1 = .int fv0_1 := (hst69.1 a0 1 hm0 (by rw [hk0]; decide)).trans hmf61
                have hmf72 : tw_fv E66 a0 3 = .int w8_0_3 := (hst69.1 a0 3 hm0 (by rw [hk0]; decide)).trans hmf62
                have hmf73 : tw_fv E66 a0 0 = .ref xr21 := (hst69.1 a0 0 hm0 (by rw [hk0]; decide)).trans hmf64
                have hmf74 : tw_fv E66 a0 2 = .int xe22 := (hst69.1 a0 2 hm0 (by rw [hk0]; decide)).trans hmf60
                exact tw_vret hx hb hr hlocks TH hS hex ⟨rfl, rfl, rfl, hF, (by  rw [tw_fi_of hmf72, tw_fi_of hmf70, tw_fi_of hmf74]; refine ⟨(by have w := hws; rw [show (w8_0_3.toInt : Int) = w8_0_3.toInt by omega] at w; exact w), ?_⟩; exact Or.inr (Or.inr ⟨by omega, (fun y => (by rw [show (w8_0_3.toInt).toNat = (w8_0_3.toInt).toNat by omega, ht96] at y; unfold lx_le at y; have w := hpoxc24_0.2 y; omega)), by omega, by omega, Or.inl ⟨(by rw [show (w8_0_3.toInt).toNat = (w8_0_3.toInt).toNat by omega, ht96]; unfold tc_sg; have w := hpoxc32_0.1 (by omega); omega), (by rw [show (w8_0_3.toInt).toNat = (w8_0_3.toInt).toNat by omega, ht96]), by omega⟩⟩)), ⟨w8_0_3, zi65, hmf72, hmf70, by  omega⟩⟩ (Nat.le_of_ble_eq_true rfl) (Nat.le_of_ble_eq_true rfl) dX9_advance_173
            · have hf75 : xe22.toInt = 123 := by have z := (fa_eq _ _).mp hc28; have : ((123 : Int32).toInt) = 123 := (by decide); omega
              refine lv_aload_n hx hb dX9_advance_123 rfl (lv_at hl 0 rfl) ?_
              refine tw_Vc (o := a0) (ci := 9) (n := 0) (post := (fun v kq Lq Eq => v = none ∧ kp = kq ∧ L = Lq ∧ tw_fr kp L [(9, 2), (9, 4)] [] E12 Eq ∧ (∃ z0 z1 z2 : Int32, tw_fv Eq a0 2 = .int z0 ∧ tw_fv Eq a0 3 = .int z1 ∧ tw_fv Eq a0 4 = .int z2 ∧ (z1.toInt < z2.toInt ∧ z2.toInt ≤ fv0_1.toInt ∧ 4 ≤ z0.toInt ∧ z0.toInt ≤ 6 ∧ z1.toInt = w8_0_3.toInt)))) (As := []) (rest := []) ⟨hx, hb, hml, hown, hB⟩ (fun sz => tX9_cutWord_vG l D cs a0 w8_0_3 fv0_1 hm0 hk0 hmf18 hmf17 (by  omega) sz) cg_9_35_X9_cutWord rfl rfl (by decide +kernel) ⟨Nat.le_of_ble_eq_true rfl, Nat.le_of_ble_eq_true rfl⟩ hK hN TH hS hA rfl hm0 hk0 (by decide) rfl hl.1 rfl (Nat.le_of_ble_eq_true rfl) dX9_advance_124 ⟨Nat.le_of_ble_eq_true rfl, Nat.le_of_ble_eq_true rfl⟩ (fun v76 kp76 L76 E76 H locs hq76 hx76 TH hS => ?_)
              obtain ⟨rfl, rfl, rfl, hst76, ⟨zfxc77_0_0, zfxc77_0_1, zfxc77_0_2, hzfxc77_0_0, hzfxc77_0_1, hzfxc77_0_2, hzpxc77_0⟩⟩ := hq76
              have hF := hF.tr hst76 (fun _ h => ⟨h, rfl⟩) (by decide) (by decide)
              have hmf78 : tw_fv E76 a0 1 = .int fv0_1 := (hst76.1 a0 1 hm0 (by rw [hk0]; decide)).trans hmf17
              have hmf79 : tw_fv E76 a0 3 = .int w8_0_3 := (hst76.1 a0 3 hm0 (by rw [hk0]; decide)).trans hmf18
              have hmf80 : tw_fv E76 a0 0 = .ref xr21 := (hst76.1 a0 0 hm0 (by rw [hk0]; decide)).trans hxr21
              obtain ⟨qzfxc77_0_0, hqzfxc77_0_0, hqzfxc77_0_0a, hqzfxc77_0_0b⟩ := tw_rd TH hm0 hk0 (by decide) (by decide) (k := 2) rfl
              have eqzfxc77_0_0 : qzfxc77_0_0 = zfxc77_0_0 := by have q := hqzfxc77_0_0.symm.trans hzfxc77_0_0; injection q
              rw [eqzfxc77_0_0] at hqzfxc77_0_0a hqzfxc77_0_0b
              have hezfxc77_0_1 : zfxc77_0_1 = w8_0_3 := by have q := hzfxc77_0_1.symm.trans hmf79; injection q
              rw [hezfxc77_0_1] at hzpxc77_0
              obtain ⟨qzfxc77_0_2, hqzfxc77_0_2, hqzfxc77_0_2a, hqzfxc77_0_2b⟩ := tw_rd TH hm0 hk0 (by decide) (by decide) (k := 4) rfl
              have eqzfxc77_0_2 : qzfxc77_0_2 = zfxc77_0_2 := by have q := hqzfxc77_0_2.symm.trans hzfxc77_0_2; injection q
              rw [eqzfxc77_0_2] at hqzfxc77_0_2a hqzfxc77_0_2b
              refine W.eq (g2 := F0 m 127 ls []) rfl ?_
              refine lv_goto (tgt := 173) hx hb dX9_advance_127 (by decide) ?_
              exact tw_vret hx hb hr hlocks TH hS hex ⟨rfl, rfl, rfl, hF, (by  rw [tw_fi_of hmf79, tw_fi_of hzfxc77_0_2, tw_fi_of hzfxc77_0_0]; refine ⟨(by have w := hws; rw [show (w8_0_3.toInt : Int) = w8_0_3.toInt by omega] at w; exact w), ?_⟩; exact Or.inr (Or.inr ⟨by omega, (fun y => (by rw [show (w8_0_3.toInt).toNat = (w8_0_3.toInt).toNat by omega, ht96] at y; unfold lx_le at y; have w := hpoxc24_0.2 y; omega)), by omega, by omega, Or.inr ⟨(fun y => (by rw [show (w8_0_3.toInt).toNat = (w8_0_3.toInt).toNat by omega, ht96] at y; unfold tc_sg at y; omega)), by omega, by omega⟩⟩)), ⟨w8_0_3, zfxc77_0_2, hmf79, hzfxc77_0_2, by  omega⟩⟩ (Nat.le_of_ble_eq_true rfl) (Nat.le_of_ble_eq_true rfl) dX9_advance_173
          · have hf81 : ¬ (xc24.toInt = 0) := fun q => hc25 ((fa_eq _ _).mpr (by have : ((0 : Int32).toInt) = 0 := (by decide); omega))
            have ft102 := elg_fr TH hF hm0 hk0 (k := 0) (by decide) (by decide) rfl (by decide) (by decide) (by decide)
            have hle102 := hpoxc24_0.1 (by omega)
            refine lv_aload_n hx hb dX9_advance_102 rfl (lv_at hl 0 rfl) ?_
            refine tw_Vc (o := a0) (ci := 9) (n := 0) (post := (fun v kq Lq Eq => v = none ∧ kp = kq ∧ L = Lq ∧ tw_fr kp L [(9, 2), (9, 4)] [] E12 Eq ∧ (tc_tk (tw_el E12 a0 0) fv0_1.toInt w8_0_3.toInt (tw_fi Eq a0 4) (tw_fi Eq a0 2)) ∧ (∃ z0 z1 : Int32, tw_fv Eq a0 3 = .int z0 ∧ tw_fv Eq a0 4 = .int z1 ∧ (z0.toInt ≤ z1.toInt ∧ z0.toInt = w8_0_3.toInt ∧ z1.toInt ≤ fv0_1.toInt)))) (As := []) (rest := []) ⟨hx, hb, hml, hown, hB⟩ (fun sz => tX9_cutName_vG l D cs a0 w8_0_3 w8_0_3 fv0_1 hm0 hk0 hmf18 hmf16 hmf17 (by  omega) (by  omega) (by  rw [ft102, show (w8_0_3.toInt).toNat = (w8_0_3.toInt).toNat by omega, ht96]; exact hle102) sz) cg_9_32_X9_cutName rfl rfl (by decide +kernel) ⟨Nat.le_of_ble_eq_true rfl, Nat.le_of_ble_eq_true rfl⟩ hK hN TH hS hA rfl hm0 hk0 (by decide) rfl hl.1 rfl (Nat.le_of_ble_eq_true rfl) dX9_advance_103 ⟨Nat.le_of_ble_eq_true rfl, Nat.le_of_ble_eq_true rfl⟩ (fun v82 kp82 L82 E82 H locs hq82 hx82 TH hS => ?_)
            obtain ⟨rfl, rfl, rfl, hst82, hpoxc83_0, ⟨zfxc83_0_0, zfxc83_0_1, hzfxc83_0_0, hzfxc83_0_1, hzpxc83_0⟩⟩ := hq82
            have hF := hF.tr hst82 (fun _ h => ⟨h, rfl⟩) (by decide) (by decide)
            have hmf84 : tw_fv E82 a0 1 = .int fv0_1 := (hst82.1 a0 1 hm0 (by rw [hk0]; decide)).trans hmf17
            have hmf85 : tw_fv E82 a0 3 = .int w8_0_3 := (hst82.1 a0 3 hm0 (by rw [hk0]; decide)).trans hmf18
            have hmf86 : tw_fv E82 a0 0 = .ref xr21 := (hst82.1 a0 0 hm0 (by rw [hk0]; decide)).trans hxr21
            have hezfxc83_0_0 : zfxc83_0_0 = w8_0_3 := by have q := hzfxc83_0_0.symm.trans hmf85; injection q
            rw [hezfxc83_0_0] at hzpxc83_0
            obtain ⟨qzfxc83_0_1, hqzfxc83_0_1, hqzfxc83_0_1a, hqzfxc83_0_1b⟩ := tw_rd TH hm0 hk0 (by decide) (by decide) (k := 4) rfl
            have eqzfxc83_0_1 : qzfxc83_0_1 = zfxc83_0_1 := by have q := hqzfxc83_0_1.symm.trans hzfxc83_0_1; injection q
            rw [eqzfxc83_0_1] at hqzfxc83_0_1a hqzfxc83_0_1b
            refine W.eq (g2 := F0 m 106 ls []) rfl ?_
            refine lv_goto (tgt := 173) hx hb dX9_advance_106 (by decide) ?_
            obtain ⟨xi87, hxi87, hxi87a, hxi87b⟩ := tw_rd TH hm0 hk0 (by decide) (by decide) (k := 2) rfl
            exact tw_vret hx hb hr hlocks TH hS hex ⟨rfl, rfl, rfl, hF, (by  have hcn := hpoxc83_0; rw [ft102, tw_fi_of hzfxc83_0_1, tw_fi_of hxi87] at hcn; rw [tw_fi_of hmf85, tw_fi_of hzfxc83_0_1, tw_fi_of hxi87]; refine ⟨(by have w := hws; rw [show (w8_0_3.toInt : Int) = w8_0_3.toInt by omega] at w; exact w), ?_⟩; rw [show (w8_0_3.toInt : Int) = w8_0_3.toInt by omega]; exact hcn), ⟨w8_0_3, zfxc83_0_1, hmf85, hzfxc83_0_1, by  omega⟩⟩ (Nat.le_of_ble_eq_true rfl) (Nat.le_of_ble_eq_true rfl) dX9_advance_173
        · have hf88 : ¬ (w8_0_3.toInt < fv0_1.toInt) := fun q => hc19 ((fa_lt _ _).mpr (by  omega))
          refine lv_aload_n hx hb dX9_advance_79 rfl (lv_at hl 0 rfl) ?_
          refine lv_iconst (v := 0) hx hb dX9_advance_80 (by decide) ?_
          refine tw_put (ci := 9) (v := .int 0) (ty := .int) (C := RX9) (T := TX9) (N := 5) hx hb hB cx_inX9 tyX9 tyX9_ok nmX9 hown hK TH hS hm0 hk0 rfl ⟨by decide, rfl⟩ 2 (by decide) cw_41 (fun _ h9 => h9) rfl (by decide +kernel) rfl rfl ⟨_, rfl, (show 0 ≤ Int32.toInt 0 from by have : ((0 : Int32).toInt) = 0 := (by decide); omega), (show Int32.toInt 0 ≤ 255 from by have : ((0 : Int32).toInt) = 0 := (by decide); omega)⟩ dX9_advance_81 (fun H locs E89 TH hS hmf93 hp90 hp91 => ?_)
          have hst92 : tw_fr kp L [(9, 2)] [] E12 E89 := tw_fr.put tw_fr.rf (fun _ => hk0) (by decide) hp90 hp91 (by decide)
          have hF := hF.tr hst92 (fun _ h => ⟨h, rfl⟩) (by decide) (by decide)
          have hmf94 : tw_fv E89 a0 1 = .int fv0_1 := (hst92.1 a0 1 hm0 (by rw [hk0]; decide)).trans hmf17
          have hmf95 : tw_fv E89 a0 3 = .int w8_0_3 := (hst92.1 a0 3 hm0 (by rw [hk0]; decide)).trans hmf18
          have hmf96 : tw_fv E89 a0 4 = .int w8_0_3 := (hst92.1 a0 4 hm0 (by rw [hk0]; decide)).trans hmf16
          refine lv_goto (tgt := 173) hx hb dX9_advance_84 (by decide) ?_
          exact tw_vret hx hb hr hlocks TH hS hex ⟨rfl, rfl, rfl, hF, (by have : ((0 : Int32).toInt) = 0 := (by decide); rw [tw_fi_of hmf95, tw_fi_of hmf96, tw_fi_of hmf93]; refine ⟨(by have w := hws; rw [show (w8_0_3.toInt : Int) = w8_0_3.toInt by omega] at w; exact w), ?_⟩; exact Or.inl ⟨by omega, by decide, by omega⟩), ⟨w8_0_3, w8_0_3, hmf95, hmf96, by have : ((0 : Int32).toInt) = 0 := (by decide); omega⟩⟩ (Nat.le_of_ble_eq_true rfl) (Nat.le_of_ble_eq_true rfl) dX9_advance_173
      · have hf97 : ¬ (fv0_1.toInt ≤ w8_0_3.toInt) := fun q => hc10 ((fa_le _ _).mpr (by  omega))
        refine lv_aload_n hx hb dX9_advance_19 rfl (lv_at hl 0 rfl) ?_
        refine tw_get (ci := 9) (C := RX9) (T := TX9) (N := 5) hx hb hB cx_inX9 hown hK TH hm0 hk0 rfl ⟨by decide, rfl⟩ 0 (by decide) cw_34 (fun _ h9 => h9) dX9_advance_20 (fun hv => ?_)
        obtain ⟨xr98, hxr98, hmxr98, hkxr98⟩ : ∃ a : Nat, tw_fv Eg8 a0 0 = .ref a ∧ a ∈ L ∧ kp a = 100 := hv
        rw [hxr98]
        refine lv_aload_n hx hb dX9_advance_23 rfl (lv_at hl 0 rfl) ?_
        refine tw_get (ci := 9) (C := RX9) (T := TX9) (N := 5) hx hb hB cx_inX9 hown hK TH hm0 hk0 rfl ⟨by decide, rfl⟩ 3 (by decide) cw_43 (fun _ h9 => h9) dX9_advance_24 (fun hv => ?_)
        rw [hfm8_0]
        refine tw_iald (k := 100) (t0 := 0) (n := 500) (lo := 0) (hi := 255) hx hb hK TH hmxr98 hkxr98 (by decide) rfl rfl (i := w8_0_3) (vp_in_iff.mpr ⟨by  omega, by  omega⟩) dX9_advance_27 (fun hxe99a hxe99b => ?_)
        obtain ⟨xe99, exe99⟩ : ∃ z : Int32, tw_iv Eg8 xr98 (Int32.toNatClampNeg w8_0_3) = z := ⟨_, rfl⟩
        rw [exe99] at hxe99a hxe99b ⊢
        have ftht28 := elg_fr TH hF hm0 hk0 (k := 0) (by decide) (by decide) rfl (by decide) (by decide) (by decide)
        have ht28 : tw_el E a0 0 (w8_0_3.toInt).toNat = xe99.toInt := (by rw [← ftht28]; exact (by rw [tw_el_of hxr98]; exact congrArg Int32.toInt exe99))
        refine lv_bipush (v := 32) hx hb dX9_advance_28 (by decide) ?_
        refine lv_icmp_eq (tgt := 47) hx hb dX9_advance_30 (by decide) (fun hc100 => ?_) (fun hc100 => ?_)
        · have hf101 : xe99.toInt = 32 := by have z := (fa_eq _ _).mp hc100; have : ((32 : Int32).toInt) = 32 := (by decide); omega
          refine lv_aload_n hx hb dX9_advance_47 rfl (lv_at hl 0 rfl) ?_
          refine lv_dup hx hb dX9_advance_48 rfl ?_
          refine tw_get (ci := 9) (C := RX9) (T := TX9) (N := 5) hx hb hB cx_inX9 hown hK TH hm0 hk0 rfl ⟨by decide, rfl⟩ 3 (by decide) cw_43 (fun _ h9 => h9) dX9_advance_49 (fun hv => ?_)
          rw [hfm8_0]
          refine lv_iconst (v := 1) hx hb dX9_advance_52 (by decide) ?_
          refine lv_iadd hx hb dX9_advance_53 ?_
          refine lv_topi (fun zi102 ezi102 => ?_)
          have hzi102 : zi102.toInt = w8_0_3.toInt + 1 := by rw [ezi102]; have : ((1 : Int32).toInt) = 1 := (by decide); have := ia_lo w8_0_3; have := ia_hi w8_0_3; exact (ia_add (by omega) (by omega)).trans (by omega)
          refine tw_put (ci := 9) (v := .int zi102) (ty := .int) (C := RX9) (T := TX9) (N := 5) hx hb hB cx_inX9 tyX9 tyX9_ok nmX9 hown hK TH hS hm0 hk0 rfl ⟨by decide, rfl⟩ 3 (by decide) cw_43 (fun _ h9 => h9) rfl (by decide +kernel) rfl rfl ⟨_, rfl, (show 0 ≤ Int32.toInt zi102 from by  omega), (show Int32.toInt zi102 ≤ 500 from by  omega)⟩ dX9_advance_54 (fun H locs E103 TH hS hmf107 hp104 hp105 => ?_)
          have hst106 : tw_fr kp L [(9, 3)] [] Eg8 E103 := tw_fr.put tw_fr.rf (fun _ => hk0) (by decide) hp104 hp105 (by decide)
          have hF := hF.tr hst106 (fun _ h => ⟨h, rfl⟩) (by decide) (by decide)
          have hG8 := hG8.tr hst106 (fun _ h => ⟨h, rfl⟩) (by decide) (by decide)
          have hmf108 : tw_fv E103 a0 4 = .int fv0_4 := (hst106.1 a0 4 hm0 (by rw [hk0]; decide)).trans hmf8
          have hmf109 : tw_fv E103 a0 1 = .int fv0_1 := (hst106.1 a0 1 hm0 (by rw [hk0]; decide)).trans hmf9
          have hmf110 : tw_fv E103 a0 0 = .ref xr98 := (hst106.1 a0 0 hm0 (by rw [hk0]; decide)).trans hxr98
          refine lv_goto (tgt := 8) hx hb dX9_advance_57 (by decide) ?_
          exact ih8 (n8 - 1) (by   omega) zi102 _ _ _ ls (by omega) (by omega) (by  omega) (by  omega) (by  exact lx_al_push hin8_2 (by omega) (by omega) (by unfold lx_sp; rw [ht28]; omega)) (by   omega) hmf107 hG8 TH hS (lv_sub hl [0] rfl)
        · have hf111 : ¬ (xe99.toInt = 32) := fun q => hc100 ((fa_eq _ _).mpr (by have : ((32 : Int32).toInt) = 32 := (by decide); omega))
          refine lv_aload_n hx hb dX9_advance_33 rfl (lv_at hl 0 rfl) ?_
          refine tw_get (ci := 9) (C := RX9) (T := TX9) (N := 5) hx hb hB cx_inX9 hown hK TH hm0 hk0 rfl ⟨by decide, rfl⟩ 0 (by decide) cw_34 (fun _ h9 => h9) dX9_advance_34 (fun hv => ?_)
          rw [hxr98]
          refine lv_aload_n hx hb dX9_advance_37 rfl (lv_at hl 0 rfl) ?_
          refine tw_get (ci := 9) (C := RX9) (T := TX9) (N := 5) hx hb hB cx_inX9 hown hK TH hm0 hk0 rfl ⟨by decide, rfl⟩ 3 (by decide) cw_43 (fun _ h9 => h9) dX9_advance_38 (fun hv => ?_)
          rw [hfm8_0]
          refine tw_iald (k := 100) (t0 := 0) (n := 500) (lo := 0) (hi := 255) hx hb hK TH hmxr98 hkxr98 (by decide) rfl rfl (i := w8_0_3) (vp_in_iff.mpr ⟨by  omega, by  omega⟩) dX9_advance_41 (fun hxe112a hxe112b => ?_)
          rw [exe99]
          refine lv_bipush (v := 10) hx hb dX9_advance_42 (by decide) ?_
          refine lv_icmp_ne (tgt := 60) hx hb dX9_advance_44 (by decide) (fun hc113 => ?_) (fun hc113 => ?_)
          · have hf114 : ¬ (xe99.toInt = 10) := fun q => hc113 ((fa_eq _ _).mpr (by have : ((10 : Int32).toInt) = 10 := (by decide); omega))
            have hws : lx_WS (tw_el E a0 0) fv0_1.toInt fv0_4.toInt (w8_0_3.toInt) := ⟨by omega, by omega, hin8_2, (fun z => (by unfold lx_sp; rw [ht28]; omega))⟩
            refine lv_aload_n hx hb dX9_advance_60 rfl (lv_at hl 0 rfl) ?_
            refine lv_aload_n hx hb dX9_advance_61 rfl (lv_at hl 0 rfl) ?_
            refine tw_get (ci := 9) (C := RX9) (T := TX9) (N := 5) hx hb hB cx_inX9 hown hK TH hm0 hk0 rfl ⟨by decide, rfl⟩ 3 (by decide) cw_43 (fun _ h9 => h9) dX9_advance_62 (fun hv => ?_)
            rw [hfm8_0]
            refine tw_put (ci := 9) (v := .int w8_0_3) (ty := .int) (C := RX9) (T := TX9) (N := 5) hx hb hB cx_inX9 tyX9 tyX9_ok nmX9 hown hK TH hS hm0 hk0 rfl ⟨by decide, rfl⟩ 4 (by decide) cw_46 (fun _ h9 => h9) rfl (by decide +kernel) rfl rfl ⟨_, rfl, (show 0 ≤ Int32.toInt w8_0_3 from by  omega), (show Int32.toInt w8_0_3 ≤ 500 from by  omega)⟩ dX9_advance_65 (fun H locs E115 TH hS hmf119 hp116 hp117 => ?_)
            have hst118 : tw_fr kp L [(9, 4)] [] Eg8 E115 := tw_fr.put tw_fr.rf (fun _ => hk0) (by decide) hp116 hp117 (by decide)
            have hF := hF.tr hst118 (fun _ h => ⟨h, rfl⟩) (by decide) (by decide)
            have hmf120 : tw_fv E115 a0 1 = .int fv0_1 := (hst118.1 a0 1 hm0 (by rw [hk0]; decide)).trans hmf9
            have hmf121 : tw_fv E115 a0 3 = .int w8_0_3 := (hst118.1 a0 3 hm0 (by rw [hk0]; decide)).trans hfm8_0
            have hmf122 : tw_fv E115 a0 0 = .ref xr98 := (hst118.1 a0 0 hm0 (by rw [hk0]; decide)).trans hxr98
            refine lv_aload_n hx hb dX9_advance_68 rfl (lv_at hl 0 rfl) ?_
            refine tw_get (ci := 9) (C := RX9) (T := TX9) (N := 5) hx hb hB cx_inX9 hown hK TH hm0 hk0 rfl ⟨by decide, rfl⟩ 3 (by decide) cw_43 (fun _ h9 => h9) dX9_advance_69 (fun hv => ?_)
            rw [hmf121]
            refine lv_aload_n hx hb dX9_advance_72 rfl (lv_at hl 0 rfl) ?_
            refine tw_get (ci := 9) (C := RX9) (T := TX9) (N := 5) hx hb hB cx_inX9 hown hK TH hm0 hk0 rfl ⟨by decide, rfl⟩ 1 (by decide) cw_36 (fun _ h9 => h9) dX9_advance_73 (fun hv => ?_)
            rw [hmf120]
            refine lv_icmp_lt (tgt := 87) hx hb dX9_advance_76 (by decide) (fun hc123 => ?_) (fun hc123 => ?_)
            · have hf124 : w8_0_3.toInt < fv0_1.toInt := by have z := (fa_lt _ _).mp hc123;  omega
              refine lv_aload_n hx hb dX9_advance_87 rfl (lv_at hl 0 rfl) ?_
              refine tw_get (ci := 9) (C := RX9) (T := TX9) (N := 5) hx hb hB cx_inX9 hown hK TH hm0 hk0 rfl ⟨by decide, rfl⟩ 0 (by decide) cw_34 (fun _ h9 => h9) dX9_advance_88 (fun hv => ?_)
              rw [hmf122]
              refine lv_aload_n hx hb dX9_advance_91 rfl (lv_at hl 0 rfl) ?_
              refine tw_get (ci := 9) (C := RX9) (T := TX9) (N := 5) hx hb hB cx_inX9 hown hK TH hm0 hk0 rfl ⟨by decide, rfl⟩ 3 (by decide) cw_43 (fun _ h9 => h9) dX9_advance_92 (fun hv => ?_)
              rw [hmf121]
              refine tw_iald (k := 100) (t0 := 0) (n := 500) (lo := 0) (hi := 255) hx hb hK TH hmxr98 hkxr98 (by decide) rfl rfl (i := w8_0_3) (vp_in_iff.mpr ⟨by  omega, by  omega⟩) dX9_advance_95 (fun hxe125a hxe125b => ?_)
              obtain ⟨xe125, exe125⟩ : ∃ z : Int32, tw_iv E115 xr98 (Int32.toNatClampNeg w8_0_3) = z := ⟨_, rfl⟩
              rw [exe125] at hxe125a hxe125b ⊢
              have ftht96 := elg_fr TH hF hm0 hk0 (k := 0) (by decide) (by decide) rfl (by decide) (by decide) (by decide)
              have ht96 : tw_el E a0 0 (w8_0_3.toInt).toNat = xe125.toInt := (by rw [← ftht96]; exact (by rw [tw_el_of hmf122]; exact congrArg Int32.toInt exe125))
              refine tw_SNc (n := 1) (post := (fun v kq Lq Eq => (∃ x : Int32, v = some (.int x) ∧ 0 ≤ x.toInt ∧ x.toInt ≤ 1 ∧ (x.toInt ≠ 0 ↔ (97 ≤ xe125.toInt ∧ xe125.toInt ≤ 122))) ∧ kp = kq ∧ L = Lq ∧ E115 = Eq)) (As := [.int xe125]) (rest := []) ⟨hx, hb, hml, hown, hB⟩ (fun sz => tX11_isLetter_vG l D cs xe125  sz) cw_483 cw_1 (by decide +kernel) cw_482 rfl rfl (by decide +kernel) ⟨Nat.le_of_ble_eq_true rfl, Nat.le_of_ble_eq_true rfl⟩ hK hN TH hS hA rfl hl.1 rfl (Nat.le_of_ble_eq_true rfl) dX9_advance_96 ⟨Nat.le_of_ble_eq_true rfl, Nat.le_of_ble_eq_true rfl⟩ (fun v126 kp126 L126 E126 H locs hq126 hx126 TH hS => ?_)
              obtain ⟨⟨xc127, rfl, hxc127a, hxc127b, hpoxc127_0⟩, rfl, rfl, rfl⟩ := hq126
              refine W.eq (g2 := F0 m 99 ls [.int xc127]) rfl ?_
              refine lv_if_eq (tgt := 109) hx hb dX9_advance_99 (by decide) (fun hc128 => ?_) (fun hc128 => ?_)
              · have hf129 : xc127.toInt = 0 := by have z := (fa_eq _ _).mp hc128; have : ((0 : Int32).toInt) = 0 := (by decide); omega
                refine lv_aload_n hx hb dX9_advance_109 rfl (lv_at hl 0 rfl) ?_
                refine tw_get (ci := 9) (C := RX9) (T := TX9) (N := 5) hx hb hB cx_inX9 hown hK TH hm0 hk0 rfl ⟨by decide, rfl⟩ 0 (by decide) cw_34 (fun _ h9 => h9) dX9_advance_110 (fun hv => ?_)
                rw [hmf122]
                refine lv_aload_n hx hb dX9_advance_113 rfl (lv_at hl 0 rfl) ?_
                refine tw_get (ci := 9) (C := RX9) (T := TX9) (N := 5) hx hb hB cx_inX9 hown hK TH hm0 hk0 rfl ⟨by decide, rfl⟩ 3 (by decide) cw_43 (fun _ h9 => h9) dX9_advance_114 (fun hv => ?_)
                rw [hmf121]
                refine tw_iald (k := 100) (t0 := 0) (n := 500) (lo := 0) (hi := 255) hx hb hK TH hmxr98 hkxr98 (by decide) rfl rfl (i := w8_0_3) (vp_in_iff.mpr ⟨by  omega, by  omega⟩) dX9_advance_117 (fun hxe130a hxe130b => ?_)
                rw [exe125]
                refine lv_bipush (v := 123) hx hb dX9_advance_118 (by decide) ?_
                refine lv_icmp_ne (tgt := 130) hx hb dX9_advance_120 (by decide) (fun hc131 => ?_) (fun hc131 => ?_)
                · have hf132 : ¬ (xe125.toInt = 123) := fun q => hc131 ((fa_eq _ _).mpr (by have : ((123 : Int32).toInt) = 123 := (by decide); omega))
                  refine lv_aload_n hx hb dX9_advance_130 rfl (lv_at hl 0 rfl) ?_
                  refine lv_aload_n hx hb dX9_advance_131 rfl (lv_at hl 0 rfl) ?_
                  refine tw_get (ci := 9) (C := RX9) (T := TX9) (N := 5) hx hb hB cx_inX9 hown hK TH hm0 hk0 rfl ⟨by decide, rfl⟩ 0 (by decide) cw_34 (fun _ h9 => h9) dX9_advance_132 (fun hv => ?_)
                  rw [hmf122]
                  refine lv_aload_n hx hb dX9_advance_135 rfl (lv_at hl 0 rfl) ?_
                  refine tw_get (ci := 9) (C := RX9) (T := TX9) (N := 5) hx hb hB cx_inX9 hown hK TH hm0 hk0 rfl ⟨by decide, rfl⟩ 3 (by decide) cw_43 (fun _ h9 => h9) dX9_advance_136 (fun hv => ?_)
                  rw [hmf121]
                  refine tw_iald (k := 100) (t0 := 0) (n := 500) (lo := 0) (hi := 255) hx hb hK TH hmxr98 hkxr98 (by decide) rfl rfl (i := w8_0_3) (vp_in_iff.mpr ⟨by  omega, by  omega⟩) dX9_advance_139 (fun hxe133a hxe133b => ?_)
                  rw [exe125]
                  refine tw_Sc (n := 1) (post := (fun v kq Lq Eq => (∃ x : Int32, v = some (.int x) ∧ 0 ≤ x.toInt ∧ x.toInt ≤ 1 ∧ (x.toInt ≠ 0 ↔ (xe125.toInt = 61 ∨ xe125.toInt = 59 ∨ xe125.toInt = 42 ∨ xe125.toInt = 63 ∨ xe125.toInt = 40 ∨ xe125.toInt = 41))) ∧ kp = kq ∧ L = Lq ∧ E115 = Eq)) (As := [.int xe125]) (rest := [.ref a0]) ⟨hx, hb, hml, hown, hB⟩ (fun sz => tX9_isSign_vG l D cs xe125  sz) cg_9_38_X9_isSign rfl rfl (by decide +kernel) ⟨Nat.le_of_ble_eq_true rfl, Nat.le_of_ble_eq_true rfl⟩ hK hN TH hS hA rfl hl.1 rfl (Nat.le_of_ble_eq_true rfl) dX9_advance_140 ⟨Nat.le_of_ble_eq_true rfl, Nat.le_of_ble_eq_true rfl⟩ (fun v134 kp134 L134 E134 H locs hq134 hx134 TH hS => ?_)
                  obtain ⟨⟨xc135, rfl, hxc135a, hxc135b, hpoxc135_0⟩, rfl, rfl, rfl⟩ := hq134
                  refine W.eq (g2 := F0 m 143 ls [.int xc135, .ref a0]) rfl ?_
                  refine lv_if_eq (tgt := 158) hx hb dX9_advance_143 (by decide) (fun hc136 => ?_) (fun hc136 => ?_)
                  · have hf137 : xc135.toInt = 0 := by have z := (fa_eq _ _).mp hc136; have : ((0 : Int32).toInt) = 0 := (by decide); omega
                    refine lv_bipush (v := 6) hx hb dX9_advance_158 (by decide) ?_
                    refine tw_put (ci := 9) (v := .int 6) (ty := .int) (C := RX9) (T := TX9) (N := 5) hx hb hB cx_inX9 tyX9 tyX9_ok nmX9 hown hK TH hS hm0 hk0 rfl ⟨by decide, rfl⟩ 2 (by decide) cw_41 (fun _ h9 => h9) rfl (by decide +kernel) rfl rfl ⟨_, rfl, (show 0 ≤ Int32.toInt 6 from by have : ((6 : Int32).toInt) = 6 := (by decide); omega), (show Int32.toInt 6 ≤ 255 from by have : ((6 : Int32).toInt) = 6 := (by decide); omega)⟩ dX9_advance_160 (fun H locs E138 TH hS hmf142 hp139 hp140 => ?_)
                    have hst141 : tw_fr kp L [(9, 2)] [] E115 E138 := tw_fr.put tw_fr.rf (fun _ => hk0) (by decide) hp139 hp140 (by decide)
                    have hF := hF.tr hst141 (fun _ h => ⟨h, rfl⟩) (by decide) (by decide)
                    have hmf143 : tw_fv E138 a0 1 = .int fv0_1 := (hst141.1 a0 1 hm0 (by rw [hk0]; decide)).trans hmf120
                    have hmf144 : tw_fv E138 a0 3 = .int w8_0_3 := (hst141.1 a0 3 hm0 (by rw [hk0]; decide)).trans hmf121
                    have hmf145 : tw_fv E138 a0 0 = .ref xr98 := (hst141.1 a0 0 hm0 (by rw [hk0]; decide)).trans hmf122
                    have hmf146 : tw_fv E138 a0 4 = .int w8_0_3 := (hst141.1 a0 4 hm0 (by rw [hk0]; decide)).trans hmf119
                    refine lv_aload_n hx hb dX9_advance_163 rfl (lv_at hl 0 rfl) ?_
                    refine lv_aload_n hx hb dX9_advance_164 rfl (lv_at hl 0 rfl) ?_
                    refine tw_get (ci := 9) (C := RX9) (T := TX9) (N := 5) hx hb hB cx_inX9 hown hK TH hm0 hk0 rfl ⟨by decide, rfl⟩ 3 (by decide) cw_43 (fun _ h9 => h9) dX9_advance_165 (fun hv => ?_)
                    rw [hmf144]
                    refine lv_iconst (v := 1) hx hb dX9_advance_168 (by decide) ?_
                    refine lv_iadd hx hb dX9_advance_169 ?_
                    refine lv_topi (fun zi147 ezi147 => ?_)
                    have hzi147 : zi147.toInt = w8_0_3.toInt + 1 := by rw [ezi147]; have : ((1 : Int32).toInt) = 1 := (by decide); have := ia_lo w8_0_3; have := ia_hi w8_0_3; exact (ia_add (by omega) (by omega)).trans (by omega)
                    refine tw_put (ci := 9) (v := .int zi147) (ty := .int) (C := RX9) (T := TX9) (N := 5) hx hb hB cx_inX9 tyX9 tyX9_ok nmX9 hown hK TH hS hm0 hk0 rfl ⟨by decide, rfl⟩ 4 (by decide) cw_46 (fun _ h9 => h9) rfl (by decide +kernel) rfl rfl ⟨_, rfl, (show 0 ≤ Int32.toInt zi147 from by  omega), (show Int32.toInt zi147 ≤ 500 from by  omega)⟩ dX9_advance_170 (fun H locs E148 TH hS hmf152 hp149 hp150 => ?_)
                    have hst151 : tw_fr kp L [(9, 4)] [] E138 E148 := tw_fr.put tw_fr.rf (fun _ => hk0) (by decide) hp149 hp150 (by decide)
                    have hF := hF.tr hst151 (fun _ h => ⟨h, rfl⟩) (by decide) (by decide)
                    have hmf153 : tw_fv E148 a0 1 = .int fv0_1 := (hst151.1 a0 1 hm0 (by rw [hk0]; decide)).trans hmf143
                    have hmf154 : tw_fv E148 a0 3 = .int w8_0_3 := (hst151.1 a0 3 hm0 (by rw [hk0]; decide)).trans hmf144
                    have hmf155 : tw_fv E148 a0 0 = .ref xr98 := (hst151.1 a0 0 hm0 (by rw [hk0]; decide)).trans hmf145
                    have hmf156 : tw_fv E148 a0 2 = .int 6 := (hst151.1 a0 2 hm0 (by rw [hk0]; decide)).trans hmf142
                    exact tw_vret hx hb hr hlocks TH hS hex ⟨rfl, rfl, rfl, hF, (by have : ((6 : Int32).toInt) = 6 := (by decide); rw [tw_fi_of hmf154, tw_fi_of hmf152, tw_fi_of hmf156]; refine ⟨(by have w := hws; rw [show (w8_0_3.toInt : Int) = w8_0_3.toInt by omega] at w; exact w), ?_⟩; exact Or.inr (Or.inr ⟨by omega, (fun y => (by rw [show (w8_0_3.toInt).toNat = (w8_0_3.toInt).toNat by omega, ht96] at y; unfold lx_le at y; have w := hpoxc127_0.2 y; omega)), by omega, by omega, Or.inr ⟨(fun y => (by rw [show (w8_0_3.toInt).toNat = (w8_0_3.toInt).toNat by omega, ht96] at y; unfold tc_sg at y; have w := hpoxc135_0.2 y; omega)), by decide, by decide⟩⟩)), ⟨w8_0_3, zi147, hmf154, hmf152, by have : ((6 : Int32).toInt) = 6 := (by decide); omega⟩⟩ (Nat.le_of_ble_eq_true rfl) (Nat.le_of_ble_eq_true rfl) dX9_advance_173
                  · have hf157 : ¬ (xc135.toInt = 0) := fun q => hc136 ((fa_eq _ _).mpr (by have : ((0 : Int32).toInt) = 0 := (by decide); omega))
                    refine lv_aload_n hx hb dX9_advance_146 rfl (lv_at hl 0 rfl) ?_
                    refine tw_get (ci := 9) (C := RX9) (T := TX9) (N := 5) hx hb hB cx_inX9 hown hK TH hm0 hk0 rfl ⟨by decide, rfl⟩ 0 (by decide) cw_34 (fun _ h9 => h9) dX9_advance_147 (fun hv => ?_)
                    rw [hmf122]
                    refine lv_aload_n hx hb dX9_advance_150 rfl (lv_at hl 0 rfl) ?_
                    refine tw_get (ci := 9) (C := RX9) (T := TX9) (N := 5) hx hb hB cx_inX9 hown hK TH hm0 hk0 rfl ⟨by decide, rfl⟩ 3 (by decide) cw_43 (fun _ h9 => h9) dX9_advance_151 (fun hv => ?_)
                    rw [hmf121]
                    refine tw_iald (k := 100) (t0 := 0) (n := 500) (lo := 0) (hi := 255) hx hb hK TH hmxr98 hkxr98 (by decide) rfl rfl (i := w8_0_3) (vp_in_iff.mpr ⟨by  omega, by  omega⟩) dX9_advance_154 (fun hxe158a hxe158b => ?_)
                    rw [exe125]
                    refine lv_goto (tgt := 160) hx hb dX9_advance_155 (by decide) ?_
                    refine tw_put (ci := 9) (v := .int xe125) (ty := .int) (C := RX9) (T := TX9) (N := 5) hx hb hB cx_inX9 tyX9 tyX9_ok nmX9 hown hK TH hS hm0 hk0 rfl ⟨by decide, rfl⟩ 2 (by decide) cw_41 (fun _ h9 => h9) rfl (by decide +kernel) rfl rfl ⟨_, rfl, (show 0 ≤ Int32.toInt xe125 from by  omega), (show Int32.toInt xe125 ≤ 255 from by  omega)⟩ dX9_advance_160 (fun H locs E159 TH hS hmf163 hp160 hp161 => ?_)
                    have hst162 : tw_fr kp L [(9, 2)] [] E115 E159 := tw_fr.put tw_fr.rf (fun _ => hk0) (by decide) hp160 hp161 (by decide)
                    have hF := hF.tr hst162 (fun _ h => ⟨h, rfl⟩) (by decide) (by decide)
                    have hmf164 : tw_fv E159 a0 1 = .int fv0_1 := (hst162.1 a0 1 hm0 (by rw [hk0]; decide)).trans hmf120
                    have hmf165 : tw_fv E159 a0 3 = .int w8_0_3 := (hst162.1 a0 3 hm0 (by rw [hk0]; decide)).trans hmf121
                    have hmf166 : tw_fv E159 a0 0 = .ref xr98 := (hst162.1 a0 0 hm0 (by rw [hk0]; decide)).trans hmf122
                    have hmf167 : tw_fv E159 a0 4 = .int w8_0_3 := (hst162.1 a0 4 hm0 (by rw [hk0]; decide)).trans hmf119
                    refine lv_aload_n hx hb dX9_advance_163 rfl (lv_at hl 0 rfl) ?_
                    refine lv_aload_n hx hb dX9_advance_164 rfl (lv_at hl 0 rfl) ?_
                    refine tw_get (ci := 9) (C := RX9) (T := TX9) (N := 5) hx hb hB cx_inX9 hown hK TH hm0 hk0 rfl ⟨by decide, rfl⟩ 3 (by decide) cw_43 (fun _ h9 => h9) dX9_advance_165 (fun hv => ?_)
                    rw [hmf165]
                    refine lv_iconst (v := 1) hx hb dX9_advance_168 (by decide) ?_
                    refine lv_iadd hx hb dX9_advance_169 ?_
                    refine lv_topi (fun zi168 ezi168 => ?_)
                    have hzi168 : zi168.toInt = w8_0_3.toInt + 1 := by rw [ezi168]; have : ((1 : Int32).toInt) = 1 := (by decide); have := ia_lo w8_0_3; have := ia_hi w8_0_3; exact (ia_add (by omega) (by omega)).trans (by omega)
                    refine tw_put (ci := 9) (v := .int zi168) (ty := .int) (C := RX9) (T := TX9) (N := 5) hx hb hB cx_inX9 tyX9 tyX9_ok nmX9 hown hK TH hS hm0 hk0 rfl ⟨by decide, rfl⟩ 4 (by decide) cw_46 (fun _ h9 => h9) rfl (by decide +kernel) rfl rfl ⟨_, rfl, (show 0 ≤ Int32.toInt zi168 from by  omega), (show Int32.toInt zi168 ≤ 500 from by  omega)⟩ dX9_advance_170 (fun H locs E169 TH hS hmf173 hp170 hp171 => ?_)
                    have hst172 : tw_fr kp L [(9, 4)] [] E159 E169 := tw_fr.put tw_fr.rf (fun _ => hk0) (by decide) hp170 hp171 (by decide)
                    have hF := hF.tr hst172 (fun _ h => ⟨h, rfl⟩) (by decide) (by decide)
                    have hmf174 : tw_fv E169 a0 1 = .int fv0_1 := (hst172.1 a0 1 hm0 (by rw [hk0]; decide)).trans hmf164
                    have hmf175 : tw_fv E169 a0 3 = .int w8_0_3 := (hst172.1 a0 3 hm0 (by rw [hk0]; decide)).trans hmf165
                    have hmf176 : tw_fv E169 a0 0 = .ref xr98 := (hst172.1 a0 0 hm0 (by rw [hk0]; decide)).trans hmf166
                    have hmf177 : tw_fv E169 a0 2 = .int xe125 := (hst172.1 a0 2 hm0 (by rw [hk0]; decide)).trans hmf163
                    exact tw_vret hx hb hr hlocks TH hS hex ⟨rfl, rfl, rfl, hF, (by  rw [tw_fi_of hmf175, tw_fi_of hmf173, tw_fi_of hmf177]; refine ⟨(by have w := hws; rw [show (w8_0_3.toInt : Int) = w8_0_3.toInt by omega] at w; exact w), ?_⟩; exact Or.inr (Or.inr ⟨by omega, (fun y => (by rw [show (w8_0_3.toInt).toNat = (w8_0_3.toInt).toNat by omega, ht96] at y; unfold lx_le at y; have w := hpoxc127_0.2 y; omega)), by omega, by omega, Or.inl ⟨(by rw [show (w8_0_3.toInt).toNat = (w8_0_3.toInt).toNat by omega, ht96]; unfold tc_sg; have w := hpoxc135_0.1 (by omega); omega), (by rw [show (w8_0_3.toInt).toNat = (w8_0_3.toInt).toNat by omega, ht96]), by omega⟩⟩)), ⟨w8_0_3, zi168, hmf175, hmf173, by  omega⟩⟩ (Nat.le_of_ble_eq_true rfl) (Nat.le_of_ble_eq_true rfl) dX9_advance_173
                · have hf178 : xe125.toInt = 123 := by have z := (fa_eq _ _).mp hc131; have : ((123 : Int32).toInt) = 123 := (by decide); omega
                  refine lv_aload_n hx hb dX9_advance_123 rfl (lv_at hl 0 rfl) ?_
                  refine tw_Vc (o := a0) (ci := 9) (n := 0) (post := (fun v kq Lq Eq => v = none ∧ kp = kq ∧ L = Lq ∧ tw_fr kp L [(9, 2), (9, 4)] [] E115 Eq ∧ (∃ z0 z1 z2 : Int32, tw_fv Eq a0 2 = .int z0 ∧ tw_fv Eq a0 3 = .int z1 ∧ tw_fv Eq a0 4 = .int z2 ∧ (z1.toInt < z2.toInt ∧ z2.toInt ≤ fv0_1.toInt ∧ 4 ≤ z0.toInt ∧ z0.toInt ≤ 6 ∧ z1.toInt = w8_0_3.toInt)))) (As := []) (rest := []) ⟨hx, hb, hml, hown, hB⟩ (fun sz => tX9_cutWord_vG l D cs a0 w8_0_3 fv0_1 hm0 hk0 hmf121 hmf120 (by  omega) sz) cg_9_35_X9_cutWord rfl rfl (by decide +kernel) ⟨Nat.le_of_ble_eq_true rfl, Nat.le_of_ble_eq_true rfl⟩ hK hN TH hS hA rfl hm0 hk0 (by decide) rfl hl.1 rfl (Nat.le_of_ble_eq_true rfl) dX9_advance_124 ⟨Nat.le_of_ble_eq_true rfl, Nat.le_of_ble_eq_true rfl⟩ (fun v179 kp179 L179 E179 H locs hq179 hx179 TH hS => ?_)
                  obtain ⟨rfl, rfl, rfl, hst179, ⟨zfxc180_0_0, zfxc180_0_1, zfxc180_0_2, hzfxc180_0_0, hzfxc180_0_1, hzfxc180_0_2, hzpxc180_0⟩⟩ := hq179
                  have hF := hF.tr hst179 (fun _ h => ⟨h, rfl⟩) (by decide) (by decide)
                  have hmf181 : tw_fv E179 a0 1 = .int fv0_1 := (hst179.1 a0 1 hm0 (by rw [hk0]; decide)).trans hmf120
                  have hmf182 : tw_fv E179 a0 3 = .int w8_0_3 := (hst179.1 a0 3 hm0 (by rw [hk0]; decide)).trans hmf121
                  have hmf183 : tw_fv E179 a0 0 = .ref xr98 := (hst179.1 a0 0 hm0 (by rw [hk0]; decide)).trans hmf122
                  obtain ⟨qzfxc180_0_0, hqzfxc180_0_0, hqzfxc180_0_0a, hqzfxc180_0_0b⟩ := tw_rd TH hm0 hk0 (by decide) (by decide) (k := 2) rfl
                  have eqzfxc180_0_0 : qzfxc180_0_0 = zfxc180_0_0 := by have q := hqzfxc180_0_0.symm.trans hzfxc180_0_0; injection q
                  rw [eqzfxc180_0_0] at hqzfxc180_0_0a hqzfxc180_0_0b
                  have hezfxc180_0_1 : zfxc180_0_1 = w8_0_3 := by have q := hzfxc180_0_1.symm.trans hmf182; injection q
                  rw [hezfxc180_0_1] at hzpxc180_0
                  obtain ⟨qzfxc180_0_2, hqzfxc180_0_2, hqzfxc180_0_2a, hqzfxc180_0_2b⟩ := tw_rd TH hm0 hk0 (by decide) (by decide) (k := 4) rfl
                  have eqzfxc180_0_2 : qzfxc180_0_2 = zfxc180_0_2 := by have q := hqzfxc180_0_2.symm.trans hzfxc180_0_2; injection q
                  rw [eqzfxc180_0_2] at hqzfxc180_0_2a hqzfxc180_0_2b
                  refine W.eq (g2 := F0 m 127 ls []) rfl ?_
                  refine lv_goto (tgt := 173) hx hb dX9_advance_127 (by decide) ?_
                  exact tw_vret hx hb hr hlocks TH hS hex ⟨rfl, rfl, rfl, hF, (by  rw [tw_fi_of hmf182, tw_fi_of hzfxc180_0_2, tw_fi_of hzfxc180_0_0]; refine ⟨(by have w := hws; rw [show (w8_0_3.toInt : Int) = w8_0_3.toInt by omega] at w; exact w), ?_⟩; exact Or.inr (Or.inr ⟨by omega, (fun y => (by rw [show (w8_0_3.toInt).toNat = (w8_0_3.toInt).toNat by omega, ht96] at y; unfold lx_le at y; have w := hpoxc127_0.2 y; omega)), by omega, by omega, Or.inr ⟨(fun y => (by rw [show (w8_0_3.toInt).toNat = (w8_0_3.toInt).toNat by omega, ht96] at y; unfold tc_sg at y; omega)), by omega, by omega⟩⟩)), ⟨w8_0_3, zfxc180_0_2, hmf182, hzfxc180_0_2, by  omega⟩⟩ (Nat.le_of_ble_eq_true rfl) (Nat.le_of_ble_eq_true rfl) dX9_advance_173
              · have hf184 : ¬ (xc127.toInt = 0) := fun q => hc128 ((fa_eq _ _).mpr (by have : ((0 : Int32).toInt) = 0 := (by decide); omega))
                have ft102 := elg_fr TH hF hm0 hk0 (k := 0) (by decide) (by decide) rfl (by decide) (by decide) (by decide)
                have hle102 := hpoxc127_0.1 (by omega)
                refine lv_aload_n hx hb dX9_advance_102 rfl (lv_at hl 0 rfl) ?_
                refine tw_Vc (o := a0) (ci := 9) (n := 0) (post := (fun v kq Lq Eq => v = none ∧ kp = kq ∧ L = Lq ∧ tw_fr kp L [(9, 2), (9, 4)] [] E115 Eq ∧ (tc_tk (tw_el E115 a0 0) fv0_1.toInt w8_0_3.toInt (tw_fi Eq a0 4) (tw_fi Eq a0 2)) ∧ (∃ z0 z1 : Int32, tw_fv Eq a0 3 = .int z0 ∧ tw_fv Eq a0 4 = .int z1 ∧ (z0.toInt ≤ z1.toInt ∧ z0.toInt = w8_0_3.toInt ∧ z1.toInt ≤ fv0_1.toInt)))) (As := []) (rest := []) ⟨hx, hb, hml, hown, hB⟩ (fun sz => tX9_cutName_vG l D cs a0 w8_0_3 w8_0_3 fv0_1 hm0 hk0 hmf121 hmf119 hmf120 (by  omega) (by  omega) (by  rw [ft102, show (w8_0_3.toInt).toNat = (w8_0_3.toInt).toNat by omega, ht96]; exact hle102) sz) cg_9_32_X9_cutName rfl rfl (by decide +kernel) ⟨Nat.le_of_ble_eq_true rfl, Nat.le_of_ble_eq_true rfl⟩ hK hN TH hS hA rfl hm0 hk0 (by decide) rfl hl.1 rfl (Nat.le_of_ble_eq_true rfl) dX9_advance_103 ⟨Nat.le_of_ble_eq_true rfl, Nat.le_of_ble_eq_true rfl⟩ (fun v185 kp185 L185 E185 H locs hq185 hx185 TH hS => ?_)
                obtain ⟨rfl, rfl, rfl, hst185, hpoxc186_0, ⟨zfxc186_0_0, zfxc186_0_1, hzfxc186_0_0, hzfxc186_0_1, hzpxc186_0⟩⟩ := hq185
                have hF := hF.tr hst185 (fun _ h => ⟨h, rfl⟩) (by decide) (by decide)
                have hmf187 : tw_fv E185 a0 1 = .int fv0_1 := (hst185.1 a0 1 hm0 (by rw [hk0]; decide)).trans hmf120
                have hmf188 : tw_fv E185 a0 3 = .int w8_0_3 := (hst185.1 a0 3 hm0 (by rw [hk0]; decide)).trans hmf121
                have hmf189 : tw_fv E185 a0 0 = .ref xr98 := (hst185.1 a0 0 hm0 (by rw [hk0]; decide)).trans hmf122
                have hezfxc186_0_0 : zfxc186_0_0 = w8_0_3 := by have q := hzfxc186_0_0.symm.trans hmf188; injection q
                rw [hezfxc186_0_0] at hzpxc186_0
                obtain ⟨qzfxc186_0_1, hqzfxc186_0_1, hqzfxc186_0_1a, hqzfxc186_0_1b⟩ := tw_rd TH hm0 hk0 (by decide) (by decide) (k := 4) rfl
                have eqzfxc186_0_1 : qzfxc186_0_1 = zfxc186_0_1 := by have q := hqzfxc186_0_1.symm.trans hzfxc186_0_1; injection q
                rw [eqzfxc186_0_1] at hqzfxc186_0_1a hqzfxc186_0_1b
                refine W.eq (g2 := F0 m 106 ls []) rfl ?_
                refine lv_goto (tgt := 173) hx hb dX9_advance_106 (by decide) ?_
                obtain ⟨xi190, hxi190, hxi190a, hxi190b⟩ := tw_rd TH hm0 hk0 (by decide) (by decide) (k := 2) rfl
                exact tw_vret hx hb hr hlocks TH hS hex ⟨rfl, rfl, rfl, hF, (by  have hcn := hpoxc186_0; rw [ft102, tw_fi_of hzfxc186_0_1, tw_fi_of hxi190] at hcn; rw [tw_fi_of hmf188, tw_fi_of hzfxc186_0_1, tw_fi_of hxi190]; refine ⟨(by have w := hws; rw [show (w8_0_3.toInt : Int) = w8_0_3.toInt by omega] at w; exact w), ?_⟩; rw [show (w8_0_3.toInt : Int) = w8_0_3.toInt by omega]; exact hcn), ⟨w8_0_3, zfxc186_0_1, hmf188, hzfxc186_0_1, by  omega⟩⟩ (Nat.le_of_ble_eq_true rfl) (Nat.le_of_ble_eq_true rfl) dX9_advance_173
            · have hf191 : ¬ (w8_0_3.toInt < fv0_1.toInt) := fun q => hc123 ((fa_lt _ _).mpr (by  omega))
              refine lv_aload_n hx hb dX9_advance_79 rfl (lv_at hl 0 rfl) ?_
              refine lv_iconst (v := 0) hx hb dX9_advance_80 (by decide) ?_
              refine tw_put (ci := 9) (v := .int 0) (ty := .int) (C := RX9) (T := TX9) (N := 5) hx hb hB cx_inX9 tyX9 tyX9_ok nmX9 hown hK TH hS hm0 hk0 rfl ⟨by decide, rfl⟩ 2 (by decide) cw_41 (fun _ h9 => h9) rfl (by decide +kernel) rfl rfl ⟨_, rfl, (show 0 ≤ Int32.toInt 0 from by have : ((0 : Int32).toInt) = 0 := (by decide); omega), (show Int32.toInt 0 ≤ 255 from by have : ((0 : Int32).toInt) = 0 := (by decide); omega)⟩ dX9_advance_81 (fun H locs E192 TH hS hmf196 hp193 hp194 => ?_)
              have hst195 : tw_fr kp L [(9, 2)] [] E115 E192 := tw_fr.put tw_fr.rf (fun _ => hk0) (by decide) hp193 hp194 (by decide)
              have hF := hF.tr hst195 (fun _ h => ⟨h, rfl⟩) (by decide) (by decide)
              have hmf197 : tw_fv E192 a0 1 = .int fv0_1 := (hst195.1 a0 1 hm0 (by rw [hk0]; decide)).trans hmf120
              have hmf198 : tw_fv E192 a0 3 = .int w8_0_3 := (hst195.1 a0 3 hm0 (by rw [hk0]; decide)).trans hmf121
              have hmf199 : tw_fv E192 a0 0 = .ref xr98 := (hst195.1 a0 0 hm0 (by rw [hk0]; decide)).trans hmf122
              have hmf200 : tw_fv E192 a0 4 = .int w8_0_3 := (hst195.1 a0 4 hm0 (by rw [hk0]; decide)).trans hmf119
              refine lv_goto (tgt := 173) hx hb dX9_advance_84 (by decide) ?_
              exact tw_vret hx hb hr hlocks TH hS hex ⟨rfl, rfl, rfl, hF, (by have : ((0 : Int32).toInt) = 0 := (by decide); rw [tw_fi_of hmf198, tw_fi_of hmf200, tw_fi_of hmf196]; refine ⟨(by have w := hws; rw [show (w8_0_3.toInt : Int) = w8_0_3.toInt by omega] at w; exact w), ?_⟩; exact Or.inl ⟨by omega, by decide, by omega⟩), ⟨w8_0_3, w8_0_3, hmf198, hmf200, by have : ((0 : Int32).toInt) = 0 := (by decide); omega⟩⟩ (Nat.le_of_ble_eq_true rfl) (Nat.le_of_ble_eq_true rfl) dX9_advance_173
          · have hf201 : xe99.toInt = 10 := by have z := (fa_eq _ _).mp hc113; have : ((10 : Int32).toInt) = 10 := (by decide); omega
            refine lv_aload_n hx hb dX9_advance_47 rfl (lv_at hl 0 rfl) ?_
            refine lv_dup hx hb dX9_advance_48 rfl ?_
            refine tw_get (ci := 9) (C := RX9) (T := TX9) (N := 5) hx hb hB cx_inX9 hown hK TH hm0 hk0 rfl ⟨by decide, rfl⟩ 3 (by decide) cw_43 (fun _ h9 => h9) dX9_advance_49 (fun hv => ?_)
            rw [hfm8_0]
            refine lv_iconst (v := 1) hx hb dX9_advance_52 (by decide) ?_
            refine lv_iadd hx hb dX9_advance_53 ?_
            refine lv_topi (fun zi202 ezi202 => ?_)
            have hzi202 : zi202.toInt = w8_0_3.toInt + 1 := by rw [ezi202]; have : ((1 : Int32).toInt) = 1 := (by decide); have := ia_lo w8_0_3; have := ia_hi w8_0_3; exact (ia_add (by omega) (by omega)).trans (by omega)
            refine tw_put (ci := 9) (v := .int zi202) (ty := .int) (C := RX9) (T := TX9) (N := 5) hx hb hB cx_inX9 tyX9 tyX9_ok nmX9 hown hK TH hS hm0 hk0 rfl ⟨by decide, rfl⟩ 3 (by decide) cw_43 (fun _ h9 => h9) rfl (by decide +kernel) rfl rfl ⟨_, rfl, (show 0 ≤ Int32.toInt zi202 from by  omega), (show Int32.toInt zi202 ≤ 500 from by  omega)⟩ dX9_advance_54 (fun H locs E203 TH hS hmf207 hp204 hp205 => ?_)
            have hst206 : tw_fr kp L [(9, 3)] [] Eg8 E203 := tw_fr.put tw_fr.rf (fun _ => hk0) (by decide) hp204 hp205 (by decide)
            have hF := hF.tr hst206 (fun _ h => ⟨h, rfl⟩) (by decide) (by decide)
            have hG8 := hG8.tr hst206 (fun _ h => ⟨h, rfl⟩) (by decide) (by decide)
            have hmf208 : tw_fv E203 a0 4 = .int fv0_4 := (hst206.1 a0 4 hm0 (by rw [hk0]; decide)).trans hmf8
            have hmf209 : tw_fv E203 a0 1 = .int fv0_1 := (hst206.1 a0 1 hm0 (by rw [hk0]; decide)).trans hmf9
            have hmf210 : tw_fv E203 a0 0 = .ref xr98 := (hst206.1 a0 0 hm0 (by rw [hk0]; decide)).trans hxr98
            refine lv_goto (tgt := 8) hx hb dX9_advance_57 (by decide) ?_
            exact ih8 (n8 - 1) (by   omega) zi202 _ _ _ ls (by omega) (by omega) (by  omega) (by  omega) (by  exact lx_al_push hin8_2 (by omega) (by omega) (by unfold lx_sp; rw [ht28]; omega)) (by   omega) hmf207 hG8 TH hS (lv_sub hl [0] rfl)
  exact hJ8 501 fv0_4 _ _ _ ls (by omega) (by omega) (by  omega) (by  omega) (by  exact lx_al_zero (by omega)) (by   omega) hmf5 tw_fr.rf TH hS (lv_sub hl [0] rfl)
set_option maxHeartbeats 4000000 in
set_option maxRecDepth 100000 in
theorem tX9_append_vG (l : Launch) (D : va_G) (cs : Nat → ClassId) {kp : Nat → Nat} {L : List Nat} {E : Nat → va_E} (a0 : Nat) (x1 : Int32) (fv0_1 : Int32) (hm0 : a0 ∈ L) (hk0 : kp a0 = 9) (hfv0_1 : tw_fv E a0 1 = .int fv0_1) (hpre0 : fv0_1.toInt ≤ 496) (sz : Nat) : Met l yX9_append (.code yX9_append cX9_append 3 none :: cx_big) { frames := 0, cells := 0, slots := 0, locals := 0 } (tw_P D cs kp L E [.ref a0, .int x1] sz) (tw_Q D cs kp L (fun v kq Lq Eq => v = none ∧ kp = kq ∧ L = Lq ∧ tw_fr kp L [(9, 1)] [100] E Eq ∧ (∀ i : Nat, tw_el Eq a0 0 i = fd_ (by_c x1.toInt) (tw_el E a0 0) fv0_1.toInt (fv0_1.toInt + 4) i) ∧ (∃ z0 : Int32, tw_fv Eq a0 1 = .int z0 ∧ (z0.toInt = fv0_1.toInt + 4))) (va_A (va_pl L E) sz)) 0 0 (va_A (va_pl L E) sz) := by
  refine tw_ofW (by decide) (Nat.le_of_ble_eq_true rfl) ?_
  intro p e s m below meth c A ls hx hb hr hml hB hown hlocks hK hN hA TH hS hl
  have hown : s.vm.findClass "TreeMerge$Text" = some m.cls := hown
  have hl : lv_has ls 3 [(0, .ref a0), (1, .int x1)] := hl
  obtain ⟨kp0, ekp⟩ : ∃ z, z = kp := ⟨_, rfl⟩
  obtain ⟨L0, eL⟩ : ∃ z, z = L := ⟨_, rfl⟩
  rw [show tw_Q D cs kp L = tw_Q D cs kp0 L0 by rw [ekp, eL]]
  have hex : ∀ a : Nat, a ∈ L0 → a ∈ L ∧ kp a = kp0 a := fun a h => ⟨by rw [← eL]; exact h, by rw [ekp]⟩
  have hF : tw_fr kp L [(9, 1)] [100] E E := tw_fr.rf
  obtain ⟨qfv0_1, hqfv0_1, hqfv0_1a, hqfv0_1b⟩ := tw_rd TH hm0 hk0 (by decide) (by decide) (k := 1) rfl
  have eqfv0_1 : qfv0_1 = fv0_1 := by have q := hqfv0_1.symm.trans hfv0_1; injection q
  rw [eqfv0_1] at hqfv0_1a hqfv0_1b
  have hfd0 : fdc_ok E a0 (by_c x1.toInt) (tw_el E a0 0) (fv0_1.toInt) (fv0_1.toInt) := fun i => (by rw [fd_zero _ _ (by omega)])
  refine lv_bipush (v := 24) hx hb dX9_append_0 (by decide) ?_
  refine lv_istore_n (lv' := [(2, .int 24), (0, .ref a0), (1, .int x1)]) hx hb dX9_append_2 rfl hl (by decide) rfl (fun ls hl => ?_)
  have hJ3 : ∀ (n3 : Nat) (y3_2 : Int32) (u3_0_1 : Int32) (Eg3 : Nat → va_E) (H : Heap) (locs : List Loc) (ls : Array Slot), (-8) ≤ y3_2.toInt → y3_2.toInt ≤ 24 → 0 ≤ u3_0_1.toInt → u3_0_1.toInt ≤ 500 → (8 * u3_0_1.toInt = 8 * fv0_1.toInt + 24 - y3_2.toInt) → (-8 ≤ y3_2.toInt) → (fv0_1.toInt ≤ u3_0_1.toInt) → y3_2.toInt + 8 ≤ (n3 : Int) → tw_fv Eg3 a0 1 = .int u3_0_1 → tw_fr kp L [(9, 1)] [100] E Eg3 → fdc_ok Eg3 a0 (by_c x1.toInt) (tw_el E a0 0) (fv0_1.toInt) (u3_0_1.toInt) → tw_H D cs kp L Eg3 A H → va_S A s.heap H locs → lv_has ls 3 [(2, .int y3_2), (0, .ref a0), (1, .int x1)] → W p l e { frames := 0, cells := 0, slots := 0, locals := 0 } s m [.ref a0, .int x1].toArray below meth c H locs 0 0 (MQ below (tw_Q D cs kp0 L0 (fun v kq Lq Eq => v = none ∧ kp = kq ∧ L = Lq ∧ tw_fr kp L [(9, 1)] [100] E Eq ∧ (∀ i : Nat, tw_el Eq a0 0 i = fd_ (by_c x1.toInt) (tw_el E a0 0) fv0_1.toInt (fv0_1.toInt + 4) i) ∧ (∃ z0 : Int32, tw_fv Eq a0 1 = .int z0 ∧ (z0.toInt = fv0_1.toInt + 4))) A) [.ref a0, .int x1].toArray s 0 0 A) (F0 m 3 ls []) := by
    intro n3
    induction n3 using Nat.strongRecOn with
    | _ n3 ih3 =>
      intro y3_2 u3_0_1 Eg3 H locs ls hy3_2a hy3_2b hu3_0_1a hu3_0_1b hin3_0 hin3_1 hin3_2 hmeas3 hfm3_0 hG3 hcg3_0 TH hS hl
      have hF := hF.tr hG3 (fun _ h => ⟨h, rfl⟩) (by decide) (by decide)
      refine lv_iload_n hx hb dX9_append_3 rfl (lv_at hl 0 rfl) ?_
      refine lv_if_lt (tgt := 49) hx hb dX9_append_4 (by decide) (fun hc1 => ?_) (fun hc1 => ?_)
      · have hf2 : y3_2.toInt < 0 := by have z := (fa_lt _ _).mp hc1; have : ((0 : Int32).toInt) = 0 := (by decide); omega
        exact tw_vret hx hb hr hlocks TH hS hex ⟨rfl, rfl, rfl, hF, (by  exact fdc_ok_cast (by omega) hcg3_0), ⟨u3_0_1, hfm3_0, by  omega⟩⟩ (Nat.le_of_ble_eq_true rfl) (Nat.le_of_ble_eq_true rfl) dX9_append_49
      · have hf3 : ¬ (y3_2.toInt < 0) := fun q => hc1 ((fa_lt _ _).mpr (by have : ((0 : Int32).toInt) = 0 := (by decide); omega))
        refine lv_aload_n hx hb dX9_append_7 rfl (lv_at hl 1 rfl) ?_
        refine tw_get (ci := 9) (C := RX9) (T := TX9) (N := 5) hx hb hB cx_inX9 hown hK TH hm0 hk0 rfl ⟨by decide, rfl⟩ 1 (by decide) cw_36 (fun _ h9 => h9) dX9_append_8 (fun hv => ?_)
        rw [hfm3_0]
        refine lv_sipush (v := 500) hx hb dX9_append_11 (by decide) ?_
        refine lv_icmp_ge (tgt := 43) hx hb dX9_append_14 (by decide) (fun hc4 => ?_) (fun hc4 => ?_)
        · have hf5 : 500 ≤ u3_0_1.toInt := by have z := (fa_le _ _).mp hc4; have : ((500 : Int32).toInt) = 500 := (by decide); omega
          exfalso; omega
        · have hf6 : ¬ (500 ≤ u3_0_1.toInt) := fun q => hc4 ((fa_le _ _).mpr (by have : ((500 : Int32).toInt) = 500 := (by decide); omega))
          refine lv_aload_n hx hb dX9_append_17 rfl (lv_at hl 1 rfl) ?_
          refine tw_get (ci := 9) (C := RX9) (T := TX9) (N := 5) hx hb hB cx_inX9 hown hK TH hm0 hk0 rfl ⟨by decide, rfl⟩ 0 (by decide) cw_34 (fun _ h9 => h9) dX9_append_18 (fun hv => ?_)
          obtain ⟨xr7, hxr7, hmxr7, hkxr7⟩ : ∃ a : Nat, tw_fv Eg3 a0 0 = .ref a ∧ a ∈ L ∧ kp a = 100 := hv
          rw [hxr7]
          refine lv_aload_n hx hb dX9_append_21 rfl (lv_at hl 1 rfl) ?_
          refine tw_get (ci := 9) (C := RX9) (T := TX9) (N := 5) hx hb hB cx_inX9 hown hK TH hm0 hk0 rfl ⟨by decide, rfl⟩ 1 (by decide) cw_36 (fun _ h9 => h9) dX9_append_22 (fun hv => ?_)
          rw [hfm3_0]
          refine lv_iload_n hx hb dX9_append_25 rfl (lv_at hl 2 rfl) ?_
          refine lv_iload_n hx hb dX9_append_26 rfl (lv_at hl 0 rfl) ?_
          refine lv_iushr (v := ((x1 : Int32).toUInt32 >>> ((y3_2 : Int32).toUInt32 &&& Int32.toUInt32 31)).toInt32) hx hb dX9_append_27 rfl ?_
          refine lv_topi (fun zi8 ezi8 => ?_)
          have h_zi := trivial
          refine lv_sipush (v := 255) hx hb dX9_append_28 (by decide) ?_
          refine lv_iand hx hb dX9_append_31 ?_
          refine lv_topi (fun zi9 ezi9 => ?_)
          have hzi9 : 0 ≤ zi9.toInt ∧ zi9.toInt ≤ 255 := by rw [ezi9]; exact ia_and255 _
          have h_zb := trivial
          refine tw_iast (k := 100) (n := 500) (lo := 0) (hi := 255) hx hb hK TH hS hmxr7 hkxr7 (by decide) rfl (i := u3_0_1) (x := zi9) (vp_in_iff.mpr ⟨by  omega, by  omega⟩) (by omega) (by omega) dX9_append_32 (fun H locs E10 TH hS hp11 hp12 hp13 => ?_)
          have hst14 : tw_fr kp L [] [100] Eg3 E10 := tw_fr.ast tw_fr.rf (fun _ => hkxr7) hp11 hp12 (by decide)
          have hF := hF.tr hst14 (fun _ h => ⟨h, rfl⟩) (by decide) (by decide)
          have hG3 := hG3.tr hst14 (fun _ h => ⟨h, rfl⟩) (by decide) (by decide)
          have hmf15 : tw_fv E10 a0 1 = .int u3_0_1 := (hst14.1 a0 1 hm0 (by rw [hk0]; decide)).trans hfm3_0
          have hmf16 : tw_fv E10 a0 0 = .ref xr7 := (hst14.1 a0 0 hm0 (by rw [hk0]; decide)).trans hxr7
          have hcg3_0_o := hcg3_0
          have hcg3_0 : fdc_ok E10 a0 (by_c x1.toInt) (tw_el E a0 0) (fv0_1.toInt) (u3_0_1.toInt + 1) := fd_st (k := u3_0_1.toInt) (v := zi9.toInt) (by omega) (by omega) (by_c_is (s := y3_2) (by omega) ezi9 ezi8) (fdc_ok_cast (by omega) hcg3_0_o) (fun j => (by have w := tw_el_st hxr7 hp11 hp12 hp13 j; rw [w]; (by_cases e : j = (u3_0_1.toInt).toNat; (rw [if_pos ⟨rfl, e⟩, if_pos e]); (rw [if_neg (fun y => e y.2), if_neg e]))))
          refine lv_aload_n hx hb dX9_append_33 rfl (lv_at hl 1 rfl) ?_
          refine lv_dup hx hb dX9_append_34 rfl ?_
          refine tw_get (ci := 9) (C := RX9) (T := TX9) (N := 5) hx hb hB cx_inX9 hown hK TH hm0 hk0 rfl ⟨by decide, rfl⟩ 1 (by decide) cw_36 (fun _ h9 => h9) dX9_append_35 (fun hv => ?_)
          rw [hmf15]
          refine lv_iconst (v := 1) hx hb dX9_append_38 (by decide) ?_
          refine lv_iadd hx hb dX9_append_39 ?_
          refine lv_topi (fun zi17 ezi17 => ?_)
          have hzi17 : zi17.toInt = u3_0_1.toInt + 1 := by rw [ezi17]; have : ((1 : Int32).toInt) = 1 := (by decide); have := ia_lo u3_0_1; have := ia_hi u3_0_1; exact (ia_add (by omega) (by omega)).trans (by omega)
          refine tw_put (ci := 9) (v := .int zi17) (ty := .int) (C := RX9) (T := TX9) (N := 5) hx hb hB cx_inX9 tyX9 tyX9_ok nmX9 hown hK TH hS hm0 hk0 rfl ⟨by decide, rfl⟩ 1 (by decide) cw_36 (fun _ h9 => h9) rfl (by decide +kernel) rfl rfl ⟨_, rfl, (show 0 ≤ Int32.toInt zi17 from by  omega), (show Int32.toInt zi17 ≤ 500 from by  omega)⟩ dX9_append_40 (fun H locs E18 TH hS hmf22 hp19 hp20 => ?_)
          have hst21 : tw_fr kp L [(9, 1)] [] E10 E18 := tw_fr.put tw_fr.rf (fun _ => hk0) (by decide) hp19 hp20 (by decide)
          have hF := hF.tr hst21 (fun _ h => ⟨h, rfl⟩) (by decide) (by decide)
          have hG3 := hG3.tr hst21 (fun _ h => ⟨h, rfl⟩) (by decide) (by decide)
          have hmf23 : tw_fv E18 a0 0 = .ref xr7 := (hst21.1 a0 0 hm0 (by rw [hk0]; decide)).trans hmf16
          have hcg3_0 : fdc_ok E18 a0 (by_c x1.toInt) (tw_el E a0 0) (fv0_1.toInt) (u3_0_1.toInt + 1) := fdc_ok_fr TH hst21 hm0 hk0 (by decide) (by decide) hcg3_0
          obtain ⟨zi24, ezi24⟩ : ∃ z : Int32, z = y3_2 + Int32.ofInt (-8) := ⟨_, rfl⟩
          have hzi24 : zi24.toInt = y3_2.toInt + (-8) := by rw [ezi24]; have : ((Int32.ofInt (-8)).toInt) = (-8) := (by decide);  exact (ia_add (by omega) (by omega)).trans (by omega)
          refine lv_iinc (v := zi24) (lv' := [(2, .int zi24), (0, .ref a0), (1, .int x1)]) hx hb dX9_append_43 hl (k := 0) rfl ezi24.symm (by decide) rfl (fun ls hl => ?_)
          refine lv_goto (tgt := 3) hx hb dX9_append_46 (by decide) ?_
          exact ih3 (n3 - 1) (by   omega) zi24 zi17 _ _ _ ls (by omega) (by omega) (by omega) (by omega) (by  omega) (by  omega) (by  omega) (by   omega) hmf22 hG3 (fdc_ok_cast (by  omega) hcg3_0) TH hS (lv_sub hl [0, 1, 2] rfl)
  exact hJ3 32 (24 : Int32) fv0_1 _ _ _ ls (by have : ((24 : Int32).toInt) = 24 := (by decide); omega) (by have : ((24 : Int32).toInt) = 24 := (by decide); omega) (by omega) (by omega) (by have : ((24 : Int32).toInt) = 24 := (by decide); omega) (by have : ((24 : Int32).toInt) = 24 := (by decide); omega) (by have : ((24 : Int32).toInt) = 24 := (by decide); omega) (by have : ((24 : Int32).toInt) = 24 := (by decide);  omega) hfv0_1 tw_fr.rf (fdc_ok_cast (by have : ((24 : Int32).toInt) = 24 := (by decide); omega) hfd0) TH hS (lv_sub hl [0, 1, 2] rfl)
set_option maxHeartbeats 4000000 in
set_option maxRecDepth 100000 in
theorem tX11_feed_vG (l : Launch) (D : va_G) (cs : Nat → ClassId) {kp : Nat → Nat} {L : List Nat} {E : Nat → va_E} (a0 : Nat) (x1 : Int32) (x2 : Int32) (x3 : Int32) (x4 : Int32) (x5 : Int32) (hm0 : a0 ∈ L) (hk0 : kp a0 = 11) (sz : Nat) : Met l yX11_feed (.code yX11_feed cX11_feed 6 (some .int) :: cx_big) { frames := 1, cells := 0, slots := 0, locals := 22 } (tw_P D cs kp L E [.ref a0, .int x1, .int x2, .int x3, .int x4, .int x5] sz) (tw_Q D cs kp L (fun v kq Lq Eq => (∃ x : Int32, v = some (.int x) ∧ ((tw_fi E (tw_fa E a0 0) 1) ≤ 480 → tw_fi Eq (tw_fa E a0 0) 1 = (tw_fi E (tw_fa E a0 0) 1) + 20 ∧ tw_el Eq (tw_fa E a0 0) 0 = fd5 by_c x1.toInt x2.toInt x3.toInt x4.toInt x5.toInt (tw_el E (tw_fa E a0 0) 0) (tw_fi E (tw_fa E a0 0) 1)) ∧ (480 < (tw_fi E (tw_fa E a0 0) 1) → tw_fi Eq (tw_fa E a0 0) 1 = (tw_fi E (tw_fa E a0 0) 1) ∧ tw_el Eq (tw_fa E a0 0) 0 = tw_el E (tw_fa E a0 0) 0)) ∧ kp = kq ∧ L = Lq ∧ tw_fr kp L [(9, 1)] [100] E Eq) (va_A (va_pl L E) sz)) 0 0 (va_A (va_pl L E) sz) := by
  refine tw_ofW (by decide) (Nat.le_of_ble_eq_true rfl) ?_
  intro p e s m below meth c A ls hx hb hr hml hB hown hlocks hK hN hA TH hS hl
  have hown : s.vm.findClass "TreeMerge" = some m.cls := hown
  have hl : lv_has ls 6 [(0, .ref a0), (1, .int x1), (2, .int x2), (3, .int x3), (4, .int x4), (5, .int x5)] := hl
  obtain ⟨kp0, ekp⟩ : ∃ z, z = kp := ⟨_, rfl⟩
  obtain ⟨L0, eL⟩ : ∃ z, z = L := ⟨_, rfl⟩
  rw [show tw_Q D cs kp L = tw_Q D cs kp0 L0 by rw [ekp, eL]]
  have hex : ∀ a : Nat, a ∈ L0 → a ∈ L ∧ kp a = kp0 a := fun a h => ⟨by rw [← eL]; exact h, by rw [ekp]⟩
  have hF : tw_fr kp L [(9, 1)] [100] E E := tw_fr.rf
  obtain ⟨xr1, hxr1, hmxr1, hkxr1⟩ := tw_ra TH hm0 hk0 (by decide) (by decide) (k := 0) rfl
  have hkxr1 : kp xr1 = 9 := hkxr1
  obtain ⟨xi2, hxi2, hxi2a, hxi2b⟩ := tw_rd TH hmxr1 hkxr1 (by decide) (by decide) (k := 1) rfl
  have et0 : tw_fa E a0 0 = xr1 := tw_fa_of hxr1
  have en0 : tw_fi E xr1 1 = xi2.toInt := tw_fi_of hxi2
  have ec20 : ((20 : Int32).toInt) = 20 := (by decide)
  refine lv_aload_n hx hb dX11_feed_0 rfl (lv_at hl 0 rfl) ?_
  refine tw_get (ci := 11) (C := RX11) (T := TX11) (N := 19) hx hb hB cx_inX11 hown hK TH hm0 hk0 rfl ⟨by decide, rfl⟩ 0 (by decide) cw_383 (fun _ h9 => h9) dX11_feed_1 (fun hv => ?_)
  rw [hxr1]
  refine lv_bipush (v := 20) hx hb dX11_feed_4 (by decide) ?_
  refine tw_Vc (o := xr1) (ci := 9) (n := 1) (post := (fun v kq Lq Eq => (∃ x : Int32, v = some (.int x) ∧ 0 ≤ x.toInt ∧ x.toInt ≤ 1 ∧ (x.toInt ≠ 0 ↔ xi2.toInt + (20 : Int32).toInt ≤ 500)) ∧ kp = kq ∧ L = Lq ∧ E = Eq)) (As := [.int 20]) (rest := []) ⟨hx, hb, hml, hown, hB⟩ (fun sz => tX9_hasRoom_vG l D cs xr1 (20 : Int32) xi2 hmxr1 hkxr1 (by have : ((20 : Int32).toInt) = 20 := (by decide); omega) (by have : ((20 : Int32).toInt) = 20 := (by decide); omega) hxi2 sz) cg_11_101_X9_hasRoom rfl rfl (by decide +kernel) ⟨Nat.le_of_ble_eq_true rfl, Nat.le_of_ble_eq_true rfl⟩ hK hN TH hS hA rfl hmxr1 hkxr1 (by decide) rfl hl.1 rfl (Nat.le_of_ble_eq_true rfl) dX11_feed_6 ⟨Nat.le_of_ble_eq_true rfl, Nat.le_of_ble_eq_true rfl⟩ (fun v3 kp3 L3 E3 H locs hq3 hx3 TH hS => ?_)
  obtain ⟨⟨xc4, rfl, hxc4a, hxc4b, hpoxc4_0⟩, rfl, rfl, rfl⟩ := hq3
  refine W.eq (g2 := F0 m 9 ls [.int xc4]) rfl ?_
  refine lv_if_ne (tgt := 14) hx hb dX11_feed_9 (by decide) (fun hc5 => ?_) (fun hc5 => ?_)
  · have hf6 : ¬ (xc4.toInt = 0) := fun q => hc5 ((fa_eq _ _).mpr (by have : ((0 : Int32).toInt) = 0 := (by decide); omega))
    refine lv_aload_n hx hb dX11_feed_14 rfl (lv_at hl 0 rfl) ?_
    refine tw_get (ci := 11) (C := RX11) (T := TX11) (N := 19) hx hb hB cx_inX11 hown hK TH hm0 hk0 rfl ⟨by decide, rfl⟩ 0 (by decide) cw_383 (fun _ h9 => h9) dX11_feed_15 (fun hv => ?_)
    rw [hxr1]
    refine lv_iload_n hx hb dX11_feed_18 rfl (lv_at hl 1 rfl) ?_
    refine tw_Vc (o := xr1) (ci := 9) (n := 1) (post := (fun v kq Lq Eq => v = none ∧ kp = kq ∧ L = Lq ∧ tw_fr kp L [(9, 1)] [100] E Eq ∧ (∀ i : Nat, tw_el Eq xr1 0 i = fd_ (by_c x1.toInt) (tw_el E xr1 0) xi2.toInt (xi2.toInt + 4) i) ∧ (∃ z0 : Int32, tw_fv Eq xr1 1 = .int z0 ∧ (z0.toInt = xi2.toInt + 4)))) (As := [.int x1]) (rest := []) ⟨hx, hb, hml, hown, hB⟩ (fun sz => tX9_append_vG l D cs xr1 x1 xi2 hmxr1 hkxr1 hxi2 (by  omega) sz) cg_11_105_X9_append rfl rfl (by decide +kernel) ⟨Nat.le_of_ble_eq_true rfl, Nat.le_of_ble_eq_true rfl⟩ hK hN TH hS hA rfl hmxr1 hkxr1 (by decide) rfl hl.1 rfl (Nat.le_of_ble_eq_true rfl) dX11_feed_19 ⟨Nat.le_of_ble_eq_true rfl, Nat.le_of_ble_eq_true rfl⟩ (fun v7 kp7 L7 E7 H locs hq7 hx7 TH hS => ?_)
    obtain ⟨rfl, rfl, rfl, hst7, hpoxc8_0, ⟨zfxc8_0_0, hzfxc8_0_0, hzpxc8_0⟩⟩ := hq7
    have hF := hF.tr hst7 (fun _ h => ⟨h, rfl⟩) (by decide) (by decide)
    have hmf9 : tw_fv E7 a0 0 = .ref xr1 := (hst7.1 a0 0 hm0 (by rw [hk0]; decide)).trans hxr1
    obtain ⟨qzfxc8_0_0, hqzfxc8_0_0, hqzfxc8_0_0a, hqzfxc8_0_0b⟩ := tw_rd TH hmxr1 hkxr1 (by decide) (by decide) (k := 1) rfl
    have eqzfxc8_0_0 : qzfxc8_0_0 = zfxc8_0_0 := by have q := hqzfxc8_0_0.symm.trans hzfxc8_0_0; injection q
    rw [eqzfxc8_0_0] at hqzfxc8_0_0a hqzfxc8_0_0b
    refine W.eq (g2 := F0 m 22 ls []) rfl ?_
    refine lv_aload_n hx hb dX11_feed_22 rfl (lv_at hl 0 rfl) ?_
    refine tw_get (ci := 11) (C := RX11) (T := TX11) (N := 19) hx hb hB cx_inX11 hown hK TH hm0 hk0 rfl ⟨by decide, rfl⟩ 0 (by decide) cw_383 (fun _ h9 => h9) dX11_feed_23 (fun hv => ?_)
    rw [hmf9]
    refine lv_iload_n hx hb dX11_feed_26 rfl (lv_at hl 2 rfl) ?_
    refine tw_Vc (o := xr1) (ci := 9) (n := 1) (post := (fun v kq Lq Eq => v = none ∧ kp = kq ∧ L = Lq ∧ tw_fr kp L [(9, 1)] [100] E7 Eq ∧ (∀ i : Nat, tw_el Eq xr1 0 i = fd_ (by_c x2.toInt) (tw_el E7 xr1 0) zfxc8_0_0.toInt (zfxc8_0_0.toInt + 4) i) ∧ (∃ z0 : Int32, tw_fv Eq xr1 1 = .int z0 ∧ (z0.toInt = zfxc8_0_0.toInt + 4)))) (As := [.int x2]) (rest := []) ⟨hx, hb, hml, hown, hB⟩ (fun sz => tX9_append_vG l D cs xr1 x2 zfxc8_0_0 hmxr1 hkxr1 hzfxc8_0_0 (by  omega) sz) cg_11_105_X9_append rfl rfl (by decide +kernel) ⟨Nat.le_of_ble_eq_true rfl, Nat.le_of_ble_eq_true rfl⟩ hK hN TH hS hA rfl hmxr1 hkxr1 (by decide) rfl hl.1 rfl (Nat.le_of_ble_eq_true rfl) dX11_feed_27 ⟨Nat.le_of_ble_eq_true rfl, Nat.le_of_ble_eq_true rfl⟩ (fun v10 kp10 L10 E10 H locs hq10 hx10 TH hS => ?_)
    obtain ⟨rfl, rfl, rfl, hst10, hpoxc11_0, ⟨zfxc11_0_0, hzfxc11_0_0, hzpxc11_0⟩⟩ := hq10
    have hF := hF.tr hst10 (fun _ h => ⟨h, rfl⟩) (by decide) (by decide)
    have hmf12 : tw_fv E10 a0 0 = .ref xr1 := (hst10.1 a0 0 hm0 (by rw [hk0]; decide)).trans hmf9
    obtain ⟨qzfxc11_0_0, hqzfxc11_0_0, hqzfxc11_0_0a, hqzfxc11_0_0b⟩ := tw_rd TH hmxr1 hkxr1 (by decide) (by decide) (k := 1) rfl
    have eqzfxc11_0_0 : qzfxc11_0_0 = zfxc11_0_0 := by have q := hqzfxc11_0_0.symm.trans hzfxc11_0_0; injection q
    rw [eqzfxc11_0_0] at hqzfxc11_0_0a hqzfxc11_0_0b
    refine W.eq (g2 := F0 m 30 ls []) rfl ?_
    refine lv_aload_n hx hb dX11_feed_30 rfl (lv_at hl 0 rfl) ?_
    refine tw_get (ci := 11) (C := RX11) (T := TX11) (N := 19) hx hb hB cx_inX11 hown hK TH hm0 hk0 rfl ⟨by decide, rfl⟩ 0 (by decide) cw_383 (fun _ h9 => h9) dX11_feed_31 (fun hv => ?_)
    rw [hmf12]
    refine lv_iload_n hx hb dX11_feed_34 rfl (lv_at hl 3 rfl) ?_
    refine tw_Vc (o := xr1) (ci := 9) (n := 1) (post := (fun v kq Lq Eq => v = none ∧ kp = kq ∧ L = Lq ∧ tw_fr kp L [(9, 1)] [100] E10 Eq ∧ (∀ i : Nat, tw_el Eq xr1 0 i = fd_ (by_c x3.toInt) (tw_el E10 xr1 0) zfxc11_0_0.toInt (zfxc11_0_0.toInt + 4) i) ∧ (∃ z0 : Int32, tw_fv Eq xr1 1 = .int z0 ∧ (z0.toInt = zfxc11_0_0.toInt + 4)))) (As := [.int x3]) (rest := []) ⟨hx, hb, hml, hown, hB⟩ (fun sz => tX9_append_vG l D cs xr1 x3 zfxc11_0_0 hmxr1 hkxr1 hzfxc11_0_0 (by  omega) sz) cg_11_105_X9_append rfl rfl (by decide +kernel) ⟨Nat.le_of_ble_eq_true rfl, Nat.le_of_ble_eq_true rfl⟩ hK hN TH hS hA rfl hmxr1 hkxr1 (by decide) rfl hl.1 rfl (Nat.le_of_ble_eq_true rfl) dX11_feed_35 ⟨Nat.le_of_ble_eq_true rfl, Nat.le_of_ble_eq_true rfl⟩ (fun v13 kp13 L13 E13 H locs hq13 hx13 TH hS => ?_)
    obtain ⟨rfl, rfl, rfl, hst13, hpoxc14_0, ⟨zfxc14_0_0, hzfxc14_0_0, hzpxc14_0⟩⟩ := hq13
    have hF := hF.tr hst13 (fun _ h => ⟨h, rfl⟩) (by decide) (by decide)
    have hmf15 : tw_fv E13 a0 0 = .ref xr1 := (hst13.1 a0 0 hm0 (by rw [hk0]; decide)).trans hmf12
    obtain ⟨qzfxc14_0_0, hqzfxc14_0_0, hqzfxc14_0_0a, hqzfxc14_0_0b⟩ := tw_rd TH hmxr1 hkxr1 (by decide) (by decide) (k := 1) rfl
    have eqzfxc14_0_0 : qzfxc14_0_0 = zfxc14_0_0 := by have q := hqzfxc14_0_0.symm.trans hzfxc14_0_0; injection q
    rw [eqzfxc14_0_0] at hqzfxc14_0_0a hqzfxc14_0_0b
    refine W.eq (g2 := F0 m 38 ls []) rfl ?_
    refine lv_aload_n hx hb dX11_feed_38 rfl (lv_at hl 0 rfl) ?_
    refine tw_get (ci := 11) (C := RX11) (T := TX11) (N := 19) hx hb hB cx_inX11 hown hK TH hm0 hk0 rfl ⟨by decide, rfl⟩ 0 (by decide) cw_383 (fun _ h9 => h9) dX11_feed_39 (fun hv => ?_)
    rw [hmf15]
    refine lv_iload hx hb dX11_feed_42 (lv_at hl 4 rfl) ?_
    refine tw_Vc (o := xr1) (ci := 9) (n := 1) (post := (fun v kq Lq Eq => v = none ∧ kp = kq ∧ L = Lq ∧ tw_fr kp L [(9, 1)] [100] E13 Eq ∧ (∀ i : Nat, tw_el Eq xr1 0 i = fd_ (by_c x4.toInt) (tw_el E13 xr1 0) zfxc14_0_0.toInt (zfxc14_0_0.toInt + 4) i) ∧ (∃ z0 : Int32, tw_fv Eq xr1 1 = .int z0 ∧ (z0.toInt = zfxc14_0_0.toInt + 4)))) (As := [.int x4]) (rest := []) ⟨hx, hb, hml, hown, hB⟩ (fun sz => tX9_append_vG l D cs xr1 x4 zfxc14_0_0 hmxr1 hkxr1 hzfxc14_0_0 (by  omega) sz) cg_11_105_X9_append rfl rfl (by decide +kernel) ⟨Nat.le_of_ble_eq_true rfl, Nat.le_of_ble_eq_true rfl⟩ hK hN TH hS hA rfl hmxr1 hkxr1 (by decide) rfl hl.1 rfl (Nat.le_of_ble_eq_true rfl) dX11_feed_44 ⟨Nat.le_of_ble_eq_true rfl, Nat.le_of_ble_eq_true rfl⟩ (fun v16 kp16 L16 E16 H locs hq16 hx16 TH hS => ?_)
    obtain ⟨rfl, rfl, rfl, hst16, hpoxc17_0, ⟨zfxc17_0_0, hzfxc17_0_0, hzpxc17_0⟩⟩ := hq16
    have hF := hF.tr hst16 (fun _ h => ⟨h, rfl⟩) (by decide) (by decide)
    have hmf18 : tw_fv E16 a0 0 = .ref xr1 := (hst16.1 a0 0 hm0 (by rw [hk0]; decide)).trans hmf15
    obtain ⟨qzfxc17_0_0, hqzfxc17_0_0, hqzfxc17_0_0a, hqzfxc17_0_0b⟩ := tw_rd TH hmxr1 hkxr1 (by decide) (by decide) (k := 1) rfl
    have eqzfxc17_0_0 : qzfxc17_0_0 = zfxc17_0_0 := by have q := hqzfxc17_0_0.symm.trans hzfxc17_0_0; injection q
    rw [eqzfxc17_0_0] at hqzfxc17_0_0a hqzfxc17_0_0b
    refine W.eq (g2 := F0 m 47 ls []) rfl ?_
    refine lv_aload_n hx hb dX11_feed_47 rfl (lv_at hl 0 rfl) ?_
    refine tw_get (ci := 11) (C := RX11) (T := TX11) (N := 19) hx hb hB cx_inX11 hown hK TH hm0 hk0 rfl ⟨by decide, rfl⟩ 0 (by decide) cw_383 (fun _ h9 => h9) dX11_feed_48 (fun hv => ?_)
    rw [hmf18]
    refine lv_iload hx hb dX11_feed_51 (lv_at hl 5 rfl) ?_
    refine tw_Vc (o := xr1) (ci := 9) (n := 1) (post := (fun v kq Lq Eq => v = none ∧ kp = kq ∧ L = Lq ∧ tw_fr kp L [(9, 1)] [100] E16 Eq ∧ (∀ i : Nat, tw_el Eq xr1 0 i = fd_ (by_c x5.toInt) (tw_el E16 xr1 0) zfxc17_0_0.toInt (zfxc17_0_0.toInt + 4) i) ∧ (∃ z0 : Int32, tw_fv Eq xr1 1 = .int z0 ∧ (z0.toInt = zfxc17_0_0.toInt + 4)))) (As := [.int x5]) (rest := []) ⟨hx, hb, hml, hown, hB⟩ (fun sz => tX9_append_vG l D cs xr1 x5 zfxc17_0_0 hmxr1 hkxr1 hzfxc17_0_0 (by  omega) sz) cg_11_105_X9_append rfl rfl (by decide +kernel) ⟨Nat.le_of_ble_eq_true rfl, Nat.le_of_ble_eq_true rfl⟩ hK hN TH hS hA rfl hmxr1 hkxr1 (by decide) rfl hl.1 rfl (Nat.le_of_ble_eq_true rfl) dX11_feed_53 ⟨Nat.le_of_ble_eq_true rfl, Nat.le_of_ble_eq_true rfl⟩ (fun v19 kp19 L19 E19 H locs hq19 hx19 TH hS => ?_)
    obtain ⟨rfl, rfl, rfl, hst19, hpoxc20_0, ⟨zfxc20_0_0, hzfxc20_0_0, hzpxc20_0⟩⟩ := hq19
    have hF := hF.tr hst19 (fun _ h => ⟨h, rfl⟩) (by decide) (by decide)
    have hmf21 : tw_fv E19 a0 0 = .ref xr1 := (hst19.1 a0 0 hm0 (by rw [hk0]; decide)).trans hmf18
    obtain ⟨qzfxc20_0_0, hqzfxc20_0_0, hqzfxc20_0_0a, hqzfxc20_0_0b⟩ := tw_rd TH hmxr1 hkxr1 (by decide) (by decide) (k := 1) rfl
    have eqzfxc20_0_0 : qzfxc20_0_0 = zfxc20_0_0 := by have q := hqzfxc20_0_0.symm.trans hzfxc20_0_0; injection q
    rw [eqzfxc20_0_0] at hqzfxc20_0_0a hqzfxc20_0_0b
    refine W.eq (g2 := F0 m 56 ls []) rfl ?_
    refine lv_aload_n hx hb dX11_feed_56 rfl (lv_at hl 0 rfl) ?_
    refine tw_get (ci := 11) (C := RX11) (T := TX11) (N := 19) hx hb hB cx_inX11 hown hK TH hm0 hk0 rfl ⟨by decide, rfl⟩ 0 (by decide) cw_383 (fun _ h9 => h9) dX11_feed_57 (fun hv => ?_)
    rw [hmf21]
    refine tw_get (ci := 9) (C := RX9) (T := TX9) (N := 5) hx hb hB cx_inX9 hown hK TH hmxr1 hkxr1 rfl ⟨by decide, rfl⟩ 1 (by decide) cw_37 (fun _ h9 => h9) dX11_feed_60 (fun hv => ?_)
    rw [hzfxc20_0_0]
    exact tw_iret hx hb hr hlocks TH hS hex ⟨⟨_, rfl, (by  rw [et0, en0]; intro _; exact ⟨by rw [tw_fi_of hzfxc20_0_0]; omega, fd5_of hpoxc8_0 hpoxc11_0 hpoxc14_0 hpoxc17_0 hpoxc20_0 (by omega) (by omega) (by omega) (by omega)⟩), (by  rw [et0, en0]; intro q; exfalso; omega)⟩, rfl, rfl, hF⟩ (Nat.le_of_ble_eq_true rfl) (Nat.le_of_ble_eq_true rfl) dX11_feed_63
  · have hf22 : xc4.toInt = 0 := by have z := (fa_eq _ _).mp hc5; have : ((0 : Int32).toInt) = 0 := (by decide); omega
    refine lv_iconst (v := (-1)) hx hb dX11_feed_12 (by decide) ?_
    exact tw_iret hx hb hr hlocks TH hS hex ⟨⟨_, rfl, (by have : (((-1) : Int32).toInt) = (-1) := (by decide); rw [et0, en0]; intro q; exfalso; omega), (by have : (((-1) : Int32).toInt) = (-1) := (by decide); rw [et0, en0]; intro _; exact ⟨rfl, rfl⟩)⟩, rfl, rfl, hF⟩ (Nat.le_of_ble_eq_true rfl) (Nat.le_of_ble_eq_true rfl) dX11_feed_13
set_option maxHeartbeats 4000000 in
set_option maxRecDepth 100000 in
theorem tX11_end_vG (l : Launch) (D : va_G) (cs : Nat → ClassId) {kp : Nat → Nat} {L : List Nat} {E : Nat → va_E} (a0 : Nat) (x1 : Int32) (hm0 : a0 ∈ L) (hk0 : kp a0 = 11) (sz : Nat) : Met l yX11_end (.code yX11_end cX11_end 2 (some .boolean) :: cx_big) { frames := 0, cells := 0, slots := 0, locals := 0 } (tw_P D cs kp L E [.ref a0, .int x1] sz) (tw_Q D cs kp L (fun v kq Lq Eq => (∃ x : Int32, v = some (.int x) ∧ 0 ≤ x.toInt ∧ x.toInt ≤ 1 ∧ ((0 ≤ x1.toInt ∧ x1.toInt ≤ (tw_fi E (tw_fa E a0 0) 1) → tw_fi Eq (tw_fa E a0 0) 1 = x1.toInt) ∧ (¬ (0 ≤ x1.toInt ∧ x1.toInt ≤ (tw_fi E (tw_fa E a0 0) 1)) → tw_fi Eq (tw_fa E a0 0) 1 = (tw_fi E (tw_fa E a0 0) 1)))) ∧ kp = kq ∧ L = Lq ∧ tw_fr kp L [(9, 1)] [] E Eq) (va_A (va_pl L E) sz)) 0 0 (va_A (va_pl L E) sz) := by
  refine tw_ofW (by decide) (Nat.le_of_ble_eq_true rfl) ?_
  intro p e s m below meth c A ls hx hb hr hml hB hown hlocks hK hN hA TH hS hl
  have hown : s.vm.findClass "TreeMerge" = some m.cls := hown
  have hl : lv_has ls 2 [(0, .ref a0), (1, .int x1)] := hl
  obtain ⟨kp0, ekp⟩ : ∃ z, z = kp := ⟨_, rfl⟩
  obtain ⟨L0, eL⟩ : ∃ z, z = L := ⟨_, rfl⟩
  rw [show tw_Q D cs kp L = tw_Q D cs kp0 L0 by rw [ekp, eL]]
  have hex : ∀ a : Nat, a ∈ L0 → a ∈ L ∧ kp a = kp0 a := fun a h => ⟨by rw [← eL]; exact h, by rw [ekp]⟩
  have hF : tw_fr kp L [(9, 1)] [] E E := tw_fr.rf
  obtain ⟨xr1, hxr1, hmxr1, hkxr1⟩ := tw_ra TH hm0 hk0 (by decide) (by decide) (k := 0) rfl
  have hkxr1 : kp xr1 = 9 := hkxr1
  obtain ⟨xi2, hxi2, hxi2a, hxi2b⟩ := tw_rd TH hmxr1 hkxr1 (by decide) (by decide) (k := 1) rfl
  have et0 : tw_fa E a0 0 = xr1 := tw_fa_of hxr1
  have en0 : tw_fi E xr1 1 = xi2.toInt := tw_fi_of hxi2
  refine lv_iload_n hx hb dX11_end_0 rfl (lv_at hl 1 rfl) ?_
  refine lv_if_lt (tgt := 15) hx hb dX11_end_1 (by decide) (fun hc3 => ?_) (fun hc3 => ?_)
  · have hf4 : x1.toInt < 0 := by have z := (fa_lt _ _).mp hc3; have : ((0 : Int32).toInt) = 0 := (by decide); omega
    refine lv_iconst (v := 0) hx hb dX11_end_15 (by decide) ?_
    exact tw_zret hx hb hr hlocks (by decide) TH hS hex ⟨⟨_, rfl, (show 0 ≤ Int32.toInt 0 from by have : ((0 : Int32).toInt) = 0 := (by decide); omega), (show Int32.toInt 0 ≤ 1 from by have : ((0 : Int32).toInt) = 0 := (by decide); omega), (by have : ((0 : Int32).toInt) = 0 := (by decide); rw [et0, en0]; (try rw [tw_fi_of hxi2]); exact ⟨fun q => (by omega), fun q => (by omega)⟩)⟩, rfl, rfl, hF⟩ (Nat.le_of_ble_eq_true rfl) (Nat.le_of_ble_eq_true rfl) dX11_end_16
  · have hf5 : ¬ (x1.toInt < 0) := fun q => hc3 ((fa_lt _ _).mpr (by have : ((0 : Int32).toInt) = 0 := (by decide); omega))
    refine lv_iload_n hx hb dX11_end_4 rfl (lv_at hl 1 rfl) ?_
    refine lv_aload_n hx hb dX11_end_5 rfl (lv_at hl 0 rfl) ?_
    refine tw_get (ci := 11) (C := RX11) (T := TX11) (N := 19) hx hb hB cx_inX11 hown hK TH hm0 hk0 rfl ⟨by decide, rfl⟩ 0 (by decide) cw_383 (fun _ h9 => h9) dX11_end_6 (fun hv => ?_)
    rw [hxr1]
    refine tw_get (ci := 9) (C := RX9) (T := TX9) (N := 5) hx hb hB cx_inX9 hown hK TH hmxr1 hkxr1 rfl ⟨by decide, rfl⟩ 1 (by decide) cw_37 (fun _ h9 => h9) dX11_end_9 (fun hv => ?_)
    rw [hxi2]
    refine lv_icmp_le (tgt := 17) hx hb dX11_end_12 (by decide) (fun hc6 => ?_) (fun hc6 => ?_)
    · have hf7 : x1.toInt ≤ xi2.toInt := by have z := (fa_le _ _).mp hc6;  omega
      refine lv_aload_n hx hb dX11_end_17 rfl (lv_at hl 0 rfl) ?_
      refine tw_get (ci := 11) (C := RX11) (T := TX11) (N := 19) hx hb hB cx_inX11 hown hK TH hm0 hk0 rfl ⟨by decide, rfl⟩ 0 (by decide) cw_383 (fun _ h9 => h9) dX11_end_18 (fun hv => ?_)
      rw [hxr1]
      refine lv_iload_n hx hb dX11_end_21 rfl (lv_at hl 1 rfl) ?_
      refine tw_put (ci := 9) (v := .int x1) (ty := .int) (C := RX9) (T := TX9) (N := 5) hx hb hB cx_inX9 tyX9 tyX9_ok nmX9 hown hK TH hS hmxr1 hkxr1 rfl ⟨by decide, rfl⟩ 1 (by decide) cw_37 (fun _ h9 => h9) rfl (by decide +kernel) rfl rfl ⟨_, rfl, (show 0 ≤ Int32.toInt x1 from by  omega), (show Int32.toInt x1 ≤ 500 from by  omega)⟩ dX11_end_22 (fun H locs E8 TH hS hmf12 hp9 hp10 => ?_)
      have hst11 : tw_fr kp L [(9, 1)] [] E E8 := tw_fr.put tw_fr.rf (fun _ => hkxr1) (by decide) hp9 hp10 (by decide)
      have hF := hF.tr hst11 (fun _ h => ⟨h, rfl⟩) (by decide) (by decide)
      have hmf13 : tw_fv E8 a0 0 = .ref xr1 := (hst11.1 a0 0 hm0 (by rw [hk0]; decide)).trans hxr1
      refine lv_iconst (v := 1) hx hb dX11_end_25 (by decide) ?_
      exact tw_zret hx hb hr hlocks (by decide) TH hS hex ⟨⟨_, rfl, (show 0 ≤ Int32.toInt 1 from by have : ((1 : Int32).toInt) = 1 := (by decide); omega), (show Int32.toInt 1 ≤ 1 from by have : ((1 : Int32).toInt) = 1 := (by decide); omega), (by have : ((1 : Int32).toInt) = 1 := (by decide); rw [et0, en0]; (try rw [tw_fi_of hmf12]); exact ⟨fun q => (by omega), fun q => (by omega)⟩)⟩, rfl, rfl, hF⟩ (Nat.le_of_ble_eq_true rfl) (Nat.le_of_ble_eq_true rfl) dX11_end_26
    · have hf14 : ¬ (x1.toInt ≤ xi2.toInt) := fun q => hc6 ((fa_le _ _).mpr (by  omega))
      refine lv_iconst (v := 0) hx hb dX11_end_15 (by decide) ?_
      exact tw_zret hx hb hr hlocks (by decide) TH hS hex ⟨⟨_, rfl, (show 0 ≤ Int32.toInt 0 from by have : ((0 : Int32).toInt) = 0 := (by decide); omega), (show Int32.toInt 0 ≤ 1 from by have : ((0 : Int32).toInt) = 0 := (by decide); omega), (by have : ((0 : Int32).toInt) = 0 := (by decide); rw [et0, en0]; (try rw [tw_fi_of hxi2]); exact ⟨fun q => (by omega), fun q => (by omega)⟩)⟩, rfl, rfl, hF⟩ (Nat.le_of_ble_eq_true rfl) (Nat.le_of_ble_eq_true rfl) dX11_end_16
set_option maxHeartbeats 4000000 in
set_option maxRecDepth 100000 in
theorem tX2_isNamed_vG (l : Launch) (D : va_G) (cs : Nat → ClassId) {kp : Nat → Nat} {L : List Nat} {E : Nat → va_E} (a0 : Nat) (x1 : Int32) (a2 : Nat) (x3 : Int32) (x4 : Int32) (hm0 : a0 ∈ L) (hk0 : kp a0 = 2) (hp1a : 0 ≤ x1.toInt) (hp1b : x1.toInt ≤ 9) (hm2 : a2 ∈ L) (hk2 : kp a2 = 100) (hp3a : 0 ≤ x3.toInt) (hp3b : x3.toInt ≤ 500) (hp4a : 0 ≤ x4.toInt) (hp4b : x4.toInt ≤ 500) (sz : Nat) : Met l yX2_isNamed (.code yX2_isNamed cX2_isNamed 7 (some .boolean) :: cx_big) { frames := 0, cells := 0, slots := 0, locals := 0 } (tw_P D cs kp L E [.ref a0, .int x1, .ref a2, .int x3, .int x4] sz) (tw_Q D cs kp L (fun v kq Lq Eq => (∃ x : Int32, v = some (.int x) ∧ 0 ≤ x.toInt ∧ x.toInt ≤ 1 ∧ (x.toInt ≠ 0 ↔ nm_is (fun j => (tw_iv E a2 j).toInt) (tw_el E a0 0) (tw_el E a0 2 (x1.toInt).toNat) (tw_el E a0 3 (x1.toInt).toNat) x3.toInt x4.toInt)) ∧ kp = kq ∧ L = Lq ∧ E = Eq) (va_A (va_pl L E) sz)) 0 0 (va_A (va_pl L E) sz) := by
  refine tw_ofW (by decide) (Nat.le_of_ble_eq_true rfl) ?_
  intro p e s m below meth c A ls hx hb hr hml hB hown hlocks hK hN hA TH hS hl
  have hown : s.vm.findClass "TreeMerge$Grammar" = some m.cls := hown
  have hl : lv_has ls 7 [(0, .ref a0), (1, .int x1), (2, .ref a2), (3, .int x3), (4, .int x4)] := hl
  obtain ⟨kp0, ekp⟩ : ∃ z, z = kp := ⟨_, rfl⟩
  obtain ⟨L0, eL⟩ : ∃ z, z = L := ⟨_, rfl⟩
  rw [show tw_Q D cs kp L = tw_Q D cs kp0 L0 by rw [ekp, eL]]
  have hex : ∀ a : Nat, a ∈ L0 → a ∈ L ∧ kp a = kp0 a := fun a h => ⟨by rw [← eL]; exact h, by rw [ekp]⟩
  refine lv_aload_n hx hb dX2_isNamed_0 rfl (lv_at hl 0 rfl) ?_
  refine tw_get (ci := 2) (C := RX2) (T := TX2) (N := 13) hx hb hB cx_inX2 hown hK TH hm0 hk0 rfl ⟨by decide, rfl⟩ 2 (by decide) cw_70 (fun _ h9 => h9) dX2_isNamed_1 (fun hv => ?_)
  obtain ⟨xr1, hxr1, hmxr1, hkxr1⟩ : ∃ a : Nat, tw_fv E a0 2 = .ref a ∧ a ∈ L ∧ kp a = 130 := hv
  rw [hxr1]
  refine lv_iload_n hx hb dX2_isNamed_4 rfl (lv_at hl 1 rfl) ?_
  refine tw_iald (k := 130) (t0 := 0) (n := 10) (lo := 0) (hi := 500) hx hb hK TH hmxr1 hkxr1 (by decide) rfl rfl (i := x1) (vp_in_iff.mpr ⟨by  omega, by  omega⟩) dX2_isNamed_5 (fun hxe2a hxe2b => ?_)
  obtain ⟨xe2, exe2⟩ : ∃ z : Int32, tw_iv E xr1 (Int32.toNatClampNeg x1) = z := ⟨_, rfl⟩
  rw [exe2] at hxe2a hxe2b ⊢
  have rf_xe2 : tw_el E a0 2 (x1.toInt).toNat = xe2.toInt := (by rw [tw_el_of hxr1]; exact congrArg Int32.toInt exe2)
  refine lv_iload_n hx hb dX2_isNamed_6 rfl (lv_at hl 3 rfl) ?_
  refine lv_isub hx hb dX2_isNamed_7 ?_
  refine lv_topi (fun zi3 ezi3 => ?_)
  have hzi3 : zi3.toInt = xe2.toInt - x3.toInt := by rw [ezi3];  have := ia_lo xe2; have := ia_hi xe2; have := ia_lo x3; have := ia_hi x3; exact (ia_sub (by omega) (by omega)).trans (by omega)
  refine lv_istore (lv' := [(5, .int zi3), (0, .ref a0), (1, .int x1), (2, .ref a2), (3, .int x3), (4, .int x4)]) hx hb dX2_isNamed_8 hl (by decide) rfl (fun ls hl => ?_)
  refine lv_aload_n hx hb dX2_isNamed_10 rfl (lv_at hl 1 rfl) ?_
  refine tw_get (ci := 2) (C := RX2) (T := TX2) (N := 13) hx hb hB cx_inX2 hown hK TH hm0 hk0 rfl ⟨by decide, rfl⟩ 3 (by decide) cw_72 (fun _ h9 => h9) dX2_isNamed_11 (fun hv => ?_)
  obtain ⟨xr4, hxr4, hmxr4, hkxr4⟩ : ∃ a : Nat, tw_fv E a0 3 = .ref a ∧ a ∈ L ∧ kp a = 137 := hv
  rw [hxr4]
  refine lv_iload_n hx hb dX2_isNamed_14 rfl (lv_at hl 2 rfl) ?_
  refine tw_iald (k := 137) (t0 := 0) (n := 10) (lo := 0) (hi := 500) hx hb hK TH hmxr4 hkxr4 (by decide) rfl rfl (i := x1) (vp_in_iff.mpr ⟨by  omega, by  omega⟩) dX2_isNamed_15 (fun hxe5a hxe5b => ?_)
  obtain ⟨xe5, exe5⟩ : ∃ z : Int32, tw_iv E xr4 (Int32.toNatClampNeg x1) = z := ⟨_, rfl⟩
  rw [exe5] at hxe5a hxe5b ⊢
  have rf_xe5 : tw_el E a0 3 (x1.toInt).toNat = xe5.toInt := (by rw [tw_el_of hxr4]; exact congrArg Int32.toInt exe5)
  refine lv_iload hx hb dX2_isNamed_16 (lv_at hl 5 rfl) ?_
  refine lv_isub hx hb dX2_isNamed_18 ?_
  refine lv_topi (fun zi6 ezi6 => ?_)
  have hzi6 : zi6.toInt = xe5.toInt - x4.toInt := by rw [ezi6];  have := ia_lo xe5; have := ia_hi xe5; have := ia_lo x4; have := ia_hi x4; exact (ia_sub (by omega) (by omega)).trans (by omega)
  refine lv_iload hx hb dX2_isNamed_19 (lv_at hl 0 rfl) ?_
  refine lv_icmp_eq (tgt := 26) hx hb dX2_isNamed_21 (by decide) (fun hc7 => ?_) (fun hc7 => ?_)
  · have hf8 : zi6.toInt = zi3.toInt := by have z := (fa_eq _ _).mp hc7;  omega
    refine lv_iload_n hx hb dX2_isNamed_26 rfl (lv_at hl 4 rfl) ?_
    refine lv_istore (lv' := [(6, .int x3), (5, .int zi3), (0, .ref a0), (1, .int x1), (2, .ref a2), (3, .int x3), (4, .int x4)]) hx hb dX2_isNamed_27 hl (by decide) rfl (fun ls hl => ?_)
    have hJ29 : ∀ (n29 : Nat) (y29_6 : Int32) (H : Heap) (locs : List Loc) (ls : Array Slot), 0 ≤ y29_6.toInt → y29_6.toInt ≤ 500 → (x3.toInt ≤ y29_6.toInt) → (nm_k (fun j => (tw_iv E a2 j).toInt) (tw_el E a0 0) (tw_el E a0 2 (x1.toInt).toNat) (x3.toInt) (y29_6.toInt)) → 500 - y29_6.toInt ≤ (n29 : Int) → tw_H D cs kp L E A H → va_S A s.heap H locs → lv_has ls 7 [(6, .int y29_6), (5, .int zi3), (0, .ref a0), (1, .int x1), (2, .ref a2), (3, .int x3), (4, .int x4)] → W p l e { frames := 0, cells := 0, slots := 0, locals := 0 } s m [.ref a0, .int x1, .ref a2, .int x3, .int x4].toArray below meth c H locs 0 0 (MQ below (tw_Q D cs kp0 L0 (fun v kq Lq Eq => (∃ x : Int32, v = some (.int x) ∧ 0 ≤ x.toInt ∧ x.toInt ≤ 1 ∧ (x.toInt ≠ 0 ↔ nm_is (fun j => (tw_iv E a2 j).toInt) (tw_el E a0 0) (tw_el E a0 2 (x1.toInt).toNat) (tw_el E a0 3 (x1.toInt).toNat) x3.toInt x4.toInt)) ∧ kp = kq ∧ L = Lq ∧ E = Eq) A) [.ref a0, .int x1, .ref a2, .int x3, .int x4].toArray s 0 0 A) (F0 m 29 ls []) := by
      intro n29
      induction n29 using Nat.strongRecOn with
      | _ n29 ih29 =>
        intro y29_6 H locs ls hy29_6a hy29_6b hin29_0 hin29_1 hmeas29 TH hS hl
        refine lv_iload hx hb dX2_isNamed_29 (lv_at hl 0 rfl) ?_
        refine lv_iload hx hb dX2_isNamed_31 (lv_at hl 6 rfl) ?_
        refine lv_icmp_ge (tgt := 61) hx hb dX2_isNamed_33 (by decide) (fun hc9 => ?_) (fun hc9 => ?_)
        · have hf10 : x4.toInt ≤ y29_6.toInt := by have z := (fa_le _ _).mp hc9;  omega
          refine lv_iconst (v := 1) hx hb dX2_isNamed_61 (by decide) ?_
          exact tw_zret hx hb hr hlocks (by decide) TH hS hex ⟨⟨_, rfl, (show 0 ≤ Int32.toInt 1 from by have : ((1 : Int32).toInt) = 1 := (by decide); omega), (show Int32.toInt 1 ≤ 1 from by have : ((1 : Int32).toInt) = 1 := (by decide); omega), (by have : ((1 : Int32).toInt) = 1 := (by decide); exact ⟨fun _ => ⟨by rw [rf_xe2, rf_xe5]; omega, fun i h1 h2 => hin29_1 i h1 (by omega)⟩, fun _ => by decide⟩)⟩, rfl, rfl, rfl⟩ (Nat.le_of_ble_eq_true rfl) (Nat.le_of_ble_eq_true rfl) dX2_isNamed_62
        · have hf11 : ¬ (x4.toInt ≤ y29_6.toInt) := fun q => hc9 ((fa_le _ _).mpr (by  omega))
          refine lv_aload_n hx hb dX2_isNamed_36 rfl (lv_at hl 4 rfl) ?_
          refine lv_iload hx hb dX2_isNamed_37 (lv_at hl 0 rfl) ?_
          refine tw_iald (k := 100) (t0 := 0) (n := 500) (lo := 0) (hi := 255) hx hb hK TH hm2 hk2 (by decide) rfl rfl (i := y29_6) (vp_in_iff.mpr ⟨by  omega, by  omega⟩) dX2_isNamed_39 (fun hxe12a hxe12b => ?_)
          obtain ⟨xe12, exe12⟩ : ∃ z : Int32, tw_iv E a2 (Int32.toNatClampNeg y29_6) = z := ⟨_, rfl⟩
          rw [exe12] at hxe12a hxe12b ⊢
          refine lv_aload_n hx hb dX2_isNamed_40 rfl (lv_at hl 2 rfl) ?_
          refine tw_get (ci := 2) (C := RX2) (T := TX2) (N := 13) hx hb hB cx_inX2 hown hK TH hm0 hk0 rfl ⟨by decide, rfl⟩ 0 (by decide) cw_66 (fun _ h9 => h9) dX2_isNamed_41 (fun hv => ?_)
          obtain ⟨xr13, hxr13, hmxr13, hkxr13⟩ : ∃ a : Nat, tw_fv E a0 0 = .ref a ∧ a ∈ L ∧ kp a = 100 := hv
          rw [hxr13]
          refine lv_iload hx hb dX2_isNamed_44 (lv_at hl 0 rfl) ?_
          refine lv_iload hx hb dX2_isNamed_46 (lv_at hl 1 rfl) ?_
          refine lv_iadd hx hb dX2_isNamed_48 ?_
          refine lv_topi (fun zi14 ezi14 => ?_)
          have hzi14 : zi14.toInt = y29_6.toInt + zi3.toInt := by rw [ezi14];  have := ia_lo y29_6; have := ia_hi y29_6; have := ia_lo zi3; have := ia_hi zi3; exact (ia_add (by omega) (by omega)).trans (by omega)
          refine tw_iald (k := 100) (t0 := 0) (n := 500) (lo := 0) (hi := 255) hx hb hK TH hmxr13 hkxr13 (by decide) rfl rfl (i := zi14) (vp_in_iff.mpr ⟨by  omega, by  omega⟩) dX2_isNamed_49 (fun hxe15a hxe15b => ?_)
          obtain ⟨xe15, exe15⟩ : ∃ z : Int32, tw_iv E xr13 (Int32.toNatClampNeg zi14) = z := ⟨_, rfl⟩
          rw [exe15] at hxe15a hxe15b ⊢
          have l1 : (tw_iv E a2 (y29_6.toInt).toNat).toInt = xe12.toInt := congrArg Int32.toInt exe12
          have l2 : tw_el E a0 0 (y29_6.toInt + (tw_el E a0 2 (x1.toInt).toNat - x3.toInt)).toNat = xe15.toInt := (by rw [rf_xe2, show (y29_6.toInt + (xe2.toInt - x3.toInt)).toNat = (zi14.toInt).toNat by omega, tw_el_of hxr13]; exact congrArg Int32.toInt exe15)
          refine lv_icmp_eq (tgt := 55) hx hb dX2_isNamed_50 (by decide) (fun hc16 => ?_) (fun hc16 => ?_)
          · have hf17 : xe12.toInt = xe15.toInt := by have z := (fa_eq _ _).mp hc16;  omega
            obtain ⟨zi18, ezi18⟩ : ∃ z : Int32, z = y29_6 + Int32.ofInt 1 := ⟨_, rfl⟩
            have hzi18 : zi18.toInt = y29_6.toInt + 1 := by rw [ezi18]; have : ((Int32.ofInt 1).toInt) = 1 := (by decide);  exact (ia_add (by omega) (by omega)).trans (by omega)
            refine lv_iinc (v := zi18) (lv' := [(6, .int zi18), (5, .int zi3), (0, .ref a0), (1, .int x1), (2, .ref a2), (3, .int x3), (4, .int x4)]) hx hb dX2_isNamed_55 hl (k := 0) rfl ezi18.symm (by decide) rfl (fun ls hl => ?_)
            refine lv_goto (tgt := 29) hx hb dX2_isNamed_58 (by decide) ?_
            exact ih29 (n29 - 1) (by   omega) zi18 _ _ ls (by omega) (by omega) (by  omega) (by  exact nm_k_push hin29_1 (by omega) (by omega) (by show (tw_iv E a2 (y29_6.toInt).toNat).toInt = _; rw [l1, l2]; omega)) (by   omega) TH hS (lv_sub hl [0, 1, 2, 3, 4, 5, 6] rfl)
          · have hf19 : ¬ (xe12.toInt = xe15.toInt) := fun q => hc16 ((fa_eq _ _).mpr (by  omega))
            refine lv_iconst (v := 0) hx hb dX2_isNamed_53 (by decide) ?_
            exact tw_zret hx hb hr hlocks (by decide) TH hS hex ⟨⟨_, rfl, (show 0 ≤ Int32.toInt 0 from by have : ((0 : Int32).toInt) = 0 := (by decide); omega), (show Int32.toInt 0 ≤ 1 from by have : ((0 : Int32).toInt) = 0 := (by decide); omega), (by have : ((0 : Int32).toInt) = 0 := (by decide); refine ⟨fun q => absurd (show ((0 : Int32).toInt) = 0 from by decide) q, fun h => ?_⟩; exfalso; have h1 := h.2 (y29_6.toInt).toNat (by omega) (by omega); have h1 : (tw_iv E a2 (y29_6.toInt).toNat).toInt = tw_el E a0 0 ((((y29_6.toInt).toNat : Nat) : Int) + (tw_el E a0 2 (x1.toInt).toNat - x3.toInt)).toNat := h1; rw [show (((y29_6.toInt).toNat : Nat) : Int) = y29_6.toInt by omega, l1, l2] at h1; omega)⟩, rfl, rfl, rfl⟩ (Nat.le_of_ble_eq_true rfl) (Nat.le_of_ble_eq_true rfl) dX2_isNamed_54
    exact hJ29 501 x3 _ _ ls (by omega) (by omega) (by  omega) (by  intro i h1 h2; exact absurd h1 (by omega)) (by   omega) TH hS (lv_sub hl [0, 1, 2, 3, 4, 5, 6] rfl)
  · have hf20 : ¬ (zi6.toInt = zi3.toInt) := fun q => hc7 ((fa_eq _ _).mpr (by  omega))
    refine lv_iconst (v := 0) hx hb dX2_isNamed_24 (by decide) ?_
    exact tw_zret hx hb hr hlocks (by decide) TH hS hex ⟨⟨_, rfl, (show 0 ≤ Int32.toInt 0 from by have : ((0 : Int32).toInt) = 0 := (by decide); omega), (show Int32.toInt 0 ≤ 1 from by have : ((0 : Int32).toInt) = 0 := (by decide); omega), (by have : ((0 : Int32).toInt) = 0 := (by decide); refine ⟨fun q => absurd (show ((0 : Int32).toInt) = 0 from by decide) q, fun h => ?_⟩; exfalso; have h1 := h.1; rw [rf_xe2, rf_xe5] at h1; omega)⟩, rfl, rfl, rfl⟩ (Nat.le_of_ble_eq_true rfl) (Nat.le_of_ble_eq_true rfl) dX2_isNamed_25
set_option maxHeartbeats 4000000 in
set_option maxRecDepth 100000 in
theorem tX2_kindOf_vG (l : Launch) (D : va_G) (cs : Nat → ClassId) {kp : Nat → Nat} {L : List Nat} {E : Nat → va_E} (a0 : Nat) (a1 : Nat) (x2 : Int32) (x3 : Int32) (fv0_1 : Int32) (hm0 : a0 ∈ L) (hk0 : kp a0 = 2) (hm1 : a1 ∈ L) (hk1 : kp a1 = 100) (hp2a : 0 ≤ x2.toInt) (hp2b : x2.toInt ≤ 500) (hp3a : 0 ≤ x3.toInt) (hp3b : x3.toInt ≤ 500) (hfv0_1 : tw_fv E a0 1 = .int fv0_1) (sz : Nat) : Met l yX2_kindOf (.code yX2_kindOf cX2_kindOf 5 (some .int) :: cx_big) { frames := 1, cells := 0, slots := 0, locals := 26 } (tw_P D cs kp L E [.ref a0, .ref a1, .int x2, .int x3] sz) (tw_Q D cs kp L (fun v kq Lq Eq => (∃ x : Int32, v = some (.int x) ∧ (-1) ≤ x.toInt ∧ x.toInt ≤ 9 ∧ (x.toInt = -1 ↔ ¬ ∃ j : Nat, (j : Int) < fv0_1.toInt ∧ nm_is (fun j => (tw_iv E a1 j).toInt) (tw_el E a0 0) (tw_el E a0 2 j) (tw_el E a0 3 j) x2.toInt x3.toInt) ∧ (x.toInt ≠ -1 → x.toInt < fv0_1.toInt)) ∧ kp = kq ∧ L = Lq ∧ E = Eq) (va_A (va_pl L E) sz)) 0 0 (va_A (va_pl L E) sz) := by
  refine tw_ofW (by decide) (Nat.le_of_ble_eq_true rfl) ?_
  intro p e s m below meth c A ls hx hb hr hml hB hown hlocks hK hN hA TH hS hl
  have hown : s.vm.findClass "TreeMerge$Grammar" = some m.cls := hown
  have hl : lv_has ls 5 [(0, .ref a0), (1, .ref a1), (2, .int x2), (3, .int x3)] := hl
  obtain ⟨kp0, ekp⟩ : ∃ z, z = kp := ⟨_, rfl⟩
  obtain ⟨L0, eL⟩ : ∃ z, z = L := ⟨_, rfl⟩
  rw [show tw_Q D cs kp L = tw_Q D cs kp0 L0 by rw [ekp, eL]]
  have hex : ∀ a : Nat, a ∈ L0 → a ∈ L ∧ kp a = kp0 a := fun a h => ⟨by rw [← eL]; exact h, by rw [ekp]⟩
  obtain ⟨qfv0_1, hqfv0_1, hqfv0_1a, hqfv0_1b⟩ := tw_rd TH hm0 hk0 (by decide) (by decide) (k := 1) rfl
  have eqfv0_1 : qfv0_1 = fv0_1 := by have q := hqfv0_1.symm.trans hfv0_1; injection q
  rw [eqfv0_1] at hqfv0_1a hqfv0_1b
  refine lv_iconst (v := 0) hx hb dX2_kindOf_0 (by decide) ?_
  refine lv_istore (lv' := [(4, .int 0), (0, .ref a0), (1, .ref a1), (2, .int x2), (3, .int x3)]) hx hb dX2_kindOf_1 hl (by decide) rfl (fun ls hl => ?_)
  have hJ3 : ∀ (n3 : Nat) (y3_4 : Int32) (H : Heap) (locs : List Loc) (ls : Array Slot), 0 ≤ y3_4.toInt → y3_4.toInt ≤ 10 → (∀ j : Nat, (j : Int) < y3_4.toInt → ¬ nm_is (fun j => (tw_iv E a1 j).toInt) (tw_el E a0 0) (tw_el E a0 2 j) (tw_el E a0 3 j) x2.toInt x3.toInt) → 10 - y3_4.toInt ≤ (n3 : Int) → tw_H D cs kp L E A H → va_S A s.heap H locs → lv_has ls 5 [(4, .int y3_4), (0, .ref a0), (1, .ref a1), (2, .int x2), (3, .int x3)] → W p l e { frames := 1, cells := 0, slots := 0, locals := 26 } s m [.ref a0, .ref a1, .int x2, .int x3].toArray below meth c H locs 0 0 (MQ below (tw_Q D cs kp0 L0 (fun v kq Lq Eq => (∃ x : Int32, v = some (.int x) ∧ (-1) ≤ x.toInt ∧ x.toInt ≤ 9 ∧ (x.toInt = -1 ↔ ¬ ∃ j : Nat, (j : Int) < fv0_1.toInt ∧ nm_is (fun j => (tw_iv E a1 j).toInt) (tw_el E a0 0) (tw_el E a0 2 j) (tw_el E a0 3 j) x2.toInt x3.toInt) ∧ (x.toInt ≠ -1 → x.toInt < fv0_1.toInt)) ∧ kp = kq ∧ L = Lq ∧ E = Eq) A) [.ref a0, .ref a1, .int x2, .int x3].toArray s 0 0 A) (F0 m 3 ls []) := by
    intro n3
    induction n3 using Nat.strongRecOn with
    | _ n3 ih3 =>
      intro y3_4 H locs ls hy3_4a hy3_4b hin3_0 hmeas3 TH hS hl
      refine lv_iload hx hb dX2_kindOf_3 (lv_at hl 0 rfl) ?_
      refine lv_aload_n hx hb dX2_kindOf_5 rfl (lv_at hl 1 rfl) ?_
      refine tw_get (ci := 2) (C := RX2) (T := TX2) (N := 13) hx hb hB cx_inX2 hown hK TH hm0 hk0 rfl ⟨by decide, rfl⟩ 1 (by decide) cw_68 (fun _ h9 => h9) dX2_kindOf_6 (fun hv => ?_)
      rw [hfv0_1]
      refine lv_icmp_ge (tgt := 33) hx hb dX2_kindOf_9 (by decide) (fun hc1 => ?_) (fun hc1 => ?_)
      · have hf2 : fv0_1.toInt ≤ y3_4.toInt := by have z := (fa_le _ _).mp hc1;  omega
        refine lv_iconst (v := (-1)) hx hb dX2_kindOf_33 (by decide) ?_
        exact tw_iret hx hb hr hlocks TH hS hex ⟨⟨_, rfl, (show (-1) ≤ Int32.toInt (-1) from by have : (((-1) : Int32).toInt) = (-1) := (by decide); omega), (show Int32.toInt (-1) ≤ 9 from by have : (((-1) : Int32).toInt) = (-1) := (by decide); omega), (by have : (((-1) : Int32).toInt) = (-1) := (by decide); refine ⟨fun _ z => ?_, fun _ => by decide⟩; obtain ⟨j, hj, hn⟩ := z; exact hin3_0 j (by omega) hn), (by have : (((-1) : Int32).toInt) = (-1) := (by decide); intro q; exact absurd (by decide) q)⟩, rfl, rfl, rfl⟩ (Nat.le_of_ble_eq_true rfl) (Nat.le_of_ble_eq_true rfl) dX2_kindOf_34
      · have hf3 : ¬ (fv0_1.toInt ≤ y3_4.toInt) := fun q => hc1 ((fa_le _ _).mpr (by  omega))
        refine lv_aload_n hx hb dX2_kindOf_12 rfl (lv_at hl 1 rfl) ?_
        refine lv_iload hx hb dX2_kindOf_13 (lv_at hl 0 rfl) ?_
        refine lv_aload_n hx hb dX2_kindOf_15 rfl (lv_at hl 2 rfl) ?_
        refine lv_iload_n hx hb dX2_kindOf_16 rfl (lv_at hl 3 rfl) ?_
        refine lv_iload_n hx hb dX2_kindOf_17 rfl (lv_at hl 4 rfl) ?_
        refine tw_Vc (o := a0) (ci := 2) (n := 4) (post := (fun v kq Lq Eq => (∃ x : Int32, v = some (.int x) ∧ 0 ≤ x.toInt ∧ x.toInt ≤ 1 ∧ (x.toInt ≠ 0 ↔ nm_is (fun j => (tw_iv E a1 j).toInt) (tw_el E a0 0) (tw_el E a0 2 (y3_4.toInt).toNat) (tw_el E a0 3 (y3_4.toInt).toNat) x2.toInt x3.toInt)) ∧ kp = kq ∧ L = Lq ∧ E = Eq)) (As := [.int y3_4, .ref a1, .int x2, .int x3]) (rest := []) ⟨hx, hb, hml, hown, hB⟩ (fun sz => tX2_isNamed_vG l D cs a0 y3_4 a1 x2 x3 hm0 hk0 (by omega) (by omega) hm1 hk1 (by omega) (by omega) (by omega) (by omega) sz) cg_2_102_X2_isNamed rfl rfl (by decide +kernel) ⟨Nat.le_of_ble_eq_true rfl, Nat.le_of_ble_eq_true rfl⟩ hK hN TH hS hA rfl hm0 hk0 (by decide) rfl hl.1 rfl (Nat.le_of_ble_eq_true rfl) dX2_kindOf_18 ⟨Nat.le_of_ble_eq_true rfl, Nat.le_of_ble_eq_true rfl⟩ (fun v4 kp4 L4 E4 H locs hq4 hx4 TH hS => ?_)
        obtain ⟨⟨xc5, rfl, hxc5a, hxc5b, hpoxc5_0⟩, rfl, rfl, rfl⟩ := hq4
        refine W.eq (g2 := F0 m 21 ls [.int xc5]) rfl ?_
        refine lv_if_eq (tgt := 27) hx hb dX2_kindOf_21 (by decide) (fun hc6 => ?_) (fun hc6 => ?_)
        · have hf7 : xc5.toInt = 0 := by have z := (fa_eq _ _).mp hc6; have : ((0 : Int32).toInt) = 0 := (by decide); omega
          obtain ⟨zi8, ezi8⟩ : ∃ z : Int32, z = y3_4 + Int32.ofInt 1 := ⟨_, rfl⟩
          have hzi8 : zi8.toInt = y3_4.toInt + 1 := by rw [ezi8]; have : ((Int32.ofInt 1).toInt) = 1 := (by decide);  exact (ia_add (by omega) (by omega)).trans (by omega)
          refine lv_iinc (v := zi8) (lv' := [(4, .int zi8), (0, .ref a0), (1, .ref a1), (2, .int x2), (3, .int x3)]) hx hb dX2_kindOf_27 hl (k := 0) rfl ezi8.symm (by decide) rfl (fun ls hl => ?_)
          refine lv_goto (tgt := 3) hx hb dX2_kindOf_30 (by decide) ?_
          exact ih3 (n3 - 1) (by   omega) zi8 _ _ ls (by omega) (by omega) (by  intro j hj; by_cases e : j = (y3_4.toInt).toNat; (subst e; intro z; have w := hpoxc5_0.2 z; omega); exact hin3_0 j (by omega)) (by   omega) TH hS (lv_sub hl [0, 1, 2, 3, 4] rfl)
        · have hf9 : ¬ (xc5.toInt = 0) := fun q => hc6 ((fa_eq _ _).mpr (by have : ((0 : Int32).toInt) = 0 := (by decide); omega))
          refine lv_iload hx hb dX2_kindOf_24 (lv_at hl 0 rfl) ?_
          exact tw_iret hx hb hr hlocks TH hS hex ⟨⟨_, rfl, (show (-1) ≤ Int32.toInt y3_4 from by  omega), (show Int32.toInt y3_4 ≤ 9 from by  omega), (by  refine ⟨fun q => (by exfalso; omega), fun z => absurd ⟨(y3_4.toInt).toNat, by omega, hpoxc5_0.1 (by omega)⟩ z⟩), (by  intro q; omega)⟩, rfl, rfl, rfl⟩ (Nat.le_of_ble_eq_true rfl) (Nat.le_of_ble_eq_true rfl) dX2_kindOf_26
  exact hJ3 11 (0 : Int32) _ _ ls (by have : ((0 : Int32).toInt) = 0 := (by decide); omega) (by have : ((0 : Int32).toInt) = 0 := (by decide); omega) (by have : ((0 : Int32).toInt) = 0 := (by decide); intro j hj; exact absurd hj (by omega)) (by have : ((0 : Int32).toInt) = 0 := (by decide);  omega) TH hS (lv_sub hl [0, 1, 2, 3, 4] rfl)
set_option maxHeartbeats 4000000 in
set_option maxRecDepth 100000 in
theorem tX2_kindAt_vG (l : Launch) (D : va_G) (cs : Nat → ClassId) {kp : Nat → Nat} {L : List Nat} {E : Nat → va_E} (a0 : Nat) (a1 : Nat) (fv1_1 : Int32) (fv0_1 : Int32) (fv1_4 : Int32) (fv1_3 : Int32) (hm0 : a0 ∈ L) (hk0 : kp a0 = 2) (hm1 : a1 ∈ L) (hk1 : kp a1 = 9) (hfv1_1 : tw_fv E a1 1 = .int fv1_1) (hfv0_1 : tw_fv E a0 1 = .int fv0_1) (hfv1_4 : tw_fv E a1 4 = .int fv1_4) (hfv1_3 : tw_fv E a1 3 = .int fv1_3) (hpre0 : ib fv1_1.toInt (prs (tw_el E a0 2) (tw_el E a0 3) (fv0_1.toInt))) (hpre1 : fv1_4.toInt ≤ fv1_1.toInt) (hg0 : ctx_ok E a0 a1) (sz : Nat) : Met l yX2_kindAt (.code yX2_kindAt cX2_kindAt 2 (some .int) :: cx_big) { frames := 2, cells := 0, slots := 0, locals := 50 } (tw_P D cs kp L E [.ref a0, .ref a1] sz) (tw_Q D cs kp L (fun v kq Lq Eq => (∃ x : Int32, v = some (.int x) ∧ (-1) ≤ x.toInt ∧ x.toInt ≤ 9 ∧ (x.toInt = -1 ↔ ¬ gy_nm (tw_el E a1 0) (prs (tw_el E a0 2) (tw_el E a0 3) (fv0_1.toInt)) (fv1_3.toInt, fv1_4.toInt))) ∧ kp = kq ∧ L = Lq ∧ E = Eq) (va_A (va_pl L E) sz)) 0 0 (va_A (va_pl L E) sz) := by
  refine tw_ofW (by decide) (Nat.le_of_ble_eq_true rfl) ?_
  intro p e s m below meth c A ls hx hb hr hml hB hown hlocks hK hN hA TH hS hl
  have hown : s.vm.findClass "TreeMerge$Grammar" = some m.cls := hown
  have hl : lv_has ls 2 [(0, .ref a0), (1, .ref a1)] := hl
  obtain ⟨kp0, ekp⟩ : ∃ z, z = kp := ⟨_, rfl⟩
  obtain ⟨L0, eL⟩ : ∃ z, z = L := ⟨_, rfl⟩
  rw [show tw_Q D cs kp L = tw_Q D cs kp0 L0 by rw [ekp, eL]]
  have hex : ∀ a : Nat, a ∈ L0 → a ∈ L ∧ kp a = kp0 a := fun a h => ⟨by rw [← eL]; exact h, by rw [ekp]⟩
  obtain ⟨qfv1_1, hqfv1_1, hqfv1_1a, hqfv1_1b⟩ := tw_rd TH hm1 hk1 (by decide) (by decide) (k := 1) rfl
  have eqfv1_1 : qfv1_1 = fv1_1 := by have q := hqfv1_1.symm.trans hfv1_1; injection q
  rw [eqfv1_1] at hqfv1_1a hqfv1_1b
  obtain ⟨qfv0_1, hqfv0_1, hqfv0_1a, hqfv0_1b⟩ := tw_rd TH hm0 hk0 (by decide) (by decide) (k := 1) rfl
  have eqfv0_1 : qfv0_1 = fv0_1 := by have q := hqfv0_1.symm.trans hfv0_1; injection q
  rw [eqfv0_1] at hqfv0_1a hqfv0_1b
  obtain ⟨qfv1_4, hqfv1_4, hqfv1_4a, hqfv1_4b⟩ := tw_rd TH hm1 hk1 (by decide) (by decide) (k := 4) rfl
  have eqfv1_4 : qfv1_4 = fv1_4 := by have q := hqfv1_4.symm.trans hfv1_4; injection q
  rw [eqfv1_4] at hqfv1_4a hqfv1_4b
  obtain ⟨qfv1_3, hqfv1_3, hqfv1_3a, hqfv1_3b⟩ := tw_rd TH hm1 hk1 (by decide) (by decide) (k := 3) rfl
  have eqfv1_3 : qfv1_3 = fv1_3 := by have q := hqfv1_3.symm.trans hfv1_3; injection q
  rw [eqfv1_3] at hqfv1_3a hqfv1_3b
  refine lv_aload_n hx hb dX2_kindAt_0 rfl (lv_at hl 0 rfl) ?_
  refine lv_aload_n hx hb dX2_kindAt_1 rfl (lv_at hl 1 rfl) ?_
  refine tw_get (ci := 9) (C := RX9) (T := TX9) (N := 5) hx hb hB cx_inX9 hown hK TH hm1 hk1 rfl ⟨by decide, rfl⟩ 0 (by decide) cw_35 (fun _ h9 => h9) dX2_kindAt_2 (fun hv => ?_)
  obtain ⟨xr1, hxr1, hmxr1, hkxr1⟩ : ∃ a : Nat, tw_fv E a1 0 = .ref a ∧ a ∈ L ∧ kp a = 100 := hv
  rw [hxr1]
  refine lv_aload_n hx hb dX2_kindAt_5 rfl (lv_at hl 1 rfl) ?_
  refine tw_get (ci := 9) (C := RX9) (T := TX9) (N := 5) hx hb hB cx_inX9 hown hK TH hm1 hk1 rfl ⟨by decide, rfl⟩ 3 (by decide) cw_44 (fun _ h9 => h9) dX2_kindAt_6 (fun hv => ?_)
  rw [hfv1_3]
  refine lv_aload_n hx hb dX2_kindAt_9 rfl (lv_at hl 1 rfl) ?_
  refine tw_get (ci := 9) (C := RX9) (T := TX9) (N := 5) hx hb hB cx_inX9 hown hK TH hm1 hk1 rfl ⟨by decide, rfl⟩ 4 (by decide) cw_47 (fun _ h9 => h9) dX2_kindAt_10 (fun hv => ?_)
  rw [hfv1_4]
  refine tw_Vc (o := a0) (ci := 2) (n := 3) (post := (fun v kq Lq Eq => (∃ x : Int32, v = some (.int x) ∧ (-1) ≤ x.toInt ∧ x.toInt ≤ 9 ∧ (x.toInt = -1 ↔ ¬ ∃ j : Nat, (j : Int) < fv0_1.toInt ∧ nm_is (fun j => (tw_iv E xr1 j).toInt) (tw_el E a0 0) (tw_el E a0 2 j) (tw_el E a0 3 j) fv1_3.toInt fv1_4.toInt) ∧ (x.toInt ≠ -1 → x.toInt < fv0_1.toInt)) ∧ kp = kq ∧ L = Lq ∧ E = Eq)) (As := [.ref xr1, .int fv1_3, .int fv1_4]) (rest := []) ⟨hx, hb, hml, hown, hB⟩ (fun sz => tX2_kindOf_vG l D cs a0 xr1 fv1_3 fv1_4 fv0_1 hm0 hk0 hmxr1 hkxr1 (by omega) (by omega) (by omega) (by omega) hfv0_1 sz) cg_2_98_X2_kindOf rfl rfl (by decide +kernel) ⟨Nat.le_of_ble_eq_true rfl, Nat.le_of_ble_eq_true rfl⟩ hK hN TH hS hA rfl hm0 hk0 (by decide) rfl hl.1 rfl (Nat.le_of_ble_eq_true rfl) dX2_kindAt_13 ⟨Nat.le_of_ble_eq_true rfl, Nat.le_of_ble_eq_true rfl⟩ (fun v2 kp2 L2 E2 H locs hq2 hx2 TH hS => ?_)
  obtain ⟨⟨xc3, rfl, hxc3a, hxc3b, hpoxc3_0, hpoxc3_1⟩, rfl, rfl, rfl⟩ := hq2
  refine W.eq (g2 := F0 m 16 ls [.int xc3]) rfl ?_
  exact tw_iret hx hb hr hlocks TH hS hex ⟨⟨_, rfl, (show (-1) ≤ Int32.toInt xc3 from by  omega), (show Int32.toInt xc3 ≤ 9 from by  omega), (by  rw [← nm_iff (r := fun j => (tw_iv E xr1 j).toInt) (u := tw_el E a0 0) (n := fv1_1.toInt) (fun i _ => (tw_el_of hxr1 i).symm) (fun i hi => hg0 i (by rw [tw_fi_of hfv1_1]; exact hi)) hpre0 (by omega) hpre1]; exact hpoxc3_0)⟩, rfl, rfl, rfl⟩ (Nat.le_of_ble_eq_true rfl) (Nat.le_of_ble_eq_true rfl) dX2_kindAt_16
set_option maxHeartbeats 4000000 in
set_option maxRecDepth 100000 in
theorem tX2_kindAt_vK (l : Launch) (D : va_G) (cs : Nat → ClassId) {kp : Nat → Nat} {L : List Nat} {E : Nat → va_E} (a0 : Nat) (a1 : Nat) (fv0_1 : Int32) (hm0 : a0 ∈ L) (hk0 : kp a0 = 2) (hm1 : a1 ∈ L) (hk1 : kp a1 = 9) (hfv0_1 : tw_fv E a0 1 = .int fv0_1) (sz : Nat) : Met l yX2_kindAt (.code yX2_kindAt cX2_kindAt 2 (some .int) :: cx_big) { frames := 2, cells := 0, slots := 0, locals := 50 } (tw_P D cs kp L E [.ref a0, .ref a1] sz) (tw_Q D cs kp L (fun v kq Lq Eq => (∃ x : Int32, v = some (.int x) ∧ (-1) ≤ x.toInt ∧ x.toInt ≤ 9 ∧ (x.toInt ≠ -1 → x.toInt < fv0_1.toInt)) ∧ kp = kq ∧ L = Lq ∧ E = Eq) (va_A (va_pl L E) sz)) 0 0 (va_A (va_pl L E) sz) := by
  refine tw_ofW (by decide) (Nat.le_of_ble_eq_true rfl) ?_
  intro p e s m below meth c A ls hx hb hr hml hB hown hlocks hK hN hA TH hS hl
  have hown : s.vm.findClass "TreeMerge$Grammar" = some m.cls := hown
  have hl : lv_has ls 2 [(0, .ref a0), (1, .ref a1)] := hl
  obtain ⟨kp0, ekp⟩ : ∃ z, z = kp := ⟨_, rfl⟩
  obtain ⟨L0, eL⟩ : ∃ z, z = L := ⟨_, rfl⟩
  rw [show tw_Q D cs kp L = tw_Q D cs kp0 L0 by rw [ekp, eL]]
  have hex : ∀ a : Nat, a ∈ L0 → a ∈ L ∧ kp a = kp0 a := fun a h => ⟨by rw [← eL]; exact h, by rw [ekp]⟩
  obtain ⟨qfv0_1, hqfv0_1, hqfv0_1a, hqfv0_1b⟩ := tw_rd TH hm0 hk0 (by decide) (by decide) (k := 1) rfl
  have eqfv0_1 : qfv0_1 = fv0_1 := by have q := hqfv0_1.symm.trans hfv0_1; injection q
  rw [eqfv0_1] at hqfv0_1a hqfv0_1b
  refine lv_aload_n hx hb dX2_kindAt_0 rfl (lv_at hl 0 rfl) ?_
  refine lv_aload_n hx hb dX2_kindAt_1 rfl (lv_at hl 1 rfl) ?_
  refine tw_get (ci := 9) (C := RX9) (T := TX9) (N := 5) hx hb hB cx_inX9 hown hK TH hm1 hk1 rfl ⟨by decide, rfl⟩ 0 (by decide) cw_35 (fun _ h9 => h9) dX2_kindAt_2 (fun hv => ?_)
  obtain ⟨xr1, hxr1, hmxr1, hkxr1⟩ : ∃ a : Nat, tw_fv E a1 0 = .ref a ∧ a ∈ L ∧ kp a = 100 := hv
  rw [hxr1]
  refine lv_aload_n hx hb dX2_kindAt_5 rfl (lv_at hl 1 rfl) ?_
  refine tw_get (ci := 9) (C := RX9) (T := TX9) (N := 5) hx hb hB cx_inX9 hown hK TH hm1 hk1 rfl ⟨by decide, rfl⟩ 3 (by decide) cw_44 (fun _ h9 => h9) dX2_kindAt_6 (fun hv => ?_)
  obtain ⟨xi2, hxi2, hxi2a, hxi2b⟩ : ∃ x : Int32, tw_fv E a1 3 = .int x ∧ 0 ≤ x.toInt ∧ x.toInt ≤ 500 := hv
  rw [hxi2]
  refine lv_aload_n hx hb dX2_kindAt_9 rfl (lv_at hl 1 rfl) ?_
  refine tw_get (ci := 9) (C := RX9) (T := TX9) (N := 5) hx hb hB cx_inX9 hown hK TH hm1 hk1 rfl ⟨by decide, rfl⟩ 4 (by decide) cw_47 (fun _ h9 => h9) dX2_kindAt_10 (fun hv => ?_)
  obtain ⟨xi3, hxi3, hxi3a, hxi3b⟩ : ∃ x : Int32, tw_fv E a1 4 = .int x ∧ 0 ≤ x.toInt ∧ x.toInt ≤ 500 := hv
  rw [hxi3]
  refine tw_Vc (o := a0) (ci := 2) (n := 3) (post := (fun v kq Lq Eq => (∃ x : Int32, v = some (.int x) ∧ (-1) ≤ x.toInt ∧ x.toInt ≤ 9 ∧ (x.toInt = -1 ↔ ¬ ∃ j : Nat, (j : Int) < fv0_1.toInt ∧ nm_is (fun j => (tw_iv E xr1 j).toInt) (tw_el E a0 0) (tw_el E a0 2 j) (tw_el E a0 3 j) xi2.toInt xi3.toInt) ∧ (x.toInt ≠ -1 → x.toInt < fv0_1.toInt)) ∧ kp = kq ∧ L = Lq ∧ E = Eq)) (As := [.ref xr1, .int xi2, .int xi3]) (rest := []) ⟨hx, hb, hml, hown, hB⟩ (fun sz => tX2_kindOf_vG l D cs a0 xr1 xi2 xi3 fv0_1 hm0 hk0 hmxr1 hkxr1 (by omega) (by omega) (by omega) (by omega) hfv0_1 sz) cg_2_98_X2_kindOf rfl rfl (by decide +kernel) ⟨Nat.le_of_ble_eq_true rfl, Nat.le_of_ble_eq_true rfl⟩ hK hN TH hS hA rfl hm0 hk0 (by decide) rfl hl.1 rfl (Nat.le_of_ble_eq_true rfl) dX2_kindAt_13 ⟨Nat.le_of_ble_eq_true rfl, Nat.le_of_ble_eq_true rfl⟩ (fun v4 kp4 L4 E4 H locs hq4 hx4 TH hS => ?_)
  obtain ⟨⟨xc5, rfl, hxc5a, hxc5b, hpoxc5_0, hpoxc5_1⟩, rfl, rfl, rfl⟩ := hq4
  refine W.eq (g2 := F0 m 16 ls [.int xc5]) rfl ?_
  exact tw_iret hx hb hr hlocks TH hS hex ⟨⟨_, rfl, (show (-1) ≤ Int32.toInt xc5 from by  omega), (show Int32.toInt xc5 ≤ 9 from by  omega), (by  exact hpoxc5_1)⟩, rfl, rfl, rfl⟩ (Nat.le_of_ble_eq_true rfl) (Nat.le_of_ble_eq_true rfl) dX2_kindAt_16
