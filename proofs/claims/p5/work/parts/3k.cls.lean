set_option maxHeartbeats 4000000 in
set_option maxRecDepth 100000 in
theorem tX12_secondQuarrels (l : Launch) (D : va_G) (cs : Nat → ClassId) {kp : Nat → Nat} {L : List Nat} {E : Nat → va_E} (a0 : Nat) (fv0_57 : Int32) (hm0 : a0 ∈ L) (hk0 : kp a0 = 12) (hfv0_57 : tw_fv E a0 57 = .int fv0_57) (hpre0 : fv0_57.toInt = 0) (sz : Nat) : Met l yX12_secondQuarrels (.code yX12_secondQuarrels cX12_secondQuarrels 2 none :: cx_big) { frames := 2, cells := 0, slots := 0, locals := 46 } (tw_P D cs kp L E [.ref a0] sz) (tw_Q D cs kp L (fun v kq Lq Eq => v = none ∧ kp = kq ∧ L = Lq ∧ tw_fr kp L [(12, 57)] [359] E Eq ∧ (tw_fi Eq a0 57 = 0 → lr_all (rw_h E a0 13) (rw_p E a0 13) 150 ∧ rt_size (rw_h E a0 13) ≤ 40) ∧ (∃ z0 : Int32, tw_fv Eq a0 57 = .int z0 ∧ (z0.toInt ≤ 151))) (va_A (va_pl L E) sz)) 0 0 (va_A (va_pl L E) sz) := by
  refine tw_ofW (by decide) (Nat.le_of_ble_eq_true rfl) ?_
  intro p e s m below meth c A ls hx hb hr hml hB hown hlocks hK hN hA TH hS hl
  have hown : s.vm.findClass "TreeMergeModel" = some m.cls := hown
  have hl : lv_has ls 2 [(0, .ref a0)] := hl
  obtain ⟨kp0, ekp⟩ : ∃ z, z = kp := ⟨_, rfl⟩
  obtain ⟨L0, eL⟩ : ∃ z, z = L := ⟨_, rfl⟩
  rw [show tw_Q D cs kp L = tw_Q D cs kp0 L0 by rw [ekp, eL]]
  have hex : ∀ a : Nat, a ∈ L0 → a ∈ L ∧ kp a = kp0 a := fun a h => ⟨by rw [← eL]; exact h, by rw [ekp]⟩
  have hF : tw_fr kp L [(12, 57)] [359] E E := tw_fr.rf
  obtain ⟨qfv0_57, hqfv0_57, hqfv0_57a, hqfv0_57b⟩ := tw_rd TH hm0 hk0 (by decide) (by decide) (k := 57) rfl
  have eqfv0_57 : qfv0_57 = fv0_57 := by have q := hqfv0_57.symm.trans hfv0_57; injection q
  rw [eqfv0_57] at hqfv0_57a hqfv0_57b
  refine lv_iconst (v := 0) hx hb dX12_secondQuarrels_0 (by decide) ?_
  refine lv_istore_n (lv' := [(1, .int 0), (0, .ref a0)]) hx hb dX12_secondQuarrels_1 rfl hl (by decide) rfl (fun ls hl => ?_)
  have hJ2 : ∀ (n2 : Nat) (y2_1 : Int32) (u2_0_57 : Int32) (Eg2 : Nat → va_E) (H : Heap) (locs : List Loc) (ls : Array Slot), 0 ≤ y2_1.toInt → y2_1.toInt ≤ 150 → 0 ≤ u2_0_57.toInt → u2_0_57.toInt ≤ 1200 → (u2_0_57.toInt ≤ y2_1.toInt) → (u2_0_57.toInt = 0 → lr_all (rw_h E a0 13) (rw_p E a0 13) (y2_1.toInt)) → 150 - y2_1.toInt ≤ (n2 : Int) → tw_fv Eg2 a0 57 = .int u2_0_57 → tw_fr kp L [(12, 57)] [359] E Eg2 → tw_H D cs kp L Eg2 A H → va_S A s.heap H locs → lv_has ls 2 [(1, .int y2_1), (0, .ref a0)] → W p l e { frames := 2, cells := 0, slots := 0, locals := 46 } s m [.ref a0].toArray below meth c H locs 0 0 (MQ below (tw_Q D cs kp0 L0 (fun v kq Lq Eq => v = none ∧ kp = kq ∧ L = Lq ∧ tw_fr kp L [(12, 57)] [359] E Eq ∧ (tw_fi Eq a0 57 = 0 → lr_all (rw_h E a0 13) (rw_p E a0 13) 150 ∧ rt_size (rw_h E a0 13) ≤ 40) ∧ (∃ z0 : Int32, tw_fv Eq a0 57 = .int z0 ∧ (z0.toInt ≤ 151))) A) [.ref a0].toArray s 0 0 A) (F0 m 2 ls []) := by
    intro n2
    induction n2 using Nat.strongRecOn with
    | _ n2 ih2 =>
      intro y2_1 u2_0_57 Eg2 H locs ls hy2_1a hy2_1b hu2_0_57a hu2_0_57b hin2_0 hin2_1 hmeas2 hfm2_0 hG2 TH hS hl
      have hF := hF.tr hG2 (fun _ h => ⟨h, rfl⟩) (by decide) (by decide)
      refine lv_iload_n hx hb dX12_secondQuarrels_2 rfl (lv_at hl 0 rfl) ?_
      refine lv_sipush (v := 150) hx hb dX12_secondQuarrels_3 (by decide) ?_
      refine lv_icmp_ge (tgt := 41) hx hb dX12_secondQuarrels_6 (by decide) (fun hc1 => ?_) (fun hc1 => ?_)
      · have hf2 : 150 ≤ y2_1.toInt := by have z := (fa_le _ _).mp hc1; have : ((150 : Int32).toInt) = 150 := (by decide); omega
        refine lv_aload_n hx hb dX12_secondQuarrels_41 rfl (lv_at hl 1 rfl) ?_
        refine lv_bipush (v := 13) hx hb dX12_secondQuarrels_42 (by decide) ?_
        refine tw_Vc (o := a0) (ci := 12) (n := 1) (post := (fun v kq Lq Eq => (∃ x : Int32, v = some (.int x) ∧ 0 ≤ x.toInt ∧ x.toInt ≤ 150 ∧ (x.toInt = (rt_size (rw_h Eg2 a0 (13 : Int32).toInt) : Int))) ∧ kp = kq ∧ L = Lq ∧ Eg2 = Eq)) (As := [.int 13]) (rest := []) ⟨hx, hb, hml, hown, hB⟩ (fun sz => tX12_size l D cs a0 (13 : Int32) hm0 hk0 (by have : ((13 : Int32).toInt) = 13 := (by decide); omega) (by have : ((13 : Int32).toInt) = 13 := (by decide); omega) sz) cg_12_432_X12_size rfl rfl (by decide +kernel) ⟨Nat.le_of_ble_eq_true rfl, Nat.le_of_ble_eq_true rfl⟩ hK hN TH hS hA rfl hm0 hk0 (by decide) rfl hl.1 rfl (Nat.le_of_ble_eq_true rfl) dX12_secondQuarrels_44 ⟨Nat.le_of_ble_eq_true rfl, Nat.le_of_ble_eq_true rfl⟩ (fun v3 kp3 L3 E3 H locs hq3 hx3 TH hS => ?_)
        obtain ⟨⟨xc4, rfl, hxc4a, hxc4b, hpoxc4_0⟩, rfl, rfl, rfl⟩ := hq3
        refine W.eq (g2 := F0 m 47 ls [.int xc4]) rfl ?_
        refine lv_bipush (v := 40) hx hb dX12_secondQuarrels_47 (by decide) ?_
        refine lv_icmp_le (tgt := 62) hx hb dX12_secondQuarrels_49 (by decide) (fun hc5 => ?_) (fun hc5 => ?_)
        · have hf6 : xc4.toInt ≤ 40 := by have z := (fa_le _ _).mp hc5; have : ((40 : Int32).toInt) = 40 := (by decide); omega
          exact tw_vret hx hb hr hlocks TH hS hex ⟨rfl, rfl, rfl, hF, (by  intro q0; rw [tw_fi_of hfm2_0] at q0; have fh := rw_h_fr TH hF hm0 hk0 (by decide) (by decide) (by decide) (i := 13) (by decide); have fp := rw_p_fr TH hF hm0 hk0 (by decide) (by decide) (by decide) (i := 13) (by decide); have e13 : ((13 : Int32).toInt) = 13 := (by decide); have sz := hpoxc4_0; rw [e13, fh] at sz; have la := hin2_1 q0; rw [show y2_1.toInt = 150 by omega] at la; exact ⟨la, by omega⟩), ⟨u2_0_57, hfm2_0, by  omega⟩⟩ (Nat.le_of_ble_eq_true rfl) (Nat.le_of_ble_eq_true rfl) dX12_secondQuarrels_62
        · have hf7 : ¬ (xc4.toInt ≤ 40) := fun q => hc5 ((fa_le _ _).mpr (by have : ((40 : Int32).toInt) = 40 := (by decide); omega))
          refine lv_aload_n hx hb dX12_secondQuarrels_52 rfl (lv_at hl 1 rfl) ?_
          refine lv_bipush (v := 8) hx hb dX12_secondQuarrels_53 (by decide) ?_
          refine lv_aload_n hx hb dX12_secondQuarrels_55 rfl (lv_at hl 1 rfl) ?_
          refine tw_Vc (o := a0) (ci := 12) (n := 0) (post := (fun v kq Lq Eq => (∃ x : Int32, v = some (.int x) ∧ 0 ≤ x.toInt ∧ x.toInt ≤ 149) ∧ kp = kq ∧ L = Lq ∧ Eg2 = Eq)) (As := []) (rest := [.int 8, .ref a0]) ⟨hx, hb, hml, hown, hB⟩ (fun sz => tX12_outermost l D cs a0 hm0 hk0 sz) cg_12_483_X12_outermost rfl rfl (by decide +kernel) ⟨Nat.le_of_ble_eq_true rfl, Nat.le_of_ble_eq_true rfl⟩ hK hN TH hS hA rfl hm0 hk0 (by decide) rfl hl.1 rfl (Nat.le_of_ble_eq_true rfl) dX12_secondQuarrels_56 ⟨Nat.le_of_ble_eq_true rfl, Nat.le_of_ble_eq_true rfl⟩ (fun v8 kp8 L8 E8 H locs hq8 hx8 TH hS => ?_)
          obtain ⟨⟨xc9, rfl, hxc9a, hxc9b⟩, rfl, rfl, rfl⟩ := hq8
          refine W.eq (g2 := F0 m 59 ls [.int xc9, .int 8, .ref a0]) rfl ?_
          refine tw_Vc (o := a0) (ci := 12) (n := 2) (post := (fun v kq Lq Eq => v = none ∧ kp = kq ∧ L = Lq ∧ tw_fr kp L [(12, 57)] [359] Eg2 Eq ∧ (∃ z0 : Int32, tw_fv Eq a0 57 = .int z0 ∧ (z0.toInt = u2_0_57.toInt + 1)))) (As := [.int 8, .int xc9]) (rest := []) ⟨hx, hb, hml, hown, hB⟩ (fun sz => tX12_quarrels l D cs a0 (8 : Int32) xc9 u2_0_57 hm0 hk0 hfm2_0 (by have : ((8 : Int32).toInt) = 8 := (by decide); omega) sz) cg_12_468_X12_quarrels rfl rfl (by decide +kernel) ⟨Nat.le_of_ble_eq_true rfl, Nat.le_of_ble_eq_true rfl⟩ hK hN TH hS hA rfl hm0 hk0 (by decide) rfl hl.1 rfl (Nat.le_of_ble_eq_true rfl) dX12_secondQuarrels_59 ⟨Nat.le_of_ble_eq_true rfl, Nat.le_of_ble_eq_true rfl⟩ (fun v10 kp10 L10 E10 H locs hq10 hx10 TH hS => ?_)
          obtain ⟨rfl, rfl, rfl, hst10, ⟨zfxc11_0_0, hzfxc11_0_0, hzpxc11_0⟩⟩ := hq10
          have hF := hF.tr hst10 (fun _ h => ⟨h, rfl⟩) (by decide) (by decide)
          have hG2 := hG2.tr hst10 (fun _ h => ⟨h, rfl⟩) (by decide) (by decide)
          obtain ⟨qzfxc11_0_0, hqzfxc11_0_0, hqzfxc11_0_0a, hqzfxc11_0_0b⟩ := tw_rd TH hm0 hk0 (by decide) (by decide) (k := 57) rfl
          have eqzfxc11_0_0 : qzfxc11_0_0 = zfxc11_0_0 := by have q := hqzfxc11_0_0.symm.trans hzfxc11_0_0; injection q
          rw [eqzfxc11_0_0] at hqzfxc11_0_0a hqzfxc11_0_0b
          refine W.eq (g2 := F0 m 62 ls []) rfl ?_
          exact tw_vret hx hb hr hlocks TH hS hex ⟨rfl, rfl, rfl, hF, (by  intro q0; rw [tw_fi_of hzfxc11_0_0] at q0; exfalso; omega), ⟨zfxc11_0_0, hzfxc11_0_0, by  omega⟩⟩ (Nat.le_of_ble_eq_true rfl) (Nat.le_of_ble_eq_true rfl) dX12_secondQuarrels_62
      · have hf12 : ¬ (150 ≤ y2_1.toInt) := fun q => hc1 ((fa_le _ _).mpr (by have : ((150 : Int32).toInt) = 150 := (by decide); omega))
        refine lv_aload_n hx hb dX12_secondQuarrels_9 rfl (lv_at hl 1 rfl) ?_
        refine tw_get (ci := 12) (C := RX12) (T := TX12) (N := 64) hx hb hB cx_inX12 hown hK TH hm0 hk0 rfl ⟨by decide, rfl⟩ 16 (by decide) cw_1209 (fun _ h9 => h9) dX12_secondQuarrels_10 (fun hv => ?_)
        obtain ⟨xr13, hxr13, hmxr13, hkxr13⟩ : ∃ a : Nat, tw_fv Eg2 a0 16 = .ref a ∧ a ∈ L ∧ kp a = 316 := hv
        rw [hxr13]
        refine lv_bipush (v := 13) hx hb dX12_secondQuarrels_13 (by decide) ?_
        refine tw_aald (k := 316) (t0 := 5) (n := 16) (lo := 326) (hi := 0) (ty := .boolean) hx hb hK TH hmxr13 hkxr13 (by decide) rfl rfl (i := 13) (vp_in_iff.mpr ⟨by have : ((13 : Int32).toInt) = 13 := (by decide); omega, by have : ((13 : Int32).toInt) = 13 := (by decide); omega⟩) dX12_secondQuarrels_15 (fun xr14 exr14 hmxr14 hkxr14 => ?_)
        have hkxr14 : kp xr14 = 326 := hkxr14
        refine lv_iload_n hx hb dX12_secondQuarrels_16 rfl (lv_at hl 0 rfl) ?_
        refine tw_zald (k := 326) (t0 := 3) (n := 150) (lo := 0) (hi := 1) hx hb hK TH hmxr14 hkxr14 (by decide) rfl rfl (i := y2_1) (vp_in_iff.mpr ⟨by  omega, by  omega⟩) dX12_secondQuarrels_17 (fun hxe15a hxe15b => ?_)
        obtain ⟨xe15, exe15⟩ : ∃ z : Int32, tw_iv Eg2 xr14 (Int32.toNatClampNeg y2_1) = z := ⟨_, rfl⟩
        rw [exe15] at hxe15a hxe15b ⊢
        have hJ35 : ∀ (u35_0_57 : Int32) (Eg35 : Nat → va_E) (H : Heap) (locs : List Loc) (ls : Array Slot), 0 ≤ u35_0_57.toInt → u35_0_57.toInt ≤ 1200 → (u35_0_57.toInt ≤ y2_1.toInt + 1) → (u35_0_57.toInt = 0 → lr_all (rw_h E a0 13) (rw_p E a0 13) (y2_1.toInt + 1)) → tw_fv Eg35 a0 57 = .int u35_0_57 → tw_fr kp L [(12, 57)] [359] Eg2 Eg35 → tw_H D cs kp L Eg35 A H → va_S A s.heap H locs → lv_has ls 2 [(1, .int y2_1), (0, .ref a0)] → W p l e { frames := 2, cells := 0, slots := 0, locals := 46 } s m [.ref a0].toArray below meth c H locs 0 0 (MQ below (tw_Q D cs kp0 L0 (fun v kq Lq Eq => v = none ∧ kp = kq ∧ L = Lq ∧ tw_fr kp L [(12, 57)] [359] E Eq ∧ (tw_fi Eq a0 57 = 0 → lr_all (rw_h E a0 13) (rw_p E a0 13) 150 ∧ rt_size (rw_h E a0 13) ≤ 40) ∧ (∃ z0 : Int32, tw_fv Eq a0 57 = .int z0 ∧ (z0.toInt ≤ 151))) A) [.ref a0].toArray s 0 0 A) (F0 m 35 ls []) := by
          intro u35_0_57 Eg35 H locs ls hu35_0_57a hu35_0_57b hin35_0 hin35_1 hfm35_0 hG35 TH hS hl
          have hF := hF.tr hG35 (fun _ h => ⟨h, rfl⟩) (by decide) (by decide)
          have hG2 := hG2.tr hG35 (fun _ h => ⟨h, rfl⟩) (by decide) (by decide)
          have hmf16 : tw_fv Eg35 a0 16 = .ref xr13 := (hG35.1 a0 16 hm0 (by rw [hk0]; decide)).trans hxr13
          obtain ⟨zi17, ezi17⟩ : ∃ z : Int32, z = y2_1 + Int32.ofInt 1 := ⟨_, rfl⟩
          have hzi17 : zi17.toInt = y2_1.toInt + 1 := by rw [ezi17]; have : ((Int32.ofInt 1).toInt) = 1 := (by decide);  exact (ia_add (by omega) (by omega)).trans (by omega)
          refine lv_iinc (v := zi17) (lv' := [(1, .int zi17), (0, .ref a0)]) hx hb dX12_secondQuarrels_35 hl (k := 0) rfl ezi17.symm (by decide) rfl (fun ls hl => ?_)
          refine lv_goto (tgt := 2) hx hb dX12_secondQuarrels_38 (by decide) ?_
          exact ih2 (n2 - 1) (by   omega) zi17 u35_0_57 _ _ _ ls (by omega) (by omega) (by omega) (by omega) (by  omega) (by  intro q0; rw [show (zi17.toInt) = y2_1.toInt + 1 by omega]; exact hin35_1 q0) (by   omega) hfm35_0 hG2 TH hS (lv_sub hl [0, 1] rfl)
        have hG35 : tw_fr kp L [(12, 57)] [359] Eg2 Eg2 := tw_fr.rf
        refine lv_if_eq (tgt := 35) hx hb dX12_secondQuarrels_18 (by decide) (fun hc18 => ?_) (fun hc18 => ?_)
        · have hf19 : xe15.toInt = 0 := by have z := (fa_eq _ _).mp hc18; have : ((0 : Int32).toInt) = 0 := (by decide); omega
          exact hJ35 u2_0_57 _ _ _ ls (by omega) (by omega) (by  omega) (by  intro q0; have fh := rw_h_fr TH hF hm0 hk0 (by decide) (by decide) (by decide) (i := 13) (by decide); have fp := rw_p_fr TH hF hm0 hk0 (by decide) (by decide) (by decide) (i := 13) (by decide); have rf_xe15 : rw_h Eg2 a0 (13) (y2_1.toInt).toNat = xe15.toInt := (by have q := rw_h_of (m := a0) (i := (13 : Int32)) (c := y2_1) hxr13 exr14 exe15; rw [show ((13 : Int32).toInt) = 13 from (by decide)] at q; exact q); refine lr_all_step (hin2_1 (by omega)) (by omega) rfl (fun hz => ?_); (exfalso; rw [← fh, rf_xe15] at hz; omega)) hfm2_0 hG35 TH hS (lv_sub hl [0, 1] rfl)
        · have hf20 : ¬ (xe15.toInt = 0) := fun q => hc18 ((fa_eq _ _).mpr (by have : ((0 : Int32).toInt) = 0 := (by decide); omega))
          refine lv_aload_n hx hb dX12_secondQuarrels_21 rfl (lv_at hl 1 rfl) ?_
          refine lv_iload_n hx hb dX12_secondQuarrels_22 rfl (lv_at hl 0 rfl) ?_
          refine tw_Vc (o := a0) (ci := 12) (n := 1) (post := (fun v kq Lq Eq => (∃ x : Int32, v = some (.int x) ∧ 0 ≤ x.toInt ∧ x.toInt ≤ 1 ∧ (x.toInt = 0 → ¬ lr_ring (rw_p Eg2 a0 13) y2_1.toInt)) ∧ kp = kq ∧ L = Lq ∧ Eg2 = Eq)) (As := [.int y2_1]) (rest := []) ⟨hx, hb, hml, hown, hB⟩ (fun sz => tX12_isLeastOfRing l D cs a0 y2_1 hm0 hk0 (by omega) (by omega) sz) cg_12_480_X12_isLeastOfRing rfl rfl (by decide +kernel) ⟨Nat.le_of_ble_eq_true rfl, Nat.le_of_ble_eq_true rfl⟩ hK hN TH hS hA rfl hm0 hk0 (by decide) rfl hl.1 rfl (Nat.le_of_ble_eq_true rfl) dX12_secondQuarrels_23 ⟨Nat.le_of_ble_eq_true rfl, Nat.le_of_ble_eq_true rfl⟩ (fun v21 kp21 L21 E21 H locs hq21 hx21 TH hS => ?_)
          obtain ⟨⟨xc22, rfl, hxc22a, hxc22b, hpoxc22_0⟩, rfl, rfl, rfl⟩ := hq21
          refine W.eq (g2 := F0 m 26 ls [.int xc22]) rfl ?_
          refine lv_if_eq (tgt := 35) hx hb dX12_secondQuarrels_26 (by decide) (fun hc23 => ?_) (fun hc23 => ?_)
          · have hf24 : xc22.toInt = 0 := by have z := (fa_eq _ _).mp hc23; have : ((0 : Int32).toInt) = 0 := (by decide); omega
            exact hJ35 u2_0_57 _ _ _ ls (by omega) (by omega) (by  omega) (by  intro q0; have fh := rw_h_fr TH hF hm0 hk0 (by decide) (by decide) (by decide) (i := 13) (by decide); have fp := rw_p_fr TH hF hm0 hk0 (by decide) (by decide) (by decide) (i := 13) (by decide); have rf_xe15 : rw_h Eg2 a0 (13) (y2_1.toInt).toNat = xe15.toInt := (by have q := rw_h_of (m := a0) (i := (13 : Int32)) (c := y2_1) hxr13 exr14 exe15; rw [show ((13 : Int32).toInt) = 13 from (by decide)] at q; exact q); refine lr_all_step (hin2_1 (by omega)) (by omega) rfl (fun hz => ?_); (have z := hpoxc22_0 (by omega); rw [fp] at z; exact z)) hfm2_0 hG35 TH hS (lv_sub hl [0, 1] rfl)
          · have hf25 : ¬ (xc22.toInt = 0) := fun q => hc23 ((fa_eq _ _).mpr (by have : ((0 : Int32).toInt) = 0 := (by decide); omega))
            refine lv_aload_n hx hb dX12_secondQuarrels_29 rfl (lv_at hl 1 rfl) ?_
            refine lv_iconst (v := 4) hx hb dX12_secondQuarrels_30 (by decide) ?_
            refine lv_iload_n hx hb dX12_secondQuarrels_31 rfl (lv_at hl 0 rfl) ?_
            refine tw_Vc (o := a0) (ci := 12) (n := 2) (post := (fun v kq Lq Eq => v = none ∧ kp = kq ∧ L = Lq ∧ tw_fr kp L [(12, 57)] [359] Eg2 Eq ∧ (∃ z0 : Int32, tw_fv Eq a0 57 = .int z0 ∧ (z0.toInt = u2_0_57.toInt + 1)))) (As := [.int 4, .int y2_1]) (rest := []) ⟨hx, hb, hml, hown, hB⟩ (fun sz => tX12_quarrels l D cs a0 (4 : Int32) y2_1 u2_0_57 hm0 hk0 hfm2_0 (by have : ((4 : Int32).toInt) = 4 := (by decide); omega) sz) cg_12_468_X12_quarrels rfl rfl (by decide +kernel) ⟨Nat.le_of_ble_eq_true rfl, Nat.le_of_ble_eq_true rfl⟩ hK hN TH hS hA rfl hm0 hk0 (by decide) rfl hl.1 rfl (Nat.le_of_ble_eq_true rfl) dX12_secondQuarrels_32 ⟨Nat.le_of_ble_eq_true rfl, Nat.le_of_ble_eq_true rfl⟩ (fun v26 kp26 L26 E26 H locs hq26 hx26 TH hS => ?_)
            obtain ⟨rfl, rfl, rfl, hst26, ⟨zfxc27_0_0, hzfxc27_0_0, hzpxc27_0⟩⟩ := hq26
            have hF := hF.tr hst26 (fun _ h => ⟨h, rfl⟩) (by decide) (by decide)
            have hG2 := hG2.tr hst26 (fun _ h => ⟨h, rfl⟩) (by decide) (by decide)
            have hG35 := hG35.tr hst26 (fun _ h => ⟨h, rfl⟩) (by decide) (by decide)
            have hmf28 : tw_fv E26 a0 16 = .ref xr13 := (hst26.1 a0 16 hm0 (by rw [hk0]; decide)).trans hxr13
            obtain ⟨qzfxc27_0_0, hqzfxc27_0_0, hqzfxc27_0_0a, hqzfxc27_0_0b⟩ := tw_rd TH hm0 hk0 (by decide) (by decide) (k := 57) rfl
            have eqzfxc27_0_0 : qzfxc27_0_0 = zfxc27_0_0 := by have q := hqzfxc27_0_0.symm.trans hzfxc27_0_0; injection q
            rw [eqzfxc27_0_0] at hqzfxc27_0_0a hqzfxc27_0_0b
            refine W.eq (g2 := F0 m 35 ls []) rfl ?_
            exact hJ35 zfxc27_0_0 _ _ _ ls (by omega) (by omega) (by  omega) (by  intro q0; exfalso; omega) hzfxc27_0_0 hG35 TH hS (lv_sub hl [0, 1] rfl)
  exact hJ2 151 (0 : Int32) fv0_57 _ _ _ ls (by have : ((0 : Int32).toInt) = 0 := (by decide); omega) (by have : ((0 : Int32).toInt) = 0 := (by decide); omega) (by omega) (by omega) (by have : ((0 : Int32).toInt) = 0 := (by decide); omega) (by have : ((0 : Int32).toInt) = 0 := (by decide); intro _ c hc; exact absurd hc (by have e0 : ((0 : Int32).toInt) = 0 := (by decide); omega)) (by have : ((0 : Int32).toInt) = 0 := (by decide);  omega) hfv0_57 tw_fr.rf TH hS (lv_sub hl [0, 1] rfl)
set_option maxHeartbeats 4000000 in
set_option maxRecDepth 100000 in
theorem tX12_thirdQuarrels (l : Launch) (D : va_G) (cs : Nat → ClassId) {kp : Nat → Nat} {L : List Nat} {E : Nat → va_E} (a0 : Nat) (x1 : Int32) (x2 : Int32) (x3 : Int32) (fv0_57 : Int32) (hm0 : a0 ∈ L) (hk0 : kp a0 = 12) (hp1a : 0 ≤ x1.toInt) (hp1b : x1.toInt ≤ 15) (hp2a : 0 ≤ x2.toInt) (hp2b : x2.toInt ≤ 15) (hp3a : 0 ≤ x3.toInt) (hp3b : x3.toInt ≤ 15) (hfv0_57 : tw_fv E a0 57 = .int fv0_57) (hpre0 : fv0_57.toInt = 0) (hg0 : t1_ok E a0 (13)) (hg1 : ht_ok E a0) (sz : Nat) : Met l yX12_thirdQuarrels (.code yX12_thirdQuarrels cX12_thirdQuarrels 6 none :: cx_big) { frames := 4, cells := 0, slots := 0, locals := 107 } (tw_P D cs kp L E [.ref a0, .int x1, .int x2, .int x3] sz) (tw_Q D cs kp L (fun v kq Lq Eq => v = none ∧ kp = kq ∧ L = Lq ∧ tw_fr kp L [(12, 57)] [329, 348, 349, 359, 363, 364] E Eq ∧ (tw_fi Eq a0 57 = 0 → rt_T3 (rw_h E a0 13) (rw_p E a0 13)) ∧ (∃ z0 : Int32, tw_fv Eq a0 57 = .int z0 ∧ (z0.toInt ≤ 450)) ∧ ht_ok Eq a0) (va_A (va_pl L E) sz)) 0 0 (va_A (va_pl L E) sz) := by
  refine tw_ofW (by decide) (Nat.le_of_ble_eq_true rfl) ?_
  intro p e s m below meth c A ls hx hb hr hml hB hown hlocks hK hN hA TH hS hl
  have hown : s.vm.findClass "TreeMergeModel" = some m.cls := hown
  have hl : lv_has ls 6 [(0, .ref a0), (1, .int x1), (2, .int x2), (3, .int x3)] := hl
  obtain ⟨kp0, ekp⟩ : ∃ z, z = kp := ⟨_, rfl⟩
  obtain ⟨L0, eL⟩ : ∃ z, z = L := ⟨_, rfl⟩
  rw [show tw_Q D cs kp L = tw_Q D cs kp0 L0 by rw [ekp, eL]]
  have hex : ∀ a : Nat, a ∈ L0 → a ∈ L ∧ kp a = kp0 a := fun a h => ⟨by rw [← eL]; exact h, by rw [ekp]⟩
  have hF : tw_fr kp L [(12, 57)] [329, 348, 349, 359, 363, 364] E E := tw_fr.rf
  obtain ⟨qfv0_57, hqfv0_57, hqfv0_57a, hqfv0_57b⟩ := tw_rd TH hm0 hk0 (by decide) (by decide) (k := 57) rfl
  have eqfv0_57 : qfv0_57 = fv0_57 := by have q := hqfv0_57.symm.trans hfv0_57; injection q
  rw [eqfv0_57] at hqfv0_57a hqfv0_57b
  have hnc : nc_ok E a0 (0) := fun _ c hc => absurd hc (by omega)
  refine lv_iconst (v := 0) hx hb dX12_thirdQuarrels_0 (by decide) ?_
  refine lv_istore (lv' := [(4, .int 0), (0, .ref a0), (1, .int x1), (2, .int x2), (3, .int x3)]) hx hb dX12_thirdQuarrels_1 hl (by decide) rfl (fun ls hl => ?_)
  have hJ3 : ∀ (n3 : Nat) (y3_4 : Int32) (Eg3 : Nat → va_E) (H : Heap) (locs : List Loc) (ls : Array Slot), 0 ≤ y3_4.toInt → y3_4.toInt ≤ 150 → (fv0_57.toInt = 0) → 150 - y3_4.toInt ≤ (n3 : Int) → tw_fr kp L [] [329] E Eg3 → ht_ok Eg3 a0 → t1_ok Eg3 a0 (13) → nc_ok Eg3 a0 (0) → tw_H D cs kp L Eg3 A H → va_S A s.heap H locs → lv_has ls 6 [(4, .int y3_4), (0, .ref a0), (1, .int x1), (2, .int x2), (3, .int x3)] → W p l e { frames := 4, cells := 0, slots := 0, locals := 107 } s m [.ref a0, .int x1, .int x2, .int x3].toArray below meth c H locs 0 0 (MQ below (tw_Q D cs kp0 L0 (fun v kq Lq Eq => v = none ∧ kp = kq ∧ L = Lq ∧ tw_fr kp L [(12, 57)] [329, 348, 349, 359, 363, 364] E Eq ∧ (tw_fi Eq a0 57 = 0 → rt_T3 (rw_h E a0 13) (rw_p E a0 13)) ∧ (∃ z0 : Int32, tw_fv Eq a0 57 = .int z0 ∧ (z0.toInt ≤ 450)) ∧ ht_ok Eq a0) A) [.ref a0, .int x1, .int x2, .int x3].toArray s 0 0 A) (F0 m 3 ls []) := by
    intro n3
    induction n3 using Nat.strongRecOn with
    | _ n3 ih3 =>
      intro y3_4 Eg3 H locs ls hy3_4a hy3_4b hin3_0 hmeas3 hG3 hcg3_0 hcg3_1 hcg3_2 TH hS hl
      have hF := hF.tr hG3 (fun _ h => ⟨h, rfl⟩) (by decide) (by decide)
      have hmf1 : tw_fv Eg3 a0 57 = .int fv0_57 := (hG3.1 a0 57 hm0 (by rw [hk0]; decide)).trans hfv0_57
      refine lv_iload hx hb dX12_thirdQuarrels_3 (lv_at hl 0 rfl) ?_
      refine lv_sipush (v := 150) hx hb dX12_thirdQuarrels_5 (by decide) ?_
      refine lv_icmp_ge (tgt := 29) hx hb dX12_thirdQuarrels_8 (by decide) (fun hc2 => ?_) (fun hc2 => ?_)
      · have hf3 : 150 ≤ y3_4.toInt := by have z := (fa_le _ _).mp hc2; have : ((150 : Int32).toInt) = 150 := (by decide); omega
        refine lv_iconst (v := 0) hx hb dX12_thirdQuarrels_29 (by decide) ?_
        refine lv_istore (lv' := [(4, .int 0), (0, .ref a0), (1, .int x1), (2, .int x2), (3, .int x3)]) hx hb dX12_thirdQuarrels_30 hl (by decide) rfl (fun ls hl => ?_)
        have hJ32 : ∀ (n32 : Nat) (y32_4 : Int32) (u32_0_57 : Int32) (Eg32 : Nat → va_E) (H : Heap) (locs : List Loc) (ls : Array Slot), 0 ≤ y32_4.toInt → y32_4.toInt ≤ 150 → 0 ≤ u32_0_57.toInt → u32_0_57.toInt ≤ 1200 → (u32_0_57.toInt ≤ y32_4.toInt) → 150 - y32_4.toInt ≤ (n32 : Int) → tw_fv Eg32 a0 57 = .int u32_0_57 → tw_fr kp L [(12, 57)] [329, 359, 363, 364] Eg3 Eg32 → ht_ok Eg32 a0 → t1_ok Eg32 a0 (13) → nc_ok Eg32 a0 (y32_4.toInt) → tw_H D cs kp L Eg32 A H → va_S A s.heap H locs → lv_has ls 6 [(4, .int y32_4), (0, .ref a0), (1, .int x1), (2, .int x2), (3, .int x3)] → W p l e { frames := 4, cells := 0, slots := 0, locals := 107 } s m [.ref a0, .int x1, .int x2, .int x3].toArray below meth c H locs 0 0 (MQ below (tw_Q D cs kp0 L0 (fun v kq Lq Eq => v = none ∧ kp = kq ∧ L = Lq ∧ tw_fr kp L [(12, 57)] [329, 348, 349, 359, 363, 364] E Eq ∧ (tw_fi Eq a0 57 = 0 → rt_T3 (rw_h E a0 13) (rw_p E a0 13)) ∧ (∃ z0 : Int32, tw_fv Eq a0 57 = .int z0 ∧ (z0.toInt ≤ 450)) ∧ ht_ok Eq a0) A) [.ref a0, .int x1, .int x2, .int x3].toArray s 0 0 A) (F0 m 32 ls []) := by
          intro n32
          induction n32 using Nat.strongRecOn with
          | _ n32 ih32 =>
            intro y32_4 u32_0_57 Eg32 H locs ls hy32_4a hy32_4b hu32_0_57a hu32_0_57b hin32_0 hmeas32 hfm32_0 hG32 hcg32_0 hcg32_1 hcg32_2 TH hS hl
            have hF := hF.tr hG32 (fun _ h => ⟨h, rfl⟩) (by decide) (by decide)
            refine lv_iload hx hb dX12_thirdQuarrels_32 (lv_at hl 0 rfl) ?_
            refine lv_sipush (v := 150) hx hb dX12_thirdQuarrels_34 (by decide) ?_
            refine lv_icmp_ge (tgt := 116) hx hb dX12_thirdQuarrels_37 (by decide) (fun hc4 => ?_) (fun hc4 => ?_)
            · have hf5 : 150 ≤ y32_4.toInt := by have z := (fa_le _ _).mp hc4; have : ((150 : Int32).toInt) = 150 := (by decide); omega
              have he13 : ((13 : Int32).toInt) = 13 := (by decide)
              refine lv_aload_n hx hb dX12_thirdQuarrels_116 rfl (lv_at hl 1 rfl) ?_
              refine lv_bipush (v := 13) hx hb dX12_thirdQuarrels_117 (by decide) ?_
              refine tw_Vc (o := a0) (ci := 12) (n := 1) (post := (fun v kq Lq Eq => v = none ∧ kp = kq ∧ L = Lq ∧ tw_fr kp L [] [329] Eg32 Eq ∧ ht_ok Eq a0 ∧ t1_ok Eq a0 ((13 : Int32).toInt))) (As := [.int 13]) (rest := []) ⟨hx, hb, hml, hown, hB⟩ (fun sz => tX12_orders l D cs a0 (13 : Int32) hm0 hk0 (by have : ((13 : Int32).toInt) = 13 := (by decide); omega) (by have : ((13 : Int32).toInt) = 13 := (by decide); omega) hcg32_0 (t1_ok_cast (by have : ((13 : Int32).toInt) = 13 := (by decide); omega) hcg32_1) sz) cg_12_275_X12_orders rfl rfl (by decide +kernel) ⟨Nat.le_of_ble_eq_true rfl, Nat.le_of_ble_eq_true rfl⟩ hK hN TH hS hA rfl hm0 hk0 (by decide) rfl hl.1 rfl (Nat.le_of_ble_eq_true rfl) dX12_thirdQuarrels_119 ⟨Nat.le_of_ble_eq_true rfl, Nat.le_of_ble_eq_true rfl⟩ (fun v6 kp6 L6 E6 H locs hq6 hx6 TH hS => ?_)
              obtain ⟨rfl, rfl, rfl, hst6, hgpxc7_0, hgpxc7_1⟩ := hq6
              have hF := hF.tr hst6 (fun _ h => ⟨h, rfl⟩) (by decide) (by decide)
              have hG32 := hG32.tr hst6 (fun _ h => ⟨h, rfl⟩) (by decide) (by decide)
              have hmf8 : tw_fv E6 a0 57 = .int u32_0_57 := (hst6.1 a0 57 hm0 (by rw [hk0]; decide)).trans hfm32_0
              have hcg32_2 : nc_ok E6 a0 (y32_4.toInt) := nc_ok_fr TH hst6 hm0 hk0 (by decide) (by decide) hcg32_2
              refine W.eq (g2 := F0 m 122 ls []) rfl ?_
              refine lv_aload_n hx hb dX12_thirdQuarrels_122 rfl (lv_at hl 1 rfl) ?_
              refine lv_bipush (v := 13) hx hb dX12_thirdQuarrels_123 (by decide) ?_
              refine tw_Vc (o := a0) (ci := 12) (n := 1) (post := (fun v kq Lq Eq => (∃ x : Int32, v = some (.int x) ∧ (-1) ≤ x.toInt ∧ x.toInt ≤ 149 ∧ ((x.toInt = -1 ∧ rt_nr (rw_h E6 a0 (13 : Int32).toInt) (rw_p E6 a0 (13 : Int32).toInt) 150) ∨ (0 ≤ x.toInt ∧ x.toInt < 150 ∧ rw_h E6 a0 (13 : Int32).toInt (x.toInt).toNat ≠ 0 ∧ rw_p E6 a0 (13 : Int32).toInt (x.toInt).toNat = -1))) ∧ kp = kq ∧ L = Lq ∧ E6 = Eq)) (As := [.int 13]) (rest := []) ⟨hx, hb, hml, hown, hB⟩ (fun sz => tX12_root l D cs a0 (13 : Int32) hm0 hk0 (by have : ((13 : Int32).toInt) = 13 := (by decide); omega) (by have : ((13 : Int32).toInt) = 13 := (by decide); omega) sz) cg_12_324_X12_root rfl rfl (by decide +kernel) ⟨Nat.le_of_ble_eq_true rfl, Nat.le_of_ble_eq_true rfl⟩ hK hN TH hS hA rfl hm0 hk0 (by decide) rfl hl.1 rfl (Nat.le_of_ble_eq_true rfl) dX12_thirdQuarrels_125 ⟨Nat.le_of_ble_eq_true rfl, Nat.le_of_ble_eq_true rfl⟩ (fun v9 kp9 L9 E9 H locs hq9 hx9 TH hS => ?_)
              obtain ⟨⟨xc10, rfl, hxc10a, hxc10b, hpoxc10_0⟩, rfl, rfl, rfl⟩ := hq9
              refine W.eq (g2 := F0 m 128 ls [.int xc10]) rfl ?_
              refine lv_istore (lv' := [(4, .int xc10), (0, .ref a0), (1, .int x1), (2, .int x2), (3, .int x3)]) hx hb dX12_thirdQuarrels_128 hl (by decide) rfl (fun ls hl => ?_)
              refine lv_iconst (v := 0) hx hb dX12_thirdQuarrels_130 (by decide) ?_
              refine lv_istore (lv' := [(5, .int 0), (4, .int xc10), (0, .ref a0), (1, .int x1), (2, .int x2), (3, .int x3)]) hx hb dX12_thirdQuarrels_131 hl (by decide) rfl (fun ls hl => ?_)
              have hJ133 : ∀ (n133 : Nat) (y133_5 : Int32) (u133_0_57 : Int32) (Eg133 : Nat → va_E) (H : Heap) (locs : List Loc) (ls : Array Slot), 0 ≤ y133_5.toInt → y133_5.toInt ≤ 150 → 0 ≤ u133_0_57.toInt → u133_0_57.toInt ≤ 1200 → (u133_0_57.toInt ≤ 150 + y133_5.toInt) → (u133_0_57.toInt = 0 → r3_ok (rw_h E a0 13) (rw_p E a0 13) (xc10.toInt) (y133_5.toInt)) → 150 - y133_5.toInt ≤ (n133 : Int) → tw_fv Eg133 a0 57 = .int u133_0_57 → tw_fr kp L [(12, 57)] [348, 349, 359] E6 Eg133 → ht_ok Eg133 a0 → t1_ok Eg133 a0 (13) → nc_ok Eg133 a0 (150) → tw_H D cs kp L Eg133 A H → va_S A s.heap H locs → lv_has ls 6 [(5, .int y133_5), (4, .int xc10), (0, .ref a0)] → W p l e { frames := 4, cells := 0, slots := 0, locals := 107 } s m [.ref a0, .int x1, .int x2, .int x3].toArray below meth c H locs 0 0 (MQ below (tw_Q D cs kp0 L0 (fun v kq Lq Eq => v = none ∧ kp = kq ∧ L = Lq ∧ tw_fr kp L [(12, 57)] [329, 348, 349, 359, 363, 364] E Eq ∧ (tw_fi Eq a0 57 = 0 → rt_T3 (rw_h E a0 13) (rw_p E a0 13)) ∧ (∃ z0 : Int32, tw_fv Eq a0 57 = .int z0 ∧ (z0.toInt ≤ 450)) ∧ ht_ok Eq a0) A) [.ref a0, .int x1, .int x2, .int x3].toArray s 0 0 A) (F0 m 133 ls []) := by
                intro n133
                induction n133 using Nat.strongRecOn with
                | _ n133 ih133 =>
                  intro y133_5 u133_0_57 Eg133 H locs ls hy133_5a hy133_5b hu133_0_57a hu133_0_57b hin133_0 hin133_1 hmeas133 hfm133_0 hG133 hcg133_0 hcg133_1 hcg133_2 TH hS hl
                  have hF := hF.tr hG133 (fun _ h => ⟨h, rfl⟩) (by decide) (by decide)
                  refine lv_iload hx hb dX12_thirdQuarrels_133 (lv_at hl 0 rfl) ?_
                  refine lv_sipush (v := 150) hx hb dX12_thirdQuarrels_135 (by decide) ?_
                  refine lv_icmp_ge (tgt := 220) hx hb dX12_thirdQuarrels_138 (by decide) (fun hc11 => ?_) (fun hc11 => ?_)
                  · have hf12 : 150 ≤ y133_5.toInt := by have z := (fa_le _ _).mp hc11; have : ((150 : Int32).toInt) = 150 := (by decide); omega
                    refine lv_iconst (v := 0) hx hb dX12_thirdQuarrels_220 (by decide) ?_
                    refine lv_istore (lv' := [(5, .int 0), (4, .int xc10), (0, .ref a0)]) hx hb dX12_thirdQuarrels_221 hl (by decide) rfl (fun ls hl => ?_)
                    have hJ223 : ∀ (n223 : Nat) (y223_5 : Int32) (u223_0_57 : Int32) (Eg223 : Nat → va_E) (H : Heap) (locs : List Loc) (ls : Array Slot), 0 ≤ y223_5.toInt → y223_5.toInt ≤ 150 → 0 ≤ u223_0_57.toInt → u223_0_57.toInt ≤ 1200 → (u223_0_57.toInt ≤ 300 + y223_5.toInt) → (u223_0_57.toInt = 0 → r3_ok (rw_h E a0 13) (rw_p E a0 13) (xc10.toInt) 150) → 150 - y223_5.toInt ≤ (n223 : Int) → tw_fv Eg223 a0 57 = .int u223_0_57 → tw_fr kp L [(12, 57)] [359] Eg133 Eg223 → ht_ok Eg223 a0 → t1_ok Eg223 a0 (13) → tw_H D cs kp L Eg223 A H → va_S A s.heap H locs → lv_has ls 6 [(5, .int y223_5), (4, .int xc10), (0, .ref a0)] → W p l e { frames := 4, cells := 0, slots := 0, locals := 107 } s m [.ref a0, .int x1, .int x2, .int x3].toArray below meth c H locs 0 0 (MQ below (tw_Q D cs kp0 L0 (fun v kq Lq Eq => v = none ∧ kp = kq ∧ L = Lq ∧ tw_fr kp L [(12, 57)] [329, 348, 349, 359, 363, 364] E Eq ∧ (tw_fi Eq a0 57 = 0 → rt_T3 (rw_h E a0 13) (rw_p E a0 13)) ∧ (∃ z0 : Int32, tw_fv Eq a0 57 = .int z0 ∧ (z0.toInt ≤ 450)) ∧ ht_ok Eq a0) A) [.ref a0, .int x1, .int x2, .int x3].toArray s 0 0 A) (F0 m 223 ls []) := by
                      intro n223
                      induction n223 using Nat.strongRecOn with
                      | _ n223 ih223 =>
                        intro y223_5 u223_0_57 Eg223 H locs ls hy223_5a hy223_5b hu223_0_57a hu223_0_57b hin223_0 hin223_1 hmeas223 hfm223_0 hG223 hcg223_0 hcg223_1 TH hS hl
                        have hF := hF.tr hG223 (fun _ h => ⟨h, rfl⟩) (by decide) (by decide)
                        have hG133 := hG133.tr hG223 (fun _ h => ⟨h, rfl⟩) (by decide) (by decide)
                        refine lv_iload hx hb dX12_thirdQuarrels_223 (lv_at hl 0 rfl) ?_
                        refine lv_sipush (v := 150) hx hb dX12_thirdQuarrels_225 (by decide) ?_
                        refine lv_icmp_ge (tgt := 269) hx hb dX12_thirdQuarrels_228 (by decide) (fun hc13 => ?_) (fun hc13 => ?_)
                        · have hf14 : 150 ≤ y223_5.toInt := by have z := (fa_le _ _).mp hc13; have : ((150 : Int32).toInt) = 150 := (by decide); omega
                          exact tw_vret hx hb hr hlocks TH hS hex ⟨rfl, rfl, rfl, hF, (by  intro q0; rw [tw_fi_of hfm223_0] at q0; exact r3_T3 (hin223_1 q0) (by decide)), ⟨u223_0_57, hfm223_0, by  omega⟩, hcg223_0⟩ (Nat.le_of_ble_eq_true rfl) (Nat.le_of_ble_eq_true rfl) dX12_thirdQuarrels_269
                        · have hf15 : ¬ (150 ≤ y223_5.toInt) := fun q => hc13 ((fa_le _ _).mpr (by have : ((150 : Int32).toInt) = 150 := (by decide); omega))
                          refine lv_aload_n hx hb dX12_thirdQuarrels_231 rfl (lv_at hl 2 rfl) ?_
                          refine tw_get (ci := 12) (C := RX12) (T := TX12) (N := 64) hx hb hB cx_inX12 hown hK TH hm0 hk0 rfl ⟨by decide, rfl⟩ 16 (by decide) cw_1209 (fun _ h9 => h9) dX12_thirdQuarrels_232 (fun hv => ?_)
                          obtain ⟨xr16, hxr16, hmxr16, hkxr16⟩ : ∃ a : Nat, tw_fv Eg223 a0 16 = .ref a ∧ a ∈ L ∧ kp a = 316 := hv
                          rw [hxr16]
                          refine lv_bipush (v := 13) hx hb dX12_thirdQuarrels_235 (by decide) ?_
                          refine tw_aald (k := 316) (t0 := 5) (n := 16) (lo := 326) (hi := 0) (ty := .boolean) hx hb hK TH hmxr16 hkxr16 (by decide) rfl rfl (i := 13) (vp_in_iff.mpr ⟨by have : ((13 : Int32).toInt) = 13 := (by decide); omega, by have : ((13 : Int32).toInt) = 13 := (by decide); omega⟩) dX12_thirdQuarrels_237 (fun xr17 exr17 hmxr17 hkxr17 => ?_)
                          have hkxr17 : kp xr17 = 326 := hkxr17
                          refine lv_iload hx hb dX12_thirdQuarrels_238 (lv_at hl 0 rfl) ?_
                          refine tw_zald (k := 326) (t0 := 3) (n := 150) (lo := 0) (hi := 1) hx hb hK TH hmxr17 hkxr17 (by decide) rfl rfl (i := y223_5) (vp_in_iff.mpr ⟨by  omega, by  omega⟩) dX12_thirdQuarrels_240 (fun hxe18a hxe18b => ?_)
                          obtain ⟨xe18, exe18⟩ : ∃ z : Int32, tw_iv Eg223 xr17 (Int32.toNatClampNeg y223_5) = z := ⟨_, rfl⟩
                          rw [exe18] at hxe18a hxe18b ⊢
                          have hJ263 : ∀ (u263_0_57 : Int32) (Eg263 : Nat → va_E) (H : Heap) (locs : List Loc) (ls : Array Slot), 0 ≤ u263_0_57.toInt → u263_0_57.toInt ≤ 1200 → (u263_0_57.toInt ≤ 301 + y223_5.toInt) → (u263_0_57.toInt = 0 → r3_ok (rw_h E a0 13) (rw_p E a0 13) (xc10.toInt) 150) → tw_fv Eg263 a0 57 = .int u263_0_57 → tw_fr kp L [(12, 57)] [359] Eg223 Eg263 → ht_ok Eg263 a0 → t1_ok Eg263 a0 (13) → tw_H D cs kp L Eg263 A H → va_S A s.heap H locs → lv_has ls 6 [(5, .int y223_5), (4, .int xc10), (0, .ref a0)] → W p l e { frames := 4, cells := 0, slots := 0, locals := 107 } s m [.ref a0, .int x1, .int x2, .int x3].toArray below meth c H locs 0 0 (MQ below (tw_Q D cs kp0 L0 (fun v kq Lq Eq => v = none ∧ kp = kq ∧ L = Lq ∧ tw_fr kp L [(12, 57)] [329, 348, 349, 359, 363, 364] E Eq ∧ (tw_fi Eq a0 57 = 0 → rt_T3 (rw_h E a0 13) (rw_p E a0 13)) ∧ (∃ z0 : Int32, tw_fv Eq a0 57 = .int z0 ∧ (z0.toInt ≤ 450)) ∧ ht_ok Eq a0) A) [.ref a0, .int x1, .int x2, .int x3].toArray s 0 0 A) (F0 m 263 ls []) := by
                            intro u263_0_57 Eg263 H locs ls hu263_0_57a hu263_0_57b hin263_0 hin263_1 hfm263_0 hG263 hcg223_0 hcg223_1 TH hS hl
                            have hF := hF.tr hG263 (fun _ h => ⟨h, rfl⟩) (by decide) (by decide)
                            have hG133 := hG133.tr hG263 (fun _ h => ⟨h, rfl⟩) (by decide) (by decide)
                            have hG223 := hG223.tr hG263 (fun _ h => ⟨h, rfl⟩) (by decide) (by decide)
                            have hmf19 : tw_fv Eg263 a0 16 = .ref xr16 := (hG263.1 a0 16 hm0 (by rw [hk0]; decide)).trans hxr16
                            obtain ⟨zi20, ezi20⟩ : ∃ z : Int32, z = y223_5 + Int32.ofInt 1 := ⟨_, rfl⟩
                            have hzi20 : zi20.toInt = y223_5.toInt + 1 := by rw [ezi20]; have : ((Int32.ofInt 1).toInt) = 1 := (by decide);  exact (ia_add (by omega) (by omega)).trans (by omega)
                            refine lv_iinc (v := zi20) (lv' := [(5, .int zi20), (4, .int xc10), (0, .ref a0)]) hx hb dX12_thirdQuarrels_263 hl (k := 0) rfl ezi20.symm (by decide) rfl (fun ls hl => ?_)
                            refine lv_goto (tgt := 223) hx hb dX12_thirdQuarrels_266 (by decide) ?_
                            exact ih223 (n223 - 1) (by   omega) zi20 u263_0_57 _ _ _ ls (by omega) (by omega) (by omega) (by omega) (by  omega) (by  exact hin263_1) (by   omega) hfm263_0 hG223 hcg223_0 hcg223_1 TH hS (lv_sub hl [0, 1, 2] rfl)
                          have hG263 : tw_fr kp L [(12, 57)] [359] Eg223 Eg223 := tw_fr.rf
                          refine lv_if_eq (tgt := 263) hx hb dX12_thirdQuarrels_241 (by decide) (fun hc21 => ?_) (fun hc21 => ?_)
                          · have hf22 : xe18.toInt = 0 := by have z := (fa_eq _ _).mp hc21; have : ((0 : Int32).toInt) = 0 := (by decide); omega
                            exact hJ263 u223_0_57 _ _ _ ls (by omega) (by omega) (by  omega) (by  intro q0; exact hin223_1 (by omega)) hfm223_0 hG263 hcg223_0 hcg223_1 TH hS (lv_sub hl [0, 1, 2] rfl)
                          · have hf23 : ¬ (xe18.toInt = 0) := fun q => hc21 ((fa_eq _ _).mpr (by have : ((0 : Int32).toInt) = 0 := (by decide); omega))
                            refine lv_aload_n hx hb dX12_thirdQuarrels_244 rfl (lv_at hl 2 rfl) ?_
                            refine lv_bipush (v := 13) hx hb dX12_thirdQuarrels_245 (by decide) ?_
                            refine lv_iload hx hb dX12_thirdQuarrels_247 (lv_at hl 0 rfl) ?_
                            refine tw_Vc (o := a0) (ci := 12) (n := 2) (post := (fun v kq Lq Eq => (∃ x : Int32, v = some (.int x) ∧ 0 ≤ x.toInt ∧ x.toInt ≤ 1) ∧ kp = kq ∧ L = Lq ∧ Eg223 = Eq)) (As := [.int 13, .int y223_5]) (rest := []) ⟨hx, hb, hml, hown, hB⟩ (fun sz => tX12_hasLike l D cs a0 (13 : Int32) y223_5 hm0 hk0 (by have : ((13 : Int32).toInt) = 13 := (by decide); omega) (by have : ((13 : Int32).toInt) = 13 := (by decide); omega) (by omega) (by omega) (by have : ((13 : Int32).toInt) = 13 := (by decide); omega) hcg223_0 sz) cg_12_330_X12_hasLike rfl rfl (by decide +kernel) ⟨Nat.le_of_ble_eq_true rfl, Nat.le_of_ble_eq_true rfl⟩ hK hN TH hS hA rfl hm0 hk0 (by decide) rfl hl.1 rfl (Nat.le_of_ble_eq_true rfl) dX12_thirdQuarrels_249 ⟨Nat.le_of_ble_eq_true rfl, Nat.le_of_ble_eq_true rfl⟩ (fun v24 kp24 L24 E24 H locs hq24 hx24 TH hS => ?_)
                            obtain ⟨⟨xc25, rfl, hxc25a, hxc25b⟩, rfl, rfl, rfl⟩ := hq24
                            refine W.eq (g2 := F0 m 252 ls [.int xc25]) rfl ?_
                            refine lv_if_eq (tgt := 263) hx hb dX12_thirdQuarrels_252 (by decide) (fun hc26 => ?_) (fun hc26 => ?_)
                            · have hf27 : xc25.toInt = 0 := by have z := (fa_eq _ _).mp hc26; have : ((0 : Int32).toInt) = 0 := (by decide); omega
                              exact hJ263 u223_0_57 _ _ _ ls (by omega) (by omega) (by  omega) (by  intro q0; exact hin223_1 (by omega)) hfm223_0 hG263 hcg223_0 hcg223_1 TH hS (lv_sub hl [0, 1, 2] rfl)
                            · have hf28 : ¬ (xc25.toInt = 0) := fun q => hc26 ((fa_eq _ _).mpr (by have : ((0 : Int32).toInt) = 0 := (by decide); omega))
                              refine lv_aload_n hx hb dX12_thirdQuarrels_255 rfl (lv_at hl 2 rfl) ?_
                              refine lv_bipush (v := 7) hx hb dX12_thirdQuarrels_256 (by decide) ?_
                              refine lv_iload hx hb dX12_thirdQuarrels_258 (lv_at hl 0 rfl) ?_
                              refine tw_Vc (o := a0) (ci := 12) (n := 2) (post := (fun v kq Lq Eq => v = none ∧ kp = kq ∧ L = Lq ∧ tw_fr kp L [(12, 57)] [359] Eg223 Eq ∧ (∃ z0 : Int32, tw_fv Eq a0 57 = .int z0 ∧ (z0.toInt = u223_0_57.toInt + 1)))) (As := [.int 7, .int y223_5]) (rest := []) ⟨hx, hb, hml, hown, hB⟩ (fun sz => tX12_quarrels l D cs a0 (7 : Int32) y223_5 u223_0_57 hm0 hk0 hfm223_0 (by have : ((7 : Int32).toInt) = 7 := (by decide); omega) sz) cg_12_468_X12_quarrels rfl rfl (by decide +kernel) ⟨Nat.le_of_ble_eq_true rfl, Nat.le_of_ble_eq_true rfl⟩ hK hN TH hS hA rfl hm0 hk0 (by decide) rfl hl.1 rfl (Nat.le_of_ble_eq_true rfl) dX12_thirdQuarrels_260 ⟨Nat.le_of_ble_eq_true rfl, Nat.le_of_ble_eq_true rfl⟩ (fun v29 kp29 L29 E29 H locs hq29 hx29 TH hS => ?_)
                              obtain ⟨rfl, rfl, rfl, hst29, ⟨zfxc30_0_0, hzfxc30_0_0, hzpxc30_0⟩⟩ := hq29
                              have hF := hF.tr hst29 (fun _ h => ⟨h, rfl⟩) (by decide) (by decide)
                              have hG133 := hG133.tr hst29 (fun _ h => ⟨h, rfl⟩) (by decide) (by decide)
                              have hG223 := hG223.tr hst29 (fun _ h => ⟨h, rfl⟩) (by decide) (by decide)
                              have hG263 := hG263.tr hst29 (fun _ h => ⟨h, rfl⟩) (by decide) (by decide)
                              have hmf31 : tw_fv E29 a0 16 = .ref xr16 := (hst29.1 a0 16 hm0 (by rw [hk0]; decide)).trans hxr16
                              have hcg223_0 : ht_ok E29 a0 := ht_ok_fr TH hst29 hm0 hk0 (by decide) (by decide) hcg223_0
                              have hcg223_1 : t1_ok E29 a0 (13) := t1_ok_fr TH hst29 hm0 hk0 (by decide) (by decide) (by omega) hcg223_1
                              obtain ⟨qzfxc30_0_0, hqzfxc30_0_0, hqzfxc30_0_0a, hqzfxc30_0_0b⟩ := tw_rd TH hm0 hk0 (by decide) (by decide) (k := 57) rfl
                              have eqzfxc30_0_0 : qzfxc30_0_0 = zfxc30_0_0 := by have q := hqzfxc30_0_0.symm.trans hzfxc30_0_0; injection q
                              rw [eqzfxc30_0_0] at hqzfxc30_0_0a hqzfxc30_0_0b
                              refine W.eq (g2 := F0 m 263 ls []) rfl ?_
                              exact hJ263 zfxc30_0_0 _ _ _ ls (by omega) (by omega) (by  omega) (by  intro q0; exfalso; omega) hzfxc30_0_0 hG263 hcg223_0 hcg223_1 TH hS (lv_sub hl [0, 1, 2] rfl)
                    exact hJ223 151 (0 : Int32) u133_0_57 _ _ _ ls (by have : ((0 : Int32).toInt) = 0 := (by decide); omega) (by have : ((0 : Int32).toInt) = 0 := (by decide); omega) (by omega) (by omega) (by have : ((0 : Int32).toInt) = 0 := (by decide); omega) (by have : ((0 : Int32).toInt) = 0 := (by decide); intro q0; have z := hin133_1 q0; rw [show y133_5.toInt = 150 by omega] at z; exact z) (by have : ((0 : Int32).toInt) = 0 := (by decide);  omega) hfm133_0 tw_fr.rf hcg133_0 hcg133_1 TH hS (lv_sub hl [0, 1, 2] rfl)
                  · have hf32 : ¬ (150 ≤ y133_5.toInt) := fun q => hc11 ((fa_le _ _).mpr (by have : ((150 : Int32).toInt) = 150 := (by decide); omega))
                    refine lv_aload_n hx hb dX12_thirdQuarrels_141 rfl (lv_at hl 2 rfl) ?_
                    refine tw_get (ci := 12) (C := RX12) (T := TX12) (N := 64) hx hb hB cx_inX12 hown hK TH hm0 hk0 rfl ⟨by decide, rfl⟩ 16 (by decide) cw_1209 (fun _ h9 => h9) dX12_thirdQuarrels_142 (fun hv => ?_)
                    obtain ⟨xr33, hxr33, hmxr33, hkxr33⟩ : ∃ a : Nat, tw_fv Eg133 a0 16 = .ref a ∧ a ∈ L ∧ kp a = 316 := hv
                    rw [hxr33]
                    refine lv_bipush (v := 13) hx hb dX12_thirdQuarrels_145 (by decide) ?_
                    refine tw_aald (k := 316) (t0 := 5) (n := 16) (lo := 326) (hi := 0) (ty := .boolean) hx hb hK TH hmxr33 hkxr33 (by decide) rfl rfl (i := 13) (vp_in_iff.mpr ⟨by have : ((13 : Int32).toInt) = 13 := (by decide); omega, by have : ((13 : Int32).toInt) = 13 := (by decide); omega⟩) dX12_thirdQuarrels_147 (fun xr34 exr34 hmxr34 hkxr34 => ?_)
                    have hkxr34 : kp xr34 = 326 := hkxr34
                    refine lv_iload hx hb dX12_thirdQuarrels_148 (lv_at hl 0 rfl) ?_
                    refine tw_zald (k := 326) (t0 := 3) (n := 150) (lo := 0) (hi := 1) hx hb hK TH hmxr34 hkxr34 (by decide) rfl rfl (i := y133_5) (vp_in_iff.mpr ⟨by  omega, by  omega⟩) dX12_thirdQuarrels_150 (fun hxe35a hxe35b => ?_)
                    obtain ⟨xe35, exe35⟩ : ∃ z : Int32, tw_iv Eg133 xr34 (Int32.toNatClampNeg y133_5) = z := ⟨_, rfl⟩
                    rw [exe35] at hxe35a hxe35b ⊢
                    refine lv_if_eq (tgt := 214) hx hb dX12_thirdQuarrels_151 (by decide) (fun hc36 => ?_) (fun hc36 => ?_)
                    · have hf37 : xe35.toInt = 0 := by have z := (fa_eq _ _).mp hc36; have : ((0 : Int32).toInt) = 0 := (by decide); omega
                      obtain ⟨zi38, ezi38⟩ : ∃ z : Int32, z = y133_5 + Int32.ofInt 1 := ⟨_, rfl⟩
                      have hzi38 : zi38.toInt = y133_5.toInt + 1 := by rw [ezi38]; have : ((Int32.ofInt 1).toInt) = 1 := (by decide);  exact (ia_add (by omega) (by omega)).trans (by omega)
                      refine lv_iinc (v := zi38) (lv' := [(5, .int zi38), (4, .int xc10), (0, .ref a0)]) hx hb dX12_thirdQuarrels_214 hl (k := 0) rfl ezi38.symm (by decide) rfl (fun ls hl => ?_)
                      refine lv_goto (tgt := 133) hx hb dX12_thirdQuarrels_217 (by decide) ?_
                      exact ih133 (n133 - 1) (by   omega) zi38 u133_0_57 _ _ _ ls (by omega) (by omega) (by omega) (by omega) (by  omega) (by  intro q0; have fh := rw_h_fr TH hF hm0 hk0 (by decide) (by decide) (by decide) (i := 13) (by decide); have fp := rw_p_fr TH hF hm0 hk0 (by decide) (by decide) (by decide) (i := 13) (by decide); refine r3_step (hin133_1 q0) (show zi38.toInt = y133_5.toInt + 1 by omega) (fun hz hp => ?_) (by omega); exfalso; have rf_xe35 : rw_h Eg133 a0 (13) (y133_5.toInt).toNat = xe35.toInt := (by have q := rw_h_of (m := a0) (i := (13 : Int32)) (c := y133_5) hxr33 exr34 exe35; rw [show ((13 : Int32).toInt) = 13 from (by decide)] at q; exact q); rw [← fh, rf_xe35] at hz; omega) (by   omega) hfm133_0 hG133 hcg133_0 hcg133_1 hcg133_2 TH hS (lv_sub hl [0, 1, 2] rfl)
                    · have hf39 : ¬ (xe35.toInt = 0) := fun q => hc36 ((fa_eq _ _).mpr (by have : ((0 : Int32).toInt) = 0 := (by decide); omega))
                      refine lv_aload_n hx hb dX12_thirdQuarrels_154 rfl (lv_at hl 2 rfl) ?_
                      refine tw_get (ci := 12) (C := RX12) (T := TX12) (N := 64) hx hb hB cx_inX12 hown hK TH hm0 hk0 rfl ⟨by decide, rfl⟩ 60 (by decide) cw_1253 (fun _ h9 => h9) dX12_thirdQuarrels_155 (fun hv => ?_)
                      obtain ⟨xr40, hxr40, hmxr40, hkxr40⟩ : ∃ a : Nat, tw_fv Eg133 a0 60 = .ref a ∧ a ∈ L ∧ kp a = 364 := hv
                      rw [hxr40]
                      refine lv_iload hx hb dX12_thirdQuarrels_158 (lv_at hl 0 rfl) ?_
                      refine tw_zald (k := 364) (t0 := 3) (n := 150) (lo := 0) (hi := 1) hx hb hK TH hmxr40 hkxr40 (by decide) rfl rfl (i := y133_5) (vp_in_iff.mpr ⟨by  omega, by  omega⟩) dX12_thirdQuarrels_160 (fun hxe41a hxe41b => ?_)
                      obtain ⟨xe41, exe41⟩ : ∃ z : Int32, tw_iv Eg133 xr40 (Int32.toNatClampNeg y133_5) = z := ⟨_, rfl⟩
                      rw [exe41] at hxe41a hxe41b ⊢
                      refine lv_if_ne (tgt := 214) hx hb dX12_thirdQuarrels_161 (by decide) (fun hc42 => ?_) (fun hc42 => ?_)
                      · have hf43 : ¬ (xe41.toInt = 0) := fun q => hc42 ((fa_eq _ _).mpr (by have : ((0 : Int32).toInt) = 0 := (by decide); omega))
                        obtain ⟨zi44, ezi44⟩ : ∃ z : Int32, z = y133_5 + Int32.ofInt 1 := ⟨_, rfl⟩
                        have hzi44 : zi44.toInt = y133_5.toInt + 1 := by rw [ezi44]; have : ((Int32.ofInt 1).toInt) = 1 := (by decide);  exact (ia_add (by omega) (by omega)).trans (by omega)
                        refine lv_iinc (v := zi44) (lv' := [(5, .int zi44), (4, .int xc10), (0, .ref a0)]) hx hb dX12_thirdQuarrels_214 hl (k := 0) rfl ezi44.symm (by decide) rfl (fun ls hl => ?_)
                        refine lv_goto (tgt := 133) hx hb dX12_thirdQuarrels_217 (by decide) ?_
                        exact ih133 (n133 - 1) (by   omega) zi44 u133_0_57 _ _ _ ls (by omega) (by omega) (by omega) (by omega) (by  omega) (by  intro q0; have fh := rw_h_fr TH hF hm0 hk0 (by decide) (by decide) (by decide) (i := 13) (by decide); have fp := rw_p_fr TH hF hm0 hk0 (by decide) (by decide) (by decide) (i := 13) (by decide); refine r3_step (hin133_1 q0) (show zi44.toInt = y133_5.toInt + 1 by omega) (fun hz hp => ?_) (by omega); exfalso; have rf_xe41 : tw_el Eg133 a0 60 (y133_5.toInt).toNat = xe41.toInt := (by rw [tw_el_of hxr40]; exact congrArg Int32.toInt exe41); have w := hcg133_2 (by rw [tw_fi_of hfm133_0]; omega) (y133_5.toInt).toNat (by omega); rw [rf_xe41] at w; omega) (by   omega) hfm133_0 hG133 hcg133_0 hcg133_1 hcg133_2 TH hS (lv_sub hl [0, 1, 2] rfl)
                      · have hf45 : xe41.toInt = 0 := by have z := (fa_eq _ _).mp hc42; have : ((0 : Int32).toInt) = 0 := (by decide); omega
                        refine lv_aload_n hx hb dX12_thirdQuarrels_164 rfl (lv_at hl 2 rfl) ?_
                        refine lv_bipush (v := 13) hx hb dX12_thirdQuarrels_165 (by decide) ?_
                        refine lv_iload hx hb dX12_thirdQuarrels_167 (lv_at hl 0 rfl) ?_
                        refine tw_Vc (o := a0) (ci := 12) (n := 2) (post := (fun v kq Lq Eq => (∃ x : Int32, v = some (.int x) ∧ 0 ≤ x.toInt ∧ x.toInt ≤ 1) ∧ kp = kq ∧ L = Lq ∧ tw_fr kp L [] [348, 349] Eg133 Eq)) (As := [.int 13, .int y133_5]) (rest := []) ⟨hx, hb, hml, hown, hB⟩ (fun sz => tX12_fitsBut l D cs a0 (13 : Int32) y133_5 hm0 hk0 (by have : ((13 : Int32).toInt) = 13 := (by decide); omega) (by have : ((13 : Int32).toInt) = 13 := (by decide); omega) (by omega) (by omega) (by have : ((13 : Int32).toInt) = 13 := (by decide); omega) hcg133_0 sz) cg_12_327_X12_fitsBut rfl rfl (by decide +kernel) ⟨Nat.le_of_ble_eq_true rfl, Nat.le_of_ble_eq_true rfl⟩ hK hN TH hS hA rfl hm0 hk0 (by decide) rfl hl.1 rfl (Nat.le_of_ble_eq_true rfl) dX12_thirdQuarrels_169 ⟨Nat.le_of_ble_eq_true rfl, Nat.le_of_ble_eq_true rfl⟩ (fun v46 kp46 L46 E46 H locs hq46 hx46 TH hS => ?_)
                        obtain ⟨⟨xc47, rfl, hxc47a, hxc47b⟩, rfl, rfl, hst46⟩ := hq46
                        have hF := hF.tr hst46 (fun _ h => ⟨h, rfl⟩) (by decide) (by decide)
                        have hG133 := hG133.tr hst46 (fun _ h => ⟨h, rfl⟩) (by decide) (by decide)
                        have hmf48 : tw_fv E46 a0 57 = .int u133_0_57 := (hst46.1 a0 57 hm0 (by rw [hk0]; decide)).trans hfm133_0
                        have hmf49 : tw_fv E46 a0 16 = .ref xr33 := (hst46.1 a0 16 hm0 (by rw [hk0]; decide)).trans hxr33
                        have hmf50 : tw_fv E46 a0 60 = .ref xr40 := (hst46.1 a0 60 hm0 (by rw [hk0]; decide)).trans hxr40
                        have hcg133_0 : ht_ok E46 a0 := ht_ok_fr TH hst46 hm0 hk0 (by decide) (by decide) hcg133_0
                        have hcg133_1 : t1_ok E46 a0 (13) := t1_ok_fr TH hst46 hm0 hk0 (by decide) (by decide) (by omega) hcg133_1
                        have hcg133_2 : nc_ok E46 a0 (150) := nc_ok_fr TH hst46 hm0 hk0 (by decide) (by decide) hcg133_2
                        refine W.eq (g2 := F0 m 172 ls [.int xc47]) rfl ?_
                        refine lv_if_eq (tgt := 206) hx hb dX12_thirdQuarrels_172 (by decide) (fun hc51 => ?_) (fun hc51 => ?_)
                        · have hf52 : xc47.toInt = 0 := by have z := (fa_eq _ _).mp hc51; have : ((0 : Int32).toInt) = 0 := (by decide); omega
                          refine lv_aload_n hx hb dX12_thirdQuarrels_206 rfl (lv_at hl 2 rfl) ?_
                          refine lv_bipush (v := 6) hx hb dX12_thirdQuarrels_207 (by decide) ?_
                          refine lv_iload hx hb dX12_thirdQuarrels_209 (lv_at hl 0 rfl) ?_
                          refine tw_Vc (o := a0) (ci := 12) (n := 2) (post := (fun v kq Lq Eq => v = none ∧ kp = kq ∧ L = Lq ∧ tw_fr kp L [(12, 57)] [359] E46 Eq ∧ (∃ z0 : Int32, tw_fv Eq a0 57 = .int z0 ∧ (z0.toInt = u133_0_57.toInt + 1)))) (As := [.int 6, .int y133_5]) (rest := []) ⟨hx, hb, hml, hown, hB⟩ (fun sz => tX12_quarrels l D cs a0 (6 : Int32) y133_5 u133_0_57 hm0 hk0 hmf48 (by have : ((6 : Int32).toInt) = 6 := (by decide); omega) sz) cg_12_468_X12_quarrels rfl rfl (by decide +kernel) ⟨Nat.le_of_ble_eq_true rfl, Nat.le_of_ble_eq_true rfl⟩ hK hN TH hS hA rfl hm0 hk0 (by decide) rfl hl.1 rfl (Nat.le_of_ble_eq_true rfl) dX12_thirdQuarrels_211 ⟨Nat.le_of_ble_eq_true rfl, Nat.le_of_ble_eq_true rfl⟩ (fun v53 kp53 L53 E53 H locs hq53 hx53 TH hS => ?_)
                          obtain ⟨rfl, rfl, rfl, hst53, ⟨zfxc54_0_0, hzfxc54_0_0, hzpxc54_0⟩⟩ := hq53
                          have hF := hF.tr hst53 (fun _ h => ⟨h, rfl⟩) (by decide) (by decide)
                          have hG133 := hG133.tr hst53 (fun _ h => ⟨h, rfl⟩) (by decide) (by decide)
                          have hmf55 : tw_fv E53 a0 16 = .ref xr33 := (hst53.1 a0 16 hm0 (by rw [hk0]; decide)).trans hmf49
                          have hmf56 : tw_fv E53 a0 60 = .ref xr40 := (hst53.1 a0 60 hm0 (by rw [hk0]; decide)).trans hmf50
                          have hcg133_0_o := hcg133_0
                          have hcg133_1_o := hcg133_1
                          have hcg133_2_o := hcg133_2
                          have hcg133_0 : ht_ok E53 a0 := ht_ok_fr TH hst53 hm0 hk0 (by decide) (by decide) hcg133_0
                          have hcg133_1 : t1_ok E53 a0 (13) := t1_ok_fr TH hst53 hm0 hk0 (by decide) (by decide) (by omega) hcg133_1
                          have hcg133_2 : nc_ok E53 a0 (150) := (fun z => absurd z (by rw [tw_fi_of hzfxc54_0_0]; omega))
                          obtain ⟨qzfxc54_0_0, hqzfxc54_0_0, hqzfxc54_0_0a, hqzfxc54_0_0b⟩ := tw_rd TH hm0 hk0 (by decide) (by decide) (k := 57) rfl
                          have eqzfxc54_0_0 : qzfxc54_0_0 = zfxc54_0_0 := by have q := hqzfxc54_0_0.symm.trans hzfxc54_0_0; injection q
                          rw [eqzfxc54_0_0] at hqzfxc54_0_0a hqzfxc54_0_0b
                          refine W.eq (g2 := F0 m 214 ls []) rfl ?_
                          obtain ⟨zi57, ezi57⟩ : ∃ z : Int32, z = y133_5 + Int32.ofInt 1 := ⟨_, rfl⟩
                          have hzi57 : zi57.toInt = y133_5.toInt + 1 := by rw [ezi57]; have : ((Int32.ofInt 1).toInt) = 1 := (by decide);  exact (ia_add (by omega) (by omega)).trans (by omega)
                          refine lv_iinc (v := zi57) (lv' := [(5, .int zi57), (4, .int xc10), (0, .ref a0)]) hx hb dX12_thirdQuarrels_214 hl (k := 0) rfl ezi57.symm (by decide) rfl (fun ls hl => ?_)
                          refine lv_goto (tgt := 133) hx hb dX12_thirdQuarrels_217 (by decide) ?_
                          exact ih133 (n133 - 1) (by   omega) zi57 zfxc54_0_0 _ _ _ ls (by omega) (by omega) (by omega) (by omega) (by  omega) (by  intro q0; exfalso; omega) (by   omega) hzfxc54_0_0 hG133 hcg133_0 hcg133_1 hcg133_2 TH hS (lv_sub hl [0, 1, 2] rfl)
                        · have hf58 : ¬ (xc47.toInt = 0) := fun q => hc51 ((fa_eq _ _).mpr (by have : ((0 : Int32).toInt) = 0 := (by decide); omega))
                          refine lv_aload_n hx hb dX12_thirdQuarrels_175 rfl (lv_at hl 2 rfl) ?_
                          refine tw_get (ci := 12) (C := RX12) (T := TX12) (N := 64) hx hb hB cx_inX12 hown hK TH hm0 hk0 rfl ⟨by decide, rfl⟩ 18 (by decide) cw_1211 (fun _ h9 => h9) dX12_thirdQuarrels_176 (fun hv => ?_)
                          obtain ⟨xr59, hxr59, hmxr59, hkxr59⟩ : ∃ a : Nat, tw_fv E46 a0 18 = .ref a ∧ a ∈ L ∧ kp a = 318 := hv
                          rw [hxr59]
                          refine lv_bipush (v := 13) hx hb dX12_thirdQuarrels_179 (by decide) ?_
                          refine tw_aald (k := 318) (t0 := 4) (n := 16) (lo := 328) (hi := 0) (ty := .int) hx hb hK TH hmxr59 hkxr59 (by decide) rfl rfl (i := 13) (vp_in_iff.mpr ⟨by have : ((13 : Int32).toInt) = 13 := (by decide); omega, by have : ((13 : Int32).toInt) = 13 := (by decide); omega⟩) dX12_thirdQuarrels_181 (fun xr60 exr60 hmxr60 hkxr60 => ?_)
                          have hkxr60 : kp xr60 = 328 := hkxr60
                          refine lv_iload hx hb dX12_thirdQuarrels_182 (lv_at hl 0 rfl) ?_
                          refine tw_iald (k := 328) (t0 := 0) (n := 150) (lo := (-1)) (hi := 149) hx hb hK TH hmxr60 hkxr60 (by decide) rfl rfl (i := y133_5) (vp_in_iff.mpr ⟨by  omega, by  omega⟩) dX12_thirdQuarrels_184 (fun hxe61a hxe61b => ?_)
                          obtain ⟨xe61, exe61⟩ : ∃ z : Int32, tw_iv E46 xr60 (Int32.toNatClampNeg y133_5) = z := ⟨_, rfl⟩
                          rw [exe61] at hxe61a hxe61b ⊢
                          refine lv_iconst (v := (-1)) hx hb dX12_thirdQuarrels_185 (by decide) ?_
                          refine lv_icmp_ne (tgt := 214) hx hb dX12_thirdQuarrels_186 (by decide) (fun hc62 => ?_) (fun hc62 => ?_)
                          · have hf63 : ¬ (xe61.toInt = (-1)) := fun q => hc62 ((fa_eq _ _).mpr (by have : (((-1) : Int32).toInt) = (-1) := (by decide); omega))
                            obtain ⟨zi64, ezi64⟩ : ∃ z : Int32, z = y133_5 + Int32.ofInt 1 := ⟨_, rfl⟩
                            have hzi64 : zi64.toInt = y133_5.toInt + 1 := by rw [ezi64]; have : ((Int32.ofInt 1).toInt) = 1 := (by decide);  exact (ia_add (by omega) (by omega)).trans (by omega)
                            refine lv_iinc (v := zi64) (lv' := [(5, .int zi64), (4, .int xc10), (0, .ref a0)]) hx hb dX12_thirdQuarrels_214 hl (k := 0) rfl ezi64.symm (by decide) rfl (fun ls hl => ?_)
                            refine lv_goto (tgt := 133) hx hb dX12_thirdQuarrels_217 (by decide) ?_
                            exact ih133 (n133 - 1) (by   omega) zi64 u133_0_57 _ _ _ ls (by omega) (by omega) (by omega) (by omega) (by  omega) (by  intro q0; have fh := rw_h_fr TH hF hm0 hk0 (by decide) (by decide) (by decide) (i := 13) (by decide); have fp := rw_p_fr TH hF hm0 hk0 (by decide) (by decide) (by decide) (i := 13) (by decide); refine r3_step (hin133_1 q0) (show zi64.toInt = y133_5.toInt + 1 by omega) (fun hz hp => ?_) (by omega); have rf_xe61 : rw_p E46 a0 (13) (y133_5.toInt).toNat = xe61.toInt := (by have q := rw_p_of (m := a0) (i := (13 : Int32)) (c := y133_5) hxr59 exr60 exe61; rw [show ((13 : Int32).toInt) = 13 from (by decide)] at q; exact q); rw [← fp, rf_xe61] at hp; omega) (by   omega) hmf48 hG133 hcg133_0 hcg133_1 hcg133_2 TH hS (lv_sub hl [0, 1, 2] rfl)
                          · have hf65 : xe61.toInt = (-1) := by have z := (fa_eq _ _).mp hc62; have : (((-1) : Int32).toInt) = (-1) := (by decide); omega
                            refine lv_iload hx hb dX12_thirdQuarrels_189 (lv_at hl 0 rfl) ?_
                            refine lv_iload hx hb dX12_thirdQuarrels_191 (lv_at hl 1 rfl) ?_
                            refine lv_icmp_ne (tgt := 206) hx hb dX12_thirdQuarrels_193 (by decide) (fun hc66 => ?_) (fun hc66 => ?_)
                            · have hf67 : ¬ (y133_5.toInt = xc10.toInt) := fun q => hc66 ((fa_eq _ _).mpr (by  omega))
                              refine lv_aload_n hx hb dX12_thirdQuarrels_206 rfl (lv_at hl 2 rfl) ?_
                              refine lv_bipush (v := 6) hx hb dX12_thirdQuarrels_207 (by decide) ?_
                              refine lv_iload hx hb dX12_thirdQuarrels_209 (lv_at hl 0 rfl) ?_
                              refine tw_Vc (o := a0) (ci := 12) (n := 2) (post := (fun v kq Lq Eq => v = none ∧ kp = kq ∧ L = Lq ∧ tw_fr kp L [(12, 57)] [359] E46 Eq ∧ (∃ z0 : Int32, tw_fv Eq a0 57 = .int z0 ∧ (z0.toInt = u133_0_57.toInt + 1)))) (As := [.int 6, .int y133_5]) (rest := []) ⟨hx, hb, hml, hown, hB⟩ (fun sz => tX12_quarrels l D cs a0 (6 : Int32) y133_5 u133_0_57 hm0 hk0 hmf48 (by have : ((6 : Int32).toInt) = 6 := (by decide); omega) sz) cg_12_468_X12_quarrels rfl rfl (by decide +kernel) ⟨Nat.le_of_ble_eq_true rfl, Nat.le_of_ble_eq_true rfl⟩ hK hN TH hS hA rfl hm0 hk0 (by decide) rfl hl.1 rfl (Nat.le_of_ble_eq_true rfl) dX12_thirdQuarrels_211 ⟨Nat.le_of_ble_eq_true rfl, Nat.le_of_ble_eq_true rfl⟩ (fun v68 kp68 L68 E68 H locs hq68 hx68 TH hS => ?_)
                              obtain ⟨rfl, rfl, rfl, hst68, ⟨zfxc69_0_0, hzfxc69_0_0, hzpxc69_0⟩⟩ := hq68
                              have hF := hF.tr hst68 (fun _ h => ⟨h, rfl⟩) (by decide) (by decide)
                              have hG133 := hG133.tr hst68 (fun _ h => ⟨h, rfl⟩) (by decide) (by decide)
                              have hmf70 : tw_fv E68 a0 16 = .ref xr33 := (hst68.1 a0 16 hm0 (by rw [hk0]; decide)).trans hmf49
                              have hmf71 : tw_fv E68 a0 60 = .ref xr40 := (hst68.1 a0 60 hm0 (by rw [hk0]; decide)).trans hmf50
                              have hmf72 : tw_fv E68 a0 18 = .ref xr59 := (hst68.1 a0 18 hm0 (by rw [hk0]; decide)).trans hxr59
                              have hcg133_0_o := hcg133_0
                              have hcg133_1_o := hcg133_1
                              have hcg133_2_o := hcg133_2
                              have hcg133_0 : ht_ok E68 a0 := ht_ok_fr TH hst68 hm0 hk0 (by decide) (by decide) hcg133_0
                              have hcg133_1 : t1_ok E68 a0 (13) := t1_ok_fr TH hst68 hm0 hk0 (by decide) (by decide) (by omega) hcg133_1
                              have hcg133_2 : nc_ok E68 a0 (150) := (fun z => absurd z (by rw [tw_fi_of hzfxc69_0_0]; omega))
                              obtain ⟨qzfxc69_0_0, hqzfxc69_0_0, hqzfxc69_0_0a, hqzfxc69_0_0b⟩ := tw_rd TH hm0 hk0 (by decide) (by decide) (k := 57) rfl
                              have eqzfxc69_0_0 : qzfxc69_0_0 = zfxc69_0_0 := by have q := hqzfxc69_0_0.symm.trans hzfxc69_0_0; injection q
                              rw [eqzfxc69_0_0] at hqzfxc69_0_0a hqzfxc69_0_0b
                              refine W.eq (g2 := F0 m 214 ls []) rfl ?_
                              obtain ⟨zi73, ezi73⟩ : ∃ z : Int32, z = y133_5 + Int32.ofInt 1 := ⟨_, rfl⟩
                              have hzi73 : zi73.toInt = y133_5.toInt + 1 := by rw [ezi73]; have : ((Int32.ofInt 1).toInt) = 1 := (by decide);  exact (ia_add (by omega) (by omega)).trans (by omega)
                              refine lv_iinc (v := zi73) (lv' := [(5, .int zi73), (4, .int xc10), (0, .ref a0)]) hx hb dX12_thirdQuarrels_214 hl (k := 0) rfl ezi73.symm (by decide) rfl (fun ls hl => ?_)
                              refine lv_goto (tgt := 133) hx hb dX12_thirdQuarrels_217 (by decide) ?_
                              exact ih133 (n133 - 1) (by   omega) zi73 zfxc69_0_0 _ _ _ ls (by omega) (by omega) (by omega) (by omega) (by  omega) (by  intro q0; exfalso; omega) (by   omega) hzfxc69_0_0 hG133 hcg133_0 hcg133_1 hcg133_2 TH hS (lv_sub hl [0, 1, 2] rfl)
                            · have hf74 : y133_5.toInt = xc10.toInt := by have z := (fa_eq _ _).mp hc66;  omega
                              refine lv_aload_n hx hb dX12_thirdQuarrels_196 rfl (lv_at hl 2 rfl) ?_
                              refine tw_get (ci := 12) (C := RX12) (T := TX12) (N := 64) hx hb hB cx_inX12 hown hK TH hm0 hk0 rfl ⟨by decide, rfl⟩ 20 (by decide) cw_1213 (fun _ h9 => h9) dX12_thirdQuarrels_197 (fun hv => ?_)
                              obtain ⟨xr75, hxr75, hmxr75, hkxr75⟩ : ∃ a : Nat, tw_fv E46 a0 20 = .ref a ∧ a ∈ L ∧ kp a = 330 := hv
                              rw [hxr75]
                              refine lv_iload hx hb dX12_thirdQuarrels_200 (lv_at hl 0 rfl) ?_
                              refine tw_iald (k := 330) (t0 := 0) (n := 150) (lo := 0) (hi := 9) hx hb hK TH hmxr75 hkxr75 (by decide) rfl rfl (i := y133_5) (vp_in_iff.mpr ⟨by  omega, by  omega⟩) dX12_thirdQuarrels_202 (fun hxe76a hxe76b => ?_)
                              obtain ⟨xe76, exe76⟩ : ∃ z : Int32, tw_iv E46 xr75 (Int32.toNatClampNeg y133_5) = z := ⟨_, rfl⟩
                              rw [exe76] at hxe76a hxe76b ⊢
                              refine lv_if_eq (tgt := 214) hx hb dX12_thirdQuarrels_203 (by decide) (fun hc77 => ?_) (fun hc77 => ?_)
                              · have hf78 : xe76.toInt = 0 := by have z := (fa_eq _ _).mp hc77; have : ((0 : Int32).toInt) = 0 := (by decide); omega
                                obtain ⟨zi79, ezi79⟩ : ∃ z : Int32, z = y133_5 + Int32.ofInt 1 := ⟨_, rfl⟩
                                have hzi79 : zi79.toInt = y133_5.toInt + 1 := by rw [ezi79]; have : ((Int32.ofInt 1).toInt) = 1 := (by decide);  exact (ia_add (by omega) (by omega)).trans (by omega)
                                refine lv_iinc (v := zi79) (lv' := [(5, .int zi79), (4, .int xc10), (0, .ref a0)]) hx hb dX12_thirdQuarrels_214 hl (k := 0) rfl ezi79.symm (by decide) rfl (fun ls hl => ?_)
                                refine lv_goto (tgt := 133) hx hb dX12_thirdQuarrels_217 (by decide) ?_
                                exact ih133 (n133 - 1) (by   omega) zi79 u133_0_57 _ _ _ ls (by omega) (by omega) (by omega) (by omega) (by  omega) (by  intro q0; have fh := rw_h_fr TH hF hm0 hk0 (by decide) (by decide) (by decide) (i := 13) (by decide); have fp := rw_p_fr TH hF hm0 hk0 (by decide) (by decide) (by decide) (i := 13) (by decide); refine r3_step (hin133_1 q0) (show zi79.toInt = y133_5.toInt + 1 by omega) (fun hz hp => ?_) (by omega); have rf_xe61 : rw_p E46 a0 (13) (y133_5.toInt).toNat = xe61.toInt := (by have q := rw_p_of (m := a0) (i := (13 : Int32)) (c := y133_5) hxr59 exr60 exe61; rw [show ((13 : Int32).toInt) = 13 from (by decide)] at q; exact q); rw [← fp, rf_xe61] at hp; omega) (by   omega) hmf48 hG133 hcg133_0 hcg133_1 hcg133_2 TH hS (lv_sub hl [0, 1, 2] rfl)
                              · have hf80 : ¬ (xe76.toInt = 0) := fun q => hc77 ((fa_eq _ _).mpr (by have : ((0 : Int32).toInt) = 0 := (by decide); omega))
                                refine lv_aload_n hx hb dX12_thirdQuarrels_206 rfl (lv_at hl 2 rfl) ?_
                                refine lv_bipush (v := 6) hx hb dX12_thirdQuarrels_207 (by decide) ?_
                                refine lv_iload hx hb dX12_thirdQuarrels_209 (lv_at hl 0 rfl) ?_
                                refine tw_Vc (o := a0) (ci := 12) (n := 2) (post := (fun v kq Lq Eq => v = none ∧ kp = kq ∧ L = Lq ∧ tw_fr kp L [(12, 57)] [359] E46 Eq ∧ (∃ z0 : Int32, tw_fv Eq a0 57 = .int z0 ∧ (z0.toInt = u133_0_57.toInt + 1)))) (As := [.int 6, .int y133_5]) (rest := []) ⟨hx, hb, hml, hown, hB⟩ (fun sz => tX12_quarrels l D cs a0 (6 : Int32) y133_5 u133_0_57 hm0 hk0 hmf48 (by have : ((6 : Int32).toInt) = 6 := (by decide); omega) sz) cg_12_468_X12_quarrels rfl rfl (by decide +kernel) ⟨Nat.le_of_ble_eq_true rfl, Nat.le_of_ble_eq_true rfl⟩ hK hN TH hS hA rfl hm0 hk0 (by decide) rfl hl.1 rfl (Nat.le_of_ble_eq_true rfl) dX12_thirdQuarrels_211 ⟨Nat.le_of_ble_eq_true rfl, Nat.le_of_ble_eq_true rfl⟩ (fun v81 kp81 L81 E81 H locs hq81 hx81 TH hS => ?_)
                                obtain ⟨rfl, rfl, rfl, hst81, ⟨zfxc82_0_0, hzfxc82_0_0, hzpxc82_0⟩⟩ := hq81
                                have hF := hF.tr hst81 (fun _ h => ⟨h, rfl⟩) (by decide) (by decide)
                                have hG133 := hG133.tr hst81 (fun _ h => ⟨h, rfl⟩) (by decide) (by decide)
                                have hmf83 : tw_fv E81 a0 16 = .ref xr33 := (hst81.1 a0 16 hm0 (by rw [hk0]; decide)).trans hmf49
                                have hmf84 : tw_fv E81 a0 60 = .ref xr40 := (hst81.1 a0 60 hm0 (by rw [hk0]; decide)).trans hmf50
                                have hmf85 : tw_fv E81 a0 18 = .ref xr59 := (hst81.1 a0 18 hm0 (by rw [hk0]; decide)).trans hxr59
                                have hmf86 : tw_fv E81 a0 20 = .ref xr75 := (hst81.1 a0 20 hm0 (by rw [hk0]; decide)).trans hxr75
                                have hcg133_0_o := hcg133_0
                                have hcg133_1_o := hcg133_1
                                have hcg133_2_o := hcg133_2
                                have hcg133_0 : ht_ok E81 a0 := ht_ok_fr TH hst81 hm0 hk0 (by decide) (by decide) hcg133_0
                                have hcg133_1 : t1_ok E81 a0 (13) := t1_ok_fr TH hst81 hm0 hk0 (by decide) (by decide) (by omega) hcg133_1
                                have hcg133_2 : nc_ok E81 a0 (150) := (fun z => absurd z (by rw [tw_fi_of hzfxc82_0_0]; omega))
                                obtain ⟨qzfxc82_0_0, hqzfxc82_0_0, hqzfxc82_0_0a, hqzfxc82_0_0b⟩ := tw_rd TH hm0 hk0 (by decide) (by decide) (k := 57) rfl
                                have eqzfxc82_0_0 : qzfxc82_0_0 = zfxc82_0_0 := by have q := hqzfxc82_0_0.symm.trans hzfxc82_0_0; injection q
                                rw [eqzfxc82_0_0] at hqzfxc82_0_0a hqzfxc82_0_0b
                                refine W.eq (g2 := F0 m 214 ls []) rfl ?_
                                obtain ⟨zi87, ezi87⟩ : ∃ z : Int32, z = y133_5 + Int32.ofInt 1 := ⟨_, rfl⟩
                                have hzi87 : zi87.toInt = y133_5.toInt + 1 := by rw [ezi87]; have : ((Int32.ofInt 1).toInt) = 1 := (by decide);  exact (ia_add (by omega) (by omega)).trans (by omega)
                                refine lv_iinc (v := zi87) (lv' := [(5, .int zi87), (4, .int xc10), (0, .ref a0)]) hx hb dX12_thirdQuarrels_214 hl (k := 0) rfl ezi87.symm (by decide) rfl (fun ls hl => ?_)
                                refine lv_goto (tgt := 133) hx hb dX12_thirdQuarrels_217 (by decide) ?_
                                exact ih133 (n133 - 1) (by   omega) zi87 zfxc82_0_0 _ _ _ ls (by omega) (by omega) (by omega) (by omega) (by  omega) (by  intro q0; exfalso; omega) (by   omega) hzfxc82_0_0 hG133 hcg133_0 hcg133_1 hcg133_2 TH hS (lv_sub hl [0, 1, 2] rfl)
              exact hJ133 151 (0 : Int32) u32_0_57 _ _ _ ls (by have : ((0 : Int32).toInt) = 0 := (by decide); omega) (by have : ((0 : Int32).toInt) = 0 := (by decide); omega) (by omega) (by omega) (by have : ((0 : Int32).toInt) = 0 := (by decide); omega) (by have : ((0 : Int32).toInt) = 0 := (by decide); intro _ c hc; exact absurd hc (by have e0 : ((0 : Int32).toInt) = 0 := (by decide); omega)) (by have : ((0 : Int32).toInt) = 0 := (by decide);  omega) hmf8 tw_fr.rf hgpxc7_0 (t1_ok_cast (by have : ((0 : Int32).toInt) = 0 := (by decide); omega) hgpxc7_1) (nc_ok_cast (by have : ((0 : Int32).toInt) = 0 := (by decide); omega) hcg32_2) TH hS (lv_sub hl [0, 1, 2] rfl)
            · have hf88 : ¬ (150 ≤ y32_4.toInt) := fun q => hc4 ((fa_le _ _).mpr (by have : ((150 : Int32).toInt) = 150 := (by decide); omega))
              refine lv_aload_n hx hb dX12_thirdQuarrels_40 rfl (lv_at hl 1 rfl) ?_
              refine tw_get (ci := 12) (C := RX12) (T := TX12) (N := 64) hx hb hB cx_inX12 hown hK TH hm0 hk0 rfl ⟨by decide, rfl⟩ 60 (by decide) cw_1253 (fun _ h9 => h9) dX12_thirdQuarrels_41 (fun hv => ?_)
              obtain ⟨xr89, hxr89, hmxr89, hkxr89⟩ : ∃ a : Nat, tw_fv Eg32 a0 60 = .ref a ∧ a ∈ L ∧ kp a = 364 := hv
              rw [hxr89]
              refine lv_iload hx hb dX12_thirdQuarrels_44 (lv_at hl 0 rfl) ?_
              refine lv_aload_n hx hb dX12_thirdQuarrels_46 rfl (lv_at hl 1 rfl) ?_
              refine tw_get (ci := 12) (C := RX12) (T := TX12) (N := 64) hx hb hB cx_inX12 hown hK TH hm0 hk0 rfl ⟨by decide, rfl⟩ 16 (by decide) cw_1209 (fun _ h9 => h9) dX12_thirdQuarrels_47 (fun hv => ?_)
              obtain ⟨xr90, hxr90, hmxr90, hkxr90⟩ : ∃ a : Nat, tw_fv Eg32 a0 16 = .ref a ∧ a ∈ L ∧ kp a = 316 := hv
              rw [hxr90]
              refine lv_bipush (v := 13) hx hb dX12_thirdQuarrels_50 (by decide) ?_
              refine tw_aald (k := 316) (t0 := 5) (n := 16) (lo := 326) (hi := 0) (ty := .boolean) hx hb hK TH hmxr90 hkxr90 (by decide) rfl rfl (i := 13) (vp_in_iff.mpr ⟨by have : ((13 : Int32).toInt) = 13 := (by decide); omega, by have : ((13 : Int32).toInt) = 13 := (by decide); omega⟩) dX12_thirdQuarrels_52 (fun xr91 exr91 hmxr91 hkxr91 => ?_)
              have hkxr91 : kp xr91 = 326 := hkxr91
              refine lv_iload hx hb dX12_thirdQuarrels_53 (lv_at hl 0 rfl) ?_
              refine tw_zald (k := 326) (t0 := 3) (n := 150) (lo := 0) (hi := 1) hx hb hK TH hmxr91 hkxr91 (by decide) rfl rfl (i := y32_4) (vp_in_iff.mpr ⟨by  omega, by  omega⟩) dX12_thirdQuarrels_55 (fun hxe92a hxe92b => ?_)
              obtain ⟨xe92, exe92⟩ : ∃ z : Int32, tw_iv Eg32 xr91 (Int32.toNatClampNeg y32_4) = z := ⟨_, rfl⟩
              rw [exe92] at hxe92a hxe92b ⊢
              refine lv_if_eq (tgt := 91) hx hb dX12_thirdQuarrels_56 (by decide) (fun hc93 => ?_) (fun hc93 => ?_)
              · have hf94 : xe92.toInt = 0 := by have z := (fa_eq _ _).mp hc93; have : ((0 : Int32).toInt) = 0 := (by decide); omega
                refine lv_iconst (v := 0) hx hb dX12_thirdQuarrels_91 (by decide) ?_
                refine tw_zast (k := 364) (n := 150) (lo := 0) (hi := 1) hx hb hK TH hS hmxr89 hkxr89 (by decide) rfl (i := y32_4) (x := 0) (vp_in_iff.mpr ⟨by  omega, by  omega⟩) (by have : ((0 : Int32).toInt) = 0 := (by decide); omega) (by have : ((0 : Int32).toInt) = 0 := (by decide); omega) (by have : ((0 : Int32).toInt) = 0 := (by decide); omega) (by have : ((0 : Int32).toInt) = 0 := (by decide); omega) dX12_thirdQuarrels_92 (fun H locs E95 TH hS hp96 hp97 hp98 => ?_)
                have hst99 : tw_fr kp L [] [364] Eg32 E95 := tw_fr.ast tw_fr.rf (fun _ => hkxr89) hp96 hp97 (by decide)
                have hF := hF.tr hst99 (fun _ h => ⟨h, rfl⟩) (by decide) (by decide)
                have hG32 := hG32.tr hst99 (fun _ h => ⟨h, rfl⟩) (by decide) (by decide)
                have hmf100 : tw_fv E95 a0 57 = .int u32_0_57 := (hst99.1 a0 57 hm0 (by rw [hk0]; decide)).trans hfm32_0
                have hmf101 : tw_fv E95 a0 60 = .ref xr89 := (hst99.1 a0 60 hm0 (by rw [hk0]; decide)).trans hxr89
                have hmf102 : tw_fv E95 a0 16 = .ref xr90 := (hst99.1 a0 16 hm0 (by rw [hk0]; decide)).trans hxr90
                have hcg32_0_o := hcg32_0
                have hcg32_1_o := hcg32_1
                have hcg32_2_o := hcg32_2
                have hcg32_0 : ht_ok E95 a0 := ht_ok_fr TH hst99 hm0 hk0 (by decide) (by decide) hcg32_0
                have hcg32_1 : t1_ok E95 a0 (13) := t1_ok_fr TH hst99 hm0 hk0 (by decide) (by decide) (by omega) hcg32_1
                have hcg32_2 : nc_ok E95 a0 (y32_4.toInt) := (fun z c hc => (by have w := tw_el_st hxr89 hp96 hp97 hp98 c; rw [w, if_neg (fun y => (by have y2 := y.2; have y3 : c = (y32_4.toInt).toNat := y2; omega))]; exact hcg32_2_o (by unfold tw_fi at z ⊢; rw [← hp96]; exact z) c hc))
                refine lv_aload_n hx hb dX12_thirdQuarrels_93 rfl (lv_at hl 1 rfl) ?_
                refine tw_get (ci := 12) (C := RX12) (T := TX12) (N := 64) hx hb hB cx_inX12 hown hK TH hm0 hk0 rfl ⟨by decide, rfl⟩ 60 (by decide) cw_1253 (fun _ h9 => h9) dX12_thirdQuarrels_94 (fun hv => ?_)
                rw [hmf101]
                refine lv_iload hx hb dX12_thirdQuarrels_97 (lv_at hl 0 rfl) ?_
                refine tw_zald (k := 364) (t0 := 3) (n := 150) (lo := 0) (hi := 1) hx hb hK TH hmxr89 hkxr89 (by decide) rfl rfl (i := y32_4) (vp_in_iff.mpr ⟨by  omega, by  omega⟩) dX12_thirdQuarrels_99 (fun hxe103a hxe103b => ?_)
                obtain ⟨xe103, exe103⟩ : ∃ z : Int32, tw_iv E95 xr89 (Int32.toNatClampNeg y32_4) = z := ⟨_, rfl⟩
                rw [exe103] at hxe103a hxe103b ⊢
                refine lv_if_eq (tgt := 110) hx hb dX12_thirdQuarrels_100 (by decide) (fun hc104 => ?_) (fun hc104 => ?_)
                · have hf105 : xe103.toInt = 0 := by have z := (fa_eq _ _).mp hc104; have : ((0 : Int32).toInt) = 0 := (by decide); omega
                  have rf_xe103 : tw_el E95 a0 60 (y32_4.toInt).toNat = xe103.toInt := (by rw [tw_el_of hmf101]; exact congrArg Int32.toInt exe103)
                  have hnc110 : nc_ok E95 a0 (y32_4.toInt + 1) := nc_push hcg32_2 (by rw [rf_xe103]; omega)
                  obtain ⟨zi106, ezi106⟩ : ∃ z : Int32, z = y32_4 + Int32.ofInt 1 := ⟨_, rfl⟩
                  have hzi106 : zi106.toInt = y32_4.toInt + 1 := by rw [ezi106]; have : ((Int32.ofInt 1).toInt) = 1 := (by decide);  exact (ia_add (by omega) (by omega)).trans (by omega)
                  refine lv_iinc (v := zi106) (lv' := [(4, .int zi106), (0, .ref a0), (1, .int x1), (2, .int x2), (3, .int x3)]) hx hb dX12_thirdQuarrels_110 hl (k := 0) rfl ezi106.symm (by decide) rfl (fun ls hl => ?_)
                  refine lv_goto (tgt := 32) hx hb dX12_thirdQuarrels_113 (by decide) ?_
                  exact ih32 (n32 - 1) (by   omega) zi106 u32_0_57 _ _ _ ls (by omega) (by omega) (by omega) (by omega) (by  omega) (by   omega) hmf100 hG32 hcg32_0 hcg32_1 (nc_ok_cast (by  omega) hnc110) TH hS (lv_sub hl [0, 1, 2, 3, 4] rfl)
                · have hf107 : ¬ (xe103.toInt = 0) := fun q => hc104 ((fa_eq _ _).mpr (by have : ((0 : Int32).toInt) = 0 := (by decide); omega))
                  refine lv_aload_n hx hb dX12_thirdQuarrels_103 rfl (lv_at hl 1 rfl) ?_
                  refine lv_iconst (v := 5) hx hb dX12_thirdQuarrels_104 (by decide) ?_
                  refine lv_iload hx hb dX12_thirdQuarrels_105 (lv_at hl 0 rfl) ?_
                  refine tw_Vc (o := a0) (ci := 12) (n := 2) (post := (fun v kq Lq Eq => v = none ∧ kp = kq ∧ L = Lq ∧ tw_fr kp L [(12, 57)] [359] E95 Eq ∧ (∃ z0 : Int32, tw_fv Eq a0 57 = .int z0 ∧ (z0.toInt = u32_0_57.toInt + 1)))) (As := [.int 5, .int y32_4]) (rest := []) ⟨hx, hb, hml, hown, hB⟩ (fun sz => tX12_quarrels l D cs a0 (5 : Int32) y32_4 u32_0_57 hm0 hk0 hmf100 (by have : ((5 : Int32).toInt) = 5 := (by decide); omega) sz) cg_12_468_X12_quarrels rfl rfl (by decide +kernel) ⟨Nat.le_of_ble_eq_true rfl, Nat.le_of_ble_eq_true rfl⟩ hK hN TH hS hA rfl hm0 hk0 (by decide) rfl hl.1 rfl (Nat.le_of_ble_eq_true rfl) dX12_thirdQuarrels_107 ⟨Nat.le_of_ble_eq_true rfl, Nat.le_of_ble_eq_true rfl⟩ (fun v108 kp108 L108 E108 H locs hq108 hx108 TH hS => ?_)
                  obtain ⟨rfl, rfl, rfl, hst108, ⟨zfxc109_0_0, hzfxc109_0_0, hzpxc109_0⟩⟩ := hq108
                  have hF := hF.tr hst108 (fun _ h => ⟨h, rfl⟩) (by decide) (by decide)
                  have hG32 := hG32.tr hst108 (fun _ h => ⟨h, rfl⟩) (by decide) (by decide)
                  have hmf110 : tw_fv E108 a0 60 = .ref xr89 := (hst108.1 a0 60 hm0 (by rw [hk0]; decide)).trans hmf101
                  have hmf111 : tw_fv E108 a0 16 = .ref xr90 := (hst108.1 a0 16 hm0 (by rw [hk0]; decide)).trans hmf102
                  have hcg32_0_o := hcg32_0
                  have hcg32_1_o := hcg32_1
                  have hcg32_2_o := hcg32_2
                  have hcg32_0 : ht_ok E108 a0 := ht_ok_fr TH hst108 hm0 hk0 (by decide) (by decide) hcg32_0
                  have hcg32_1 : t1_ok E108 a0 (13) := t1_ok_fr TH hst108 hm0 hk0 (by decide) (by decide) (by omega) hcg32_1
                  have hcg32_2 : nc_ok E108 a0 (y32_4.toInt + 1) := (fun z => absurd z (by rw [tw_fi_of hzfxc109_0_0]; omega))
                  obtain ⟨qzfxc109_0_0, hqzfxc109_0_0, hqzfxc109_0_0a, hqzfxc109_0_0b⟩ := tw_rd TH hm0 hk0 (by decide) (by decide) (k := 57) rfl
                  have eqzfxc109_0_0 : qzfxc109_0_0 = zfxc109_0_0 := by have q := hqzfxc109_0_0.symm.trans hzfxc109_0_0; injection q
                  rw [eqzfxc109_0_0] at hqzfxc109_0_0a hqzfxc109_0_0b
                  refine W.eq (g2 := F0 m 110 ls []) rfl ?_
                  have hdone := trivial
                  obtain ⟨zi112, ezi112⟩ : ∃ z : Int32, z = y32_4 + Int32.ofInt 1 := ⟨_, rfl⟩
                  have hzi112 : zi112.toInt = y32_4.toInt + 1 := by rw [ezi112]; have : ((Int32.ofInt 1).toInt) = 1 := (by decide);  exact (ia_add (by omega) (by omega)).trans (by omega)
                  refine lv_iinc (v := zi112) (lv' := [(4, .int zi112), (0, .ref a0), (1, .int x1), (2, .int x2), (3, .int x3)]) hx hb dX12_thirdQuarrels_110 hl (k := 0) rfl ezi112.symm (by decide) rfl (fun ls hl => ?_)
                  refine lv_goto (tgt := 32) hx hb dX12_thirdQuarrels_113 (by decide) ?_
                  exact ih32 (n32 - 1) (by   omega) zi112 zfxc109_0_0 _ _ _ ls (by omega) (by omega) (by omega) (by omega) (by  omega) (by   omega) hzfxc109_0_0 hG32 hcg32_0 hcg32_1 (nc_ok_cast (by  omega) hcg32_2) TH hS (lv_sub hl [0, 1, 2, 3, 4] rfl)
              · have hf113 : ¬ (xe92.toInt = 0) := fun q => hc93 ((fa_eq _ _).mpr (by have : ((0 : Int32).toInt) = 0 := (by decide); omega))
                refine lv_aload_n hx hb dX12_thirdQuarrels_59 rfl (lv_at hl 1 rfl) ?_
                refine tw_get (ci := 12) (C := RX12) (T := TX12) (N := 64) hx hb hB cx_inX12 hown hK TH hm0 hk0 rfl ⟨by decide, rfl⟩ 33 (by decide) cw_1226 (fun _ h9 => h9) dX12_thirdQuarrels_60 (fun hv => ?_)
                obtain ⟨xr114, hxr114, hmxr114, hkxr114⟩ : ∃ a : Nat, tw_fv Eg32 a0 33 = .ref a ∧ a ∈ L ∧ kp a = 339 := hv
                rw [hxr114]
                refine lv_aload_n hx hb dX12_thirdQuarrels_63 rfl (lv_at hl 1 rfl) ?_
                refine tw_get (ci := 12) (C := RX12) (T := TX12) (N := 64) hx hb hB cx_inX12 hown hK TH hm0 hk0 rfl ⟨by decide, rfl⟩ 20 (by decide) cw_1213 (fun _ h9 => h9) dX12_thirdQuarrels_64 (fun hv => ?_)
                obtain ⟨xr115, hxr115, hmxr115, hkxr115⟩ : ∃ a : Nat, tw_fv Eg32 a0 20 = .ref a ∧ a ∈ L ∧ kp a = 330 := hv
                rw [hxr115]
                refine lv_iload hx hb dX12_thirdQuarrels_67 (lv_at hl 0 rfl) ?_
                refine tw_iald (k := 330) (t0 := 0) (n := 150) (lo := 0) (hi := 9) hx hb hK TH hmxr115 hkxr115 (by decide) rfl rfl (i := y32_4) (vp_in_iff.mpr ⟨by  omega, by  omega⟩) dX12_thirdQuarrels_69 (fun hxe116a hxe116b => ?_)
                obtain ⟨xe116, exe116⟩ : ∃ z : Int32, tw_iv Eg32 xr115 (Int32.toNatClampNeg y32_4) = z := ⟨_, rfl⟩
                rw [exe116] at hxe116a hxe116b ⊢
                refine tw_iald (k := 339) (t0 := 0) (n := 10) (lo := 0) (hi := 2) hx hb hK TH hmxr114 hkxr114 (by decide) rfl rfl (i := xe116) (vp_in_iff.mpr ⟨by  omega, by  omega⟩) dX12_thirdQuarrels_70 (fun hxe117a hxe117b => ?_)
                obtain ⟨xe117, exe117⟩ : ∃ z : Int32, tw_iv Eg32 xr114 (Int32.toNatClampNeg xe116) = z := ⟨_, rfl⟩
                rw [exe117] at hxe117a hxe117b ⊢
                refine lv_iconst (v := 1) hx hb dX12_thirdQuarrels_71 (by decide) ?_
                refine lv_icmp_eq (tgt := 91) hx hb dX12_thirdQuarrels_72 (by decide) (fun hc118 => ?_) (fun hc118 => ?_)
                · have hf119 : xe117.toInt = 1 := by have z := (fa_eq _ _).mp hc118; have : ((1 : Int32).toInt) = 1 := (by decide); omega
                  refine lv_iconst (v := 0) hx hb dX12_thirdQuarrels_91 (by decide) ?_
                  refine tw_zast (k := 364) (n := 150) (lo := 0) (hi := 1) hx hb hK TH hS hmxr89 hkxr89 (by decide) rfl (i := y32_4) (x := 0) (vp_in_iff.mpr ⟨by  omega, by  omega⟩) (by have : ((0 : Int32).toInt) = 0 := (by decide); omega) (by have : ((0 : Int32).toInt) = 0 := (by decide); omega) (by have : ((0 : Int32).toInt) = 0 := (by decide); omega) (by have : ((0 : Int32).toInt) = 0 := (by decide); omega) dX12_thirdQuarrels_92 (fun H locs E120 TH hS hp121 hp122 hp123 => ?_)
                  have hst124 : tw_fr kp L [] [364] Eg32 E120 := tw_fr.ast tw_fr.rf (fun _ => hkxr89) hp121 hp122 (by decide)
                  have hF := hF.tr hst124 (fun _ h => ⟨h, rfl⟩) (by decide) (by decide)
                  have hG32 := hG32.tr hst124 (fun _ h => ⟨h, rfl⟩) (by decide) (by decide)
                  have hmf125 : tw_fv E120 a0 57 = .int u32_0_57 := (hst124.1 a0 57 hm0 (by rw [hk0]; decide)).trans hfm32_0
                  have hmf126 : tw_fv E120 a0 60 = .ref xr89 := (hst124.1 a0 60 hm0 (by rw [hk0]; decide)).trans hxr89
                  have hmf127 : tw_fv E120 a0 16 = .ref xr90 := (hst124.1 a0 16 hm0 (by rw [hk0]; decide)).trans hxr90
                  have hmf128 : tw_fv E120 a0 33 = .ref xr114 := (hst124.1 a0 33 hm0 (by rw [hk0]; decide)).trans hxr114
                  have hmf129 : tw_fv E120 a0 20 = .ref xr115 := (hst124.1 a0 20 hm0 (by rw [hk0]; decide)).trans hxr115
                  have hcg32_0_o := hcg32_0
                  have hcg32_1_o := hcg32_1
                  have hcg32_2_o := hcg32_2
                  have hcg32_0 : ht_ok E120 a0 := ht_ok_fr TH hst124 hm0 hk0 (by decide) (by decide) hcg32_0
                  have hcg32_1 : t1_ok E120 a0 (13) := t1_ok_fr TH hst124 hm0 hk0 (by decide) (by decide) (by omega) hcg32_1
                  have hcg32_2 : nc_ok E120 a0 (y32_4.toInt) := (fun z c hc => (by have w := tw_el_st hxr89 hp121 hp122 hp123 c; rw [w, if_neg (fun y => (by have y2 := y.2; have y3 : c = (y32_4.toInt).toNat := y2; omega))]; exact hcg32_2_o (by unfold tw_fi at z ⊢; rw [← hp121]; exact z) c hc))
                  refine lv_aload_n hx hb dX12_thirdQuarrels_93 rfl (lv_at hl 1 rfl) ?_
                  refine tw_get (ci := 12) (C := RX12) (T := TX12) (N := 64) hx hb hB cx_inX12 hown hK TH hm0 hk0 rfl ⟨by decide, rfl⟩ 60 (by decide) cw_1253 (fun _ h9 => h9) dX12_thirdQuarrels_94 (fun hv => ?_)
                  rw [hmf126]
                  refine lv_iload hx hb dX12_thirdQuarrels_97 (lv_at hl 0 rfl) ?_
                  refine tw_zald (k := 364) (t0 := 3) (n := 150) (lo := 0) (hi := 1) hx hb hK TH hmxr89 hkxr89 (by decide) rfl rfl (i := y32_4) (vp_in_iff.mpr ⟨by  omega, by  omega⟩) dX12_thirdQuarrels_99 (fun hxe130a hxe130b => ?_)
                  obtain ⟨xe130, exe130⟩ : ∃ z : Int32, tw_iv E120 xr89 (Int32.toNatClampNeg y32_4) = z := ⟨_, rfl⟩
                  rw [exe130] at hxe130a hxe130b ⊢
                  refine lv_if_eq (tgt := 110) hx hb dX12_thirdQuarrels_100 (by decide) (fun hc131 => ?_) (fun hc131 => ?_)
                  · have hf132 : xe130.toInt = 0 := by have z := (fa_eq _ _).mp hc131; have : ((0 : Int32).toInt) = 0 := (by decide); omega
                    have rf_xe130 : tw_el E120 a0 60 (y32_4.toInt).toNat = xe130.toInt := (by rw [tw_el_of hmf126]; exact congrArg Int32.toInt exe130)
                    have hnc110 : nc_ok E120 a0 (y32_4.toInt + 1) := nc_push hcg32_2 (by rw [rf_xe130]; omega)
                    obtain ⟨zi133, ezi133⟩ : ∃ z : Int32, z = y32_4 + Int32.ofInt 1 := ⟨_, rfl⟩
                    have hzi133 : zi133.toInt = y32_4.toInt + 1 := by rw [ezi133]; have : ((Int32.ofInt 1).toInt) = 1 := (by decide);  exact (ia_add (by omega) (by omega)).trans (by omega)
                    refine lv_iinc (v := zi133) (lv' := [(4, .int zi133), (0, .ref a0), (1, .int x1), (2, .int x2), (3, .int x3)]) hx hb dX12_thirdQuarrels_110 hl (k := 0) rfl ezi133.symm (by decide) rfl (fun ls hl => ?_)
                    refine lv_goto (tgt := 32) hx hb dX12_thirdQuarrels_113 (by decide) ?_
                    exact ih32 (n32 - 1) (by   omega) zi133 u32_0_57 _ _ _ ls (by omega) (by omega) (by omega) (by omega) (by  omega) (by   omega) hmf125 hG32 hcg32_0 hcg32_1 (nc_ok_cast (by  omega) hnc110) TH hS (lv_sub hl [0, 1, 2, 3, 4] rfl)
                  · have hf134 : ¬ (xe130.toInt = 0) := fun q => hc131 ((fa_eq _ _).mpr (by have : ((0 : Int32).toInt) = 0 := (by decide); omega))
                    refine lv_aload_n hx hb dX12_thirdQuarrels_103 rfl (lv_at hl 1 rfl) ?_
                    refine lv_iconst (v := 5) hx hb dX12_thirdQuarrels_104 (by decide) ?_
                    refine lv_iload hx hb dX12_thirdQuarrels_105 (lv_at hl 0 rfl) ?_
                    refine tw_Vc (o := a0) (ci := 12) (n := 2) (post := (fun v kq Lq Eq => v = none ∧ kp = kq ∧ L = Lq ∧ tw_fr kp L [(12, 57)] [359] E120 Eq ∧ (∃ z0 : Int32, tw_fv Eq a0 57 = .int z0 ∧ (z0.toInt = u32_0_57.toInt + 1)))) (As := [.int 5, .int y32_4]) (rest := []) ⟨hx, hb, hml, hown, hB⟩ (fun sz => tX12_quarrels l D cs a0 (5 : Int32) y32_4 u32_0_57 hm0 hk0 hmf125 (by have : ((5 : Int32).toInt) = 5 := (by decide); omega) sz) cg_12_468_X12_quarrels rfl rfl (by decide +kernel) ⟨Nat.le_of_ble_eq_true rfl, Nat.le_of_ble_eq_true rfl⟩ hK hN TH hS hA rfl hm0 hk0 (by decide) rfl hl.1 rfl (Nat.le_of_ble_eq_true rfl) dX12_thirdQuarrels_107 ⟨Nat.le_of_ble_eq_true rfl, Nat.le_of_ble_eq_true rfl⟩ (fun v135 kp135 L135 E135 H locs hq135 hx135 TH hS => ?_)
                    obtain ⟨rfl, rfl, rfl, hst135, ⟨zfxc136_0_0, hzfxc136_0_0, hzpxc136_0⟩⟩ := hq135
                    have hF := hF.tr hst135 (fun _ h => ⟨h, rfl⟩) (by decide) (by decide)
                    have hG32 := hG32.tr hst135 (fun _ h => ⟨h, rfl⟩) (by decide) (by decide)
                    have hmf137 : tw_fv E135 a0 60 = .ref xr89 := (hst135.1 a0 60 hm0 (by rw [hk0]; decide)).trans hmf126
                    have hmf138 : tw_fv E135 a0 16 = .ref xr90 := (hst135.1 a0 16 hm0 (by rw [hk0]; decide)).trans hmf127
                    have hmf139 : tw_fv E135 a0 33 = .ref xr114 := (hst135.1 a0 33 hm0 (by rw [hk0]; decide)).trans hmf128
                    have hmf140 : tw_fv E135 a0 20 = .ref xr115 := (hst135.1 a0 20 hm0 (by rw [hk0]; decide)).trans hmf129
                    have hcg32_0_o := hcg32_0
                    have hcg32_1_o := hcg32_1
                    have hcg32_2_o := hcg32_2
                    have hcg32_0 : ht_ok E135 a0 := ht_ok_fr TH hst135 hm0 hk0 (by decide) (by decide) hcg32_0
                    have hcg32_1 : t1_ok E135 a0 (13) := t1_ok_fr TH hst135 hm0 hk0 (by decide) (by decide) (by omega) hcg32_1
                    have hcg32_2 : nc_ok E135 a0 (y32_4.toInt + 1) := (fun z => absurd z (by rw [tw_fi_of hzfxc136_0_0]; omega))
                    obtain ⟨qzfxc136_0_0, hqzfxc136_0_0, hqzfxc136_0_0a, hqzfxc136_0_0b⟩ := tw_rd TH hm0 hk0 (by decide) (by decide) (k := 57) rfl
                    have eqzfxc136_0_0 : qzfxc136_0_0 = zfxc136_0_0 := by have q := hqzfxc136_0_0.symm.trans hzfxc136_0_0; injection q
                    rw [eqzfxc136_0_0] at hqzfxc136_0_0a hqzfxc136_0_0b
                    refine W.eq (g2 := F0 m 110 ls []) rfl ?_
                    have hdone := trivial
                    obtain ⟨zi141, ezi141⟩ : ∃ z : Int32, z = y32_4 + Int32.ofInt 1 := ⟨_, rfl⟩
                    have hzi141 : zi141.toInt = y32_4.toInt + 1 := by rw [ezi141]; have : ((Int32.ofInt 1).toInt) = 1 := (by decide);  exact (ia_add (by omega) (by omega)).trans (by omega)
                    refine lv_iinc (v := zi141) (lv' := [(4, .int zi141), (0, .ref a0), (1, .int x1), (2, .int x2), (3, .int x3)]) hx hb dX12_thirdQuarrels_110 hl (k := 0) rfl ezi141.symm (by decide) rfl (fun ls hl => ?_)
                    refine lv_goto (tgt := 32) hx hb dX12_thirdQuarrels_113 (by decide) ?_
                    exact ih32 (n32 - 1) (by   omega) zi141 zfxc136_0_0 _ _ _ ls (by omega) (by omega) (by omega) (by omega) (by  omega) (by   omega) hzfxc136_0_0 hG32 hcg32_0 hcg32_1 (nc_ok_cast (by  omega) hcg32_2) TH hS (lv_sub hl [0, 1, 2, 3, 4] rfl)
                · have hf142 : ¬ (xe117.toInt = 1) := fun q => hc118 ((fa_eq _ _).mpr (by have : ((1 : Int32).toInt) = 1 := (by decide); omega))
                  refine lv_aload_n hx hb dX12_thirdQuarrels_75 rfl (lv_at hl 1 rfl) ?_
                  refine lv_iload_n hx hb dX12_thirdQuarrels_76 rfl (lv_at hl 2 rfl) ?_
                  refine lv_iload_n hx hb dX12_thirdQuarrels_77 rfl (lv_at hl 3 rfl) ?_
                  refine lv_iload_n hx hb dX12_thirdQuarrels_78 rfl (lv_at hl 4 rfl) ?_
                  refine lv_iload hx hb dX12_thirdQuarrels_79 (lv_at hl 0 rfl) ?_
                  refine tw_Vc (o := a0) (ci := 12) (n := 4) (post := (fun v kq Lq Eq => (∃ x : Int32, v = some (.int x) ∧ 0 ≤ x.toInt ∧ x.toInt ≤ 1) ∧ kp = kq ∧ L = Lq ∧ tw_fr kp L [] [329, 363] Eg32 Eq)) (As := [.int x1, .int x2, .int x3, .int y32_4]) (rest := [.int y32_4, .ref xr89]) ⟨hx, hb, hml, hown, hB⟩ (fun sz => tX12_ordersKids l D cs a0 x1 x2 x3 y32_4 hm0 hk0 (by omega) (by omega) (by omega) (by omega) (by omega) (by omega) (by omega) (by omega) sz) cg_12_497_X12_ordersKids rfl rfl (by decide +kernel) ⟨Nat.le_of_ble_eq_true rfl, Nat.le_of_ble_eq_true rfl⟩ hK hN TH hS hA rfl hm0 hk0 (by decide) rfl hl.1 rfl (Nat.le_of_ble_eq_true rfl) dX12_thirdQuarrels_81 ⟨Nat.le_of_ble_eq_true rfl, Nat.le_of_ble_eq_true rfl⟩ (fun v143 kp143 L143 E143 H locs hq143 hx143 TH hS => ?_)
                  obtain ⟨⟨xc144, rfl, hxc144a, hxc144b⟩, rfl, rfl, hst143⟩ := hq143
                  have hF := hF.tr hst143 (fun _ h => ⟨h, rfl⟩) (by decide) (by decide)
                  have hG32 := hG32.tr hst143 (fun _ h => ⟨h, rfl⟩) (by decide) (by decide)
                  have hmf145 : tw_fv E143 a0 57 = .int u32_0_57 := (hst143.1 a0 57 hm0 (by rw [hk0]; decide)).trans hfm32_0
                  have hmf146 : tw_fv E143 a0 60 = .ref xr89 := (hst143.1 a0 60 hm0 (by rw [hk0]; decide)).trans hxr89
                  have hmf147 : tw_fv E143 a0 16 = .ref xr90 := (hst143.1 a0 16 hm0 (by rw [hk0]; decide)).trans hxr90
                  have hmf148 : tw_fv E143 a0 33 = .ref xr114 := (hst143.1 a0 33 hm0 (by rw [hk0]; decide)).trans hxr114
                  have hmf149 : tw_fv E143 a0 20 = .ref xr115 := (hst143.1 a0 20 hm0 (by rw [hk0]; decide)).trans hxr115
                  have hcg32_0 : ht_ok E143 a0 := ht_ok_fr TH hst143 hm0 hk0 (by decide) (by decide) hcg32_0
                  have hcg32_1 : t1_ok E143 a0 (13) := t1_ok_fr TH hst143 hm0 hk0 (by decide) (by decide) (by omega) hcg32_1
                  have hcg32_2 : nc_ok E143 a0 (y32_4.toInt) := nc_ok_fr TH hst143 hm0 hk0 (by decide) (by decide) hcg32_2
                  refine W.eq (g2 := F0 m 84 ls [.int xc144, .int y32_4, .ref xr89]) rfl ?_
                  refine lv_if_ne (tgt := 91) hx hb dX12_thirdQuarrels_84 (by decide) (fun hc150 => ?_) (fun hc150 => ?_)
                  · have hf151 : ¬ (xc144.toInt = 0) := fun q => hc150 ((fa_eq _ _).mpr (by have : ((0 : Int32).toInt) = 0 := (by decide); omega))
                    refine lv_iconst (v := 0) hx hb dX12_thirdQuarrels_91 (by decide) ?_
                    refine tw_zast (k := 364) (n := 150) (lo := 0) (hi := 1) hx hb hK TH hS hmxr89 hkxr89 (by decide) rfl (i := y32_4) (x := 0) (vp_in_iff.mpr ⟨by  omega, by  omega⟩) (by have : ((0 : Int32).toInt) = 0 := (by decide); omega) (by have : ((0 : Int32).toInt) = 0 := (by decide); omega) (by have : ((0 : Int32).toInt) = 0 := (by decide); omega) (by have : ((0 : Int32).toInt) = 0 := (by decide); omega) dX12_thirdQuarrels_92 (fun H locs E152 TH hS hp153 hp154 hp155 => ?_)
                    have hst156 : tw_fr kp L [] [364] E143 E152 := tw_fr.ast tw_fr.rf (fun _ => hkxr89) hp153 hp154 (by decide)
                    have hF := hF.tr hst156 (fun _ h => ⟨h, rfl⟩) (by decide) (by decide)
                    have hG32 := hG32.tr hst156 (fun _ h => ⟨h, rfl⟩) (by decide) (by decide)
                    have hmf157 : tw_fv E152 a0 57 = .int u32_0_57 := (hst156.1 a0 57 hm0 (by rw [hk0]; decide)).trans hmf145
                    have hmf158 : tw_fv E152 a0 60 = .ref xr89 := (hst156.1 a0 60 hm0 (by rw [hk0]; decide)).trans hmf146
                    have hmf159 : tw_fv E152 a0 16 = .ref xr90 := (hst156.1 a0 16 hm0 (by rw [hk0]; decide)).trans hmf147
                    have hmf160 : tw_fv E152 a0 33 = .ref xr114 := (hst156.1 a0 33 hm0 (by rw [hk0]; decide)).trans hmf148
                    have hmf161 : tw_fv E152 a0 20 = .ref xr115 := (hst156.1 a0 20 hm0 (by rw [hk0]; decide)).trans hmf149
                    have hcg32_0_o := hcg32_0
                    have hcg32_1_o := hcg32_1
                    have hcg32_2_o := hcg32_2
                    have hcg32_0 : ht_ok E152 a0 := ht_ok_fr TH hst156 hm0 hk0 (by decide) (by decide) hcg32_0
                    have hcg32_1 : t1_ok E152 a0 (13) := t1_ok_fr TH hst156 hm0 hk0 (by decide) (by decide) (by omega) hcg32_1
                    have hcg32_2 : nc_ok E152 a0 (y32_4.toInt) := (fun z c hc => (by have w := tw_el_st hmf146 hp153 hp154 hp155 c; rw [w, if_neg (fun y => (by have y2 := y.2; have y3 : c = (y32_4.toInt).toNat := y2; omega))]; exact hcg32_2_o (by unfold tw_fi at z ⊢; rw [← hp153]; exact z) c hc))
                    refine lv_aload_n hx hb dX12_thirdQuarrels_93 rfl (lv_at hl 1 rfl) ?_
                    refine tw_get (ci := 12) (C := RX12) (T := TX12) (N := 64) hx hb hB cx_inX12 hown hK TH hm0 hk0 rfl ⟨by decide, rfl⟩ 60 (by decide) cw_1253 (fun _ h9 => h9) dX12_thirdQuarrels_94 (fun hv => ?_)
                    rw [hmf158]
                    refine lv_iload hx hb dX12_thirdQuarrels_97 (lv_at hl 0 rfl) ?_
                    refine tw_zald (k := 364) (t0 := 3) (n := 150) (lo := 0) (hi := 1) hx hb hK TH hmxr89 hkxr89 (by decide) rfl rfl (i := y32_4) (vp_in_iff.mpr ⟨by  omega, by  omega⟩) dX12_thirdQuarrels_99 (fun hxe162a hxe162b => ?_)
                    obtain ⟨xe162, exe162⟩ : ∃ z : Int32, tw_iv E152 xr89 (Int32.toNatClampNeg y32_4) = z := ⟨_, rfl⟩
                    rw [exe162] at hxe162a hxe162b ⊢
                    refine lv_if_eq (tgt := 110) hx hb dX12_thirdQuarrels_100 (by decide) (fun hc163 => ?_) (fun hc163 => ?_)
                    · have hf164 : xe162.toInt = 0 := by have z := (fa_eq _ _).mp hc163; have : ((0 : Int32).toInt) = 0 := (by decide); omega
                      have rf_xe162 : tw_el E152 a0 60 (y32_4.toInt).toNat = xe162.toInt := (by rw [tw_el_of hmf158]; exact congrArg Int32.toInt exe162)
                      have hnc110 : nc_ok E152 a0 (y32_4.toInt + 1) := nc_push hcg32_2 (by rw [rf_xe162]; omega)
                      obtain ⟨zi165, ezi165⟩ : ∃ z : Int32, z = y32_4 + Int32.ofInt 1 := ⟨_, rfl⟩
                      have hzi165 : zi165.toInt = y32_4.toInt + 1 := by rw [ezi165]; have : ((Int32.ofInt 1).toInt) = 1 := (by decide);  exact (ia_add (by omega) (by omega)).trans (by omega)
                      refine lv_iinc (v := zi165) (lv' := [(4, .int zi165), (0, .ref a0), (1, .int x1), (2, .int x2), (3, .int x3)]) hx hb dX12_thirdQuarrels_110 hl (k := 0) rfl ezi165.symm (by decide) rfl (fun ls hl => ?_)
                      refine lv_goto (tgt := 32) hx hb dX12_thirdQuarrels_113 (by decide) ?_
                      exact ih32 (n32 - 1) (by   omega) zi165 u32_0_57 _ _ _ ls (by omega) (by omega) (by omega) (by omega) (by  omega) (by   omega) hmf157 hG32 hcg32_0 hcg32_1 (nc_ok_cast (by  omega) hnc110) TH hS (lv_sub hl [0, 1, 2, 3, 4] rfl)
                    · have hf166 : ¬ (xe162.toInt = 0) := fun q => hc163 ((fa_eq _ _).mpr (by have : ((0 : Int32).toInt) = 0 := (by decide); omega))
                      refine lv_aload_n hx hb dX12_thirdQuarrels_103 rfl (lv_at hl 1 rfl) ?_
                      refine lv_iconst (v := 5) hx hb dX12_thirdQuarrels_104 (by decide) ?_
                      refine lv_iload hx hb dX12_thirdQuarrels_105 (lv_at hl 0 rfl) ?_
                      refine tw_Vc (o := a0) (ci := 12) (n := 2) (post := (fun v kq Lq Eq => v = none ∧ kp = kq ∧ L = Lq ∧ tw_fr kp L [(12, 57)] [359] E152 Eq ∧ (∃ z0 : Int32, tw_fv Eq a0 57 = .int z0 ∧ (z0.toInt = u32_0_57.toInt + 1)))) (As := [.int 5, .int y32_4]) (rest := []) ⟨hx, hb, hml, hown, hB⟩ (fun sz => tX12_quarrels l D cs a0 (5 : Int32) y32_4 u32_0_57 hm0 hk0 hmf157 (by have : ((5 : Int32).toInt) = 5 := (by decide); omega) sz) cg_12_468_X12_quarrels rfl rfl (by decide +kernel) ⟨Nat.le_of_ble_eq_true rfl, Nat.le_of_ble_eq_true rfl⟩ hK hN TH hS hA rfl hm0 hk0 (by decide) rfl hl.1 rfl (Nat.le_of_ble_eq_true rfl) dX12_thirdQuarrels_107 ⟨Nat.le_of_ble_eq_true rfl, Nat.le_of_ble_eq_true rfl⟩ (fun v167 kp167 L167 E167 H locs hq167 hx167 TH hS => ?_)
                      obtain ⟨rfl, rfl, rfl, hst167, ⟨zfxc168_0_0, hzfxc168_0_0, hzpxc168_0⟩⟩ := hq167
                      have hF := hF.tr hst167 (fun _ h => ⟨h, rfl⟩) (by decide) (by decide)
                      have hG32 := hG32.tr hst167 (fun _ h => ⟨h, rfl⟩) (by decide) (by decide)
                      have hmf169 : tw_fv E167 a0 60 = .ref xr89 := (hst167.1 a0 60 hm0 (by rw [hk0]; decide)).trans hmf158
                      have hmf170 : tw_fv E167 a0 16 = .ref xr90 := (hst167.1 a0 16 hm0 (by rw [hk0]; decide)).trans hmf159
                      have hmf171 : tw_fv E167 a0 33 = .ref xr114 := (hst167.1 a0 33 hm0 (by rw [hk0]; decide)).trans hmf160
                      have hmf172 : tw_fv E167 a0 20 = .ref xr115 := (hst167.1 a0 20 hm0 (by rw [hk0]; decide)).trans hmf161
                      have hcg32_0_o := hcg32_0
                      have hcg32_1_o := hcg32_1
                      have hcg32_2_o := hcg32_2
                      have hcg32_0 : ht_ok E167 a0 := ht_ok_fr TH hst167 hm0 hk0 (by decide) (by decide) hcg32_0
                      have hcg32_1 : t1_ok E167 a0 (13) := t1_ok_fr TH hst167 hm0 hk0 (by decide) (by decide) (by omega) hcg32_1
                      have hcg32_2 : nc_ok E167 a0 (y32_4.toInt + 1) := (fun z => absurd z (by rw [tw_fi_of hzfxc168_0_0]; omega))
                      obtain ⟨qzfxc168_0_0, hqzfxc168_0_0, hqzfxc168_0_0a, hqzfxc168_0_0b⟩ := tw_rd TH hm0 hk0 (by decide) (by decide) (k := 57) rfl
                      have eqzfxc168_0_0 : qzfxc168_0_0 = zfxc168_0_0 := by have q := hqzfxc168_0_0.symm.trans hzfxc168_0_0; injection q
                      rw [eqzfxc168_0_0] at hqzfxc168_0_0a hqzfxc168_0_0b
                      refine W.eq (g2 := F0 m 110 ls []) rfl ?_
                      have hdone := trivial
                      obtain ⟨zi173, ezi173⟩ : ∃ z : Int32, z = y32_4 + Int32.ofInt 1 := ⟨_, rfl⟩
                      have hzi173 : zi173.toInt = y32_4.toInt + 1 := by rw [ezi173]; have : ((Int32.ofInt 1).toInt) = 1 := (by decide);  exact (ia_add (by omega) (by omega)).trans (by omega)
                      refine lv_iinc (v := zi173) (lv' := [(4, .int zi173), (0, .ref a0), (1, .int x1), (2, .int x2), (3, .int x3)]) hx hb dX12_thirdQuarrels_110 hl (k := 0) rfl ezi173.symm (by decide) rfl (fun ls hl => ?_)
                      refine lv_goto (tgt := 32) hx hb dX12_thirdQuarrels_113 (by decide) ?_
                      exact ih32 (n32 - 1) (by   omega) zi173 zfxc168_0_0 _ _ _ ls (by omega) (by omega) (by omega) (by omega) (by  omega) (by   omega) hzfxc168_0_0 hG32 hcg32_0 hcg32_1 (nc_ok_cast (by  omega) hcg32_2) TH hS (lv_sub hl [0, 1, 2, 3, 4] rfl)
                  · have hf174 : xc144.toInt = 0 := by have z := (fa_eq _ _).mp hc150; have : ((0 : Int32).toInt) = 0 := (by decide); omega
                    refine lv_iconst (v := 1) hx hb dX12_thirdQuarrels_87 (by decide) ?_
                    refine lv_goto (tgt := 92) hx hb dX12_thirdQuarrels_88 (by decide) ?_
                    refine tw_zast (k := 364) (n := 150) (lo := 0) (hi := 1) hx hb hK TH hS hmxr89 hkxr89 (by decide) rfl (i := y32_4) (x := 1) (vp_in_iff.mpr ⟨by  omega, by  omega⟩) (by have : ((1 : Int32).toInt) = 1 := (by decide); omega) (by have : ((1 : Int32).toInt) = 1 := (by decide); omega) (by have : ((1 : Int32).toInt) = 1 := (by decide); omega) (by have : ((1 : Int32).toInt) = 1 := (by decide); omega) dX12_thirdQuarrels_92 (fun H locs E175 TH hS hp176 hp177 hp178 => ?_)
                    have hst179 : tw_fr kp L [] [364] E143 E175 := tw_fr.ast tw_fr.rf (fun _ => hkxr89) hp176 hp177 (by decide)
                    have hF := hF.tr hst179 (fun _ h => ⟨h, rfl⟩) (by decide) (by decide)
                    have hG32 := hG32.tr hst179 (fun _ h => ⟨h, rfl⟩) (by decide) (by decide)
                    have hmf180 : tw_fv E175 a0 57 = .int u32_0_57 := (hst179.1 a0 57 hm0 (by rw [hk0]; decide)).trans hmf145
                    have hmf181 : tw_fv E175 a0 60 = .ref xr89 := (hst179.1 a0 60 hm0 (by rw [hk0]; decide)).trans hmf146
                    have hmf182 : tw_fv E175 a0 16 = .ref xr90 := (hst179.1 a0 16 hm0 (by rw [hk0]; decide)).trans hmf147
                    have hmf183 : tw_fv E175 a0 33 = .ref xr114 := (hst179.1 a0 33 hm0 (by rw [hk0]; decide)).trans hmf148
                    have hmf184 : tw_fv E175 a0 20 = .ref xr115 := (hst179.1 a0 20 hm0 (by rw [hk0]; decide)).trans hmf149
                    have hcg32_0_o := hcg32_0
                    have hcg32_1_o := hcg32_1
                    have hcg32_2_o := hcg32_2
                    have hcg32_0 : ht_ok E175 a0 := ht_ok_fr TH hst179 hm0 hk0 (by decide) (by decide) hcg32_0
                    have hcg32_1 : t1_ok E175 a0 (13) := t1_ok_fr TH hst179 hm0 hk0 (by decide) (by decide) (by omega) hcg32_1
                    have hcg32_2 : nc_ok E175 a0 (y32_4.toInt) := (fun z c hc => (by have w := tw_el_st hmf146 hp176 hp177 hp178 c; rw [w, if_neg (fun y => (by have y2 := y.2; have y3 : c = (y32_4.toInt).toNat := y2; omega))]; exact hcg32_2_o (by unfold tw_fi at z ⊢; rw [← hp176]; exact z) c hc))
                    refine lv_aload_n hx hb dX12_thirdQuarrels_93 rfl (lv_at hl 1 rfl) ?_
                    refine tw_get (ci := 12) (C := RX12) (T := TX12) (N := 64) hx hb hB cx_inX12 hown hK TH hm0 hk0 rfl ⟨by decide, rfl⟩ 60 (by decide) cw_1253 (fun _ h9 => h9) dX12_thirdQuarrels_94 (fun hv => ?_)
                    rw [hmf181]
                    refine lv_iload hx hb dX12_thirdQuarrels_97 (lv_at hl 0 rfl) ?_
                    refine tw_zald (k := 364) (t0 := 3) (n := 150) (lo := 0) (hi := 1) hx hb hK TH hmxr89 hkxr89 (by decide) rfl rfl (i := y32_4) (vp_in_iff.mpr ⟨by  omega, by  omega⟩) dX12_thirdQuarrels_99 (fun hxe185a hxe185b => ?_)
                    obtain ⟨xe185, exe185⟩ : ∃ z : Int32, tw_iv E175 xr89 (Int32.toNatClampNeg y32_4) = z := ⟨_, rfl⟩
                    rw [exe185] at hxe185a hxe185b ⊢
                    refine lv_if_eq (tgt := 110) hx hb dX12_thirdQuarrels_100 (by decide) (fun hc186 => ?_) (fun hc186 => ?_)
                    · have hf187 : xe185.toInt = 0 := by have z := (fa_eq _ _).mp hc186; have : ((0 : Int32).toInt) = 0 := (by decide); omega
                      have rf_xe185 : tw_el E175 a0 60 (y32_4.toInt).toNat = xe185.toInt := (by rw [tw_el_of hmf181]; exact congrArg Int32.toInt exe185)
                      have hnc110 : nc_ok E175 a0 (y32_4.toInt + 1) := nc_push hcg32_2 (by rw [rf_xe185]; omega)
                      obtain ⟨zi188, ezi188⟩ : ∃ z : Int32, z = y32_4 + Int32.ofInt 1 := ⟨_, rfl⟩
                      have hzi188 : zi188.toInt = y32_4.toInt + 1 := by rw [ezi188]; have : ((Int32.ofInt 1).toInt) = 1 := (by decide);  exact (ia_add (by omega) (by omega)).trans (by omega)
                      refine lv_iinc (v := zi188) (lv' := [(4, .int zi188), (0, .ref a0), (1, .int x1), (2, .int x2), (3, .int x3)]) hx hb dX12_thirdQuarrels_110 hl (k := 0) rfl ezi188.symm (by decide) rfl (fun ls hl => ?_)
                      refine lv_goto (tgt := 32) hx hb dX12_thirdQuarrels_113 (by decide) ?_
                      exact ih32 (n32 - 1) (by   omega) zi188 u32_0_57 _ _ _ ls (by omega) (by omega) (by omega) (by omega) (by  omega) (by   omega) hmf180 hG32 hcg32_0 hcg32_1 (nc_ok_cast (by  omega) hnc110) TH hS (lv_sub hl [0, 1, 2, 3, 4] rfl)
                    · have hf189 : ¬ (xe185.toInt = 0) := fun q => hc186 ((fa_eq _ _).mpr (by have : ((0 : Int32).toInt) = 0 := (by decide); omega))
                      refine lv_aload_n hx hb dX12_thirdQuarrels_103 rfl (lv_at hl 1 rfl) ?_
                      refine lv_iconst (v := 5) hx hb dX12_thirdQuarrels_104 (by decide) ?_
                      refine lv_iload hx hb dX12_thirdQuarrels_105 (lv_at hl 0 rfl) ?_
                      refine tw_Vc (o := a0) (ci := 12) (n := 2) (post := (fun v kq Lq Eq => v = none ∧ kp = kq ∧ L = Lq ∧ tw_fr kp L [(12, 57)] [359] E175 Eq ∧ (∃ z0 : Int32, tw_fv Eq a0 57 = .int z0 ∧ (z0.toInt = u32_0_57.toInt + 1)))) (As := [.int 5, .int y32_4]) (rest := []) ⟨hx, hb, hml, hown, hB⟩ (fun sz => tX12_quarrels l D cs a0 (5 : Int32) y32_4 u32_0_57 hm0 hk0 hmf180 (by have : ((5 : Int32).toInt) = 5 := (by decide); omega) sz) cg_12_468_X12_quarrels rfl rfl (by decide +kernel) ⟨Nat.le_of_ble_eq_true rfl, Nat.le_of_ble_eq_true rfl⟩ hK hN TH hS hA rfl hm0 hk0 (by decide) rfl hl.1 rfl (Nat.le_of_ble_eq_true rfl) dX12_thirdQuarrels_107 ⟨Nat.le_of_ble_eq_true rfl, Nat.le_of_ble_eq_true rfl⟩ (fun v190 kp190 L190 E190 H locs hq190 hx190 TH hS => ?_)
                      obtain ⟨rfl, rfl, rfl, hst190, ⟨zfxc191_0_0, hzfxc191_0_0, hzpxc191_0⟩⟩ := hq190
                      have hF := hF.tr hst190 (fun _ h => ⟨h, rfl⟩) (by decide) (by decide)
                      have hG32 := hG32.tr hst190 (fun _ h => ⟨h, rfl⟩) (by decide) (by decide)
                      have hmf192 : tw_fv E190 a0 60 = .ref xr89 := (hst190.1 a0 60 hm0 (by rw [hk0]; decide)).trans hmf181
                      have hmf193 : tw_fv E190 a0 16 = .ref xr90 := (hst190.1 a0 16 hm0 (by rw [hk0]; decide)).trans hmf182
                      have hmf194 : tw_fv E190 a0 33 = .ref xr114 := (hst190.1 a0 33 hm0 (by rw [hk0]; decide)).trans hmf183
                      have hmf195 : tw_fv E190 a0 20 = .ref xr115 := (hst190.1 a0 20 hm0 (by rw [hk0]; decide)).trans hmf184
                      have hcg32_0_o := hcg32_0
                      have hcg32_1_o := hcg32_1
                      have hcg32_2_o := hcg32_2
                      have hcg32_0 : ht_ok E190 a0 := ht_ok_fr TH hst190 hm0 hk0 (by decide) (by decide) hcg32_0
                      have hcg32_1 : t1_ok E190 a0 (13) := t1_ok_fr TH hst190 hm0 hk0 (by decide) (by decide) (by omega) hcg32_1
                      have hcg32_2 : nc_ok E190 a0 (y32_4.toInt + 1) := (fun z => absurd z (by rw [tw_fi_of hzfxc191_0_0]; omega))
                      obtain ⟨qzfxc191_0_0, hqzfxc191_0_0, hqzfxc191_0_0a, hqzfxc191_0_0b⟩ := tw_rd TH hm0 hk0 (by decide) (by decide) (k := 57) rfl
                      have eqzfxc191_0_0 : qzfxc191_0_0 = zfxc191_0_0 := by have q := hqzfxc191_0_0.symm.trans hzfxc191_0_0; injection q
                      rw [eqzfxc191_0_0] at hqzfxc191_0_0a hqzfxc191_0_0b
                      refine W.eq (g2 := F0 m 110 ls []) rfl ?_
                      have hdone := trivial
                      obtain ⟨zi196, ezi196⟩ : ∃ z : Int32, z = y32_4 + Int32.ofInt 1 := ⟨_, rfl⟩
                      have hzi196 : zi196.toInt = y32_4.toInt + 1 := by rw [ezi196]; have : ((Int32.ofInt 1).toInt) = 1 := (by decide);  exact (ia_add (by omega) (by omega)).trans (by omega)
                      refine lv_iinc (v := zi196) (lv' := [(4, .int zi196), (0, .ref a0), (1, .int x1), (2, .int x2), (3, .int x3)]) hx hb dX12_thirdQuarrels_110 hl (k := 0) rfl ezi196.symm (by decide) rfl (fun ls hl => ?_)
                      refine lv_goto (tgt := 32) hx hb dX12_thirdQuarrels_113 (by decide) ?_
                      exact ih32 (n32 - 1) (by   omega) zi196 zfxc191_0_0 _ _ _ ls (by omega) (by omega) (by omega) (by omega) (by  omega) (by   omega) hzfxc191_0_0 hG32 hcg32_0 hcg32_1 (nc_ok_cast (by  omega) hcg32_2) TH hS (lv_sub hl [0, 1, 2, 3, 4] rfl)
        exact hJ32 151 (0 : Int32) fv0_57 _ _ _ ls (by have : ((0 : Int32).toInt) = 0 := (by decide); omega) (by have : ((0 : Int32).toInt) = 0 := (by decide); omega) (by omega) (by omega) (by have : ((0 : Int32).toInt) = 0 := (by decide); omega) (by have : ((0 : Int32).toInt) = 0 := (by decide);  omega) hmf1 tw_fr.rf hcg3_0 hcg3_1 (nc_ok_cast (by have : ((0 : Int32).toInt) = 0 := (by decide); omega) hcg3_2) TH hS (lv_sub hl [0, 1, 2, 3, 4] rfl)
      · have hf197 : ¬ (150 ≤ y3_4.toInt) := fun q => hc2 ((fa_le _ _).mpr (by have : ((150 : Int32).toInt) = 150 := (by decide); omega))
        refine lv_aload_n hx hb dX12_thirdQuarrels_11 rfl (lv_at hl 1 rfl) ?_
        refine tw_get (ci := 12) (C := RX12) (T := TX12) (N := 64) hx hb hB cx_inX12 hown hK TH hm0 hk0 rfl ⟨by decide, rfl⟩ 19 (by decide) cw_1212 (fun _ h9 => h9) dX12_thirdQuarrels_12 (fun hv => ?_)
        obtain ⟨xr198, hxr198, hmxr198, hkxr198⟩ : ∃ a : Nat, tw_fv Eg3 a0 19 = .ref a ∧ a ∈ L ∧ kp a = 319 := hv
        rw [hxr198]
        refine lv_bipush (v := 13) hx hb dX12_thirdQuarrels_15 (by decide) ?_
        refine tw_aald (k := 319) (t0 := 4) (n := 16) (lo := 329) (hi := 0) (ty := .int) hx hb hK TH hmxr198 hkxr198 (by decide) rfl rfl (i := 13) (vp_in_iff.mpr ⟨by have : ((13 : Int32).toInt) = 13 := (by decide); omega, by have : ((13 : Int32).toInt) = 13 := (by decide); omega⟩) dX12_thirdQuarrels_17 (fun xr199 exr199 hmxr199 hkxr199 => ?_)
        have hkxr199 : kp xr199 = 329 := hkxr199
        refine lv_iload hx hb dX12_thirdQuarrels_18 (lv_at hl 0 rfl) ?_
        refine lv_iload hx hb dX12_thirdQuarrels_20 (lv_at hl 0 rfl) ?_
        refine tw_iast (k := 329) (n := 150) (lo := (-2147483648)) (hi := 2147483647) hx hb hK TH hS hmxr199 hkxr199 (by decide) rfl (i := y3_4) (x := y3_4) (vp_in_iff.mpr ⟨by  omega, by  omega⟩) (ia_lo _) (ia_hi _) dX12_thirdQuarrels_22 (fun H locs E200 TH hS hp201 hp202 hp203 => ?_)
        have hst204 : tw_fr kp L [] [329] Eg3 E200 := tw_fr.ast tw_fr.rf (fun _ => hkxr199) hp201 hp202 (by decide)
        have hF := hF.tr hst204 (fun _ h => ⟨h, rfl⟩) (by decide) (by decide)
        have hG3 := hG3.tr hst204 (fun _ h => ⟨h, rfl⟩) (by decide) (by decide)
        have hmf205 : tw_fv E200 a0 57 = .int fv0_57 := (hst204.1 a0 57 hm0 (by rw [hk0]; decide)).trans hmf1
        have hmf206 : tw_fv E200 a0 19 = .ref xr198 := (hst204.1 a0 19 hm0 (by rw [hk0]; decide)).trans hxr198
        have hcg3_0 : ht_ok E200 a0 := ht_ok_fr TH hst204 hm0 hk0 (by decide) (by decide) hcg3_0
        have hcg3_1 : t1_ok E200 a0 (13) := t1_ok_fr TH hst204 hm0 hk0 (by decide) (by decide) (by omega) hcg3_1
        have hcg3_2 : nc_ok E200 a0 (0) := nc_ok_fr TH hst204 hm0 hk0 (by decide) (by decide) hcg3_2
        obtain ⟨zi207, ezi207⟩ : ∃ z : Int32, z = y3_4 + Int32.ofInt 1 := ⟨_, rfl⟩
        have hzi207 : zi207.toInt = y3_4.toInt + 1 := by rw [ezi207]; have : ((Int32.ofInt 1).toInt) = 1 := (by decide);  exact (ia_add (by omega) (by omega)).trans (by omega)
        refine lv_iinc (v := zi207) (lv' := [(4, .int zi207), (0, .ref a0), (1, .int x1), (2, .int x2), (3, .int x3)]) hx hb dX12_thirdQuarrels_23 hl (k := 0) rfl ezi207.symm (by decide) rfl (fun ls hl => ?_)
        refine lv_goto (tgt := 3) hx hb dX12_thirdQuarrels_26 (by decide) ?_
        exact ih3 (n3 - 1) (by   omega) zi207 _ _ _ ls (by omega) (by omega) (by  omega) (by   omega) hG3 hcg3_0 hcg3_1 hcg3_2 TH hS (lv_sub hl [0, 1, 2, 3, 4] rfl)
  exact hJ3 151 (0 : Int32) _ _ _ ls (by have : ((0 : Int32).toInt) = 0 := (by decide); omega) (by have : ((0 : Int32).toInt) = 0 := (by decide); omega) (by have : ((0 : Int32).toInt) = 0 := (by decide); omega) (by have : ((0 : Int32).toInt) = 0 := (by decide);  omega) tw_fr.rf hg1 hg0 hnc TH hS (lv_sub hl [0, 1, 2, 3, 4] rfl)
set_option maxHeartbeats 4000000 in
set_option maxRecDepth 100000 in
theorem tX12_merges (l : Launch) (D : va_G) (cs : Nat → ClassId) {kp : Nat → Nat} {L : List Nat} {E : Nat → va_E} (a0 : Nat) (x1 : Int32) (x2 : Int32) (x3 : Int32) (hm0 : a0 ∈ L) (hk0 : kp a0 = 12) (hp1a : 0 ≤ x1.toInt) (hp1b : x1.toInt ≤ 15) (hp2a : 0 ≤ x2.toInt) (hp2b : x2.toInt ≤ 15) (hp3a : 0 ≤ x3.toInt) (hp3b : x3.toInt ≤ 15) (hpre0 : x1.toInt ≠ 13) (hpre1 : x2.toInt ≠ 13) (hpre2 : x3.toInt ≠ 13) (hg0 : row_ok E a0 (x1.toInt)) (hg1 : row_ok E a0 (x2.toInt)) (hg2 : rd_ok E a0) (hg3 : ht_ok E a0) (sz : Nat) : Met l yX12_merges (.code yX12_merges cX12_merges 4 (some .boolean) :: cx_big) { frames := 5, cells := 0, slots := 0, locals := 132 } (tw_P D cs kp L E [.ref a0, .int x1, .int x2, .int x3] sz) (tw_Q D cs kp L (fun v kq Lq Eq => (∃ x : Int32, v = some (.int x) ∧ 0 ≤ x.toInt ∧ x.toInt ≤ 1 ∧ (ot_ok Eq a0 13 E) ∧ (x.toInt ≠ 0 → r2_ok E a0 x1.toInt x2.toInt → row_ok Eq a0 13) ∧ (x.toInt ≠ 0 → r2_ok E a0 x1.toInt x2.toInt → r2_ok Eq a0 13 x1.toInt ∧ r2_ok Eq a0 13 x2.toInt) ∧ rd_ok Eq a0 ∧ ht_ok Eq a0) ∧ kp = kq ∧ L = Lq ∧ tw_fr kp L [(12, 57)] [326, 327, 328, 329, 348, 349, 359, 363, 364] E Eq) (va_A (va_pl L E) sz)) 0 0 (va_A (va_pl L E) sz) := by
  refine tw_ofW (by decide) (Nat.le_of_ble_eq_true rfl) ?_
  intro p e s m below meth c A ls hx hb hr hml hB hown hlocks hK hN hA TH hS hl
  have hown : s.vm.findClass "TreeMergeModel" = some m.cls := hown
  have hl : lv_has ls 4 [(0, .ref a0), (1, .int x1), (2, .int x2), (3, .int x3)] := hl
  obtain ⟨kp0, ekp⟩ : ∃ z, z = kp := ⟨_, rfl⟩
  obtain ⟨L0, eL⟩ : ∃ z, z = L := ⟨_, rfl⟩
  rw [show tw_Q D cs kp L = tw_Q D cs kp0 L0 by rw [ekp, eL]]
  have hex : ∀ a : Nat, a ∈ L0 → a ∈ L ∧ kp a = kp0 a := fun a h => ⟨by rw [← eL]; exact h, by rw [ekp]⟩
  have hF : tw_fr kp L [(12, 57)] [326, 327, 328, 329, 348, 349, 359, 363, 364] E E := tw_fr.rf
  have hot : ot_ok E a0 13 E := ot_ok_rf
  refine lv_aload_n hx hb dX12_merges_0 rfl (lv_at hl 0 rfl) ?_
  refine lv_iload_n hx hb dX12_merges_1 rfl (lv_at hl 1 rfl) ?_
  refine lv_iload_n hx hb dX12_merges_2 rfl (lv_at hl 2 rfl) ?_
  refine lv_iload_n hx hb dX12_merges_3 rfl (lv_at hl 3 rfl) ?_
  refine tw_Vc (o := a0) (ci := 12) (n := 3) (post := (fun v kq Lq Eq => v = none ∧ kp = kq ∧ L = Lq ∧ tw_fr kp L [(12, 57)] [359] E Eq ∧ (tw_fi Eq a0 57 = 0 → fq_ok E a0 x1.toInt x2.toInt x3.toInt 4 0) ∧ (∃ z0 : Int32, tw_fv Eq a0 57 = .int z0 ∧ (z0.toInt ≤ 450)))) (As := [.int x1, .int x2, .int x3]) (rest := []) ⟨hx, hb, hml, hown, hB⟩ (fun sz => tX12_firstQuarrels l D cs a0 x1 x2 x3 hm0 hk0 (by omega) (by omega) (by omega) (by omega) (by omega) (by omega) hg0.1 hg1.1 sz) cg_12_500_X12_firstQuarrels rfl rfl (by decide +kernel) ⟨Nat.le_of_ble_eq_true rfl, Nat.le_of_ble_eq_true rfl⟩ hK hN TH hS hA rfl hm0 hk0 (by decide) rfl hl.1 rfl (Nat.le_of_ble_eq_true rfl) dX12_merges_4 ⟨Nat.le_of_ble_eq_true rfl, Nat.le_of_ble_eq_true rfl⟩ (fun v1 kp1 L1 E1 H locs hq1 hx1 TH hS => ?_)
  obtain ⟨rfl, rfl, rfl, hst1, hpoxc2_0, ⟨zfxc2_0_0, hzfxc2_0_0, hzpxc2_0⟩⟩ := hq1
  have hF := hF.tr hst1 (fun _ h => ⟨h, rfl⟩) (by decide) (by decide)
  have hg0_o := hg0
  have hg1_o := hg1
  have hg2_o := hg2
  have hg3_o := hg3
  have hot_o := hot
  have hg0 : row_ok E1 a0 (x1.toInt) := row_ok_fr TH hst1 hm0 hk0 (by decide) (by decide) (by omega) hg0
  have hg1 : row_ok E1 a0 (x2.toInt) := row_ok_fr TH hst1 hm0 hk0 (by decide) (by decide) (by omega) hg1
  have hg2 : rd_ok E1 a0 := rd_ok_fr TH hst1 hm0 hk0 (by decide) (by decide) hg2
  have hg3 : ht_ok E1 a0 := ht_ok_fr TH hst1 hm0 hk0 (by decide) (by decide) hg3
  have hot : ot_ok E1 a0 (13) E := ot_ok_fr TH hst1 hm0 hk0 (by decide) (by decide) hot_o
  obtain ⟨qzfxc2_0_0, hqzfxc2_0_0, hqzfxc2_0_0a, hqzfxc2_0_0b⟩ := tw_rd TH hm0 hk0 (by decide) (by decide) (k := 57) rfl
  have eqzfxc2_0_0 : qzfxc2_0_0 = zfxc2_0_0 := by have q := hqzfxc2_0_0.symm.trans hzfxc2_0_0; injection q
  rw [eqzfxc2_0_0] at hqzfxc2_0_0a hqzfxc2_0_0b
  refine W.eq (g2 := F0 m 7 ls []) rfl ?_
  have hfq4 : tw_fi E1 a0 57 = 0 → fq_ok E1 a0 (x1.toInt) (x2.toInt) (x3.toInt) 4 0 := fun z => fq_fr TH hst1 hm0 hk0 (by decide) (by decide) (by decide) (by omega) (by omega) (by omega) (hpoxc2_0 z)
  have hr2 : r2_ok E a0 (x1.toInt) (x2.toInt) → r2_ok E1 a0 (x1.toInt) (x2.toInt) := fun z => r2_fr TH hst1 hm0 hk0 (by decide) (by decide) (by omega) (by omega) z
  have hN4 : tw_fi E1 a0 26 = tw_fi E a0 26 := tw_fi_fr hst1 hm0 hk0 (by decide)
  have TH4 := TH
  have hot4 := hot
  refine lv_aload_n hx hb dX12_merges_7 rfl (lv_at hl 0 rfl) ?_
  refine tw_get (ci := 12) (C := RX12) (T := TX12) (N := 64) hx hb hB cx_inX12 hown hK TH hm0 hk0 rfl ⟨by decide, rfl⟩ 57 (by decide) cw_1250 (fun _ h9 => h9) dX12_merges_8 (fun hv => ?_)
  rw [hzfxc2_0_0]
  refine lv_if_le (tgt := 16) hx hb dX12_merges_11 (by decide) (fun hc3 => ?_) (fun hc3 => ?_)
  · have hf4 : zfxc2_0_0.toInt ≤ 0 := by have z := (fa_le _ _).mp hc3; have : ((0 : Int32).toInt) = 0 := (by decide); omega
    refine lv_aload_n hx hb dX12_merges_16 rfl (lv_at hl 0 rfl) ?_
    refine lv_iload_n hx hb dX12_merges_17 rfl (lv_at hl 1 rfl) ?_
    refine lv_iload_n hx hb dX12_merges_18 rfl (lv_at hl 2 rfl) ?_
    refine lv_iload_n hx hb dX12_merges_19 rfl (lv_at hl 3 rfl) ?_
    refine tw_Vc (o := a0) (ci := 12) (n := 3) (post := (fun v kq Lq Eq => v = none ∧ kp = kq ∧ L = Lq ∧ tw_fr kp L [] [326, 327, 328] E1 Eq ∧ (t1_ok Eq a0 13) ∧ (sx_ok Eq a0 E1 x1.toInt x2.toInt 150) ∧ (ot_ok Eq a0 13 E1) ∧ rd_ok Eq a0)) (As := [.int x1, .int x2, .int x3]) (rest := []) ⟨hx, hb, hml, hown, hB⟩ (fun sz => tX12_stacks l D cs a0 x1 x2 x3 hm0 hk0 (by omega) (by omega) (by omega) (by omega) (by omega) (by omega) (by  omega) (by  omega) (by  omega) (by  exact hfq4 (by rw [tw_fi_of hzfxc2_0_0]; omega)) hg0 hg1 hg2 sz) cg_12_503_X12_stacks rfl rfl (by decide +kernel) ⟨Nat.le_of_ble_eq_true rfl, Nat.le_of_ble_eq_true rfl⟩ hK hN TH hS hA rfl hm0 hk0 (by decide) rfl hl.1 rfl (Nat.le_of_ble_eq_true rfl) dX12_merges_20 ⟨Nat.le_of_ble_eq_true rfl, Nat.le_of_ble_eq_true rfl⟩ (fun v5 kp5 L5 E5 H locs hq5 hx5 TH hS => ?_)
    obtain ⟨rfl, rfl, rfl, hst5, hpoxc6_0, hpoxc6_1, hpoxc6_2, hgpxc6_0⟩ := hq5
    have hF := hF.tr hst5 (fun _ h => ⟨h, rfl⟩) (by decide) (by decide)
    have hmf7 : tw_fv E5 a0 57 = .int zfxc2_0_0 := (hst5.1 a0 57 hm0 (by rw [hk0]; decide)).trans hzfxc2_0_0
    have hg0_o := hg0
    have hg1_o := hg1
    have hg3_o := hg3
    have hot_o := hot
    have hg3 : ht_ok E5 a0 := ht_ok_ot hpoxc6_2 (by decide) hg3_o
    have hot : ot_ok E5 a0 (13) E := ot_ok_tr hpoxc6_2 hot_o
    have hgn8 : sx_ok E5 a0 E1 (x1.toInt) (x2.toInt) (150) := hpoxc6_1
    have hgn9 : t1_ok E5 a0 (13) := hpoxc6_0
    refine W.eq (g2 := F0 m 23 ls []) rfl ?_
    refine lv_aload_n hx hb dX12_merges_23 rfl (lv_at hl 0 rfl) ?_
    refine tw_Vc (o := a0) (ci := 12) (n := 0) (post := (fun v kq Lq Eq => v = none ∧ kp = kq ∧ L = Lq ∧ tw_fr kp L [(12, 57)] [359] E5 Eq ∧ (tw_fi Eq a0 57 = 0 → lr_all (rw_h E5 a0 13) (rw_p E5 a0 13) 150 ∧ rt_size (rw_h E5 a0 13) ≤ 40) ∧ (∃ z0 : Int32, tw_fv Eq a0 57 = .int z0 ∧ (z0.toInt ≤ 151)))) (As := []) (rest := []) ⟨hx, hb, hml, hown, hB⟩ (fun sz => tX12_secondQuarrels l D cs a0 zfxc2_0_0 hm0 hk0 hmf7 (by  omega) sz) cg_12_506_X12_secondQuarrels rfl rfl (by decide +kernel) ⟨Nat.le_of_ble_eq_true rfl, Nat.le_of_ble_eq_true rfl⟩ hK hN TH hS hA rfl hm0 hk0 (by decide) rfl hl.1 rfl (Nat.le_of_ble_eq_true rfl) dX12_merges_24 ⟨Nat.le_of_ble_eq_true rfl, Nat.le_of_ble_eq_true rfl⟩ (fun v10 kp10 L10 E10 H locs hq10 hx10 TH hS => ?_)
    obtain ⟨rfl, rfl, rfl, hst10, hpoxc11_0, ⟨zfxc11_0_0, hzfxc11_0_0, hzpxc11_0⟩⟩ := hq10
    have hF := hF.tr hst10 (fun _ h => ⟨h, rfl⟩) (by decide) (by decide)
    have hg3_o := hg3
    have hot_o := hot
    have hgn8_o := hgn8
    have hgn9_o := hgn9
    have hgpxc6_0_o := hgpxc6_0
    have hg3 : ht_ok E10 a0 := ht_ok_fr TH hst10 hm0 hk0 (by decide) (by decide) hg3
    have hot : ot_ok E10 a0 (13) E := ot_ok_fr TH hst10 hm0 hk0 (by decide) (by decide) hot_o
    have hgn8 : sx_ok E10 a0 E1 (x1.toInt) (x2.toInt) (150) := sx_ok_fr TH hst10 hm0 hk0 (by decide) (by decide) hgn8
    have hgn9 : t1_ok E10 a0 (13) := t1_ok_fr TH hst10 hm0 hk0 (by decide) (by decide) (by omega) hgn9
    have hgpxc6_0 : rd_ok E10 a0 := rd_ok_fr TH hst10 hm0 hk0 (by decide) (by decide) hgpxc6_0
    obtain ⟨qzfxc11_0_0, hqzfxc11_0_0, hqzfxc11_0_0a, hqzfxc11_0_0b⟩ := tw_rd TH hm0 hk0 (by decide) (by decide) (k := 57) rfl
    have eqzfxc11_0_0 : qzfxc11_0_0 = zfxc11_0_0 := by have q := hqzfxc11_0_0.symm.trans hzfxc11_0_0; injection q
    rw [eqzfxc11_0_0] at hqzfxc11_0_0a hqzfxc11_0_0b
    refine W.eq (g2 := F0 m 27 ls []) rfl ?_
    have hlr27 : tw_fi E10 a0 57 = 0 → lr_ok E10 a0 := fun z => (by unfold lr_ok; rw [rw_h_fr TH hst10 hm0 hk0 (by decide) (by decide) (by decide) (i := 13) (by decide), rw_p_fr TH hst10 hm0 hk0 (by decide) (by decide) (by decide) (i := 13) (by decide)]; exact hpoxc11_0 z)
    refine lv_aload_n hx hb dX12_merges_27 rfl (lv_at hl 0 rfl) ?_
    refine tw_get (ci := 12) (C := RX12) (T := TX12) (N := 64) hx hb hB cx_inX12 hown hK TH hm0 hk0 rfl ⟨by decide, rfl⟩ 57 (by decide) cw_1250 (fun _ h9 => h9) dX12_merges_28 (fun hv => ?_)
    rw [hzfxc11_0_0]
    refine lv_if_le (tgt := 36) hx hb dX12_merges_31 (by decide) (fun hc12 => ?_) (fun hc12 => ?_)
    · have hf13 : zfxc11_0_0.toInt ≤ 0 := by have z := (fa_le _ _).mp hc12; have : ((0 : Int32).toInt) = 0 := (by decide); omega
      have hlr36 : lr_ok E10 a0 := hlr27 (by rw [tw_fi_of hzfxc11_0_0]; omega)
      refine lv_aload_n hx hb dX12_merges_36 rfl (lv_at hl 0 rfl) ?_
      refine lv_iload_n hx hb dX12_merges_37 rfl (lv_at hl 1 rfl) ?_
      refine lv_iload_n hx hb dX12_merges_38 rfl (lv_at hl 2 rfl) ?_
      refine lv_iload_n hx hb dX12_merges_39 rfl (lv_at hl 3 rfl) ?_
      refine tw_Vc (o := a0) (ci := 12) (n := 3) (post := (fun v kq Lq Eq => v = none ∧ kp = kq ∧ L = Lq ∧ tw_fr kp L [(12, 57)] [329, 348, 349, 359, 363, 364] E10 Eq ∧ (tw_fi Eq a0 57 = 0 → rt_T3 (rw_h E10 a0 13) (rw_p E10 a0 13)) ∧ (∃ z0 : Int32, tw_fv Eq a0 57 = .int z0 ∧ (z0.toInt ≤ 450)) ∧ ht_ok Eq a0)) (As := [.int x1, .int x2, .int x3]) (rest := []) ⟨hx, hb, hml, hown, hB⟩ (fun sz => tX12_thirdQuarrels l D cs a0 x1 x2 x3 zfxc11_0_0 hm0 hk0 (by omega) (by omega) (by omega) (by omega) (by omega) (by omega) hzfxc11_0_0 (by  omega) hgn9 hg3 sz) cg_12_509_X12_thirdQuarrels rfl rfl (by decide +kernel) ⟨Nat.le_of_ble_eq_true rfl, Nat.le_of_ble_eq_true rfl⟩ hK hN TH hS hA rfl hm0 hk0 (by decide) rfl hl.1 rfl (Nat.le_of_ble_eq_true rfl) dX12_merges_40 ⟨Nat.le_of_ble_eq_true rfl, Nat.le_of_ble_eq_true rfl⟩ (fun v14 kp14 L14 E14 H locs hq14 hx14 TH hS => ?_)
      obtain ⟨rfl, rfl, rfl, hst14, hpoxc15_0, ⟨zfxc15_0_0, hzfxc15_0_0, hzpxc15_0⟩, hgpxc15_0⟩ := hq14
      have hF := hF.tr hst14 (fun _ h => ⟨h, rfl⟩) (by decide) (by decide)
      have hot_o := hot
      have hgn8_o := hgn8
      have hgn9_o := hgn9
      have hgpxc6_0_o := hgpxc6_0
      have hlr36_o := hlr36
      have hot : ot_ok E14 a0 (13) E := ot_ok_fr TH hst14 hm0 hk0 (by decide) (by decide) hot_o
      have hgn8 : sx_ok E14 a0 E1 (x1.toInt) (x2.toInt) (150) := sx_ok_fr TH hst14 hm0 hk0 (by decide) (by decide) hgn8
      have hgn9 : t1_ok E14 a0 (13) := t1_ok_fr TH hst14 hm0 hk0 (by decide) (by decide) (by omega) hgn9
      have hgpxc6_0 : rd_ok E14 a0 := rd_ok_fr TH hst14 hm0 hk0 (by decide) (by decide) hgpxc6_0
      have hlr36 : lr_ok E14 a0 := lr_ok_fr TH hst14 hm0 hk0 (by decide) (by decide) hlr36
      obtain ⟨qzfxc15_0_0, hqzfxc15_0_0, hqzfxc15_0_0a, hqzfxc15_0_0b⟩ := tw_rd TH hm0 hk0 (by decide) (by decide) (k := 57) rfl
      have eqzfxc15_0_0 : qzfxc15_0_0 = zfxc15_0_0 := by have q := hqzfxc15_0_0.symm.trans hzfxc15_0_0; injection q
      rw [eqzfxc15_0_0] at hqzfxc15_0_0a hqzfxc15_0_0b
      refine W.eq (g2 := F0 m 43 ls []) rfl ?_
      have ht43 : tw_fi E14 a0 57 = 0 → rt_T3 (rw_h E14 a0 13) (rw_p E14 a0 13) := fun z => (by rw [rw_h_fr TH hst14 hm0 hk0 (by decide) (by decide) (by decide) (i := 13) (by decide), rw_p_fr TH hst14 hm0 hk0 (by decide) (by decide) (by decide) (i := 13) (by decide)]; exact hpoxc15_0 z)
      refine lv_aload_n hx hb dX12_merges_43 rfl (lv_at hl 0 rfl) ?_
      refine tw_get (ci := 12) (C := RX12) (T := TX12) (N := 64) hx hb hB cx_inX12 hown hK TH hm0 hk0 rfl ⟨by decide, rfl⟩ 57 (by decide) cw_1250 (fun _ h9 => h9) dX12_merges_44 (fun hv => ?_)
      rw [hzfxc15_0_0]
      refine lv_if_ne (tgt := 54) hx hb dX12_merges_47 (by decide) (fun hc16 => ?_) (fun hc16 => ?_)
      · have hf17 : ¬ (zfxc15_0_0.toInt = 0) := fun q => hc16 ((fa_eq _ _).mpr (by have : ((0 : Int32).toInt) = 0 := (by decide); omega))
        refine lv_iconst (v := 0) hx hb dX12_merges_54 (by decide) ?_
        exact tw_zret hx hb hr hlocks (by decide) TH hS hex ⟨⟨_, rfl, (show 0 ≤ Int32.toInt 0 from by have : ((0 : Int32).toInt) = 0 := (by decide); omega), (show Int32.toInt 0 ≤ 1 from by have : ((0 : Int32).toInt) = 0 := (by decide); omega), (by have : ((0 : Int32).toInt) = 0 := (by decide); exact hot), (by have : ((0 : Int32).toInt) = 0 := (by decide); intro q; exfalso; exact q (by decide)), (by have : ((0 : Int32).toInt) = 0 := (by decide); intro q; exfalso; exact q (by decide)), hgpxc6_0, hgpxc15_0⟩, rfl, rfl, hF⟩ (Nat.le_of_ble_eq_true rfl) (Nat.le_of_ble_eq_true rfl) dX12_merges_55
      · have hf18 : zfxc15_0_0.toInt = 0 := by have z := (fa_eq _ _).mp hc16; have : ((0 : Int32).toInt) = 0 := (by decide); omega
        refine lv_iconst (v := 1) hx hb dX12_merges_50 (by decide) ?_
        refine lv_goto (tgt := 55) hx hb dX12_merges_51 (by decide) ?_
        exact tw_zret hx hb hr hlocks (by decide) TH hS hex ⟨⟨_, rfl, (show 0 ≤ Int32.toInt 1 from by have : ((1 : Int32).toInt) = 1 := (by decide); omega), (show Int32.toInt 1 ≤ 1 from by have : ((1 : Int32).toInt) = 1 := (by decide); omega), (by have : ((1 : Int32).toInt) = 1 := (by decide); exact hot), (by have : ((1 : Int32).toInt) = 1 := (by decide); intro _ r2; exact row_13 hgn9 hgn8 hlr36 (ht43 (by rw [tw_fi_of hzfxc15_0_0]; omega)) (Int.le_of_eq (hN4.trans (tw_fi_fr hF hm0 hk0 (by decide)).symm)) (hr2 r2)), (by have : ((1 : Int32).toInt) = 1 := (by decide); intro _ r2; have oa := hot (x1.toInt) (by omega) (by omega) (by omega); have ob := hot (x2.toInt) (by omega) (by omega) (by omega); have o4a := hot4 (x1.toInt) (by omega) (by omega) (by omega); have o4b := hot4 (x2.toInt) (by omega) (by omega) (by omega); exact r2_13 hgn8 ⟨oa.1.trans o4a.1.symm, oa.2.trans o4a.2.symm⟩ ⟨ob.1.trans o4b.1.symm, ob.2.trans o4b.2.symm⟩ (hr2 r2)), hgpxc6_0, hgpxc15_0⟩, rfl, rfl, hF⟩ (Nat.le_of_ble_eq_true rfl) (Nat.le_of_ble_eq_true rfl) dX12_merges_55
    · have hf19 : ¬ (zfxc11_0_0.toInt ≤ 0) := fun q => hc12 ((fa_le _ _).mpr (by have : ((0 : Int32).toInt) = 0 := (by decide); omega))
      refine lv_iconst (v := 0) hx hb dX12_merges_34 (by decide) ?_
      exact tw_zret hx hb hr hlocks (by decide) TH hS hex ⟨⟨_, rfl, (show 0 ≤ Int32.toInt 0 from by have : ((0 : Int32).toInt) = 0 := (by decide); omega), (show Int32.toInt 0 ≤ 1 from by have : ((0 : Int32).toInt) = 0 := (by decide); omega), (by have : ((0 : Int32).toInt) = 0 := (by decide); exact hot), (by have : ((0 : Int32).toInt) = 0 := (by decide); intro q; exfalso; exact q (by decide)), (by have : ((0 : Int32).toInt) = 0 := (by decide); intro q; exfalso; exact q (by decide)), hgpxc6_0, hg3⟩, rfl, rfl, hF⟩ (Nat.le_of_ble_eq_true rfl) (Nat.le_of_ble_eq_true rfl) dX12_merges_35
  · have hf20 : ¬ (zfxc2_0_0.toInt ≤ 0) := fun q => hc3 ((fa_le _ _).mpr (by have : ((0 : Int32).toInt) = 0 := (by decide); omega))
    refine lv_iconst (v := 0) hx hb dX12_merges_14 (by decide) ?_
    exact tw_zret hx hb hr hlocks (by decide) TH hS hex ⟨⟨_, rfl, (show 0 ≤ Int32.toInt 0 from by have : ((0 : Int32).toInt) = 0 := (by decide); omega), (show Int32.toInt 0 ≤ 1 from by have : ((0 : Int32).toInt) = 0 := (by decide); omega), (by have : ((0 : Int32).toInt) = 0 := (by decide); exact hot), (by have : ((0 : Int32).toInt) = 0 := (by decide); intro q; exfalso; exact q (by decide)), (by have : ((0 : Int32).toInt) = 0 := (by decide); intro q; exfalso; exact q (by decide)), hg2, hg3⟩, rfl, rfl, hF⟩ (Nat.le_of_ble_eq_true rfl) (Nat.le_of_ble_eq_true rfl) dX12_merges_15
set_option maxHeartbeats 4000000 in
set_option maxRecDepth 100000 in
theorem tX12_isFrom_v0 (l : Launch) (D : va_G) (cs : Nat → ClassId) {kp : Nat → Nat} {L : List Nat} {E : Nat → va_E} (a0 : Nat) (x1 : Int32) (x2 : Int32) (fv0_27 : Int32) (hm0 : a0 ∈ L) (hk0 : kp a0 = 12) (hp1a : 0 ≤ x1.toInt) (hp1b : x1.toInt ≤ 0) (hp2a : 0 ≤ x2.toInt) (hp2b : x2.toInt ≤ 11) (hfv0_27 : tw_fv E a0 27 = .int fv0_27) (hpre0 : x1.toInt < fv0_27.toInt) (hg0 : eo_ok E a0) (hg1 : ln_ok E a0) (sz : Nat) : Met l yX12_isFrom (.code yX12_isFrom cX12_isFrom 3 (some .boolean) :: cx_big) { frames := 0, cells := 0, slots := 0, locals := 0 } (tw_P D cs kp L E [.ref a0, .int x1, .int x2] sz) (tw_Q D cs kp L (fun v kq Lq Eq => (∃ x : Int32, v = some (.int x) ∧ 0 ≤ x.toInt ∧ x.toInt ≤ 1 ∧ (x.toInt ≠ 0 → r2_ok E a0 x1.toInt x2.toInt)) ∧ kp = kq ∧ L = Lq ∧ E = Eq) (va_A (va_pl L E) sz)) 0 0 (va_A (va_pl L E) sz) := by
  refine tw_ofW (by decide) (Nat.le_of_ble_eq_true rfl) ?_
  intro p e s m below meth c A ls hx hb hr hml hB hown hlocks hK hN hA TH hS hl
  have hown : s.vm.findClass "TreeMergeModel" = some m.cls := hown
  have hl : lv_has ls 3 [(0, .ref a0), (1, .int x1), (2, .int x2)] := hl
  obtain ⟨kp0, ekp⟩ : ∃ z, z = kp := ⟨_, rfl⟩
  obtain ⟨L0, eL⟩ : ∃ z, z = L := ⟨_, rfl⟩
  rw [show tw_Q D cs kp L = tw_Q D cs kp0 L0 by rw [ekp, eL]]
  have hex : ∀ a : Nat, a ∈ L0 → a ∈ L ∧ kp a = kp0 a := fun a h => ⟨by rw [← eL]; exact h, by rw [ekp]⟩
  obtain ⟨qfv0_27, hqfv0_27, hqfv0_27a, hqfv0_27b⟩ := tw_rd TH hm0 hk0 (by decide) (by decide) (k := 27) rfl
  have eqfv0_27 : qfv0_27 = fv0_27 := by have q := hqfv0_27.symm.trans hfv0_27; injection q
  rw [eqfv0_27] at hqfv0_27a hqfv0_27b
  refine lv_iload_n hx hb dX12_isFrom_0 rfl (lv_at hl 1 rfl) ?_
  refine lv_iload_n hx hb dX12_isFrom_1 rfl (lv_at hl 2 rfl) ?_
  refine lv_icmp_ne (tgt := 7) hx hb dX12_isFrom_2 (by decide) (fun hc1 => ?_) (fun hc1 => ?_)
  · have hf2 : ¬ (x1.toInt = x2.toInt) := fun q => hc1 ((fa_eq _ _).mpr (by  omega))
    refine lv_aload_n hx hb dX12_isFrom_7 rfl (lv_at hl 0 rfl) ?_
    refine tw_get (ci := 12) (C := RX12) (T := TX12) (N := 64) hx hb hB cx_inX12 hown hK TH hm0 hk0 rfl ⟨by decide, rfl⟩ 24 (by decide) cw_1217 (fun _ h9 => h9) dX12_isFrom_8 (fun hv => ?_)
    obtain ⟨xr3, hxr3, hmxr3, hkxr3⟩ : ∃ a : Nat, tw_fv E a0 24 = .ref a ∧ a ∈ L ∧ kp a = 334 := hv
    rw [hxr3]
    refine lv_iload_n hx hb dX12_isFrom_11 rfl (lv_at hl 1 rfl) ?_
    refine tw_iald (k := 334) (t0 := 0) (n := 12) (lo := (-1)) (hi := 11) hx hb hK TH hmxr3 hkxr3 (by decide) rfl rfl (i := x1) (vp_in_iff.mpr ⟨by  omega, by  omega⟩) dX12_isFrom_12 (fun hxe4a hxe4b => ?_)
    obtain ⟨xe4, exe4⟩ : ∃ z : Int32, tw_iv E xr3 (Int32.toNatClampNeg x1) = z := ⟨_, rfl⟩
    rw [exe4] at hxe4a hxe4b ⊢
    have hl13 : xe4.toInt = -1 ∨ (0 ≤ xe4.toInt ∧ xe4.toInt < x1.toInt ∧ r2_ok E a0 (x1.toInt) (xe4.toInt)) := (by have q := hg1 (x1.toInt).toNat (by rw [tw_fi_of hfv0_27]; omega) 24 (by decide); have w : tw_el E a0 24 (x1.toInt).toNat = xe4.toInt := (by rw [tw_el_of hxr3]; exact congrArg Int32.toInt exe4); rw [w, show (((x1.toInt).toNat : Nat) : Int) = x1.toInt by omega] at q; exact q)
    have hn13 : xe4.toInt = -1 ∨ (0 ≤ xe4.toInt ∧ xe4.toInt < x1.toInt) := hl13.imp id (fun q => ⟨q.1, q.2.1⟩)
    refine lv_iconst (v := (-1)) hx hb dX12_isFrom_13 (by decide) ?_
    refine lv_icmp_eq (tgt := 31) hx hb dX12_isFrom_14 (by decide) (fun hc5 => ?_) (fun hc5 => ?_)
    · have hf6 : xe4.toInt = (-1) := by have z := (fa_eq _ _).mp hc5; have : (((-1) : Int32).toInt) = (-1) := (by decide); omega
      refine lv_aload_n hx hb dX12_isFrom_31 rfl (lv_at hl 0 rfl) ?_
      refine tw_get (ci := 12) (C := RX12) (T := TX12) (N := 64) hx hb hB cx_inX12 hown hK TH hm0 hk0 rfl ⟨by decide, rfl⟩ 25 (by decide) cw_1218 (fun _ h9 => h9) dX12_isFrom_32 (fun hv => ?_)
      obtain ⟨xr7, hxr7, hmxr7, hkxr7⟩ : ∃ a : Nat, tw_fv E a0 25 = .ref a ∧ a ∈ L ∧ kp a = 335 := hv
      rw [hxr7]
      refine lv_iload_n hx hb dX12_isFrom_35 rfl (lv_at hl 1 rfl) ?_
      refine tw_iald (k := 335) (t0 := 0) (n := 12) (lo := (-1)) (hi := 11) hx hb hK TH hmxr7 hkxr7 (by decide) rfl rfl (i := x1) (vp_in_iff.mpr ⟨by  omega, by  omega⟩) dX12_isFrom_36 (fun hxe8a hxe8b => ?_)
      obtain ⟨xe8, exe8⟩ : ∃ z : Int32, tw_iv E xr7 (Int32.toNatClampNeg x1) = z := ⟨_, rfl⟩
      rw [exe8] at hxe8a hxe8b ⊢
      have hl37 : xe8.toInt = -1 ∨ (0 ≤ xe8.toInt ∧ xe8.toInt < x1.toInt ∧ r2_ok E a0 (x1.toInt) (xe8.toInt)) := (by have q := hg1 (x1.toInt).toNat (by rw [tw_fi_of hfv0_27]; omega) 25 (by decide); have w : tw_el E a0 25 (x1.toInt).toNat = xe8.toInt := (by rw [tw_el_of hxr7]; exact congrArg Int32.toInt exe8); rw [w, show (((x1.toInt).toNat : Nat) : Int) = x1.toInt by omega] at q; exact q)
      have hn37 : xe8.toInt = -1 ∨ (0 ≤ xe8.toInt ∧ xe8.toInt < x1.toInt) := hl37.imp id (fun q => ⟨q.1, q.2.1⟩)
      refine lv_iconst (v := (-1)) hx hb dX12_isFrom_37 (by decide) ?_
      refine lv_icmp_eq (tgt := 59) hx hb dX12_isFrom_38 (by decide) (fun hc9 => ?_) (fun hc9 => ?_)
      · have hf10 : xe8.toInt = (-1) := by have z := (fa_eq _ _).mp hc9; have : (((-1) : Int32).toInt) = (-1) := (by decide); omega
        refine lv_iconst (v := 0) hx hb dX12_isFrom_59 (by decide) ?_
        exact tw_zret hx hb hr hlocks (by decide) TH hS hex ⟨⟨_, rfl, (show 0 ≤ Int32.toInt 0 from by have : ((0 : Int32).toInt) = 0 := (by decide); omega), (show Int32.toInt 0 ≤ 1 from by have : ((0 : Int32).toInt) = 0 := (by decide); omega), (by have : ((0 : Int32).toInt) = 0 := (by decide); intro q; exfalso; exact q (by decide))⟩, rfl, rfl, rfl⟩ (Nat.le_of_ble_eq_true rfl) (Nat.le_of_ble_eq_true rfl) dX12_isFrom_60
      · have hf11 : ¬ (xe8.toInt = (-1)) := fun q => hc9 ((fa_eq _ _).mpr (by have : (((-1) : Int32).toInt) = (-1) := (by decide); omega))
        exfalso; omega
    · have hf12 : ¬ (xe4.toInt = (-1)) := fun q => hc5 ((fa_eq _ _).mpr (by have : (((-1) : Int32).toInt) = (-1) := (by decide); omega))
      exfalso; omega
  · have hf13 : x1.toInt = x2.toInt := by have z := (fa_eq _ _).mp hc1;  omega
    refine lv_iconst (v := 1) hx hb dX12_isFrom_5 (by decide) ?_
    exact tw_zret hx hb hr hlocks (by decide) TH hS hex ⟨⟨_, rfl, (show 0 ≤ Int32.toInt 1 from by have : ((1 : Int32).toInt) = 1 := (by decide); omega), (show Int32.toInt 1 ≤ 1 from by have : ((1 : Int32).toInt) = 1 := (by decide); omega), (by have : ((1 : Int32).toInt) = 1 := (by decide); intro _; rw [show x2.toInt = x1.toInt by omega]; exact r2_rf (hg0 (x1.toInt) (by omega) (by rw [tw_fi_of hfv0_27]; omega)))⟩, rfl, rfl, rfl⟩ (Nat.le_of_ble_eq_true rfl) (Nat.le_of_ble_eq_true rfl) dX12_isFrom_6
set_option maxHeartbeats 4000000 in
set_option maxRecDepth 100000 in
theorem tX12_isFrom_v1 (l : Launch) (D : va_G) (cs : Nat → ClassId) {kp : Nat → Nat} {L : List Nat} {E : Nat → va_E} (a0 : Nat) (x1 : Int32) (x2 : Int32) (fv0_27 : Int32) (hm0 : a0 ∈ L) (hk0 : kp a0 = 12) (hp1a : 0 ≤ x1.toInt) (hp1b : x1.toInt ≤ 1) (hp2a : 0 ≤ x2.toInt) (hp2b : x2.toInt ≤ 11) (hfv0_27 : tw_fv E a0 27 = .int fv0_27) (hpre0 : x1.toInt < fv0_27.toInt) (hg0 : eo_ok E a0) (hg1 : ln_ok E a0) (sz : Nat) : Met l yX12_isFrom (.code yX12_isFrom cX12_isFrom 3 (some .boolean) :: cx_big) { frames := 1, cells := 0, slots := 0, locals := 22 } (tw_P D cs kp L E [.ref a0, .int x1, .int x2] sz) (tw_Q D cs kp L (fun v kq Lq Eq => (∃ x : Int32, v = some (.int x) ∧ 0 ≤ x.toInt ∧ x.toInt ≤ 1 ∧ (x.toInt ≠ 0 → r2_ok E a0 x1.toInt x2.toInt)) ∧ kp = kq ∧ L = Lq ∧ E = Eq) (va_A (va_pl L E) sz)) 0 0 (va_A (va_pl L E) sz) := by
  refine tw_ofW (by decide) (Nat.le_of_ble_eq_true rfl) ?_
  intro p e s m below meth c A ls hx hb hr hml hB hown hlocks hK hN hA TH hS hl
  have hown : s.vm.findClass "TreeMergeModel" = some m.cls := hown
  have hl : lv_has ls 3 [(0, .ref a0), (1, .int x1), (2, .int x2)] := hl
  obtain ⟨kp0, ekp⟩ : ∃ z, z = kp := ⟨_, rfl⟩
  obtain ⟨L0, eL⟩ : ∃ z, z = L := ⟨_, rfl⟩
  rw [show tw_Q D cs kp L = tw_Q D cs kp0 L0 by rw [ekp, eL]]
  have hex : ∀ a : Nat, a ∈ L0 → a ∈ L ∧ kp a = kp0 a := fun a h => ⟨by rw [← eL]; exact h, by rw [ekp]⟩
  obtain ⟨qfv0_27, hqfv0_27, hqfv0_27a, hqfv0_27b⟩ := tw_rd TH hm0 hk0 (by decide) (by decide) (k := 27) rfl
  have eqfv0_27 : qfv0_27 = fv0_27 := by have q := hqfv0_27.symm.trans hfv0_27; injection q
  rw [eqfv0_27] at hqfv0_27a hqfv0_27b
  refine lv_iload_n hx hb dX12_isFrom_0 rfl (lv_at hl 1 rfl) ?_
  refine lv_iload_n hx hb dX12_isFrom_1 rfl (lv_at hl 2 rfl) ?_
  refine lv_icmp_ne (tgt := 7) hx hb dX12_isFrom_2 (by decide) (fun hc1 => ?_) (fun hc1 => ?_)
  · have hf2 : ¬ (x1.toInt = x2.toInt) := fun q => hc1 ((fa_eq _ _).mpr (by  omega))
    refine lv_aload_n hx hb dX12_isFrom_7 rfl (lv_at hl 0 rfl) ?_
    refine tw_get (ci := 12) (C := RX12) (T := TX12) (N := 64) hx hb hB cx_inX12 hown hK TH hm0 hk0 rfl ⟨by decide, rfl⟩ 24 (by decide) cw_1217 (fun _ h9 => h9) dX12_isFrom_8 (fun hv => ?_)
    obtain ⟨xr3, hxr3, hmxr3, hkxr3⟩ : ∃ a : Nat, tw_fv E a0 24 = .ref a ∧ a ∈ L ∧ kp a = 334 := hv
    rw [hxr3]
    refine lv_iload_n hx hb dX12_isFrom_11 rfl (lv_at hl 1 rfl) ?_
    refine tw_iald (k := 334) (t0 := 0) (n := 12) (lo := (-1)) (hi := 11) hx hb hK TH hmxr3 hkxr3 (by decide) rfl rfl (i := x1) (vp_in_iff.mpr ⟨by  omega, by  omega⟩) dX12_isFrom_12 (fun hxe4a hxe4b => ?_)
    obtain ⟨xe4, exe4⟩ : ∃ z : Int32, tw_iv E xr3 (Int32.toNatClampNeg x1) = z := ⟨_, rfl⟩
    rw [exe4] at hxe4a hxe4b ⊢
    have hl13 : xe4.toInt = -1 ∨ (0 ≤ xe4.toInt ∧ xe4.toInt < x1.toInt ∧ r2_ok E a0 (x1.toInt) (xe4.toInt)) := (by have q := hg1 (x1.toInt).toNat (by rw [tw_fi_of hfv0_27]; omega) 24 (by decide); have w : tw_el E a0 24 (x1.toInt).toNat = xe4.toInt := (by rw [tw_el_of hxr3]; exact congrArg Int32.toInt exe4); rw [w, show (((x1.toInt).toNat : Nat) : Int) = x1.toInt by omega] at q; exact q)
    have hn13 : xe4.toInt = -1 ∨ (0 ≤ xe4.toInt ∧ xe4.toInt < x1.toInt) := hl13.imp id (fun q => ⟨q.1, q.2.1⟩)
    refine lv_iconst (v := (-1)) hx hb dX12_isFrom_13 (by decide) ?_
    refine lv_icmp_eq (tgt := 31) hx hb dX12_isFrom_14 (by decide) (fun hc5 => ?_) (fun hc5 => ?_)
    · have hf6 : xe4.toInt = (-1) := by have z := (fa_eq _ _).mp hc5; have : (((-1) : Int32).toInt) = (-1) := (by decide); omega
      refine lv_aload_n hx hb dX12_isFrom_31 rfl (lv_at hl 0 rfl) ?_
      refine tw_get (ci := 12) (C := RX12) (T := TX12) (N := 64) hx hb hB cx_inX12 hown hK TH hm0 hk0 rfl ⟨by decide, rfl⟩ 25 (by decide) cw_1218 (fun _ h9 => h9) dX12_isFrom_32 (fun hv => ?_)
      obtain ⟨xr7, hxr7, hmxr7, hkxr7⟩ : ∃ a : Nat, tw_fv E a0 25 = .ref a ∧ a ∈ L ∧ kp a = 335 := hv
      rw [hxr7]
      refine lv_iload_n hx hb dX12_isFrom_35 rfl (lv_at hl 1 rfl) ?_
      refine tw_iald (k := 335) (t0 := 0) (n := 12) (lo := (-1)) (hi := 11) hx hb hK TH hmxr7 hkxr7 (by decide) rfl rfl (i := x1) (vp_in_iff.mpr ⟨by  omega, by  omega⟩) dX12_isFrom_36 (fun hxe8a hxe8b => ?_)
      obtain ⟨xe8, exe8⟩ : ∃ z : Int32, tw_iv E xr7 (Int32.toNatClampNeg x1) = z := ⟨_, rfl⟩
      rw [exe8] at hxe8a hxe8b ⊢
      have hl37 : xe8.toInt = -1 ∨ (0 ≤ xe8.toInt ∧ xe8.toInt < x1.toInt ∧ r2_ok E a0 (x1.toInt) (xe8.toInt)) := (by have q := hg1 (x1.toInt).toNat (by rw [tw_fi_of hfv0_27]; omega) 25 (by decide); have w : tw_el E a0 25 (x1.toInt).toNat = xe8.toInt := (by rw [tw_el_of hxr7]; exact congrArg Int32.toInt exe8); rw [w, show (((x1.toInt).toNat : Nat) : Int) = x1.toInt by omega] at q; exact q)
      have hn37 : xe8.toInt = -1 ∨ (0 ≤ xe8.toInt ∧ xe8.toInt < x1.toInt) := hl37.imp id (fun q => ⟨q.1, q.2.1⟩)
      refine lv_iconst (v := (-1)) hx hb dX12_isFrom_37 (by decide) ?_
      refine lv_icmp_eq (tgt := 59) hx hb dX12_isFrom_38 (by decide) (fun hc9 => ?_) (fun hc9 => ?_)
      · have hf10 : xe8.toInt = (-1) := by have z := (fa_eq _ _).mp hc9; have : (((-1) : Int32).toInt) = (-1) := (by decide); omega
        refine lv_iconst (v := 0) hx hb dX12_isFrom_59 (by decide) ?_
        exact tw_zret hx hb hr hlocks (by decide) TH hS hex ⟨⟨_, rfl, (show 0 ≤ Int32.toInt 0 from by have : ((0 : Int32).toInt) = 0 := (by decide); omega), (show Int32.toInt 0 ≤ 1 from by have : ((0 : Int32).toInt) = 0 := (by decide); omega), (by have : ((0 : Int32).toInt) = 0 := (by decide); intro q; exfalso; exact q (by decide))⟩, rfl, rfl, rfl⟩ (Nat.le_of_ble_eq_true rfl) (Nat.le_of_ble_eq_true rfl) dX12_isFrom_60
      · have hf11 : ¬ (xe8.toInt = (-1)) := fun q => hc9 ((fa_eq _ _).mpr (by have : (((-1) : Int32).toInt) = (-1) := (by decide); omega))
        refine lv_aload_n hx hb dX12_isFrom_41 rfl (lv_at hl 0 rfl) ?_
        refine lv_aload_n hx hb dX12_isFrom_42 rfl (lv_at hl 0 rfl) ?_
        refine tw_get (ci := 12) (C := RX12) (T := TX12) (N := 64) hx hb hB cx_inX12 hown hK TH hm0 hk0 rfl ⟨by decide, rfl⟩ 25 (by decide) cw_1218 (fun _ h9 => h9) dX12_isFrom_43 (fun hv => ?_)
        rw [hxr7]
        refine lv_iload_n hx hb dX12_isFrom_46 rfl (lv_at hl 1 rfl) ?_
        refine tw_iald (k := 335) (t0 := 0) (n := 12) (lo := (-1)) (hi := 11) hx hb hK TH hmxr7 hkxr7 (by decide) rfl rfl (i := x1) (vp_in_iff.mpr ⟨by  omega, by  omega⟩) dX12_isFrom_47 (fun hxe12a hxe12b => ?_)
        rw [exe8]
        refine lv_iload_n hx hb dX12_isFrom_48 rfl (lv_at hl 2 rfl) ?_
        refine tw_Vc (o := a0) (ci := 12) (n := 2) (post := (fun v kq Lq Eq => (∃ x : Int32, v = some (.int x) ∧ 0 ≤ x.toInt ∧ x.toInt ≤ 1 ∧ (x.toInt ≠ 0 → r2_ok E a0 xe8.toInt x2.toInt)) ∧ kp = kq ∧ L = Lq ∧ E = Eq)) (As := [.int xe8, .int x2]) (rest := []) ⟨hx, hb, hml, hown, hB⟩ (fun sz => tX12_isFrom_v0 l D cs a0 xe8 x2 fv0_27 hm0 hk0 (by omega) (by omega) (by omega) (by omega) hfv0_27 (by  omega) hg0 hg1 sz) cg_12_512_X12_isFrom rfl rfl (by decide +kernel) ⟨Nat.le_of_ble_eq_true rfl, Nat.le_of_ble_eq_true rfl⟩ hK hN TH hS hA rfl hm0 hk0 (by decide) rfl hl.1 rfl (Nat.le_of_ble_eq_true rfl) dX12_isFrom_49 ⟨Nat.le_of_ble_eq_true rfl, Nat.le_of_ble_eq_true rfl⟩ (fun v13 kp13 L13 E13 H locs hq13 hx13 TH hS => ?_)
        obtain ⟨⟨xc14, rfl, hxc14a, hxc14b, hpoxc14_0⟩, rfl, rfl, rfl⟩ := hq13
        refine W.eq (g2 := F0 m 52 ls [.int xc14]) rfl ?_
        refine lv_if_eq (tgt := 59) hx hb dX12_isFrom_52 (by decide) (fun hc15 => ?_) (fun hc15 => ?_)
        · have hf16 : xc14.toInt = 0 := by have z := (fa_eq _ _).mp hc15; have : ((0 : Int32).toInt) = 0 := (by decide); omega
          refine lv_iconst (v := 0) hx hb dX12_isFrom_59 (by decide) ?_
          exact tw_zret hx hb hr hlocks (by decide) TH hS hex ⟨⟨_, rfl, (show 0 ≤ Int32.toInt 0 from by have : ((0 : Int32).toInt) = 0 := (by decide); omega), (show Int32.toInt 0 ≤ 1 from by have : ((0 : Int32).toInt) = 0 := (by decide); omega), (by have : ((0 : Int32).toInt) = 0 := (by decide); intro q; exfalso; exact q (by decide))⟩, rfl, rfl, rfl⟩ (Nat.le_of_ble_eq_true rfl) (Nat.le_of_ble_eq_true rfl) dX12_isFrom_60
        · have hf17 : ¬ (xc14.toInt = 0) := fun q => hc15 ((fa_eq _ _).mpr (by have : ((0 : Int32).toInt) = 0 := (by decide); omega))
          refine lv_iconst (v := 1) hx hb dX12_isFrom_55 (by decide) ?_
          refine lv_goto (tgt := 60) hx hb dX12_isFrom_56 (by decide) ?_
          exact tw_zret hx hb hr hlocks (by decide) TH hS hex ⟨⟨_, rfl, (show 0 ≤ Int32.toInt 1 from by have : ((1 : Int32).toInt) = 1 := (by decide); omega), (show Int32.toInt 1 ≤ 1 from by have : ((1 : Int32).toInt) = 1 := (by decide); omega), (by have : ((1 : Int32).toInt) = 1 := (by decide); intro _; have hl := hl37.resolve_left (by omega); exact r2_tr (hg0 (xe8.toInt) (by omega) (by rw [tw_fi_of hfv0_27]; omega)).1 hl.2.2 (hpoxc14_0 (by omega)))⟩, rfl, rfl, rfl⟩ (Nat.le_of_ble_eq_true rfl) (Nat.le_of_ble_eq_true rfl) dX12_isFrom_60
    · have hf18 : ¬ (xe4.toInt = (-1)) := fun q => hc5 ((fa_eq _ _).mpr (by have : (((-1) : Int32).toInt) = (-1) := (by decide); omega))
      refine lv_aload_n hx hb dX12_isFrom_17 rfl (lv_at hl 0 rfl) ?_
      refine lv_aload_n hx hb dX12_isFrom_18 rfl (lv_at hl 0 rfl) ?_
      refine tw_get (ci := 12) (C := RX12) (T := TX12) (N := 64) hx hb hB cx_inX12 hown hK TH hm0 hk0 rfl ⟨by decide, rfl⟩ 24 (by decide) cw_1217 (fun _ h9 => h9) dX12_isFrom_19 (fun hv => ?_)
      rw [hxr3]
      refine lv_iload_n hx hb dX12_isFrom_22 rfl (lv_at hl 1 rfl) ?_
      refine tw_iald (k := 334) (t0 := 0) (n := 12) (lo := (-1)) (hi := 11) hx hb hK TH hmxr3 hkxr3 (by decide) rfl rfl (i := x1) (vp_in_iff.mpr ⟨by  omega, by  omega⟩) dX12_isFrom_23 (fun hxe19a hxe19b => ?_)
      rw [exe4]
      refine lv_iload_n hx hb dX12_isFrom_24 rfl (lv_at hl 2 rfl) ?_
      refine tw_Vc (o := a0) (ci := 12) (n := 2) (post := (fun v kq Lq Eq => (∃ x : Int32, v = some (.int x) ∧ 0 ≤ x.toInt ∧ x.toInt ≤ 1 ∧ (x.toInt ≠ 0 → r2_ok E a0 xe4.toInt x2.toInt)) ∧ kp = kq ∧ L = Lq ∧ E = Eq)) (As := [.int xe4, .int x2]) (rest := []) ⟨hx, hb, hml, hown, hB⟩ (fun sz => tX12_isFrom_v0 l D cs a0 xe4 x2 fv0_27 hm0 hk0 (by omega) (by omega) (by omega) (by omega) hfv0_27 (by  omega) hg0 hg1 sz) cg_12_512_X12_isFrom rfl rfl (by decide +kernel) ⟨Nat.le_of_ble_eq_true rfl, Nat.le_of_ble_eq_true rfl⟩ hK hN TH hS hA rfl hm0 hk0 (by decide) rfl hl.1 rfl (Nat.le_of_ble_eq_true rfl) dX12_isFrom_25 ⟨Nat.le_of_ble_eq_true rfl, Nat.le_of_ble_eq_true rfl⟩ (fun v20 kp20 L20 E20 H locs hq20 hx20 TH hS => ?_)
      obtain ⟨⟨xc21, rfl, hxc21a, hxc21b, hpoxc21_0⟩, rfl, rfl, rfl⟩ := hq20
      refine W.eq (g2 := F0 m 28 ls [.int xc21]) rfl ?_
      refine lv_if_ne (tgt := 55) hx hb dX12_isFrom_28 (by decide) (fun hc22 => ?_) (fun hc22 => ?_)
      · have hf23 : ¬ (xc21.toInt = 0) := fun q => hc22 ((fa_eq _ _).mpr (by have : ((0 : Int32).toInt) = 0 := (by decide); omega))
        refine lv_iconst (v := 1) hx hb dX12_isFrom_55 (by decide) ?_
        refine lv_goto (tgt := 60) hx hb dX12_isFrom_56 (by decide) ?_
        exact tw_zret hx hb hr hlocks (by decide) TH hS hex ⟨⟨_, rfl, (show 0 ≤ Int32.toInt 1 from by have : ((1 : Int32).toInt) = 1 := (by decide); omega), (show Int32.toInt 1 ≤ 1 from by have : ((1 : Int32).toInt) = 1 := (by decide); omega), (by have : ((1 : Int32).toInt) = 1 := (by decide); intro _; have hl := hl13.resolve_left (by omega); exact r2_tr (hg0 (xe4.toInt) (by omega) (by rw [tw_fi_of hfv0_27]; omega)).1 hl.2.2 (hpoxc21_0 (by omega)))⟩, rfl, rfl, rfl⟩ (Nat.le_of_ble_eq_true rfl) (Nat.le_of_ble_eq_true rfl) dX12_isFrom_60
      · have hf24 : xc21.toInt = 0 := by have z := (fa_eq _ _).mp hc22; have : ((0 : Int32).toInt) = 0 := (by decide); omega
        refine lv_aload_n hx hb dX12_isFrom_31 rfl (lv_at hl 0 rfl) ?_
        refine tw_get (ci := 12) (C := RX12) (T := TX12) (N := 64) hx hb hB cx_inX12 hown hK TH hm0 hk0 rfl ⟨by decide, rfl⟩ 25 (by decide) cw_1218 (fun _ h9 => h9) dX12_isFrom_32 (fun hv => ?_)
        obtain ⟨xr25, hxr25, hmxr25, hkxr25⟩ : ∃ a : Nat, tw_fv E a0 25 = .ref a ∧ a ∈ L ∧ kp a = 335 := hv
        rw [hxr25]
        refine lv_iload_n hx hb dX12_isFrom_35 rfl (lv_at hl 1 rfl) ?_
        refine tw_iald (k := 335) (t0 := 0) (n := 12) (lo := (-1)) (hi := 11) hx hb hK TH hmxr25 hkxr25 (by decide) rfl rfl (i := x1) (vp_in_iff.mpr ⟨by  omega, by  omega⟩) dX12_isFrom_36 (fun hxe26a hxe26b => ?_)
        obtain ⟨xe26, exe26⟩ : ∃ z : Int32, tw_iv E xr25 (Int32.toNatClampNeg x1) = z := ⟨_, rfl⟩
        rw [exe26] at hxe26a hxe26b ⊢
        have hl37 : xe26.toInt = -1 ∨ (0 ≤ xe26.toInt ∧ xe26.toInt < x1.toInt ∧ r2_ok E a0 (x1.toInt) (xe26.toInt)) := (by have q := hg1 (x1.toInt).toNat (by rw [tw_fi_of hfv0_27]; omega) 25 (by decide); have w : tw_el E a0 25 (x1.toInt).toNat = xe26.toInt := (by rw [tw_el_of hxr25]; exact congrArg Int32.toInt exe26); rw [w, show (((x1.toInt).toNat : Nat) : Int) = x1.toInt by omega] at q; exact q)
        have hn37 : xe26.toInt = -1 ∨ (0 ≤ xe26.toInt ∧ xe26.toInt < x1.toInt) := hl37.imp id (fun q => ⟨q.1, q.2.1⟩)
        refine lv_iconst (v := (-1)) hx hb dX12_isFrom_37 (by decide) ?_
        refine lv_icmp_eq (tgt := 59) hx hb dX12_isFrom_38 (by decide) (fun hc27 => ?_) (fun hc27 => ?_)
        · have hf28 : xe26.toInt = (-1) := by have z := (fa_eq _ _).mp hc27; have : (((-1) : Int32).toInt) = (-1) := (by decide); omega
          refine lv_iconst (v := 0) hx hb dX12_isFrom_59 (by decide) ?_
          exact tw_zret hx hb hr hlocks (by decide) TH hS hex ⟨⟨_, rfl, (show 0 ≤ Int32.toInt 0 from by have : ((0 : Int32).toInt) = 0 := (by decide); omega), (show Int32.toInt 0 ≤ 1 from by have : ((0 : Int32).toInt) = 0 := (by decide); omega), (by have : ((0 : Int32).toInt) = 0 := (by decide); intro q; exfalso; exact q (by decide))⟩, rfl, rfl, rfl⟩ (Nat.le_of_ble_eq_true rfl) (Nat.le_of_ble_eq_true rfl) dX12_isFrom_60
        · have hf29 : ¬ (xe26.toInt = (-1)) := fun q => hc27 ((fa_eq _ _).mpr (by have : (((-1) : Int32).toInt) = (-1) := (by decide); omega))
          refine lv_aload_n hx hb dX12_isFrom_41 rfl (lv_at hl 0 rfl) ?_
          refine lv_aload_n hx hb dX12_isFrom_42 rfl (lv_at hl 0 rfl) ?_
          refine tw_get (ci := 12) (C := RX12) (T := TX12) (N := 64) hx hb hB cx_inX12 hown hK TH hm0 hk0 rfl ⟨by decide, rfl⟩ 25 (by decide) cw_1218 (fun _ h9 => h9) dX12_isFrom_43 (fun hv => ?_)
          rw [hxr25]
          refine lv_iload_n hx hb dX12_isFrom_46 rfl (lv_at hl 1 rfl) ?_
          refine tw_iald (k := 335) (t0 := 0) (n := 12) (lo := (-1)) (hi := 11) hx hb hK TH hmxr25 hkxr25 (by decide) rfl rfl (i := x1) (vp_in_iff.mpr ⟨by  omega, by  omega⟩) dX12_isFrom_47 (fun hxe30a hxe30b => ?_)
          rw [exe26]
          refine lv_iload_n hx hb dX12_isFrom_48 rfl (lv_at hl 2 rfl) ?_
          refine tw_Vc (o := a0) (ci := 12) (n := 2) (post := (fun v kq Lq Eq => (∃ x : Int32, v = some (.int x) ∧ 0 ≤ x.toInt ∧ x.toInt ≤ 1 ∧ (x.toInt ≠ 0 → r2_ok E a0 xe26.toInt x2.toInt)) ∧ kp = kq ∧ L = Lq ∧ E = Eq)) (As := [.int xe26, .int x2]) (rest := []) ⟨hx, hb, hml, hown, hB⟩ (fun sz => tX12_isFrom_v0 l D cs a0 xe26 x2 fv0_27 hm0 hk0 (by omega) (by omega) (by omega) (by omega) hfv0_27 (by  omega) hg0 hg1 sz) cg_12_512_X12_isFrom rfl rfl (by decide +kernel) ⟨Nat.le_of_ble_eq_true rfl, Nat.le_of_ble_eq_true rfl⟩ hK hN TH hS hA rfl hm0 hk0 (by decide) rfl hl.1 rfl (Nat.le_of_ble_eq_true rfl) dX12_isFrom_49 ⟨Nat.le_of_ble_eq_true rfl, Nat.le_of_ble_eq_true rfl⟩ (fun v31 kp31 L31 E31 H locs hq31 hx31 TH hS => ?_)
          obtain ⟨⟨xc32, rfl, hxc32a, hxc32b, hpoxc32_0⟩, rfl, rfl, rfl⟩ := hq31
          refine W.eq (g2 := F0 m 52 ls [.int xc32]) rfl ?_
          refine lv_if_eq (tgt := 59) hx hb dX12_isFrom_52 (by decide) (fun hc33 => ?_) (fun hc33 => ?_)
          · have hf34 : xc32.toInt = 0 := by have z := (fa_eq _ _).mp hc33; have : ((0 : Int32).toInt) = 0 := (by decide); omega
            refine lv_iconst (v := 0) hx hb dX12_isFrom_59 (by decide) ?_
            exact tw_zret hx hb hr hlocks (by decide) TH hS hex ⟨⟨_, rfl, (show 0 ≤ Int32.toInt 0 from by have : ((0 : Int32).toInt) = 0 := (by decide); omega), (show Int32.toInt 0 ≤ 1 from by have : ((0 : Int32).toInt) = 0 := (by decide); omega), (by have : ((0 : Int32).toInt) = 0 := (by decide); intro q; exfalso; exact q (by decide))⟩, rfl, rfl, rfl⟩ (Nat.le_of_ble_eq_true rfl) (Nat.le_of_ble_eq_true rfl) dX12_isFrom_60
          · have hf35 : ¬ (xc32.toInt = 0) := fun q => hc33 ((fa_eq _ _).mpr (by have : ((0 : Int32).toInt) = 0 := (by decide); omega))
            refine lv_iconst (v := 1) hx hb dX12_isFrom_55 (by decide) ?_
            refine lv_goto (tgt := 60) hx hb dX12_isFrom_56 (by decide) ?_
            exact tw_zret hx hb hr hlocks (by decide) TH hS hex ⟨⟨_, rfl, (show 0 ≤ Int32.toInt 1 from by have : ((1 : Int32).toInt) = 1 := (by decide); omega), (show Int32.toInt 1 ≤ 1 from by have : ((1 : Int32).toInt) = 1 := (by decide); omega), (by have : ((1 : Int32).toInt) = 1 := (by decide); intro _; have hl := hl37.resolve_left (by omega); exact r2_tr (hg0 (xe26.toInt) (by omega) (by rw [tw_fi_of hfv0_27]; omega)).1 hl.2.2 (hpoxc32_0 (by omega)))⟩, rfl, rfl, rfl⟩ (Nat.le_of_ble_eq_true rfl) (Nat.le_of_ble_eq_true rfl) dX12_isFrom_60
  · have hf36 : x1.toInt = x2.toInt := by have z := (fa_eq _ _).mp hc1;  omega
    refine lv_iconst (v := 1) hx hb dX12_isFrom_5 (by decide) ?_
    exact tw_zret hx hb hr hlocks (by decide) TH hS hex ⟨⟨_, rfl, (show 0 ≤ Int32.toInt 1 from by have : ((1 : Int32).toInt) = 1 := (by decide); omega), (show Int32.toInt 1 ≤ 1 from by have : ((1 : Int32).toInt) = 1 := (by decide); omega), (by have : ((1 : Int32).toInt) = 1 := (by decide); intro _; rw [show x2.toInt = x1.toInt by omega]; exact r2_rf (hg0 (x1.toInt) (by omega) (by rw [tw_fi_of hfv0_27]; omega)))⟩, rfl, rfl, rfl⟩ (Nat.le_of_ble_eq_true rfl) (Nat.le_of_ble_eq_true rfl) dX12_isFrom_6
