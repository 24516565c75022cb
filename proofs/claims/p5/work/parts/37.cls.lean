set_option maxHeartbeats 4000000 in
set_option maxRecDepth 100000 in
theorem tX5_findCrowd (l : Launch) (D : va_G) (cs : Nat → ClassId) {kp : Nat → Nat} {L : List Nat} {E : Nat → va_E} (a0 : Nat) (hm0 : a0 ∈ L) (hk0 : kp a0 = 5) (sz : Nat) : Met l yX5_findCrowd (.code yX5_findCrowd cX5_findCrowd 3 none :: cx_big) { frames := 1, cells := 0, slots := 0, locals := 22 } (tw_P D cs kp L E [.ref a0] sz) (tw_Q D cs kp L (fun v kq Lq Eq => v = none ∧ kp = kq ∧ L = Lq ∧ tw_fr kp L [(5, 10)] [160] E Eq) (va_A (va_pl L E) sz)) 0 0 (va_A (va_pl L E) sz) := by
  refine tw_ofW (by decide) (Nat.le_of_ble_eq_true rfl) ?_
  intro p e s m below meth c A ls hx hb hr hml hB hown hlocks hK hN hA TH hS hl
  have hown : s.vm.findClass "TreeMerge$Merging" = some m.cls := hown
  have hl : lv_has ls 3 [(0, .ref a0)] := hl
  obtain ⟨kp0, ekp⟩ : ∃ z, z = kp := ⟨_, rfl⟩
  obtain ⟨L0, eL⟩ : ∃ z, z = L := ⟨_, rfl⟩
  rw [show tw_Q D cs kp L = tw_Q D cs kp0 L0 by rw [ekp, eL]]
  have hex : ∀ a : Nat, a ∈ L0 → a ∈ L ∧ kp a = kp0 a := fun a h => ⟨by rw [← eL]; exact h, by rw [ekp]⟩
  have hF : tw_fr kp L [(5, 10)] [160] E E := tw_fr.rf
  refine lv_iconst (v := 0) hx hb dX5_findCrowd_0 (by decide) ?_
  refine lv_istore_n (lv' := [(1, .int 0), (0, .ref a0)]) hx hb dX5_findCrowd_1 rfl hl (by decide) rfl (fun ls hl => ?_)
  refine lv_iconst (v := 0) hx hb dX5_findCrowd_2 (by decide) ?_
  refine lv_istore_n (lv' := [(2, .int 0), (1, .int 0), (0, .ref a0)]) hx hb dX5_findCrowd_3 rfl hl (by decide) rfl (fun ls hl => ?_)
  have hJ4 : ∀ (n4 : Nat) (y4_2 : Int32) (y4_1 : Int32) (H : Heap) (locs : List Loc) (ls : Array Slot), 0 ≤ y4_2.toInt → y4_2.toInt ≤ 150 → 150 - y4_2.toInt ≤ (n4 : Int) → tw_H D cs kp L E A H → va_S A s.heap H locs → lv_has ls 3 [(2, .int y4_2), (1, .int y4_1), (0, .ref a0)] → W p l e { frames := 1, cells := 0, slots := 0, locals := 22 } s m [.ref a0].toArray below meth c H locs 0 0 (MQ below (tw_Q D cs kp0 L0 (fun v kq Lq Eq => v = none ∧ kp = kq ∧ L = Lq ∧ tw_fr kp L [(5, 10)] [160] E Eq) A) [.ref a0].toArray s 0 0 A) (F0 m 4 ls []) := by
    intro n4
    induction n4 using Nat.strongRecOn with
    | _ n4 ih4 =>
      intro y4_2 y4_1 H locs ls hy4_2a hy4_2b hmeas4 TH hS hl
      refine lv_iload_n hx hb dX5_findCrowd_4 rfl (lv_at hl 0 rfl) ?_
      refine lv_sipush (v := 150) hx hb dX5_findCrowd_5 (by decide) ?_
      refine lv_icmp_ge (tgt := 26) hx hb dX5_findCrowd_8 (by decide) (fun hc1 => ?_) (fun hc1 => ?_)
      · have hf2 : 150 ≤ y4_2.toInt := by have z := (fa_le _ _).mp hc1; have : ((150 : Int32).toInt) = 150 := (by decide); omega
        refine lv_iload_n hx hb dX5_findCrowd_26 rfl (lv_at hl 1 rfl) ?_
        refine lv_bipush (v := 40) hx hb dX5_findCrowd_27 (by decide) ?_
        refine lv_icmp_le (tgt := 45) hx hb dX5_findCrowd_29 (by decide) (fun hc3 => ?_) (fun hc3 => ?_)
        · have hf4 : y4_1.toInt ≤ 40 := by have z := (fa_le _ _).mp hc3; have : ((40 : Int32).toInt) = 40 := (by decide); omega
          exact tw_vret hx hb hr hlocks TH hS hex ⟨rfl, rfl, rfl, hF⟩ (Nat.le_of_ble_eq_true rfl) (Nat.le_of_ble_eq_true rfl) dX5_findCrowd_45
        · have hf5 : ¬ (y4_1.toInt ≤ 40) := fun q => hc3 ((fa_le _ _).mpr (by have : ((40 : Int32).toInt) = 40 := (by decide); omega))
          refine lv_aload_n hx hb dX5_findCrowd_32 rfl (lv_at hl 2 rfl) ?_
          refine lv_aload_n hx hb dX5_findCrowd_33 rfl (lv_at hl 2 rfl) ?_
          refine tw_get (ci := 5) (C := RX5) (T := TX5) (N := 15) hx hb hB cx_inX5 hown hK TH hm0 hk0 rfl ⟨by decide, rfl⟩ 0 (by decide) cw_315 (fun _ h9 => h9) dX5_findCrowd_34 (fun hv => ?_)
          obtain ⟨xr6, hxr6, hmxr6, hkxr6⟩ : ∃ a : Nat, tw_fv E a0 0 = .ref a ∧ a ∈ L ∧ kp a = 8 := hv
          rw [hxr6]
          refine tw_Vc (o := xr6) (ci := 8) (n := 0) (post := (fun v kq Lq Eq => (∃ x : Int32, v = some (.int x) ∧ (-1) ≤ x.toInt ∧ x.toInt ≤ 149) ∧ kp = kq ∧ L = Lq ∧ E = Eq)) (As := []) (rest := [.ref a0]) ⟨hx, hb, hml, hown, hB⟩ (fun sz => tX8_outermost l D cs xr6 hmxr6 hkxr6 sz) cg_5_145_X8_outermost rfl rfl (by decide +kernel) ⟨Nat.le_of_ble_eq_true rfl, Nat.le_of_ble_eq_true rfl⟩ hK hN TH hS hA rfl hmxr6 hkxr6 (by decide) rfl hl.1 rfl (Nat.le_of_ble_eq_true rfl) dX5_findCrowd_37 ⟨Nat.le_of_ble_eq_true rfl, Nat.le_of_ble_eq_true rfl⟩ (fun v7 kp7 L7 E7 H locs hq7 hx7 TH hS => ?_)
          obtain ⟨⟨xc8, rfl, hxc8a, hxc8b⟩, rfl, rfl, rfl⟩ := hq7
          refine W.eq (g2 := F0 m 40 ls [.int xc8, .ref a0]) rfl ?_
          refine lv_bipush (v := 8) hx hb dX5_findCrowd_40 (by decide) ?_
          refine tw_Vc (o := a0) (ci := 5) (n := 2) (post := (fun v kq Lq Eq => v = none ∧ kp = kq ∧ L = Lq ∧ tw_fr kp L [(5, 10)] [160] E Eq)) (As := [.int xc8, .int 8]) (rest := []) ⟨hx, hb, hml, hown, hB⟩ (fun sz => tX5_mark l D cs a0 xc8 (8 : Int32) hm0 hk0 sz) cg_5_116_X5_mark rfl rfl (by decide +kernel) ⟨Nat.le_of_ble_eq_true rfl, Nat.le_of_ble_eq_true rfl⟩ hK hN TH hS hA rfl hm0 hk0 (by decide) rfl hl.1 rfl (Nat.le_of_ble_eq_true rfl) dX5_findCrowd_42 ⟨Nat.le_of_ble_eq_true rfl, Nat.le_of_ble_eq_true rfl⟩ (fun v9 kp9 L9 E9 H locs hq9 hx9 TH hS => ?_)
          obtain ⟨rfl, rfl, rfl, hst9⟩ := hq9
          have hF := hF.tr hst9 (fun _ h => ⟨h, rfl⟩) (by decide) (by decide)
          have hmf11 : tw_fv E9 a0 0 = .ref xr6 := (hst9.1 a0 0 hm0 (by rw [hk0]; decide)).trans hxr6
          refine W.eq (g2 := F0 m 45 ls []) rfl ?_
          exact tw_vret hx hb hr hlocks TH hS hex ⟨rfl, rfl, rfl, hF⟩ (Nat.le_of_ble_eq_true rfl) (Nat.le_of_ble_eq_true rfl) dX5_findCrowd_45
      · have hf12 : ¬ (150 ≤ y4_2.toInt) := fun q => hc1 ((fa_le _ _).mpr (by have : ((150 : Int32).toInt) = 150 := (by decide); omega))
        refine lv_iload_n hx hb dX5_findCrowd_11 rfl (lv_at hl 1 rfl) ?_
        refine lv_aload_n hx hb dX5_findCrowd_12 rfl (lv_at hl 2 rfl) ?_
        refine tw_get (ci := 5) (C := RX5) (T := TX5) (N := 15) hx hb hB cx_inX5 hown hK TH hm0 hk0 rfl ⟨by decide, rfl⟩ 6 (by decide) cw_325 (fun _ h9 => h9) dX5_findCrowd_13 (fun hv => ?_)
        obtain ⟨xr13, hxr13, hmxr13, hkxr13⟩ : ∃ a : Nat, tw_fv E a0 6 = .ref a ∧ a ∈ L ∧ kp a = 161 := hv
        rw [hxr13]
        refine lv_iload_n hx hb dX5_findCrowd_16 rfl (lv_at hl 0 rfl) ?_
        refine tw_iald (k := 161) (t0 := 0) (n := 150) (lo := 0) (hi := 1) hx hb hK TH hmxr13 hkxr13 (by decide) rfl rfl (i := y4_2) (vp_in_iff.mpr ⟨by  omega, by  omega⟩) dX5_findCrowd_17 (fun hxe14a hxe14b => ?_)
        obtain ⟨xe14, exe14⟩ : ∃ z : Int32, tw_iv E xr13 (Int32.toNatClampNeg y4_2) = z := ⟨_, rfl⟩
        rw [exe14] at hxe14a hxe14b ⊢
        refine lv_iadd hx hb dX5_findCrowd_18 ?_
        refine lv_topi (fun zi15 ezi15 => ?_)
        refine lv_istore_n (lv' := [(1, .int zi15), (2, .int y4_2), (0, .ref a0)]) hx hb dX5_findCrowd_19 rfl hl (by decide) rfl (fun ls hl => ?_)
        obtain ⟨zi16, ezi16⟩ : ∃ z : Int32, z = y4_2 + Int32.ofInt 1 := ⟨_, rfl⟩
        have hzi16 : zi16.toInt = y4_2.toInt + 1 := by rw [ezi16]; have : ((Int32.ofInt 1).toInt) = 1 := (by decide);  exact (ia_add (by omega) (by omega)).trans (by omega)
        refine lv_iinc (v := zi16) (lv' := [(2, .int zi16), (1, .int zi15), (0, .ref a0)]) hx hb dX5_findCrowd_20 hl (k := 1) rfl ezi16.symm (by decide) rfl (fun ls hl => ?_)
        refine lv_goto (tgt := 4) hx hb dX5_findCrowd_23 (by decide) ?_
        exact ih4 (n4 - 1) (by   omega) zi16 zi15 _ _ ls (by omega) (by omega) (by   omega) TH hS (lv_sub hl [0, 1, 2] rfl)
  exact hJ4 151 (0 : Int32) (0 : Int32) _ _ ls (by have : ((0 : Int32).toInt) = 0 := (by decide); omega) (by have : ((0 : Int32).toInt) = 0 := (by decide); omega) (by have : ((0 : Int32).toInt) = 0 := (by decide);  omega) TH hS (lv_sub hl [0, 1, 2] rfl)
set_option maxHeartbeats 4000000 in
set_option maxRecDepth 100000 in
theorem tX5_listOutermost (l : Launch) (D : va_G) (cs : Nat → ClassId) {kp : Nat → Nat} {L : List Nat} {E : Nat → va_E} (a0 : Nat) (hm0 : a0 ∈ L) (hk0 : kp a0 = 5) (sz : Nat) : Met l yX5_listOutermost (.code yX5_listOutermost cX5_listOutermost 2 none :: cx_big) { frames := 1, cells := 0, slots := 0, locals := 25 } (tw_P D cs kp L E [.ref a0] sz) (tw_Q D cs kp L (fun v kq Lq Eq => v = none ∧ kp = kq ∧ L = Lq ∧ tw_fr kp L [(10, 0)] [102, 110, 111, 114] E Eq) (va_A (va_pl L E) sz)) 0 0 (va_A (va_pl L E) sz) := by
  refine tw_ofW (by decide) (Nat.le_of_ble_eq_true rfl) ?_
  intro p e s m below meth c A ls hx hb hr hml hB hown hlocks hK hN hA TH hS hl
  have hown : s.vm.findClass "TreeMerge$Merging" = some m.cls := hown
  have hl : lv_has ls 2 [(0, .ref a0)] := hl
  obtain ⟨kp0, ekp⟩ : ∃ z, z = kp := ⟨_, rfl⟩
  obtain ⟨L0, eL⟩ : ∃ z, z = L := ⟨_, rfl⟩
  rw [show tw_Q D cs kp L = tw_Q D cs kp0 L0 by rw [ekp, eL]]
  have hex : ∀ a : Nat, a ∈ L0 → a ∈ L ∧ kp a = kp0 a := fun a h => ⟨by rw [← eL]; exact h, by rw [ekp]⟩
  have hF : tw_fr kp L [(10, 0)] [102, 110, 111, 114] E E := tw_fr.rf
  refine lv_aload_n hx hb dX5_listOutermost_0 rfl (lv_at hl 0 rfl) ?_
  refine tw_get (ci := 5) (C := RX5) (T := TX5) (N := 15) hx hb hB cx_inX5 hown hK TH hm0 hk0 rfl ⟨by decide, rfl⟩ 4 (by decide) cw_323 (fun _ h9 => h9) dX5_listOutermost_1 (fun hv => ?_)
  obtain ⟨xr1, hxr1, hmxr1, hkxr1⟩ : ∃ a : Nat, tw_fv E a0 4 = .ref a ∧ a ∈ L ∧ kp a = 10 := hv
  rw [hxr1]
  refine tw_Vc (o := xr1) (ci := 10) (n := 0) (post := (fun v kq Lq Eq => v = none ∧ kp = kq ∧ L = Lq ∧ tw_fr kp L [(10, 0)] [] E Eq ∧ (∃ z0 : Int32, tw_fv Eq xr1 0 = .int z0 ∧ (z0.toInt = 0)))) (As := []) (rest := []) ⟨hx, hb, hml, hown, hB⟩ (fun sz => tX10_clear l D cs xr1 hmxr1 hkxr1 sz) cg_5_149_X10_clear rfl rfl (by decide +kernel) ⟨Nat.le_of_ble_eq_true rfl, Nat.le_of_ble_eq_true rfl⟩ hK hN TH hS hA rfl hmxr1 hkxr1 (by decide) rfl hl.1 rfl (Nat.le_of_ble_eq_true rfl) dX5_listOutermost_4 ⟨Nat.le_of_ble_eq_true rfl, Nat.le_of_ble_eq_true rfl⟩ (fun v2 kp2 L2 E2 H locs hq2 hx2 TH hS => ?_)
  obtain ⟨rfl, rfl, rfl, hst2, ⟨zfxc3_0_0, hzfxc3_0_0, hzpxc3_0⟩⟩ := hq2
  have hF := hF.tr hst2 (fun _ h => ⟨h, rfl⟩) (by decide) (by decide)
  have hmf4 : tw_fv E2 a0 4 = .ref xr1 := (hst2.1 a0 4 hm0 (by rw [hk0]; decide)).trans hxr1
  obtain ⟨qzfxc3_0_0, hqzfxc3_0_0, hqzfxc3_0_0a, hqzfxc3_0_0b⟩ := tw_rd TH hmxr1 hkxr1 (by decide) (by decide) (k := 0) rfl
  have eqzfxc3_0_0 : qzfxc3_0_0 = zfxc3_0_0 := by have q := hqzfxc3_0_0.symm.trans hzfxc3_0_0; injection q
  rw [eqzfxc3_0_0] at hqzfxc3_0_0a hqzfxc3_0_0b
  refine W.eq (g2 := F0 m 7 ls []) rfl ?_
  refine lv_aload_n hx hb dX5_listOutermost_7 rfl (lv_at hl 0 rfl) ?_
  refine tw_get (ci := 5) (C := RX5) (T := TX5) (N := 15) hx hb hB cx_inX5 hown hK TH hm0 hk0 rfl ⟨by decide, rfl⟩ 0 (by decide) cw_315 (fun _ h9 => h9) dX5_listOutermost_8 (fun hv => ?_)
  obtain ⟨xr5, hxr5, hmxr5, hkxr5⟩ : ∃ a : Nat, tw_fv E2 a0 0 = .ref a ∧ a ∈ L ∧ kp a = 8 := hv
  rw [hxr5]
  refine tw_Vc (o := xr5) (ci := 8) (n := 0) (post := (fun v kq Lq Eq => (∃ x : Int32, v = some (.int x) ∧ (-1) ≤ x.toInt ∧ x.toInt ≤ 149) ∧ kp = kq ∧ L = Lq ∧ E2 = Eq)) (As := []) (rest := []) ⟨hx, hb, hml, hown, hB⟩ (fun sz => tX8_outermost l D cs xr5 hmxr5 hkxr5 sz) cg_5_145_X8_outermost rfl rfl (by decide +kernel) ⟨Nat.le_of_ble_eq_true rfl, Nat.le_of_ble_eq_true rfl⟩ hK hN TH hS hA rfl hmxr5 hkxr5 (by decide) rfl hl.1 rfl (Nat.le_of_ble_eq_true rfl) dX5_listOutermost_11 ⟨Nat.le_of_ble_eq_true rfl, Nat.le_of_ble_eq_true rfl⟩ (fun v6 kp6 L6 E6 H locs hq6 hx6 TH hS => ?_)
  obtain ⟨⟨xc7, rfl, hxc7a, hxc7b⟩, rfl, rfl, rfl⟩ := hq6
  refine W.eq (g2 := F0 m 14 ls [.int xc7]) rfl ?_
  refine lv_istore_n (lv' := [(1, .int xc7), (0, .ref a0)]) hx hb dX5_listOutermost_14 rfl hl (by decide) rfl (fun ls hl => ?_)
  refine lv_aload_n hx hb dX5_listOutermost_15 rfl (lv_at hl 1 rfl) ?_
  refine lv_iload_n hx hb dX5_listOutermost_16 rfl (lv_at hl 0 rfl) ?_
  refine tw_Vc (o := a0) (ci := 5) (n := 1) (post := (fun v kq Lq Eq => (∃ x : Int32, v = some (.int x) ∧ 0 ≤ x.toInt ∧ x.toInt ≤ 1 ∧ (x.toInt ≠ 0 → 0 ≤ xc7.toInt ∧ xc7.toInt ≤ 149)) ∧ kp = kq ∧ L = Lq ∧ E2 = Eq)) (As := [.int xc7]) (rest := []) ⟨hx, hb, hml, hown, hB⟩ (fun sz => tX5_isStanding l D cs a0 xc7 hm0 hk0 sz) cg_5_139_X5_isStanding rfl rfl (by decide +kernel) ⟨Nat.le_of_ble_eq_true rfl, Nat.le_of_ble_eq_true rfl⟩ hK hN TH hS hA rfl hm0 hk0 (by decide) rfl hl.1 rfl (Nat.le_of_ble_eq_true rfl) dX5_listOutermost_17 ⟨Nat.le_of_ble_eq_true rfl, Nat.le_of_ble_eq_true rfl⟩ (fun v8 kp8 L8 E8 H locs hq8 hx8 TH hS => ?_)
  obtain ⟨⟨xc9, rfl, hxc9a, hxc9b, hpoxc9_0⟩, rfl, rfl, rfl⟩ := hq8
  refine W.eq (g2 := F0 m 20 ls [.int xc9]) rfl ?_
  refine lv_if_eq (tgt := 44) hx hb dX5_listOutermost_20 (by decide) (fun hc10 => ?_) (fun hc10 => ?_)
  · have hf11 : xc9.toInt = 0 := by have z := (fa_eq _ _).mp hc10; have : ((0 : Int32).toInt) = 0 := (by decide); omega
    exact tw_vret hx hb hr hlocks TH hS hex ⟨rfl, rfl, rfl, hF⟩ (Nat.le_of_ble_eq_true rfl) (Nat.le_of_ble_eq_true rfl) dX5_listOutermost_44
  · have hf12 : ¬ (xc9.toInt = 0) := fun q => hc10 ((fa_eq _ _).mpr (by have : ((0 : Int32).toInt) = 0 := (by decide); omega))
    refine lv_aload_n hx hb dX5_listOutermost_23 rfl (lv_at hl 1 rfl) ?_
    refine tw_get (ci := 5) (C := RX5) (T := TX5) (N := 15) hx hb hB cx_inX5 hown hK TH hm0 hk0 rfl ⟨by decide, rfl⟩ 4 (by decide) cw_323 (fun _ h9 => h9) dX5_listOutermost_24 (fun hv => ?_)
    rw [hmf4]
    refine lv_iload_n hx hb dX5_listOutermost_27 rfl (lv_at hl 0 rfl) ?_
    refine lv_iconst (v := (-1)) hx hb dX5_listOutermost_28 (by decide) ?_
    refine lv_aload_n hx hb dX5_listOutermost_29 rfl (lv_at hl 1 rfl) ?_
    refine tw_get (ci := 5) (C := RX5) (T := TX5) (N := 15) hx hb hB cx_inX5 hown hK TH hm0 hk0 rfl ⟨by decide, rfl⟩ 7 (by decide) cw_326 (fun _ h9 => h9) dX5_listOutermost_30 (fun hv => ?_)
    obtain ⟨xr13, hxr13, hmxr13, hkxr13⟩ : ∃ a : Nat, tw_fv E2 a0 7 = .ref a ∧ a ∈ L ∧ kp a = 162 := hv
    rw [hxr13]
    refine lv_iload_n hx hb dX5_listOutermost_33 rfl (lv_at hl 0 rfl) ?_
    refine tw_iald (k := 162) (t0 := 0) (n := 150) (lo := (-1)) (hi := 9) hx hb hK TH hmxr13 hkxr13 (by decide) rfl rfl (i := xc7) (vp_in_iff.mpr ⟨by  omega, by  omega⟩) dX5_listOutermost_34 (fun hxe14a hxe14b => ?_)
    obtain ⟨xe14, exe14⟩ : ∃ z : Int32, tw_iv E2 xr13 (Int32.toNatClampNeg xc7) = z := ⟨_, rfl⟩
    rw [exe14] at hxe14a hxe14b ⊢
    refine lv_aload_n hx hb dX5_listOutermost_35 rfl (lv_at hl 1 rfl) ?_
    refine tw_get (ci := 5) (C := RX5) (T := TX5) (N := 15) hx hb hB cx_inX5 hown hK TH hm0 hk0 rfl ⟨by decide, rfl⟩ 9 (by decide) cw_328 (fun _ h9 => h9) dX5_listOutermost_36 (fun hv => ?_)
    obtain ⟨xr15, hxr15, hmxr15, hkxr15⟩ : ∃ a : Nat, tw_fv E2 a0 9 = .ref a ∧ a ∈ L ∧ kp a = 164 := hv
    rw [hxr15]
    refine lv_iload_n hx hb dX5_listOutermost_39 rfl (lv_at hl 0 rfl) ?_
    refine tw_lald (k := 164) (n := 150) (lo := 0) (hi := 0) hx hb hK TH hmxr15 hkxr15 (by decide) rfl (i := xc7) (vp_in_iff.mpr ⟨by  omega, by  omega⟩) dX5_listOutermost_40 (fun xl16 => ?_)
    refine tw_Vc (o := xr1) (ci := 10) (n := 4) (post := (fun v kq Lq Eq => v = none ∧ kp = kq ∧ L = Lq ∧ tw_fr kp L [(10, 0)] [102, 110, 111, 114] E2 Eq ∧ (∃ z0 : Int32, tw_fv Eq xr1 0 = .int z0 ∧ (zfxc3_0_0.toInt < 40 → z0.toInt = zfxc3_0_0.toInt + 1)))) (As := [.int xc7, .int (-1), .int xe14, .long xl16]) (rest := []) ⟨hx, hb, hml, hown, hB⟩ (fun sz => tX10_add l D cs xr1 xc7 ((-1) : Int32) xe14 xl16 zfxc3_0_0 hmxr1 hkxr1 (by omega) (by omega) (by have : (((-1) : Int32).toInt) = (-1) := (by decide); omega) (by have : (((-1) : Int32).toInt) = (-1) := (by decide); omega) (by omega) (by omega) hzfxc3_0_0 sz) cg_5_152_X10_add rfl rfl (by decide +kernel) ⟨Nat.le_of_ble_eq_true rfl, Nat.le_of_ble_eq_true rfl⟩ hK hN TH hS hA rfl hmxr1 hkxr1 (by decide) rfl hl.1 rfl (Nat.le_of_ble_eq_true rfl) dX5_listOutermost_41 ⟨Nat.le_of_ble_eq_true rfl, Nat.le_of_ble_eq_true rfl⟩ (fun v17 kp17 L17 E17 H locs hq17 hx17 TH hS => ?_)
    obtain ⟨rfl, rfl, rfl, hst17, ⟨zfxc18_0_0, hzfxc18_0_0, hzpxc18_0⟩⟩ := hq17
    have hF := hF.tr hst17 (fun _ h => ⟨h, rfl⟩) (by decide) (by decide)
    have hmf19 : tw_fv E17 a0 4 = .ref xr1 := (hst17.1 a0 4 hm0 (by rw [hk0]; decide)).trans hmf4
    have hmf20 : tw_fv E17 a0 0 = .ref xr5 := (hst17.1 a0 0 hm0 (by rw [hk0]; decide)).trans hxr5
    have hmf21 : tw_fv E17 a0 7 = .ref xr13 := (hst17.1 a0 7 hm0 (by rw [hk0]; decide)).trans hxr13
    have hmf22 : tw_fv E17 a0 9 = .ref xr15 := (hst17.1 a0 9 hm0 (by rw [hk0]; decide)).trans hxr15
    obtain ⟨qzfxc18_0_0, hqzfxc18_0_0, hqzfxc18_0_0a, hqzfxc18_0_0b⟩ := tw_rd TH hmxr1 hkxr1 (by decide) (by decide) (k := 0) rfl
    have eqzfxc18_0_0 : qzfxc18_0_0 = zfxc18_0_0 := by have q := hqzfxc18_0_0.symm.trans hzfxc18_0_0; injection q
    rw [eqzfxc18_0_0] at hqzfxc18_0_0a hqzfxc18_0_0b
    refine W.eq (g2 := F0 m 44 ls []) rfl ?_
    exact tw_vret hx hb hr hlocks TH hS hex ⟨rfl, rfl, rfl, hF⟩ (Nat.le_of_ble_eq_true rfl) (Nat.le_of_ble_eq_true rfl) dX5_listOutermost_44
set_option maxHeartbeats 4000000 in
set_option maxRecDepth 100000 in
theorem tX5_ordering (l : Launch) (D : va_G) (cs : Nat → ClassId) {kp : Nat → Nat} {L : List Nat} {E : Nat → va_E} (a0 : Nat) (x1 : Int32) (x2 : Int32) (x3 : Int32) (hm0 : a0 ∈ L) (hk0 : kp a0 = 5) (sz : Nat) : Met l yX5_ordering (.code yX5_ordering cX5_ordering 7 (some .int) :: cx_big) { frames := 1, cells := 0, slots := 0, locals := 26 } (tw_P D cs kp L E [.ref a0, .int x1, .int x2, .int x3] sz) (tw_Q D cs kp L (fun v kq Lq Eq => (∃ x : Int32, v = some (.int x) ∧ (-1) ≤ x.toInt ∧ x.toInt ≤ 2) ∧ kp = kq ∧ L = Lq ∧ E = Eq) (va_A (va_pl L E) sz)) 0 0 (va_A (va_pl L E) sz) := by
  refine tw_ofW (by decide) (Nat.le_of_ble_eq_true rfl) ?_
  intro p e s m below meth c A ls hx hb hr hml hB hown hlocks hK hN hA TH hS hl
  have hown : s.vm.findClass "TreeMerge$Merging" = some m.cls := hown
  have hl : lv_has ls 7 [(0, .ref a0), (1, .int x1), (2, .int x2), (3, .int x3)] := hl
  obtain ⟨kp0, ekp⟩ : ∃ z, z = kp := ⟨_, rfl⟩
  obtain ⟨L0, eL⟩ : ∃ z, z = L := ⟨_, rfl⟩
  rw [show tw_Q D cs kp L = tw_Q D cs kp0 L0 by rw [ekp, eL]]
  have hex : ∀ a : Nat, a ∈ L0 → a ∈ L ∧ kp a = kp0 a := fun a h => ⟨by rw [← eL]; exact h, by rw [ekp]⟩
  refine lv_aload_n hx hb dX5_ordering_0 rfl (lv_at hl 0 rfl) ?_
  refine tw_get (ci := 5) (C := RX5) (T := TX5) (N := 15) hx hb hB cx_inX5 hown hK TH hm0 hk0 rfl ⟨by decide, rfl⟩ 0 (by decide) cw_315 (fun _ h9 => h9) dX5_ordering_1 (fun hv => ?_)
  obtain ⟨xr1, hxr1, hmxr1, hkxr1⟩ : ∃ a : Nat, tw_fv E a0 0 = .ref a ∧ a ∈ L ∧ kp a = 8 := hv
  rw [hxr1]
  refine lv_iload_n hx hb dX5_ordering_4 rfl (lv_at hl 1 rfl) ?_
  refine lv_iload_n hx hb dX5_ordering_5 rfl (lv_at hl 2 rfl) ?_
  refine lv_iload_n hx hb dX5_ordering_6 rfl (lv_at hl 3 rfl) ?_
  refine tw_Vc (o := xr1) (ci := 8) (n := 3) (post := (fun v kq Lq Eq => (∃ x : Int32, v = some (.int x) ∧ (-1) ≤ x.toInt ∧ x.toInt ≤ 1) ∧ kp = kq ∧ L = Lq ∧ E = Eq)) (As := [.int x1, .int x2, .int x3]) (rest := []) ⟨hx, hb, hml, hown, hB⟩ (fun sz => tX8_ordering l D cs xr1 x1 x2 x3 hmxr1 hkxr1 sz) cg_5_186_X8_ordering rfl rfl (by decide +kernel) ⟨Nat.le_of_ble_eq_true rfl, Nat.le_of_ble_eq_true rfl⟩ hK hN TH hS hA rfl hmxr1 hkxr1 (by decide) rfl hl.1 rfl (Nat.le_of_ble_eq_true rfl) dX5_ordering_7 ⟨Nat.le_of_ble_eq_true rfl, Nat.le_of_ble_eq_true rfl⟩ (fun v2 kp2 L2 E2 H locs hq2 hx2 TH hS => ?_)
  obtain ⟨⟨xc3, rfl, hxc3a, hxc3b⟩, rfl, rfl, rfl⟩ := hq2
  refine W.eq (g2 := F0 m 10 ls [.int xc3]) rfl ?_
  refine lv_istore (lv' := [(4, .int xc3), (0, .ref a0), (1, .int x1), (2, .int x2), (3, .int x3)]) hx hb dX5_ordering_10 hl (by decide) rfl (fun ls hl => ?_)
  refine lv_aload_n hx hb dX5_ordering_12 rfl (lv_at hl 1 rfl) ?_
  refine tw_get (ci := 5) (C := RX5) (T := TX5) (N := 15) hx hb hB cx_inX5 hown hK TH hm0 hk0 rfl ⟨by decide, rfl⟩ 1 (by decide) cw_317 (fun _ h9 => h9) dX5_ordering_13 (fun hv => ?_)
  obtain ⟨xr4, hxr4, hmxr4, hkxr4⟩ : ∃ a : Nat, tw_fv E a0 1 = .ref a ∧ a ∈ L ∧ kp a = 8 := hv
  rw [hxr4]
  refine lv_iload_n hx hb dX5_ordering_16 rfl (lv_at hl 2 rfl) ?_
  refine lv_iload_n hx hb dX5_ordering_17 rfl (lv_at hl 3 rfl) ?_
  refine lv_iload_n hx hb dX5_ordering_18 rfl (lv_at hl 4 rfl) ?_
  refine tw_Vc (o := xr4) (ci := 8) (n := 3) (post := (fun v kq Lq Eq => (∃ x : Int32, v = some (.int x) ∧ (-1) ≤ x.toInt ∧ x.toInt ≤ 1) ∧ kp = kq ∧ L = Lq ∧ E = Eq)) (As := [.int x1, .int x2, .int x3]) (rest := []) ⟨hx, hb, hml, hown, hB⟩ (fun sz => tX8_ordering l D cs xr4 x1 x2 x3 hmxr4 hkxr4 sz) cg_5_186_X8_ordering rfl rfl (by decide +kernel) ⟨Nat.le_of_ble_eq_true rfl, Nat.le_of_ble_eq_true rfl⟩ hK hN TH hS hA rfl hmxr4 hkxr4 (by decide) rfl hl.1 rfl (Nat.le_of_ble_eq_true rfl) dX5_ordering_19 ⟨Nat.le_of_ble_eq_true rfl, Nat.le_of_ble_eq_true rfl⟩ (fun v5 kp5 L5 E5 H locs hq5 hx5 TH hS => ?_)
  obtain ⟨⟨xc6, rfl, hxc6a, hxc6b⟩, rfl, rfl, rfl⟩ := hq5
  refine W.eq (g2 := F0 m 22 ls [.int xc6]) rfl ?_
  refine lv_istore (lv' := [(5, .int xc6), (4, .int xc3), (0, .ref a0), (1, .int x1), (2, .int x2), (3, .int x3)]) hx hb dX5_ordering_22 hl (by decide) rfl (fun ls hl => ?_)
  refine lv_iload hx hb dX5_ordering_24 (lv_at hl 1 rfl) ?_
  refine lv_if_eq (tgt := 36) hx hb dX5_ordering_26 (by decide) (fun hc7 => ?_) (fun hc7 => ?_)
  · have hf8 : xc3.toInt = 0 := by have z := (fa_eq _ _).mp hc7; have : ((0 : Int32).toInt) = 0 := (by decide); omega
    refine lv_iload hx hb dX5_ordering_36 (lv_at hl 0 rfl) ?_
    exact tw_iret hx hb hr hlocks TH hS hex ⟨⟨_, rfl, (show (-1) ≤ Int32.toInt xc6 from by  omega), (show Int32.toInt xc6 ≤ 2 from by  omega)⟩, rfl, rfl, rfl⟩ (Nat.le_of_ble_eq_true rfl) (Nat.le_of_ble_eq_true rfl) dX5_ordering_38
  · have hf9 : ¬ (xc3.toInt = 0) := fun q => hc7 ((fa_eq _ _).mpr (by have : ((0 : Int32).toInt) = 0 := (by decide); omega))
    refine lv_iload hx hb dX5_ordering_29 (lv_at hl 1 rfl) ?_
    refine lv_iload hx hb dX5_ordering_31 (lv_at hl 0 rfl) ?_
    refine lv_icmp_ne (tgt := 39) hx hb dX5_ordering_33 (by decide) (fun hc10 => ?_) (fun hc10 => ?_)
    · have hf11 : ¬ (xc3.toInt = xc6.toInt) := fun q => hc10 ((fa_eq _ _).mpr (by  omega))
      refine lv_iload hx hb dX5_ordering_39 (lv_at hl 0 rfl) ?_
      refine lv_if_ne (tgt := 47) hx hb dX5_ordering_41 (by decide) (fun hc12 => ?_) (fun hc12 => ?_)
      · have hf13 : ¬ (xc6.toInt = 0) := fun q => hc12 ((fa_eq _ _).mpr (by have : ((0 : Int32).toInt) = 0 := (by decide); omega))
        refine lv_aload_n hx hb dX5_ordering_47 rfl (lv_at hl 2 rfl) ?_
        refine tw_get (ci := 5) (C := RX5) (T := TX5) (N := 15) hx hb hB cx_inX5 hown hK TH hm0 hk0 rfl ⟨by decide, rfl⟩ 2 (by decide) cw_319 (fun _ h9 => h9) dX5_ordering_48 (fun hv => ?_)
        obtain ⟨xr14, hxr14, hmxr14, hkxr14⟩ : ∃ a : Nat, tw_fv E a0 2 = .ref a ∧ a ∈ L ∧ kp a = 8 := hv
        rw [hxr14]
        refine lv_iload_n hx hb dX5_ordering_51 rfl (lv_at hl 3 rfl) ?_
        refine lv_iload_n hx hb dX5_ordering_52 rfl (lv_at hl 4 rfl) ?_
        refine lv_iload_n hx hb dX5_ordering_53 rfl (lv_at hl 5 rfl) ?_
        refine tw_Vc (o := xr14) (ci := 8) (n := 3) (post := (fun v kq Lq Eq => (∃ x : Int32, v = some (.int x) ∧ (-1) ≤ x.toInt ∧ x.toInt ≤ 1) ∧ kp = kq ∧ L = Lq ∧ E = Eq)) (As := [.int x1, .int x2, .int x3]) (rest := []) ⟨hx, hb, hml, hown, hB⟩ (fun sz => tX8_ordering l D cs xr14 x1 x2 x3 hmxr14 hkxr14 sz) cg_5_186_X8_ordering rfl rfl (by decide +kernel) ⟨Nat.le_of_ble_eq_true rfl, Nat.le_of_ble_eq_true rfl⟩ hK hN TH hS hA rfl hmxr14 hkxr14 (by decide) rfl hl.1 rfl (Nat.le_of_ble_eq_true rfl) dX5_ordering_54 ⟨Nat.le_of_ble_eq_true rfl, Nat.le_of_ble_eq_true rfl⟩ (fun v15 kp15 L15 E15 H locs hq15 hx15 TH hS => ?_)
        obtain ⟨⟨xc16, rfl, hxc16a, hxc16b⟩, rfl, rfl, rfl⟩ := hq15
        refine W.eq (g2 := F0 m 57 ls [.int xc16]) rfl ?_
        refine lv_istore (lv' := [(6, .int xc16), (5, .int xc6), (4, .int xc3), (0, .ref a0), (1, .int x1), (2, .int x2), (3, .int x3)]) hx hb dX5_ordering_57 hl (by decide) rfl (fun ls hl => ?_)
        refine lv_iload hx hb dX5_ordering_59 (lv_at hl 0 rfl) ?_
        refine lv_if_ne (tgt := 66) hx hb dX5_ordering_61 (by decide) (fun hc17 => ?_) (fun hc17 => ?_)
        · have hf18 : ¬ (xc16.toInt = 0) := fun q => hc17 ((fa_eq _ _).mpr (by have : ((0 : Int32).toInt) = 0 := (by decide); omega))
          refine lv_iload hx hb dX5_ordering_66 (lv_at hl 0 rfl) ?_
          refine lv_iload hx hb dX5_ordering_68 (lv_at hl 2 rfl) ?_
          refine lv_icmp_ne (tgt := 78) hx hb dX5_ordering_70 (by decide) (fun hc19 => ?_) (fun hc19 => ?_)
          · have hf20 : ¬ (xc16.toInt = xc3.toInt) := fun q => hc19 ((fa_eq _ _).mpr (by  omega))
            refine lv_iload hx hb dX5_ordering_78 (lv_at hl 2 rfl) ?_
            exact tw_iret hx hb hr hlocks TH hS hex ⟨⟨_, rfl, (show (-1) ≤ Int32.toInt xc3 from by  omega), (show Int32.toInt xc3 ≤ 2 from by  omega)⟩, rfl, rfl, rfl⟩ (Nat.le_of_ble_eq_true rfl) (Nat.le_of_ble_eq_true rfl) dX5_ordering_80
          · have hf21 : xc16.toInt = xc3.toInt := by have z := (fa_eq _ _).mp hc19;  omega
            refine lv_iload hx hb dX5_ordering_73 (lv_at hl 1 rfl) ?_
            refine lv_goto (tgt := 80) hx hb dX5_ordering_75 (by decide) ?_
            exact tw_iret hx hb hr hlocks TH hS hex ⟨⟨_, rfl, (show (-1) ≤ Int32.toInt xc6 from by  omega), (show Int32.toInt xc6 ≤ 2 from by  omega)⟩, rfl, rfl, rfl⟩ (Nat.le_of_ble_eq_true rfl) (Nat.le_of_ble_eq_true rfl) dX5_ordering_80
        · have hf22 : xc16.toInt = 0 := by have z := (fa_eq _ _).mp hc17; have : ((0 : Int32).toInt) = 0 := (by decide); omega
          refine lv_iconst (v := 2) hx hb dX5_ordering_64 (by decide) ?_
          exact tw_iret hx hb hr hlocks TH hS hex ⟨⟨_, rfl, (show (-1) ≤ Int32.toInt 2 from by have : ((2 : Int32).toInt) = 2 := (by decide); omega), (show Int32.toInt 2 ≤ 2 from by have : ((2 : Int32).toInt) = 2 := (by decide); omega)⟩, rfl, rfl, rfl⟩ (Nat.le_of_ble_eq_true rfl) (Nat.le_of_ble_eq_true rfl) dX5_ordering_65
      · have hf23 : xc6.toInt = 0 := by have z := (fa_eq _ _).mp hc12; have : ((0 : Int32).toInt) = 0 := (by decide); omega
        refine lv_iload hx hb dX5_ordering_44 (lv_at hl 1 rfl) ?_
        exact tw_iret hx hb hr hlocks TH hS hex ⟨⟨_, rfl, (show (-1) ≤ Int32.toInt xc3 from by  omega), (show Int32.toInt xc3 ≤ 2 from by  omega)⟩, rfl, rfl, rfl⟩ (Nat.le_of_ble_eq_true rfl) (Nat.le_of_ble_eq_true rfl) dX5_ordering_46
    · have hf24 : xc3.toInt = xc6.toInt := by have z := (fa_eq _ _).mp hc10;  omega
      refine lv_iload hx hb dX5_ordering_36 (lv_at hl 0 rfl) ?_
      exact tw_iret hx hb hr hlocks TH hS hex ⟨⟨_, rfl, (show (-1) ≤ Int32.toInt xc6 from by  omega), (show Int32.toInt xc6 ≤ 2 from by  omega)⟩, rfl, rfl, rfl⟩ (Nat.le_of_ble_eq_true rfl) (Nat.le_of_ble_eq_true rfl) dX5_ordering_38
set_option maxHeartbeats 4000000 in
set_option maxRecDepth 100000 in
theorem tX5_countWaits (l : Launch) (D : va_G) (cs : Nat → ClassId) {kp : Nat → Nat} {L : List Nat} {E : Nat → va_E} (a0 : Nat) (x1 : Int32) (x2 : Int32) (hm0 : a0 ∈ L) (hk0 : kp a0 = 5) (hp2a : 0 ≤ x2.toInt) (hp2b : x2.toInt ≤ 1) (sz : Nat) : Met l yX5_countWaits (.code yX5_countWaits cX5_countWaits 6 (some .boolean) :: cx_big) { frames := 2, cells := 0, slots := 0, locals := 52 } (tw_P D cs kp L E [.ref a0, .int x1, .int x2] sz) (tw_Q D cs kp L (fun v kq Lq Eq => (∃ x : Int32, v = some (.int x) ∧ 0 ≤ x.toInt ∧ x.toInt ≤ 1) ∧ kp = kq ∧ L = Lq ∧ tw_fr kp L [] [166, 167] E Eq) (va_A (va_pl L E) sz)) 0 0 (va_A (va_pl L E) sz) := by
  refine tw_ofW (by decide) (Nat.le_of_ble_eq_true rfl) ?_
  intro p e s m below meth c A ls hx hb hr hml hB hown hlocks hK hN hA TH hS hl
  have hown : s.vm.findClass "TreeMerge$Merging" = some m.cls := hown
  have hl : lv_has ls 6 [(0, .ref a0), (1, .int x1), (2, .int x2)] := hl
  obtain ⟨kp0, ekp⟩ : ∃ z, z = kp := ⟨_, rfl⟩
  obtain ⟨L0, eL⟩ : ∃ z, z = L := ⟨_, rfl⟩
  rw [show tw_Q D cs kp L = tw_Q D cs kp0 L0 by rw [ekp, eL]]
  have hex : ∀ a : Nat, a ∈ L0 → a ∈ L ∧ kp a = kp0 a := fun a h => ⟨by rw [← eL]; exact h, by rw [ekp]⟩
  have hF : tw_fr kp L [] [166, 167] E E := tw_fr.rf
  refine lv_iconst (v := 0) hx hb dX5_countWaits_0 (by decide) ?_
  refine lv_istore_n (lv' := [(3, .int 0), (0, .ref a0), (1, .int x1), (2, .int x2)]) hx hb dX5_countWaits_1 rfl hl (by decide) rfl (fun ls hl => ?_)
  have hJ2 : ∀ (n2 : Nat) (y2_3 : Int32) (Eg2 : Nat → va_E) (H : Heap) (locs : List Loc) (ls : Array Slot), 0 ≤ y2_3.toInt → y2_3.toInt ≤ 40 → 40 - y2_3.toInt ≤ (n2 : Int) → tw_fr kp L [] [166, 167] E Eg2 → tw_H D cs kp L Eg2 A H → va_S A s.heap H locs → lv_has ls 6 [(3, .int y2_3), (0, .ref a0), (1, .int x1), (2, .int x2)] → W p l e { frames := 2, cells := 0, slots := 0, locals := 52 } s m [.ref a0, .int x1, .int x2].toArray below meth c H locs 0 0 (MQ below (tw_Q D cs kp0 L0 (fun v kq Lq Eq => (∃ x : Int32, v = some (.int x) ∧ 0 ≤ x.toInt ∧ x.toInt ≤ 1) ∧ kp = kq ∧ L = Lq ∧ tw_fr kp L [] [166, 167] E Eq) A) [.ref a0, .int x1, .int x2].toArray s 0 0 A) (F0 m 2 ls []) := by
    intro n2
    induction n2 using Nat.strongRecOn with
    | _ n2 ih2 =>
      intro y2_3 Eg2 H locs ls hy2_3a hy2_3b hmeas2 hG2 TH hS hl
      have hF := hF.tr hG2 (fun _ h => ⟨h, rfl⟩) (by decide) (by decide)
      refine lv_iload_n hx hb dX5_countWaits_2 rfl (lv_at hl 0 rfl) ?_
      refine lv_aload_n hx hb dX5_countWaits_3 rfl (lv_at hl 1 rfl) ?_
      refine tw_get (ci := 5) (C := RX5) (T := TX5) (N := 15) hx hb hB cx_inX5 hown hK TH hm0 hk0 rfl ⟨by decide, rfl⟩ 12 (by decide) cw_331 (fun _ h9 => h9) dX5_countWaits_4 (fun hv => ?_)
      obtain ⟨xi1, hxi1, hxi1a, hxi1b⟩ : ∃ x : Int32, tw_fv Eg2 a0 12 = .int x ∧ 0 ≤ x.toInt ∧ x.toInt ≤ 40 := hv
      rw [hxi1]
      refine lv_icmp_ge (tgt := 156) hx hb dX5_countWaits_7 (by decide) (fun hc2 => ?_) (fun hc2 => ?_)
      · have hf3 : xi1.toInt ≤ y2_3.toInt := by have z := (fa_le _ _).mp hc2;  omega
        refine lv_iconst (v := 1) hx hb dX5_countWaits_156 (by decide) ?_
        exact tw_zret hx hb hr hlocks (by decide) TH hS hex ⟨⟨_, rfl, (show 0 ≤ Int32.toInt 1 from by have : ((1 : Int32).toInt) = 1 := (by decide); omega), (show Int32.toInt 1 ≤ 1 from by have : ((1 : Int32).toInt) = 1 := (by decide); omega)⟩, rfl, rfl, hF⟩ (Nat.le_of_ble_eq_true rfl) (Nat.le_of_ble_eq_true rfl) dX5_countWaits_157
      · have hf4 : ¬ (xi1.toInt ≤ y2_3.toInt) := fun q => hc2 ((fa_le _ _).mpr (by  omega))
        refine lv_iconst (v := 0) hx hb dX5_countWaits_10 (by decide) ?_
        refine lv_istore (lv' := [(4, .int 0), (3, .int y2_3), (0, .ref a0), (1, .int x1), (2, .int x2)]) hx hb dX5_countWaits_11 hl (by decide) rfl (fun ls hl => ?_)
        have hJ13 : ∀ (n13 : Nat) (y13_4 : Int32) (Eg13 : Nat → va_E) (H : Heap) (locs : List Loc) (ls : Array Slot), 0 ≤ y13_4.toInt → y13_4.toInt ≤ 40 → 40 - y13_4.toInt ≤ (n13 : Int) → tw_fr kp L [] [166, 167] Eg2 Eg13 → tw_H D cs kp L Eg13 A H → va_S A s.heap H locs → lv_has ls 6 [(4, .int y13_4), (3, .int y2_3), (0, .ref a0), (1, .int x1), (2, .int x2)] → W p l e { frames := 2, cells := 0, slots := 0, locals := 52 } s m [.ref a0, .int x1, .int x2].toArray below meth c H locs 0 0 (MQ below (tw_Q D cs kp0 L0 (fun v kq Lq Eq => (∃ x : Int32, v = some (.int x) ∧ 0 ≤ x.toInt ∧ x.toInt ≤ 1) ∧ kp = kq ∧ L = Lq ∧ tw_fr kp L [] [166, 167] E Eq) A) [.ref a0, .int x1, .int x2].toArray s 0 0 A) (F0 m 13 ls []) := by
          intro n13
          induction n13 using Nat.strongRecOn with
          | _ n13 ih13 =>
            intro y13_4 Eg13 H locs ls hy13_4a hy13_4b hmeas13 hG13 TH hS hl
            have hF := hF.tr hG13 (fun _ h => ⟨h, rfl⟩) (by decide) (by decide)
            have hG2 := hG2.tr hG13 (fun _ h => ⟨h, rfl⟩) (by decide) (by decide)
            have hmf5 : tw_fv Eg13 a0 12 = .int xi1 := (hG13.1 a0 12 hm0 (by rw [hk0]; decide)).trans hxi1
            refine lv_iload hx hb dX5_countWaits_13 (lv_at hl 0 rfl) ?_
            refine lv_iload_n hx hb dX5_countWaits_15 rfl (lv_at hl 1 rfl) ?_
            refine lv_icmp_ge (tgt := 150) hx hb dX5_countWaits_16 (by decide) (fun hc6 => ?_) (fun hc6 => ?_)
            · have hf7 : y2_3.toInt ≤ y13_4.toInt := by have z := (fa_le _ _).mp hc6;  omega
              obtain ⟨zi8, ezi8⟩ : ∃ z : Int32, z = y2_3 + Int32.ofInt 1 := ⟨_, rfl⟩
              have hzi8 : zi8.toInt = y2_3.toInt + 1 := by rw [ezi8]; have : ((Int32.ofInt 1).toInt) = 1 := (by decide);  exact (ia_add (by omega) (by omega)).trans (by omega)
              refine lv_iinc (v := zi8) (lv' := [(3, .int zi8), (4, .int y13_4), (0, .ref a0), (1, .int x1), (2, .int x2)]) hx hb dX5_countWaits_150 hl (k := 1) rfl ezi8.symm (by decide) rfl (fun ls hl => ?_)
              refine lv_goto (tgt := 2) hx hb dX5_countWaits_153 (by decide) ?_
              exact ih2 (n2 - 1) (by   omega) zi8 _ _ _ ls (by omega) (by omega) (by   omega) hG2 TH hS (lv_sub hl [0, 2, 3, 4] rfl)
            · have hf9 : ¬ (y2_3.toInt ≤ y13_4.toInt) := fun q => hc6 ((fa_le _ _).mpr (by  omega))
              refine lv_iload_n hx hb dX5_countWaits_19 rfl (lv_at hl 4 rfl) ?_
              have hJ45 : ∀ (z45_0 : Int32) (H : Heap) (locs : List Loc) (ls : Array Slot), (-1) ≤ z45_0.toInt → z45_0.toInt ≤ 2 → tw_H D cs kp L Eg13 A H → va_S A s.heap H locs → lv_has ls 6 [(4, .int y13_4), (3, .int y2_3), (0, .ref a0), (1, .int x1), (2, .int x2)] → W p l e { frames := 2, cells := 0, slots := 0, locals := 52 } s m [.ref a0, .int x1, .int x2].toArray below meth c H locs 0 0 (MQ below (tw_Q D cs kp0 L0 (fun v kq Lq Eq => (∃ x : Int32, v = some (.int x) ∧ 0 ≤ x.toInt ∧ x.toInt ≤ 1) ∧ kp = kq ∧ L = Lq ∧ tw_fr kp L [] [166, 167] E Eq) A) [.ref a0, .int x1, .int x2].toArray s 0 0 A) (F0 m 45 ls [.int z45_0]) := by
                intro z45_0 H locs ls hz45_0a hz45_0b TH hS hl
                refine lv_istore (lv' := [(5, .int z45_0), (4, .int y13_4), (3, .int y2_3), (0, .ref a0), (1, .int x1), (2, .int x2)]) hx hb dX5_countWaits_45 hl (by decide) rfl (fun ls hl => ?_)
                refine lv_iload hx hb dX5_countWaits_47 (lv_at hl 0 rfl) ?_
                refine lv_iconst (v := 2) hx hb dX5_countWaits_49 (by decide) ?_
                refine lv_icmp_ne (tgt := 55) hx hb dX5_countWaits_50 (by decide) (fun hc10 => ?_) (fun hc10 => ?_)
                · have hf11 : ¬ (z45_0.toInt = 2) := fun q => hc10 ((fa_eq _ _).mpr (by have : ((2 : Int32).toInt) = 2 := (by decide); omega))
                  refine lv_aload_n hx hb dX5_countWaits_55 rfl (lv_at hl 3 rfl) ?_
                  refine tw_get (ci := 5) (C := RX5) (T := TX5) (N := 15) hx hb hB cx_inX5 hown hK TH hm0 hk0 rfl ⟨by decide, rfl⟩ 13 (by decide) cw_332 (fun _ h9 => h9) dX5_countWaits_56 (fun hv => ?_)
                  obtain ⟨xr12, hxr12, hmxr12, hkxr12⟩ : ∃ a : Nat, tw_fv Eg13 a0 13 = .ref a ∧ a ∈ L ∧ kp a = 166 := hv
                  rw [hxr12]
                  refine lv_iload_n hx hb dX5_countWaits_59 rfl (lv_at hl 2 rfl) ?_
                  refine lv_bipush (v := 40) hx hb dX5_countWaits_60 (by decide) ?_
                  refine lv_imul hx hb dX5_countWaits_62 ?_
                  refine lv_topi (fun zi13 ezi13 => ?_)
                  have hzi13 : zi13.toInt = y2_3.toInt * 40 := by rw [ezi13]; exact (ia_mul (by have hc : ((40 : Int32).toInt) = 40 := (by decide); rw [hc]; omega) (by have hc : ((40 : Int32).toInt) = 40 := (by decide); rw [hc]; omega)).trans (by have hc : ((40 : Int32).toInt) = 40 := (by decide); rw [hc])
                  refine lv_iload hx hb dX5_countWaits_63 (lv_at hl 1 rfl) ?_
                  refine lv_iadd hx hb dX5_countWaits_65 ?_
                  refine lv_topi (fun zi14 ezi14 => ?_)
                  have hzi14 : zi14.toInt = zi13.toInt + y13_4.toInt := by rw [ezi14];  have := ia_lo zi13; have := ia_hi zi13; have := ia_lo y13_4; have := ia_hi y13_4; exact (ia_add (by omega) (by omega)).trans (by omega)
                  refine lv_iload hx hb dX5_countWaits_66 (lv_at hl 0 rfl) ?_
                  refine lv_iconst (v := 1) hx hb dX5_countWaits_68 (by decide) ?_
                  have hJ77 : ∀ (z77_0 : Int32) (H : Heap) (locs : List Loc) (ls : Array Slot), 0 ≤ z77_0.toInt → z77_0.toInt ≤ 1 → tw_H D cs kp L Eg13 A H → va_S A s.heap H locs → lv_has ls 6 [(5, .int z45_0), (4, .int y13_4), (3, .int y2_3), (0, .ref a0), (1, .int x1), (2, .int x2)] → W p l e { frames := 2, cells := 0, slots := 0, locals := 52 } s m [.ref a0, .int x1, .int x2].toArray below meth c H locs 0 0 (MQ below (tw_Q D cs kp0 L0 (fun v kq Lq Eq => (∃ x : Int32, v = some (.int x) ∧ 0 ≤ x.toInt ∧ x.toInt ≤ 1) ∧ kp = kq ∧ L = Lq ∧ tw_fr kp L [] [166, 167] E Eq) A) [.ref a0, .int x1, .int x2].toArray s 0 0 A) (F0 m 77 ls [.int z77_0, .int zi14, .ref xr12]) := by
                    intro z77_0 H locs ls hz77_0a hz77_0b TH hS hl
                    refine tw_iast (k := 166) (n := 1600) (lo := 0) (hi := 1) hx hb hK TH hS hmxr12 hkxr12 (by decide) rfl (i := zi14) (x := z77_0) (vp_in_iff.mpr ⟨by  omega, by  omega⟩) (by omega) (by omega) dX5_countWaits_77 (fun H locs E15 TH hS hp16 hp17 hp18 => ?_)
                    have hst19 : tw_fr kp L [] [166] Eg13 E15 := tw_fr.ast tw_fr.rf (fun _ => hkxr12) hp16 hp17 (by decide)
                    have hF := hF.tr hst19 (fun _ h => ⟨h, rfl⟩) (by decide) (by decide)
                    have hG2 := hG2.tr hst19 (fun _ h => ⟨h, rfl⟩) (by decide) (by decide)
                    have hG13 := hG13.tr hst19 (fun _ h => ⟨h, rfl⟩) (by decide) (by decide)
                    have hmf20 : tw_fv E15 a0 12 = .int xi1 := (hst19.1 a0 12 hm0 (by rw [hk0]; decide)).trans hmf5
                    have hmf21 : tw_fv E15 a0 13 = .ref xr12 := (hst19.1 a0 13 hm0 (by rw [hk0]; decide)).trans hxr12
                    refine lv_aload_n hx hb dX5_countWaits_78 rfl (lv_at hl 3 rfl) ?_
                    refine tw_get (ci := 5) (C := RX5) (T := TX5) (N := 15) hx hb hB cx_inX5 hown hK TH hm0 hk0 rfl ⟨by decide, rfl⟩ 13 (by decide) cw_332 (fun _ h9 => h9) dX5_countWaits_79 (fun hv => ?_)
                    rw [hmf21]
                    refine lv_iload hx hb dX5_countWaits_82 (lv_at hl 1 rfl) ?_
                    refine lv_bipush (v := 40) hx hb dX5_countWaits_84 (by decide) ?_
                    refine lv_imul hx hb dX5_countWaits_86 ?_
                    refine lv_topi (fun zi22 ezi22 => ?_)
                    have hzi22 : zi22.toInt = y13_4.toInt * 40 := by rw [ezi22]; exact (ia_mul (by have hc : ((40 : Int32).toInt) = 40 := (by decide); rw [hc]; omega) (by have hc : ((40 : Int32).toInt) = 40 := (by decide); rw [hc]; omega)).trans (by have hc : ((40 : Int32).toInt) = 40 := (by decide); rw [hc])
                    refine lv_iload_n hx hb dX5_countWaits_87 rfl (lv_at hl 2 rfl) ?_
                    refine lv_iadd hx hb dX5_countWaits_88 ?_
                    refine lv_topi (fun zi23 ezi23 => ?_)
                    have hzi23 : zi23.toInt = zi22.toInt + y2_3.toInt := by rw [ezi23];  have := ia_lo zi22; have := ia_hi zi22; have := ia_lo y2_3; have := ia_hi y2_3; exact (ia_add (by omega) (by omega)).trans (by omega)
                    refine lv_iload hx hb dX5_countWaits_89 (lv_at hl 0 rfl) ?_
                    refine lv_iconst (v := (-1)) hx hb dX5_countWaits_91 (by decide) ?_
                    have hJ100 : ∀ (z100_0 : Int32) (H : Heap) (locs : List Loc) (ls : Array Slot), 0 ≤ z100_0.toInt → z100_0.toInt ≤ 1 → tw_H D cs kp L E15 A H → va_S A s.heap H locs → lv_has ls 6 [(4, .int y13_4), (3, .int y2_3), (0, .ref a0), (1, .int x1), (2, .int x2)] → W p l e { frames := 2, cells := 0, slots := 0, locals := 52 } s m [.ref a0, .int x1, .int x2].toArray below meth c H locs 0 0 (MQ below (tw_Q D cs kp0 L0 (fun v kq Lq Eq => (∃ x : Int32, v = some (.int x) ∧ 0 ≤ x.toInt ∧ x.toInt ≤ 1) ∧ kp = kq ∧ L = Lq ∧ tw_fr kp L [] [166, 167] E Eq) A) [.ref a0, .int x1, .int x2].toArray s 0 0 A) (F0 m 100 ls [.int z100_0, .int zi23, .ref xr12]) := by
                      intro z100_0 H locs ls hz100_0a hz100_0b TH hS hl
                      refine tw_iast (k := 166) (n := 1600) (lo := 0) (hi := 1) hx hb hK TH hS hmxr12 hkxr12 (by decide) rfl (i := zi23) (x := z100_0) (vp_in_iff.mpr ⟨by  omega, by  omega⟩) (by omega) (by omega) dX5_countWaits_100 (fun H locs E24 TH hS hp25 hp26 hp27 => ?_)
                      have hst28 : tw_fr kp L [] [166] E15 E24 := tw_fr.ast tw_fr.rf (fun _ => hkxr12) hp25 hp26 (by decide)
                      have hF := hF.tr hst28 (fun _ h => ⟨h, rfl⟩) (by decide) (by decide)
                      have hG2 := hG2.tr hst28 (fun _ h => ⟨h, rfl⟩) (by decide) (by decide)
                      have hG13 := hG13.tr hst28 (fun _ h => ⟨h, rfl⟩) (by decide) (by decide)
                      have hmf29 : tw_fv E24 a0 12 = .int xi1 := (hst28.1 a0 12 hm0 (by rw [hk0]; decide)).trans hmf20
                      have hmf30 : tw_fv E24 a0 13 = .ref xr12 := (hst28.1 a0 13 hm0 (by rw [hk0]; decide)).trans hmf21
                      refine lv_aload_n hx hb dX5_countWaits_101 rfl (lv_at hl 2 rfl) ?_
                      refine tw_get (ci := 5) (C := RX5) (T := TX5) (N := 15) hx hb hB cx_inX5 hown hK TH hm0 hk0 rfl ⟨by decide, rfl⟩ 14 (by decide) cw_333 (fun _ h9 => h9) dX5_countWaits_102 (fun hv => ?_)
                      obtain ⟨xr31, hxr31, hmxr31, hkxr31⟩ : ∃ a : Nat, tw_fv E24 a0 14 = .ref a ∧ a ∈ L ∧ kp a = 167 := hv
                      rw [hxr31]
                      refine lv_iload hx hb dX5_countWaits_105 (lv_at hl 0 rfl) ?_
                      refine lv_dup2_11 hx hb dX5_countWaits_107 rfl rfl ?_
                      refine tw_iald (k := 167) (t0 := 0) (n := 40) (lo := (-2147483648)) (hi := 2147483647) hx hb hK TH hmxr31 hkxr31 (by decide) rfl rfl (i := y13_4) (vp_in_iff.mpr ⟨by  omega, by  omega⟩) dX5_countWaits_108 (fun hxe32a hxe32b => ?_)
                      obtain ⟨xe32, exe32⟩ : ∃ z : Int32, tw_iv E24 xr31 (Int32.toNatClampNeg y13_4) = z := ⟨_, rfl⟩
                      rw [exe32] at hxe32a hxe32b ⊢
                      refine lv_aload_n hx hb dX5_countWaits_109 rfl (lv_at hl 2 rfl) ?_
                      refine tw_get (ci := 5) (C := RX5) (T := TX5) (N := 15) hx hb hB cx_inX5 hown hK TH hm0 hk0 rfl ⟨by decide, rfl⟩ 13 (by decide) cw_332 (fun _ h9 => h9) dX5_countWaits_110 (fun hv => ?_)
                      rw [hmf30]
                      refine lv_iload_n hx hb dX5_countWaits_113 rfl (lv_at hl 1 rfl) ?_
                      refine lv_bipush (v := 40) hx hb dX5_countWaits_114 (by decide) ?_
                      refine lv_imul hx hb dX5_countWaits_116 ?_
                      refine lv_topi (fun zi33 ezi33 => ?_)
                      have hzi33 : zi33.toInt = y2_3.toInt * 40 := by rw [ezi33]; exact (ia_mul (by have hc : ((40 : Int32).toInt) = 40 := (by decide); rw [hc]; omega) (by have hc : ((40 : Int32).toInt) = 40 := (by decide); rw [hc]; omega)).trans (by have hc : ((40 : Int32).toInt) = 40 := (by decide); rw [hc])
                      refine lv_iload hx hb dX5_countWaits_117 (lv_at hl 0 rfl) ?_
                      refine lv_iadd hx hb dX5_countWaits_119 ?_
                      refine lv_topi (fun zi34 ezi34 => ?_)
                      have hzi34 : zi34.toInt = zi33.toInt + y13_4.toInt := by rw [ezi34];  have := ia_lo zi33; have := ia_hi zi33; have := ia_lo y13_4; have := ia_hi y13_4; exact (ia_add (by omega) (by omega)).trans (by omega)
                      refine tw_iald (k := 166) (t0 := 0) (n := 1600) (lo := 0) (hi := 1) hx hb hK TH hmxr12 hkxr12 (by decide) rfl rfl (i := zi34) (vp_in_iff.mpr ⟨by  omega, by  omega⟩) dX5_countWaits_120 (fun hxe35a hxe35b => ?_)
                      obtain ⟨xe35, exe35⟩ : ∃ z : Int32, tw_iv E24 xr12 (Int32.toNatClampNeg zi34) = z := ⟨_, rfl⟩
                      rw [exe35] at hxe35a hxe35b ⊢
                      refine lv_iadd hx hb dX5_countWaits_121 ?_
                      refine lv_topi (fun zi36 ezi36 => ?_)
                      refine tw_iast (k := 167) (n := 40) (lo := (-2147483648)) (hi := 2147483647) hx hb hK TH hS hmxr31 hkxr31 (by decide) rfl (i := y13_4) (x := zi36) (vp_in_iff.mpr ⟨by  omega, by  omega⟩) (ia_lo _) (ia_hi _) dX5_countWaits_122 (fun H locs E37 TH hS hp38 hp39 hp40 => ?_)
                      have hst41 : tw_fr kp L [] [167] E24 E37 := tw_fr.ast tw_fr.rf (fun _ => hkxr31) hp38 hp39 (by decide)
                      have hF := hF.tr hst41 (fun _ h => ⟨h, rfl⟩) (by decide) (by decide)
                      have hG2 := hG2.tr hst41 (fun _ h => ⟨h, rfl⟩) (by decide) (by decide)
                      have hG13 := hG13.tr hst41 (fun _ h => ⟨h, rfl⟩) (by decide) (by decide)
                      have hmf42 : tw_fv E37 a0 12 = .int xi1 := (hst41.1 a0 12 hm0 (by rw [hk0]; decide)).trans hmf29
                      have hmf43 : tw_fv E37 a0 13 = .ref xr12 := (hst41.1 a0 13 hm0 (by rw [hk0]; decide)).trans hmf30
                      have hmf44 : tw_fv E37 a0 14 = .ref xr31 := (hst41.1 a0 14 hm0 (by rw [hk0]; decide)).trans hxr31
                      refine lv_aload_n hx hb dX5_countWaits_123 rfl (lv_at hl 2 rfl) ?_
                      refine tw_get (ci := 5) (C := RX5) (T := TX5) (N := 15) hx hb hB cx_inX5 hown hK TH hm0 hk0 rfl ⟨by decide, rfl⟩ 14 (by decide) cw_333 (fun _ h9 => h9) dX5_countWaits_124 (fun hv => ?_)
                      rw [hmf44]
                      refine lv_iload_n hx hb dX5_countWaits_127 rfl (lv_at hl 1 rfl) ?_
                      refine lv_dup2_11 hx hb dX5_countWaits_128 rfl rfl ?_
                      refine tw_iald (k := 167) (t0 := 0) (n := 40) (lo := (-2147483648)) (hi := 2147483647) hx hb hK TH hmxr31 hkxr31 (by decide) rfl rfl (i := y2_3) (vp_in_iff.mpr ⟨by  omega, by  omega⟩) dX5_countWaits_129 (fun hxe45a hxe45b => ?_)
                      obtain ⟨xe45, exe45⟩ : ∃ z : Int32, tw_iv E37 xr31 (Int32.toNatClampNeg y2_3) = z := ⟨_, rfl⟩
                      rw [exe45] at hxe45a hxe45b ⊢
                      refine lv_aload_n hx hb dX5_countWaits_130 rfl (lv_at hl 2 rfl) ?_
                      refine tw_get (ci := 5) (C := RX5) (T := TX5) (N := 15) hx hb hB cx_inX5 hown hK TH hm0 hk0 rfl ⟨by decide, rfl⟩ 13 (by decide) cw_332 (fun _ h9 => h9) dX5_countWaits_131 (fun hv => ?_)
                      rw [hmf43]
                      refine lv_iload hx hb dX5_countWaits_134 (lv_at hl 0 rfl) ?_
                      refine lv_bipush (v := 40) hx hb dX5_countWaits_136 (by decide) ?_
                      refine lv_imul hx hb dX5_countWaits_138 ?_
                      refine lv_topi (fun zi46 ezi46 => ?_)
                      have hzi46 : zi46.toInt = y13_4.toInt * 40 := by rw [ezi46]; exact (ia_mul (by have hc : ((40 : Int32).toInt) = 40 := (by decide); rw [hc]; omega) (by have hc : ((40 : Int32).toInt) = 40 := (by decide); rw [hc]; omega)).trans (by have hc : ((40 : Int32).toInt) = 40 := (by decide); rw [hc])
                      refine lv_iload_n hx hb dX5_countWaits_139 rfl (lv_at hl 1 rfl) ?_
                      refine lv_iadd hx hb dX5_countWaits_140 ?_
                      refine lv_topi (fun zi47 ezi47 => ?_)
                      have hzi47 : zi47.toInt = zi46.toInt + y2_3.toInt := by rw [ezi47];  have := ia_lo zi46; have := ia_hi zi46; have := ia_lo y2_3; have := ia_hi y2_3; exact (ia_add (by omega) (by omega)).trans (by omega)
                      refine tw_iald (k := 166) (t0 := 0) (n := 1600) (lo := 0) (hi := 1) hx hb hK TH hmxr12 hkxr12 (by decide) rfl rfl (i := zi47) (vp_in_iff.mpr ⟨by  omega, by  omega⟩) dX5_countWaits_141 (fun hxe48a hxe48b => ?_)
                      obtain ⟨xe48, exe48⟩ : ∃ z : Int32, tw_iv E37 xr12 (Int32.toNatClampNeg zi47) = z := ⟨_, rfl⟩
                      rw [exe48] at hxe48a hxe48b ⊢
                      refine lv_iadd hx hb dX5_countWaits_142 ?_
                      refine lv_topi (fun zi49 ezi49 => ?_)
                      refine tw_iast (k := 167) (n := 40) (lo := (-2147483648)) (hi := 2147483647) hx hb hK TH hS hmxr31 hkxr31 (by decide) rfl (i := y2_3) (x := zi49) (vp_in_iff.mpr ⟨by  omega, by  omega⟩) (ia_lo _) (ia_hi _) dX5_countWaits_143 (fun H locs E50 TH hS hp51 hp52 hp53 => ?_)
                      have hst54 : tw_fr kp L [] [167] E37 E50 := tw_fr.ast tw_fr.rf (fun _ => hkxr31) hp51 hp52 (by decide)
                      have hF := hF.tr hst54 (fun _ h => ⟨h, rfl⟩) (by decide) (by decide)
                      have hG2 := hG2.tr hst54 (fun _ h => ⟨h, rfl⟩) (by decide) (by decide)
                      have hG13 := hG13.tr hst54 (fun _ h => ⟨h, rfl⟩) (by decide) (by decide)
                      have hmf55 : tw_fv E50 a0 12 = .int xi1 := (hst54.1 a0 12 hm0 (by rw [hk0]; decide)).trans hmf42
                      have hmf56 : tw_fv E50 a0 13 = .ref xr12 := (hst54.1 a0 13 hm0 (by rw [hk0]; decide)).trans hmf43
                      have hmf57 : tw_fv E50 a0 14 = .ref xr31 := (hst54.1 a0 14 hm0 (by rw [hk0]; decide)).trans hmf44
                      obtain ⟨zi58, ezi58⟩ : ∃ z : Int32, z = y13_4 + Int32.ofInt 1 := ⟨_, rfl⟩
                      have hzi58 : zi58.toInt = y13_4.toInt + 1 := by rw [ezi58]; have : ((Int32.ofInt 1).toInt) = 1 := (by decide);  exact (ia_add (by omega) (by omega)).trans (by omega)
                      refine lv_iinc (v := zi58) (lv' := [(4, .int zi58), (3, .int y2_3), (0, .ref a0), (1, .int x1), (2, .int x2)]) hx hb dX5_countWaits_144 hl (k := 0) rfl ezi58.symm (by decide) rfl (fun ls hl => ?_)
                      refine lv_goto (tgt := 13) hx hb dX5_countWaits_147 (by decide) ?_
                      exact ih13 (n13 - 1) (by   omega) zi58 _ _ _ ls (by omega) (by omega) (by   omega) hG13 TH hS (lv_sub hl [0, 1, 2, 3, 4] rfl)
                    refine lv_icmp_ne (tgt := 99) hx hb dX5_countWaits_92 (by decide) (fun hc59 => ?_) (fun hc59 => ?_)
                    · have hf60 : ¬ (z45_0.toInt = (-1)) := fun q => hc59 ((fa_eq _ _).mpr (by have : (((-1) : Int32).toInt) = (-1) := (by decide); omega))
                      refine lv_iconst (v := 0) hx hb dX5_countWaits_99 (by decide) ?_
                      exact hJ100 (0 : Int32) _ _ ls (by have : ((0 : Int32).toInt) = 0 := (by decide); omega) (by have : ((0 : Int32).toInt) = 0 := (by decide); omega) TH hS (lv_sub hl [1, 2, 3, 4, 5] rfl)
                    · have hf61 : z45_0.toInt = (-1) := by have z := (fa_eq _ _).mp hc59; have : (((-1) : Int32).toInt) = (-1) := (by decide); omega
                      refine lv_iconst (v := 1) hx hb dX5_countWaits_95 (by decide) ?_
                      refine lv_goto (tgt := 100) hx hb dX5_countWaits_96 (by decide) ?_
                      exact hJ100 (1 : Int32) _ _ ls (by have : ((1 : Int32).toInt) = 1 := (by decide); omega) (by have : ((1 : Int32).toInt) = 1 := (by decide); omega) TH hS (lv_sub hl [1, 2, 3, 4, 5] rfl)
                  refine lv_icmp_ne (tgt := 76) hx hb dX5_countWaits_69 (by decide) (fun hc62 => ?_) (fun hc62 => ?_)
                  · have hf63 : ¬ (z45_0.toInt = 1) := fun q => hc62 ((fa_eq _ _).mpr (by have : ((1 : Int32).toInt) = 1 := (by decide); omega))
                    refine lv_iconst (v := 0) hx hb dX5_countWaits_76 (by decide) ?_
                    exact hJ77 (0 : Int32) _ _ ls (by have : ((0 : Int32).toInt) = 0 := (by decide); omega) (by have : ((0 : Int32).toInt) = 0 := (by decide); omega) TH hS (lv_sub hl [0, 1, 2, 3, 4, 5] rfl)
                  · have hf64 : z45_0.toInt = 1 := by have z := (fa_eq _ _).mp hc62; have : ((1 : Int32).toInt) = 1 := (by decide); omega
                    refine lv_iconst (v := 1) hx hb dX5_countWaits_72 (by decide) ?_
                    refine lv_goto (tgt := 77) hx hb dX5_countWaits_73 (by decide) ?_
                    exact hJ77 (1 : Int32) _ _ ls (by have : ((1 : Int32).toInt) = 1 := (by decide); omega) (by have : ((1 : Int32).toInt) = 1 := (by decide); omega) TH hS (lv_sub hl [0, 1, 2, 3, 4, 5] rfl)
                · have hf65 : z45_0.toInt = 2 := by have z := (fa_eq _ _).mp hc10; have : ((2 : Int32).toInt) = 2 := (by decide); omega
                  refine lv_iconst (v := 0) hx hb dX5_countWaits_53 (by decide) ?_
                  exact tw_zret hx hb hr hlocks (by decide) TH hS hex ⟨⟨_, rfl, (show 0 ≤ Int32.toInt 0 from by have : ((0 : Int32).toInt) = 0 := (by decide); omega), (show Int32.toInt 0 ≤ 1 from by have : ((0 : Int32).toInt) = 0 := (by decide); omega)⟩, rfl, rfl, hF⟩ (Nat.le_of_ble_eq_true rfl) (Nat.le_of_ble_eq_true rfl) dX5_countWaits_54
              refine lv_if_eq (tgt := 27) hx hb dX5_countWaits_20 (by decide) (fun hc66 => ?_) (fun hc66 => ?_)
              · have hf67 : x2.toInt = 0 := by have z := (fa_eq _ _).mp hc66; have : ((0 : Int32).toInt) = 0 := (by decide); omega
                refine lv_aload_n hx hb dX5_countWaits_27 rfl (lv_at hl 2 rfl) ?_
                refine lv_iload_n hx hb dX5_countWaits_28 rfl (lv_at hl 3 rfl) ?_
                refine lv_aload_n hx hb dX5_countWaits_29 rfl (lv_at hl 2 rfl) ?_
                refine tw_get (ci := 5) (C := RX5) (T := TX5) (N := 15) hx hb hB cx_inX5 hown hK TH hm0 hk0 rfl ⟨by decide, rfl⟩ 11 (by decide) cw_330 (fun _ h9 => h9) dX5_countWaits_30 (fun hv => ?_)
                obtain ⟨xr68, hxr68, hmxr68, hkxr68⟩ : ∃ a : Nat, tw_fv Eg13 a0 11 = .ref a ∧ a ∈ L ∧ kp a = 165 := hv
                rw [hxr68]
                refine lv_iload_n hx hb dX5_countWaits_33 rfl (lv_at hl 1 rfl) ?_
                refine tw_iald (k := 165) (t0 := 0) (n := 40) (lo := 0) (hi := 149) hx hb hK TH hmxr68 hkxr68 (by decide) rfl rfl (i := y2_3) (vp_in_iff.mpr ⟨by  omega, by  omega⟩) dX5_countWaits_34 (fun hxe69a hxe69b => ?_)
                obtain ⟨xe69, exe69⟩ : ∃ z : Int32, tw_iv Eg13 xr68 (Int32.toNatClampNeg y2_3) = z := ⟨_, rfl⟩
                rw [exe69] at hxe69a hxe69b ⊢
                refine lv_aload_n hx hb dX5_countWaits_35 rfl (lv_at hl 2 rfl) ?_
                refine tw_get (ci := 5) (C := RX5) (T := TX5) (N := 15) hx hb hB cx_inX5 hown hK TH hm0 hk0 rfl ⟨by decide, rfl⟩ 11 (by decide) cw_330 (fun _ h9 => h9) dX5_countWaits_36 (fun hv => ?_)
                rw [hxr68]
                refine lv_iload hx hb dX5_countWaits_39 (lv_at hl 0 rfl) ?_
                refine tw_iald (k := 165) (t0 := 0) (n := 40) (lo := 0) (hi := 149) hx hb hK TH hmxr68 hkxr68 (by decide) rfl rfl (i := y13_4) (vp_in_iff.mpr ⟨by  omega, by  omega⟩) dX5_countWaits_41 (fun hxe70a hxe70b => ?_)
                obtain ⟨xe70, exe70⟩ : ∃ z : Int32, tw_iv Eg13 xr68 (Int32.toNatClampNeg y13_4) = z := ⟨_, rfl⟩
                rw [exe70] at hxe70a hxe70b ⊢
                refine tw_Vc (o := a0) (ci := 5) (n := 3) (post := (fun v kq Lq Eq => (∃ x : Int32, v = some (.int x) ∧ (-1) ≤ x.toInt ∧ x.toInt ≤ 2) ∧ kp = kq ∧ L = Lq ∧ Eg13 = Eq)) (As := [.int x1, .int xe69, .int xe70]) (rest := []) ⟨hx, hb, hml, hown, hB⟩ (fun sz => tX5_ordering l D cs a0 x1 xe69 xe70 hm0 hk0 sz) cg_5_182_X5_ordering rfl rfl (by decide +kernel) ⟨Nat.le_of_ble_eq_true rfl, Nat.le_of_ble_eq_true rfl⟩ hK hN TH hS hA rfl hm0 hk0 (by decide) rfl hl.1 rfl (Nat.le_of_ble_eq_true rfl) dX5_countWaits_42 ⟨Nat.le_of_ble_eq_true rfl, Nat.le_of_ble_eq_true rfl⟩ (fun v71 kp71 L71 E71 H locs hq71 hx71 TH hS => ?_)
                obtain ⟨⟨xc72, rfl, hxc72a, hxc72b⟩, rfl, rfl, rfl⟩ := hq71
                refine W.eq (g2 := F0 m 45 ls [.int xc72]) rfl ?_
                exact hJ45 xc72 _ _ ls (by omega) (by omega) TH hS (lv_sub hl [0, 1, 2, 3, 4] rfl)
              · have hf73 : ¬ (x2.toInt = 0) := fun q => hc66 ((fa_eq _ _).mpr (by have : ((0 : Int32).toInt) = 0 := (by decide); omega))
                refine lv_iconst (v := 0) hx hb dX5_countWaits_23 (by decide) ?_
                refine lv_goto (tgt := 45) hx hb dX5_countWaits_24 (by decide) ?_
                exact hJ45 (0 : Int32) _ _ ls (by have : ((0 : Int32).toInt) = 0 := (by decide); omega) (by have : ((0 : Int32).toInt) = 0 := (by decide); omega) TH hS (lv_sub hl [0, 1, 2, 3, 4] rfl)
        exact hJ13 41 (0 : Int32) _ _ _ ls (by have : ((0 : Int32).toInt) = 0 := (by decide); omega) (by have : ((0 : Int32).toInt) = 0 := (by decide); omega) (by have : ((0 : Int32).toInt) = 0 := (by decide);  omega) tw_fr.rf TH hS (lv_sub hl [0, 1, 2, 3, 4] rfl)
  exact hJ2 41 (0 : Int32) _ _ _ ls (by have : ((0 : Int32).toInt) = 0 := (by decide); omega) (by have : ((0 : Int32).toInt) = 0 := (by decide); omega) (by have : ((0 : Int32).toInt) = 0 := (by decide);  omega) tw_fr.rf TH hS (lv_sub hl [0, 1, 2, 3] rfl)
set_option maxHeartbeats 4000000 in
set_option maxRecDepth 100000 in
theorem tX5_nextFree (l : Launch) (D : va_G) (cs : Nat → ClassId) {kp : Nat → Nat} {L : List Nat} {E : Nat → va_E} (a0 : Nat) (hm0 : a0 ∈ L) (hk0 : kp a0 = 5) (sz : Nat) : Met l yX5_nextFree (.code yX5_nextFree cX5_nextFree 5 (some .int) :: cx_big) { frames := 1, cells := 0, slots := 0, locals := 27 } (tw_P D cs kp L E [.ref a0] sz) (tw_Q D cs kp L (fun v kq Lq Eq => (∃ x : Int32, v = some (.int x) ∧ (-1) ≤ x.toInt ∧ x.toInt ≤ 39) ∧ kp = kq ∧ L = Lq ∧ E = Eq) (va_A (va_pl L E) sz)) 0 0 (va_A (va_pl L E) sz) := by
  refine tw_ofW (by decide) (Nat.le_of_ble_eq_true rfl) ?_
  intro p e s m below meth c A ls hx hb hr hml hB hown hlocks hK hN hA TH hS hl
  have hown : s.vm.findClass "TreeMerge$Merging" = some m.cls := hown
  have hl : lv_has ls 5 [(0, .ref a0)] := hl
  obtain ⟨kp0, ekp⟩ : ∃ z, z = kp := ⟨_, rfl⟩
  obtain ⟨L0, eL⟩ : ∃ z, z = L := ⟨_, rfl⟩
  rw [show tw_Q D cs kp L = tw_Q D cs kp0 L0 by rw [ekp, eL]]
  have hex : ∀ a : Nat, a ∈ L0 → a ∈ L ∧ kp a = kp0 a := fun a h => ⟨by rw [← eL]; exact h, by rw [ekp]⟩
  refine lv_iconst (v := (-1)) hx hb dX5_nextFree_0 (by decide) ?_
  refine lv_istore_n (lv' := [(1, .int (-1)), (0, .ref a0)]) hx hb dX5_nextFree_1 rfl hl (by decide) rfl (fun ls hl => ?_)
  refine lv_iconst (v := 0) hx hb dX5_nextFree_2 (by decide) ?_
  refine lv_istore_n (lv' := [(2, .int 0), (1, .int (-1)), (0, .ref a0)]) hx hb dX5_nextFree_3 rfl hl (by decide) rfl (fun ls hl => ?_)
  have hJ4 : ∀ (n4 : Nat) (y4_2 : Int32) (y4_1 : Int32) (H : Heap) (locs : List Loc) (ls : Array Slot), 0 ≤ y4_2.toInt → y4_2.toInt ≤ 40 → (-1) ≤ y4_1.toInt → y4_1.toInt ≤ 39 → 40 - y4_2.toInt ≤ (n4 : Int) → tw_H D cs kp L E A H → va_S A s.heap H locs → lv_has ls 5 [(2, .int y4_2), (1, .int y4_1), (0, .ref a0)] → W p l e { frames := 1, cells := 0, slots := 0, locals := 27 } s m [.ref a0].toArray below meth c H locs 0 0 (MQ below (tw_Q D cs kp0 L0 (fun v kq Lq Eq => (∃ x : Int32, v = some (.int x) ∧ (-1) ≤ x.toInt ∧ x.toInt ≤ 39) ∧ kp = kq ∧ L = Lq ∧ E = Eq) A) [.ref a0].toArray s 0 0 A) (F0 m 4 ls []) := by
    intro n4
    induction n4 using Nat.strongRecOn with
    | _ n4 ih4 =>
      intro y4_2 y4_1 H locs ls hy4_2a hy4_2b hy4_1a hy4_1b hmeas4 TH hS hl
      refine lv_iload_n hx hb dX5_nextFree_4 rfl (lv_at hl 0 rfl) ?_
      refine lv_aload_n hx hb dX5_nextFree_5 rfl (lv_at hl 2 rfl) ?_
      refine tw_get (ci := 5) (C := RX5) (T := TX5) (N := 15) hx hb hB cx_inX5 hown hK TH hm0 hk0 rfl ⟨by decide, rfl⟩ 12 (by decide) cw_331 (fun _ h9 => h9) dX5_nextFree_6 (fun hv => ?_)
      obtain ⟨xi1, hxi1, hxi1a, hxi1b⟩ : ∃ x : Int32, tw_fv E a0 12 = .int x ∧ 0 ≤ x.toInt ∧ x.toInt ≤ 40 := hv
      rw [hxi1]
      refine lv_icmp_ge (tgt := 93) hx hb dX5_nextFree_9 (by decide) (fun hc2 => ?_) (fun hc2 => ?_)
      · have hf3 : xi1.toInt ≤ y4_2.toInt := by have z := (fa_le _ _).mp hc2;  omega
        refine lv_iload_n hx hb dX5_nextFree_93 rfl (lv_at hl 1 rfl) ?_
        exact tw_iret hx hb hr hlocks TH hS hex ⟨⟨_, rfl, (show (-1) ≤ Int32.toInt y4_1 from by  omega), (show Int32.toInt y4_1 ≤ 39 from by  omega)⟩, rfl, rfl, rfl⟩ (Nat.le_of_ble_eq_true rfl) (Nat.le_of_ble_eq_true rfl) dX5_nextFree_94
      · have hf4 : ¬ (xi1.toInt ≤ y4_2.toInt) := fun q => hc2 ((fa_le _ _).mpr (by  omega))
        refine lv_aload_n hx hb dX5_nextFree_12 rfl (lv_at hl 2 rfl) ?_
        refine tw_get (ci := 5) (C := RX5) (T := TX5) (N := 15) hx hb hB cx_inX5 hown hK TH hm0 hk0 rfl ⟨by decide, rfl⟩ 11 (by decide) cw_330 (fun _ h9 => h9) dX5_nextFree_13 (fun hv => ?_)
        obtain ⟨xr5, hxr5, hmxr5, hkxr5⟩ : ∃ a : Nat, tw_fv E a0 11 = .ref a ∧ a ∈ L ∧ kp a = 165 := hv
        rw [hxr5]
        refine lv_iload_n hx hb dX5_nextFree_16 rfl (lv_at hl 0 rfl) ?_
        refine tw_iald (k := 165) (t0 := 0) (n := 40) (lo := 0) (hi := 149) hx hb hK TH hmxr5 hkxr5 (by decide) rfl rfl (i := y4_2) (vp_in_iff.mpr ⟨by  omega, by  omega⟩) dX5_nextFree_17 (fun hxe6a hxe6b => ?_)
        obtain ⟨xe6, exe6⟩ : ∃ z : Int32, tw_iv E xr5 (Int32.toNatClampNeg y4_2) = z := ⟨_, rfl⟩
        rw [exe6] at hxe6a hxe6b ⊢
        refine lv_istore_n (lv' := [(3, .int xe6), (2, .int y4_2), (1, .int y4_1), (0, .ref a0)]) hx hb dX5_nextFree_18 rfl hl (by decide) rfl (fun ls hl => ?_)
        refine lv_iload_n hx hb dX5_nextFree_19 rfl (lv_at hl 2 rfl) ?_
        refine lv_iconst (v := (-1)) hx hb dX5_nextFree_20 (by decide) ?_
        have hJ34 : ∀ (z34_0 : Int32) (H : Heap) (locs : List Loc) (ls : Array Slot), 0 ≤ z34_0.toInt → z34_0.toInt ≤ 149 → tw_H D cs kp L E A H → va_S A s.heap H locs → lv_has ls 5 [(3, .int xe6), (2, .int y4_2), (1, .int y4_1), (0, .ref a0)] → W p l e { frames := 1, cells := 0, slots := 0, locals := 27 } s m [.ref a0].toArray below meth c H locs 0 0 (MQ below (tw_Q D cs kp0 L0 (fun v kq Lq Eq => (∃ x : Int32, v = some (.int x) ∧ (-1) ≤ x.toInt ∧ x.toInt ≤ 39) ∧ kp = kq ∧ L = Lq ∧ E = Eq) A) [.ref a0].toArray s 0 0 A) (F0 m 34 ls [.int z34_0]) := by
          intro z34_0 H locs ls hz34_0a hz34_0b TH hS hl
          refine lv_istore (lv' := [(4, .int z34_0), (3, .int xe6), (2, .int y4_2), (1, .int y4_1), (0, .ref a0)]) hx hb dX5_nextFree_34 hl (by decide) rfl (fun ls hl => ?_)
          refine lv_aload_n hx hb dX5_nextFree_36 rfl (lv_at hl 4 rfl) ?_
          refine tw_get (ci := 5) (C := RX5) (T := TX5) (N := 15) hx hb hB cx_inX5 hown hK TH hm0 hk0 rfl ⟨by decide, rfl⟩ 14 (by decide) cw_333 (fun _ h9 => h9) dX5_nextFree_37 (fun hv => ?_)
          obtain ⟨xr7, hxr7, hmxr7, hkxr7⟩ : ∃ a : Nat, tw_fv E a0 14 = .ref a ∧ a ∈ L ∧ kp a = 167 := hv
          rw [hxr7]
          refine lv_iload_n hx hb dX5_nextFree_40 rfl (lv_at hl 2 rfl) ?_
          refine tw_iald (k := 167) (t0 := 0) (n := 40) (lo := (-2147483648)) (hi := 2147483647) hx hb hK TH hmxr7 hkxr7 (by decide) rfl rfl (i := y4_2) (vp_in_iff.mpr ⟨by  omega, by  omega⟩) dX5_nextFree_41 (fun hxe8a hxe8b => ?_)
          obtain ⟨xe8, exe8⟩ : ∃ z : Int32, tw_iv E xr7 (Int32.toNatClampNeg y4_2) = z := ⟨_, rfl⟩
          rw [exe8] at hxe8a hxe8b ⊢
          have hJ87 : ∀ (y87_1 : Int32) (H : Heap) (locs : List Loc) (ls : Array Slot), (-1) ≤ y87_1.toInt → y87_1.toInt ≤ 39 → tw_H D cs kp L E A H → va_S A s.heap H locs → lv_has ls 5 [(2, .int y4_2), (1, .int y87_1), (0, .ref a0)] → W p l e { frames := 1, cells := 0, slots := 0, locals := 27 } s m [.ref a0].toArray below meth c H locs 0 0 (MQ below (tw_Q D cs kp0 L0 (fun v kq Lq Eq => (∃ x : Int32, v = some (.int x) ∧ (-1) ≤ x.toInt ∧ x.toInt ≤ 39) ∧ kp = kq ∧ L = Lq ∧ E = Eq) A) [.ref a0].toArray s 0 0 A) (F0 m 87 ls []) := by
            intro y87_1 H locs ls hy87_1a hy87_1b TH hS hl
            obtain ⟨zi9, ezi9⟩ : ∃ z : Int32, z = y4_2 + Int32.ofInt 1 := ⟨_, rfl⟩
            have hzi9 : zi9.toInt = y4_2.toInt + 1 := by rw [ezi9]; have : ((Int32.ofInt 1).toInt) = 1 := (by decide);  exact (ia_add (by omega) (by omega)).trans (by omega)
            refine lv_iinc (v := zi9) (lv' := [(2, .int zi9), (1, .int y87_1), (0, .ref a0)]) hx hb dX5_nextFree_87 hl (k := 0) rfl ezi9.symm (by decide) rfl (fun ls hl => ?_)
            refine lv_goto (tgt := 4) hx hb dX5_nextFree_90 (by decide) ?_
            exact ih4 (n4 - 1) (by   omega) zi9 y87_1 _ _ ls (by omega) (by omega) (by omega) (by omega) (by   omega) TH hS (lv_sub hl [0, 1, 2] rfl)
          refine lv_if_ne (tgt := 87) hx hb dX5_nextFree_42 (by decide) (fun hc10 => ?_) (fun hc10 => ?_)
          · have hf11 : ¬ (xe8.toInt = 0) := fun q => hc10 ((fa_eq _ _).mpr (by have : ((0 : Int32).toInt) = 0 := (by decide); omega))
            exact hJ87 y4_1 _ _ ls (by omega) (by omega) TH hS (lv_sub hl [2, 3, 4] rfl)
          · have hf12 : xe8.toInt = 0 := by have z := (fa_eq _ _).mp hc10; have : ((0 : Int32).toInt) = 0 := (by decide); omega
            refine lv_iload_n hx hb dX5_nextFree_45 rfl (lv_at hl 3 rfl) ?_
            refine lv_iconst (v := (-1)) hx hb dX5_nextFree_46 (by decide) ?_
            have hJ85 : ∀  (H : Heap) (locs : List Loc) (ls : Array Slot), tw_H D cs kp L E A H → va_S A s.heap H locs → lv_has ls 5 [(2, .int y4_2), (0, .ref a0)] → W p l e { frames := 1, cells := 0, slots := 0, locals := 27 } s m [.ref a0].toArray below meth c H locs 0 0 (MQ below (tw_Q D cs kp0 L0 (fun v kq Lq Eq => (∃ x : Int32, v = some (.int x) ∧ (-1) ≤ x.toInt ∧ x.toInt ≤ 39) ∧ kp = kq ∧ L = Lq ∧ E = Eq) A) [.ref a0].toArray s 0 0 A) (F0 m 85 ls []) := by
              intro H locs ls TH hS hl
              refine lv_iload_n hx hb dX5_nextFree_85 rfl (lv_at hl 0 rfl) ?_
              refine lv_istore_n (lv' := [(1, .int y4_2), (2, .int y4_2), (0, .ref a0)]) hx hb dX5_nextFree_86 rfl hl (by decide) rfl (fun ls hl => ?_)
              exact hJ87 y4_2 _ _ ls (by omega) (by omega) TH hS (lv_sub hl [1, 0, 2] rfl)
            refine lv_icmp_eq (tgt := 85) hx hb dX5_nextFree_47 (by decide) (fun hc13 => ?_) (fun hc13 => ?_)
            · have hf14 : y4_1.toInt = (-1) := by have z := (fa_eq _ _).mp hc13; have : (((-1) : Int32).toInt) = (-1) := (by decide); omega
              exact hJ85  _ _ ls  TH hS (lv_sub hl [2, 4] rfl)
            · have hf15 : ¬ (y4_1.toInt = (-1)) := fun q => hc13 ((fa_eq _ _).mpr (by have : (((-1) : Int32).toInt) = (-1) := (by decide); omega))
              refine lv_aload_n hx hb dX5_nextFree_50 rfl (lv_at hl 4 rfl) ?_
              refine tw_get (ci := 5) (C := RX5) (T := TX5) (N := 15) hx hb hB cx_inX5 hown hK TH hm0 hk0 rfl ⟨by decide, rfl⟩ 7 (by decide) cw_326 (fun _ h9 => h9) dX5_nextFree_51 (fun hv => ?_)
              obtain ⟨xr16, hxr16, hmxr16, hkxr16⟩ : ∃ a : Nat, tw_fv E a0 7 = .ref a ∧ a ∈ L ∧ kp a = 162 := hv
              rw [hxr16]
              refine lv_iload_n hx hb dX5_nextFree_54 rfl (lv_at hl 1 rfl) ?_
              refine tw_iald (k := 162) (t0 := 0) (n := 150) (lo := (-1)) (hi := 9) hx hb hK TH hmxr16 hkxr16 (by decide) rfl rfl (i := xe6) (vp_in_iff.mpr ⟨by  omega, by  omega⟩) dX5_nextFree_55 (fun hxe17a hxe17b => ?_)
              obtain ⟨xe17, exe17⟩ : ∃ z : Int32, tw_iv E xr16 (Int32.toNatClampNeg xe6) = z := ⟨_, rfl⟩
              rw [exe17] at hxe17a hxe17b ⊢
              refine lv_aload_n hx hb dX5_nextFree_56 rfl (lv_at hl 4 rfl) ?_
              refine tw_get (ci := 5) (C := RX5) (T := TX5) (N := 15) hx hb hB cx_inX5 hown hK TH hm0 hk0 rfl ⟨by decide, rfl⟩ 9 (by decide) cw_328 (fun _ h9 => h9) dX5_nextFree_57 (fun hv => ?_)
              obtain ⟨xr18, hxr18, hmxr18, hkxr18⟩ : ∃ a : Nat, tw_fv E a0 9 = .ref a ∧ a ∈ L ∧ kp a = 164 := hv
              rw [hxr18]
              refine lv_iload_n hx hb dX5_nextFree_60 rfl (lv_at hl 1 rfl) ?_
              refine tw_lald (k := 164) (n := 150) (lo := 0) (hi := 0) hx hb hK TH hmxr18 hkxr18 (by decide) rfl (i := xe6) (vp_in_iff.mpr ⟨by  omega, by  omega⟩) dX5_nextFree_61 (fun xl19 => ?_)
              refine lv_iload_n hx hb dX5_nextFree_62 rfl (lv_at hl 1 rfl) ?_
              refine lv_aload_n hx hb dX5_nextFree_63 rfl (lv_at hl 4 rfl) ?_
              refine tw_get (ci := 5) (C := RX5) (T := TX5) (N := 15) hx hb hB cx_inX5 hown hK TH hm0 hk0 rfl ⟨by decide, rfl⟩ 7 (by decide) cw_326 (fun _ h9 => h9) dX5_nextFree_64 (fun hv => ?_)
              rw [hxr16]
              refine lv_iload hx hb dX5_nextFree_67 (lv_at hl 0 rfl) ?_
              refine tw_iald (k := 162) (t0 := 0) (n := 150) (lo := (-1)) (hi := 9) hx hb hK TH hmxr16 hkxr16 (by decide) rfl rfl (i := z34_0) (vp_in_iff.mpr ⟨by  omega, by  omega⟩) dX5_nextFree_69 (fun hxe20a hxe20b => ?_)
              obtain ⟨xe20, exe20⟩ : ∃ z : Int32, tw_iv E xr16 (Int32.toNatClampNeg z34_0) = z := ⟨_, rfl⟩
              rw [exe20] at hxe20a hxe20b ⊢
              refine lv_aload_n hx hb dX5_nextFree_70 rfl (lv_at hl 4 rfl) ?_
              refine tw_get (ci := 5) (C := RX5) (T := TX5) (N := 15) hx hb hB cx_inX5 hown hK TH hm0 hk0 rfl ⟨by decide, rfl⟩ 9 (by decide) cw_328 (fun _ h9 => h9) dX5_nextFree_71 (fun hv => ?_)
              rw [hxr18]
              refine lv_iload hx hb dX5_nextFree_74 (lv_at hl 0 rfl) ?_
              refine tw_lald (k := 164) (n := 150) (lo := 0) (hi := 0) hx hb hK TH hmxr18 hkxr18 (by decide) rfl (i := z34_0) (vp_in_iff.mpr ⟨by  omega, by  omega⟩) dX5_nextFree_76 (fun xl21 => ?_)
              refine lv_iload hx hb dX5_nextFree_77 (lv_at hl 0 rfl) ?_
              refine tw_SNc (n := 6) (post := (fun v kq Lq Eq => (∃ x : Int32, v = some (.int x) ∧ 0 ≤ x.toInt ∧ x.toInt ≤ 1) ∧ kp = kq ∧ L = Lq ∧ E = Eq)) (As := [.int xe17, .long xl19, .int xe6, .int xe20, .long xl21, .int z34_0]) (rest := []) ⟨hx, hb, hml, hown, hB⟩ (fun sz => tX11_isAhead l D cs xe17 xl19 xe6 xe20 xl21 z34_0  sz) cw_599 cw_1 (by decide +kernel) cw_598 rfl rfl (by decide +kernel) ⟨Nat.le_of_ble_eq_true rfl, Nat.le_of_ble_eq_true rfl⟩ hK hN TH hS hA rfl hl.1 rfl (Nat.le_of_ble_eq_true rfl) dX5_nextFree_79 ⟨Nat.le_of_ble_eq_true rfl, Nat.le_of_ble_eq_true rfl⟩ (fun v22 kp22 L22 E22 H locs hq22 hx22 TH hS => ?_)
              obtain ⟨⟨xc23, rfl, hxc23a, hxc23b⟩, rfl, rfl, rfl⟩ := hq22
              refine W.eq (g2 := F0 m 82 ls [.int xc23]) rfl ?_
              refine lv_if_eq (tgt := 87) hx hb dX5_nextFree_82 (by decide) (fun hc24 => ?_) (fun hc24 => ?_)
              · have hf25 : xc23.toInt = 0 := by have z := (fa_eq _ _).mp hc24; have : ((0 : Int32).toInt) = 0 := (by decide); omega
                exact hJ87 y4_1 _ _ ls (by omega) (by omega) TH hS (lv_sub hl [2, 3, 4] rfl)
              · have hf26 : ¬ (xc23.toInt = 0) := fun q => hc24 ((fa_eq _ _).mpr (by have : ((0 : Int32).toInt) = 0 := (by decide); omega))
                exact hJ85  _ _ ls  TH hS (lv_sub hl [2, 4] rfl)
        refine lv_icmp_ne (tgt := 28) hx hb dX5_nextFree_21 (by decide) (fun hc27 => ?_) (fun hc27 => ?_)
        · have hf28 : ¬ (y4_1.toInt = (-1)) := fun q => hc27 ((fa_eq _ _).mpr (by have : (((-1) : Int32).toInt) = (-1) := (by decide); omega))
          refine lv_aload_n hx hb dX5_nextFree_28 rfl (lv_at hl 3 rfl) ?_
          refine tw_get (ci := 5) (C := RX5) (T := TX5) (N := 15) hx hb hB cx_inX5 hown hK TH hm0 hk0 rfl ⟨by decide, rfl⟩ 11 (by decide) cw_330 (fun _ h9 => h9) dX5_nextFree_29 (fun hv => ?_)
          rw [hxr5]
          refine lv_iload_n hx hb dX5_nextFree_32 rfl (lv_at hl 2 rfl) ?_
          refine tw_iald (k := 165) (t0 := 0) (n := 40) (lo := 0) (hi := 149) hx hb hK TH hmxr5 hkxr5 (by decide) rfl rfl (i := y4_1) (vp_in_iff.mpr ⟨by  omega, by  omega⟩) dX5_nextFree_33 (fun hxe29a hxe29b => ?_)
          obtain ⟨xe29, exe29⟩ : ∃ z : Int32, tw_iv E xr5 (Int32.toNatClampNeg y4_1) = z := ⟨_, rfl⟩
          rw [exe29] at hxe29a hxe29b ⊢
          exact hJ34 xe29 _ _ ls (by omega) (by omega) TH hS (lv_sub hl [0, 1, 2, 3] rfl)
        · have hf30 : y4_1.toInt = (-1) := by have z := (fa_eq _ _).mp hc27; have : (((-1) : Int32).toInt) = (-1) := (by decide); omega
          refine lv_iload_n hx hb dX5_nextFree_24 rfl (lv_at hl 0 rfl) ?_
          refine lv_goto (tgt := 34) hx hb dX5_nextFree_25 (by decide) ?_
          exact hJ34 xe6 _ _ ls (by omega) (by omega) TH hS (lv_sub hl [0, 1, 2, 3] rfl)
  exact hJ4 41 (0 : Int32) ((-1) : Int32) _ _ ls (by have : ((0 : Int32).toInt) = 0 := (by decide); omega) (by have : ((0 : Int32).toInt) = 0 := (by decide); omega) (by have : (((-1) : Int32).toInt) = (-1) := (by decide); omega) (by have : (((-1) : Int32).toInt) = (-1) := (by decide); omega) (by have : (((-1) : Int32).toInt) = (-1) := (by decide); have : ((0 : Int32).toInt) = 0 := (by decide);  omega) TH hS (lv_sub hl [0, 1, 2] rfl)
set_option maxHeartbeats 4000000 in
set_option maxRecDepth 100000 in
theorem tX5_listInOrder (l : Launch) (D : va_G) (cs : Nat → ClassId) {kp : Nat → Nat} {L : List Nat} {E : Nat → va_E} (a0 : Nat) (x1 : Int32) (a2 : Nat) (hm0 : a0 ∈ L) (hk0 : kp a0 = 5) (hp1a : 0 ≤ x1.toInt) (hp1b : x1.toInt ≤ 149) (hm2 : a2 ∈ L) (hk2 : kp a2 = 3) (sz : Nat) : Met l yX5_listInOrder (.code yX5_listInOrder cX5_listInOrder 7 (some .boolean) :: cx_big) { frames := 2, cells := 0, slots := 0, locals := 51 } (tw_P D cs kp L E [.ref a0, .int x1, .ref a2] sz) (tw_Q D cs kp L (fun v kq Lq Eq => (∃ x : Int32, v = some (.int x) ∧ 0 ≤ x.toInt ∧ x.toInt ≤ 1) ∧ kp = kq ∧ L = Lq ∧ tw_fr kp L [(3, 0), (10, 0)] [101, 102, 110, 111, 114, 167] E Eq) (va_A (va_pl L E) sz)) 0 0 (va_A (va_pl L E) sz) := by
  refine tw_ofW (by decide) (Nat.le_of_ble_eq_true rfl) ?_
  intro p e s m below meth c A ls hx hb hr hml hB hown hlocks hK hN hA TH hS hl
  have hown : s.vm.findClass "TreeMerge$Merging" = some m.cls := hown
  have hl : lv_has ls 7 [(0, .ref a0), (1, .int x1), (2, .ref a2)] := hl
  obtain ⟨kp0, ekp⟩ : ∃ z, z = kp := ⟨_, rfl⟩
  obtain ⟨L0, eL⟩ : ∃ z, z = L := ⟨_, rfl⟩
  rw [show tw_Q D cs kp L = tw_Q D cs kp0 L0 by rw [ekp, eL]]
  have hex : ∀ a : Nat, a ∈ L0 → a ∈ L ∧ kp a = kp0 a := fun a h => ⟨by rw [← eL]; exact h, by rw [ekp]⟩
  have hF : tw_fr kp L [(3, 0), (10, 0)] [101, 102, 110, 111, 114, 167] E E := tw_fr.rf
  refine lv_iconst (v := 0) hx hb dX5_listInOrder_0 (by decide) ?_
  refine lv_istore_n (lv' := [(3, .int 0), (0, .ref a0), (1, .int x1), (2, .ref a2)]) hx hb dX5_listInOrder_1 rfl hl (by decide) rfl (fun ls hl => ?_)
  have hJ2 : ∀ (n2 : Nat) (y2_3 : Int32) (Eg2 : Nat → va_E) (H : Heap) (locs : List Loc) (ls : Array Slot), 0 ≤ y2_3.toInt → y2_3.toInt ≤ 40 → 40 - y2_3.toInt ≤ (n2 : Int) → tw_fr kp L [(3, 0), (10, 0)] [101, 102, 110, 111, 114, 167] E Eg2 → tw_H D cs kp L Eg2 A H → va_S A s.heap H locs → lv_has ls 7 [(3, .int y2_3), (0, .ref a0), (1, .int x1), (2, .ref a2)] → W p l e { frames := 2, cells := 0, slots := 0, locals := 51 } s m [.ref a0, .int x1, .ref a2].toArray below meth c H locs 0 0 (MQ below (tw_Q D cs kp0 L0 (fun v kq Lq Eq => (∃ x : Int32, v = some (.int x) ∧ 0 ≤ x.toInt ∧ x.toInt ≤ 1) ∧ kp = kq ∧ L = Lq ∧ tw_fr kp L [(3, 0), (10, 0)] [101, 102, 110, 111, 114, 167] E Eq) A) [.ref a0, .int x1, .ref a2].toArray s 0 0 A) (F0 m 2 ls []) := by
    intro n2
    induction n2 using Nat.strongRecOn with
    | _ n2 ih2 =>
      intro y2_3 Eg2 H locs ls hy2_3a hy2_3b hmeas2 hG2 TH hS hl
      have hF := hF.tr hG2 (fun _ h => ⟨h, rfl⟩) (by decide) (by decide)
      refine lv_iload_n hx hb dX5_listInOrder_2 rfl (lv_at hl 0 rfl) ?_
      refine lv_aload_n hx hb dX5_listInOrder_3 rfl (lv_at hl 1 rfl) ?_
      refine tw_get (ci := 5) (C := RX5) (T := TX5) (N := 15) hx hb hB cx_inX5 hown hK TH hm0 hk0 rfl ⟨by decide, rfl⟩ 12 (by decide) cw_331 (fun _ h9 => h9) dX5_listInOrder_4 (fun hv => ?_)
      obtain ⟨xi1, hxi1, hxi1a, hxi1b⟩ : ∃ x : Int32, tw_fv Eg2 a0 12 = .int x ∧ 0 ≤ x.toInt ∧ x.toInt ≤ 40 := hv
      rw [hxi1]
      refine lv_icmp_ge (tgt := 140) hx hb dX5_listInOrder_7 (by decide) (fun hc2 => ?_) (fun hc2 => ?_)
      · have hf3 : xi1.toInt ≤ y2_3.toInt := by have z := (fa_le _ _).mp hc2;  omega
        refine lv_iconst (v := 1) hx hb dX5_listInOrder_140 (by decide) ?_
        exact tw_zret hx hb hr hlocks (by decide) TH hS hex ⟨⟨_, rfl, (show 0 ≤ Int32.toInt 1 from by have : ((1 : Int32).toInt) = 1 := (by decide); omega), (show Int32.toInt 1 ≤ 1 from by have : ((1 : Int32).toInt) = 1 := (by decide); omega)⟩, rfl, rfl, hF⟩ (Nat.le_of_ble_eq_true rfl) (Nat.le_of_ble_eq_true rfl) dX5_listInOrder_141
      · have hf4 : ¬ (xi1.toInt ≤ y2_3.toInt) := fun q => hc2 ((fa_le _ _).mpr (by  omega))
        refine lv_aload_n hx hb dX5_listInOrder_10 rfl (lv_at hl 1 rfl) ?_
        refine tw_Vc (o := a0) (ci := 5) (n := 0) (post := (fun v kq Lq Eq => (∃ x : Int32, v = some (.int x) ∧ (-1) ≤ x.toInt ∧ x.toInt ≤ 39) ∧ kp = kq ∧ L = Lq ∧ Eg2 = Eq)) (As := []) (rest := []) ⟨hx, hb, hml, hown, hB⟩ (fun sz => tX5_nextFree l D cs a0 hm0 hk0 sz) cg_5_187_X5_nextFree rfl rfl (by decide +kernel) ⟨Nat.le_of_ble_eq_true rfl, Nat.le_of_ble_eq_true rfl⟩ hK hN TH hS hA rfl hm0 hk0 (by decide) rfl hl.1 rfl (Nat.le_of_ble_eq_true rfl) dX5_listInOrder_11 ⟨Nat.le_of_ble_eq_true rfl, Nat.le_of_ble_eq_true rfl⟩ (fun v5 kp5 L5 E5 H locs hq5 hx5 TH hS => ?_)
        obtain ⟨⟨xc6, rfl, hxc6a, hxc6b⟩, rfl, rfl, rfl⟩ := hq5
        refine W.eq (g2 := F0 m 14 ls [.int xc6]) rfl ?_
        refine lv_istore (lv' := [(4, .int xc6), (3, .int y2_3), (0, .ref a0), (1, .int x1), (2, .ref a2)]) hx hb dX5_listInOrder_14 hl (by decide) rfl (fun ls hl => ?_)
        refine lv_iload hx hb dX5_listInOrder_16 (lv_at hl 0 rfl) ?_
        refine lv_iconst (v := (-1)) hx hb dX5_listInOrder_18 (by decide) ?_
        refine lv_icmp_ne (tgt := 24) hx hb dX5_listInOrder_19 (by decide) (fun hc7 => ?_) (fun hc7 => ?_)
        · have hf8 : ¬ (xc6.toInt = (-1)) := fun q => hc7 ((fa_eq _ _).mpr (by have : (((-1) : Int32).toInt) = (-1) := (by decide); omega))
          refine lv_aload_n hx hb dX5_listInOrder_24 rfl (lv_at hl 2 rfl) ?_
          refine tw_get (ci := 5) (C := RX5) (T := TX5) (N := 15) hx hb hB cx_inX5 hown hK TH hm0 hk0 rfl ⟨by decide, rfl⟩ 11 (by decide) cw_330 (fun _ h9 => h9) dX5_listInOrder_25 (fun hv => ?_)
          obtain ⟨xr9, hxr9, hmxr9, hkxr9⟩ : ∃ a : Nat, tw_fv Eg2 a0 11 = .ref a ∧ a ∈ L ∧ kp a = 165 := hv
          rw [hxr9]
          refine lv_iload hx hb dX5_listInOrder_28 (lv_at hl 0 rfl) ?_
          refine tw_iald (k := 165) (t0 := 0) (n := 40) (lo := 0) (hi := 149) hx hb hK TH hmxr9 hkxr9 (by decide) rfl rfl (i := xc6) (vp_in_iff.mpr ⟨by  omega, by  omega⟩) dX5_listInOrder_30 (fun hxe10a hxe10b => ?_)
          obtain ⟨xe10, exe10⟩ : ∃ z : Int32, tw_iv Eg2 xr9 (Int32.toNatClampNeg xc6) = z := ⟨_, rfl⟩
          rw [exe10] at hxe10a hxe10b ⊢
          refine lv_istore (lv' := [(5, .int xe10), (4, .int xc6), (3, .int y2_3), (0, .ref a0), (1, .int x1), (2, .ref a2)]) hx hb dX5_listInOrder_31 hl (by decide) rfl (fun ls hl => ?_)
          refine lv_aload_n hx hb dX5_listInOrder_33 rfl (lv_at hl 3 rfl) ?_
          refine tw_get (ci := 5) (C := RX5) (T := TX5) (N := 15) hx hb hB cx_inX5 hown hK TH hm0 hk0 rfl ⟨by decide, rfl⟩ 4 (by decide) cw_323 (fun _ h9 => h9) dX5_listInOrder_34 (fun hv => ?_)
          obtain ⟨xr11, hxr11, hmxr11, hkxr11⟩ : ∃ a : Nat, tw_fv Eg2 a0 4 = .ref a ∧ a ∈ L ∧ kp a = 10 := hv
          rw [hxr11]
          refine lv_iload hx hb dX5_listInOrder_37 (lv_at hl 0 rfl) ?_
          refine lv_iload_n hx hb dX5_listInOrder_39 rfl (lv_at hl 4 rfl) ?_
          refine lv_aload_n hx hb dX5_listInOrder_40 rfl (lv_at hl 3 rfl) ?_
          refine tw_get (ci := 5) (C := RX5) (T := TX5) (N := 15) hx hb hB cx_inX5 hown hK TH hm0 hk0 rfl ⟨by decide, rfl⟩ 7 (by decide) cw_326 (fun _ h9 => h9) dX5_listInOrder_41 (fun hv => ?_)
          obtain ⟨xr12, hxr12, hmxr12, hkxr12⟩ : ∃ a : Nat, tw_fv Eg2 a0 7 = .ref a ∧ a ∈ L ∧ kp a = 162 := hv
          rw [hxr12]
          refine lv_iload hx hb dX5_listInOrder_44 (lv_at hl 0 rfl) ?_
          refine tw_iald (k := 162) (t0 := 0) (n := 150) (lo := (-1)) (hi := 9) hx hb hK TH hmxr12 hkxr12 (by decide) rfl rfl (i := xe10) (vp_in_iff.mpr ⟨by  omega, by  omega⟩) dX5_listInOrder_46 (fun hxe13a hxe13b => ?_)
          obtain ⟨xe13, exe13⟩ : ∃ z : Int32, tw_iv Eg2 xr12 (Int32.toNatClampNeg xe10) = z := ⟨_, rfl⟩
          rw [exe13] at hxe13a hxe13b ⊢
          refine lv_aload_n hx hb dX5_listInOrder_47 rfl (lv_at hl 3 rfl) ?_
          refine tw_get (ci := 5) (C := RX5) (T := TX5) (N := 15) hx hb hB cx_inX5 hown hK TH hm0 hk0 rfl ⟨by decide, rfl⟩ 9 (by decide) cw_328 (fun _ h9 => h9) dX5_listInOrder_48 (fun hv => ?_)
          obtain ⟨xr14, hxr14, hmxr14, hkxr14⟩ : ∃ a : Nat, tw_fv Eg2 a0 9 = .ref a ∧ a ∈ L ∧ kp a = 164 := hv
          rw [hxr14]
          refine lv_iload hx hb dX5_listInOrder_51 (lv_at hl 0 rfl) ?_
          refine tw_lald (k := 164) (n := 150) (lo := 0) (hi := 0) hx hb hK TH hmxr14 hkxr14 (by decide) rfl (i := xe10) (vp_in_iff.mpr ⟨by  omega, by  omega⟩) dX5_listInOrder_53 (fun xl15 => ?_)
          obtain ⟨xi16, hxi16, hxi16a, hxi16b⟩ := tw_rd TH hmxr11 hkxr11 (by decide) (by decide) (k := 0) rfl
          refine tw_Vc (o := xr11) (ci := 10) (n := 4) (post := (fun v kq Lq Eq => v = none ∧ kp = kq ∧ L = Lq ∧ tw_fr kp L [(10, 0)] [102, 110, 111, 114] Eg2 Eq ∧ (∃ z0 : Int32, tw_fv Eq xr11 0 = .int z0 ∧ (xi16.toInt < 40 → z0.toInt = xi16.toInt + 1)))) (As := [.int xe10, .int x1, .int xe13, .long xl15]) (rest := []) ⟨hx, hb, hml, hown, hB⟩ (fun sz => tX10_add l D cs xr11 xe10 x1 xe13 xl15 xi16 hmxr11 hkxr11 (by omega) (by omega) (by omega) (by omega) (by omega) (by omega) hxi16 sz) cg_5_152_X10_add rfl rfl (by decide +kernel) ⟨Nat.le_of_ble_eq_true rfl, Nat.le_of_ble_eq_true rfl⟩ hK hN TH hS hA rfl hmxr11 hkxr11 (by decide) rfl hl.1 rfl (Nat.le_of_ble_eq_true rfl) dX5_listInOrder_54 ⟨Nat.le_of_ble_eq_true rfl, Nat.le_of_ble_eq_true rfl⟩ (fun v17 kp17 L17 E17 H locs hq17 hx17 TH hS => ?_)
          obtain ⟨rfl, rfl, rfl, hst17, ⟨zfxc18_0_0, hzfxc18_0_0, hzpxc18_0⟩⟩ := hq17
          have hF := hF.tr hst17 (fun _ h => ⟨h, rfl⟩) (by decide) (by decide)
          have hG2 := hG2.tr hst17 (fun _ h => ⟨h, rfl⟩) (by decide) (by decide)
          have hmf19 : tw_fv E17 a0 12 = .int xi1 := (hst17.1 a0 12 hm0 (by rw [hk0]; decide)).trans hxi1
          have hmf20 : tw_fv E17 a0 11 = .ref xr9 := (hst17.1 a0 11 hm0 (by rw [hk0]; decide)).trans hxr9
          have hmf21 : tw_fv E17 a0 4 = .ref xr11 := (hst17.1 a0 4 hm0 (by rw [hk0]; decide)).trans hxr11
          have hmf22 : tw_fv E17 a0 7 = .ref xr12 := (hst17.1 a0 7 hm0 (by rw [hk0]; decide)).trans hxr12
          have hmf23 : tw_fv E17 a0 9 = .ref xr14 := (hst17.1 a0 9 hm0 (by rw [hk0]; decide)).trans hxr14
          obtain ⟨qzfxc18_0_0, hqzfxc18_0_0, hqzfxc18_0_0a, hqzfxc18_0_0b⟩ := tw_rd TH hmxr11 hkxr11 (by decide) (by decide) (k := 0) rfl
          have eqzfxc18_0_0 : qzfxc18_0_0 = zfxc18_0_0 := by have q := hqzfxc18_0_0.symm.trans hzfxc18_0_0; injection q
          rw [eqzfxc18_0_0] at hqzfxc18_0_0a hqzfxc18_0_0b
          refine W.eq (g2 := F0 m 57 ls []) rfl ?_
          refine lv_aload_n hx hb dX5_listInOrder_57 rfl (lv_at hl 5 rfl) ?_
          refine lv_aload_n hx hb dX5_listInOrder_58 rfl (lv_at hl 3 rfl) ?_
          refine tw_get (ci := 5) (C := RX5) (T := TX5) (N := 15) hx hb hB cx_inX5 hown hK TH hm0 hk0 rfl ⟨by decide, rfl⟩ 7 (by decide) cw_326 (fun _ h9 => h9) dX5_listInOrder_59 (fun hv => ?_)
          rw [hmf22]
          refine lv_iload hx hb dX5_listInOrder_62 (lv_at hl 0 rfl) ?_
          refine tw_iald (k := 162) (t0 := 0) (n := 150) (lo := (-1)) (hi := 9) hx hb hK TH hmxr12 hkxr12 (by decide) rfl rfl (i := xe10) (vp_in_iff.mpr ⟨by  omega, by  omega⟩) dX5_listInOrder_64 (fun hxe24a hxe24b => ?_)
          obtain ⟨xe24, exe24⟩ : ∃ z : Int32, tw_iv E17 xr12 (Int32.toNatClampNeg xe10) = z := ⟨_, rfl⟩
          rw [exe24] at hxe24a hxe24b ⊢
          refine lv_aload_n hx hb dX5_listInOrder_65 rfl (lv_at hl 3 rfl) ?_
          refine tw_get (ci := 5) (C := RX5) (T := TX5) (N := 15) hx hb hB cx_inX5 hown hK TH hm0 hk0 rfl ⟨by decide, rfl⟩ 9 (by decide) cw_328 (fun _ h9 => h9) dX5_listInOrder_66 (fun hv => ?_)
          rw [hmf23]
          refine lv_iload hx hb dX5_listInOrder_69 (lv_at hl 0 rfl) ?_
          refine tw_lald (k := 164) (n := 150) (lo := 0) (hi := 0) hx hb hK TH hmxr14 hkxr14 (by decide) rfl (i := xe10) (vp_in_iff.mpr ⟨by  omega, by  omega⟩) dX5_listInOrder_71 (fun xl25 => ?_)
          refine tw_Vc (o := a2) (ci := 3) (n := 2) (post := (fun v kq Lq Eq => v = none ∧ kp = kq ∧ L = Lq ∧ tw_fr kp L [(3, 0)] [101, 102] E17 Eq)) (As := [.int xe24, .long xl25]) (rest := []) ⟨hx, hb, hml, hown, hB⟩ (fun sz => tX3_add l D cs a2 xe24 xl25 hm2 hk2 (by omega) (by omega) sz) cg_5_190_X3_add rfl rfl (by decide +kernel) ⟨Nat.le_of_ble_eq_true rfl, Nat.le_of_ble_eq_true rfl⟩ hK hN TH hS hA rfl hm2 hk2 (by decide) rfl hl.1 rfl (Nat.le_of_ble_eq_true rfl) dX5_listInOrder_72 ⟨Nat.le_of_ble_eq_true rfl, Nat.le_of_ble_eq_true rfl⟩ (fun v26 kp26 L26 E26 H locs hq26 hx26 TH hS => ?_)
          obtain ⟨rfl, rfl, rfl, hst26⟩ := hq26
          have hF := hF.tr hst26 (fun _ h => ⟨h, rfl⟩) (by decide) (by decide)
          have hG2 := hG2.tr hst26 (fun _ h => ⟨h, rfl⟩) (by decide) (by decide)
          have hmf28 : tw_fv E26 a0 12 = .int xi1 := (hst26.1 a0 12 hm0 (by rw [hk0]; decide)).trans hmf19
          have hmf29 : tw_fv E26 a0 11 = .ref xr9 := (hst26.1 a0 11 hm0 (by rw [hk0]; decide)).trans hmf20
          have hmf30 : tw_fv E26 a0 4 = .ref xr11 := (hst26.1 a0 4 hm0 (by rw [hk0]; decide)).trans hmf21
          have hmf31 : tw_fv E26 a0 7 = .ref xr12 := (hst26.1 a0 7 hm0 (by rw [hk0]; decide)).trans hmf22
          have hmf32 : tw_fv E26 a0 9 = .ref xr14 := (hst26.1 a0 9 hm0 (by rw [hk0]; decide)).trans hmf23
          have hmf33 : tw_fv E26 xr11 0 = .int zfxc18_0_0 := (hst26.1 xr11 0 hmxr11 (by rw [hkxr11]; decide)).trans hzfxc18_0_0
          refine W.eq (g2 := F0 m 75 ls []) rfl ?_
          refine lv_aload_n hx hb dX5_listInOrder_75 rfl (lv_at hl 3 rfl) ?_
          refine tw_get (ci := 5) (C := RX5) (T := TX5) (N := 15) hx hb hB cx_inX5 hown hK TH hm0 hk0 rfl ⟨by decide, rfl⟩ 14 (by decide) cw_333 (fun _ h9 => h9) dX5_listInOrder_76 (fun hv => ?_)
          obtain ⟨xr34, hxr34, hmxr34, hkxr34⟩ : ∃ a : Nat, tw_fv E26 a0 14 = .ref a ∧ a ∈ L ∧ kp a = 167 := hv
          rw [hxr34]
          refine lv_iload hx hb dX5_listInOrder_79 (lv_at hl 1 rfl) ?_
          refine lv_iconst (v := (-1)) hx hb dX5_listInOrder_81 (by decide) ?_
          refine tw_iast (k := 167) (n := 40) (lo := (-2147483648)) (hi := 2147483647) hx hb hK TH hS hmxr34 hkxr34 (by decide) rfl (i := xc6) (x := (-1)) (vp_in_iff.mpr ⟨by  omega, by  omega⟩) (ia_lo _) (ia_hi _) dX5_listInOrder_82 (fun H locs E35 TH hS hp36 hp37 hp38 => ?_)
          have hst39 : tw_fr kp L [] [167] E26 E35 := tw_fr.ast tw_fr.rf (fun _ => hkxr34) hp36 hp37 (by decide)
          have hF := hF.tr hst39 (fun _ h => ⟨h, rfl⟩) (by decide) (by decide)
          have hG2 := hG2.tr hst39 (fun _ h => ⟨h, rfl⟩) (by decide) (by decide)
          have hmf40 : tw_fv E35 a0 12 = .int xi1 := (hst39.1 a0 12 hm0 (by rw [hk0]; decide)).trans hmf28
          have hmf41 : tw_fv E35 a0 11 = .ref xr9 := (hst39.1 a0 11 hm0 (by rw [hk0]; decide)).trans hmf29
          have hmf42 : tw_fv E35 a0 4 = .ref xr11 := (hst39.1 a0 4 hm0 (by rw [hk0]; decide)).trans hmf30
          have hmf43 : tw_fv E35 a0 7 = .ref xr12 := (hst39.1 a0 7 hm0 (by rw [hk0]; decide)).trans hmf31
          have hmf44 : tw_fv E35 a0 9 = .ref xr14 := (hst39.1 a0 9 hm0 (by rw [hk0]; decide)).trans hmf32
          have hmf45 : tw_fv E35 xr11 0 = .int zfxc18_0_0 := (hst39.1 xr11 0 hmxr11 (by rw [hkxr11]; decide)).trans hmf33
          have hmf46 : tw_fv E35 a0 14 = .ref xr34 := (hst39.1 a0 14 hm0 (by rw [hk0]; decide)).trans hxr34
          refine lv_iconst (v := 0) hx hb dX5_listInOrder_83 (by decide) ?_
          refine lv_istore (lv' := [(6, .int 0), (5, .int xe10), (4, .int xc6), (3, .int y2_3), (0, .ref a0), (1, .int x1), (2, .ref a2)]) hx hb dX5_listInOrder_84 hl (by decide) rfl (fun ls hl => ?_)
          have hJ86 : ∀ (n86 : Nat) (y86_6 : Int32) (Eg86 : Nat → va_E) (H : Heap) (locs : List Loc) (ls : Array Slot), 0 ≤ y86_6.toInt → y86_6.toInt ≤ 40 → 40 - y86_6.toInt ≤ (n86 : Int) → tw_fr kp L [] [167] E35 Eg86 → tw_H D cs kp L Eg86 A H → va_S A s.heap H locs → lv_has ls 7 [(6, .int y86_6), (4, .int xc6), (3, .int y2_3), (0, .ref a0), (1, .int x1), (2, .ref a2)] → W p l e { frames := 2, cells := 0, slots := 0, locals := 51 } s m [.ref a0, .int x1, .ref a2].toArray below meth c H locs 0 0 (MQ below (tw_Q D cs kp0 L0 (fun v kq Lq Eq => (∃ x : Int32, v = some (.int x) ∧ 0 ≤ x.toInt ∧ x.toInt ≤ 1) ∧ kp = kq ∧ L = Lq ∧ tw_fr kp L [(3, 0), (10, 0)] [101, 102, 110, 111, 114, 167] E Eq) A) [.ref a0, .int x1, .ref a2].toArray s 0 0 A) (F0 m 86 ls []) := by
            intro n86
            induction n86 using Nat.strongRecOn with
            | _ n86 ih86 =>
              intro y86_6 Eg86 H locs ls hy86_6a hy86_6b hmeas86 hG86 TH hS hl
              have hF := hF.tr hG86 (fun _ h => ⟨h, rfl⟩) (by decide) (by decide)
              have hG2 := hG2.tr hG86 (fun _ h => ⟨h, rfl⟩) (by decide) (by decide)
              have hmf47 : tw_fv Eg86 a0 12 = .int xi1 := (hG86.1 a0 12 hm0 (by rw [hk0]; decide)).trans hmf40
              have hmf48 : tw_fv Eg86 a0 11 = .ref xr9 := (hG86.1 a0 11 hm0 (by rw [hk0]; decide)).trans hmf41
              have hmf49 : tw_fv Eg86 a0 4 = .ref xr11 := (hG86.1 a0 4 hm0 (by rw [hk0]; decide)).trans hmf42
              have hmf50 : tw_fv Eg86 a0 7 = .ref xr12 := (hG86.1 a0 7 hm0 (by rw [hk0]; decide)).trans hmf43
              have hmf51 : tw_fv Eg86 a0 9 = .ref xr14 := (hG86.1 a0 9 hm0 (by rw [hk0]; decide)).trans hmf44
              have hmf52 : tw_fv Eg86 xr11 0 = .int zfxc18_0_0 := (hG86.1 xr11 0 hmxr11 (by rw [hkxr11]; decide)).trans hmf45
              have hmf53 : tw_fv Eg86 a0 14 = .ref xr34 := (hG86.1 a0 14 hm0 (by rw [hk0]; decide)).trans hmf46
              refine lv_iload hx hb dX5_listInOrder_86 (lv_at hl 0 rfl) ?_
              refine lv_aload_n hx hb dX5_listInOrder_88 rfl (lv_at hl 3 rfl) ?_
              refine tw_get (ci := 5) (C := RX5) (T := TX5) (N := 15) hx hb hB cx_inX5 hown hK TH hm0 hk0 rfl ⟨by decide, rfl⟩ 12 (by decide) cw_331 (fun _ h9 => h9) dX5_listInOrder_89 (fun hv => ?_)
              rw [hmf47]
              refine lv_icmp_ge (tgt := 134) hx hb dX5_listInOrder_92 (by decide) (fun hc54 => ?_) (fun hc54 => ?_)
              · have hf55 : xi1.toInt ≤ y86_6.toInt := by have z := (fa_le _ _).mp hc54;  omega
                obtain ⟨zi56, ezi56⟩ : ∃ z : Int32, z = y2_3 + Int32.ofInt 1 := ⟨_, rfl⟩
                have hzi56 : zi56.toInt = y2_3.toInt + 1 := by rw [ezi56]; have : ((Int32.ofInt 1).toInt) = 1 := (by decide);  exact (ia_add (by omega) (by omega)).trans (by omega)
                refine lv_iinc (v := zi56) (lv' := [(3, .int zi56), (6, .int y86_6), (4, .int xc6), (0, .ref a0), (1, .int x1), (2, .ref a2)]) hx hb dX5_listInOrder_134 hl (k := 2) rfl ezi56.symm (by decide) rfl (fun ls hl => ?_)
                refine lv_goto (tgt := 2) hx hb dX5_listInOrder_137 (by decide) ?_
                exact ih2 (n2 - 1) (by   omega) zi56 _ _ _ ls (by omega) (by omega) (by   omega) hG2 TH hS (lv_sub hl [0, 3, 4, 5] rfl)
              · have hf57 : ¬ (xi1.toInt ≤ y86_6.toInt) := fun q => hc54 ((fa_le _ _).mpr (by  omega))
                refine lv_aload_n hx hb dX5_listInOrder_95 rfl (lv_at hl 3 rfl) ?_
                refine tw_get (ci := 5) (C := RX5) (T := TX5) (N := 15) hx hb hB cx_inX5 hown hK TH hm0 hk0 rfl ⟨by decide, rfl⟩ 14 (by decide) cw_333 (fun _ h9 => h9) dX5_listInOrder_96 (fun hv => ?_)
                rw [hmf53]
                refine lv_iload hx hb dX5_listInOrder_99 (lv_at hl 0 rfl) ?_
                refine tw_iald (k := 167) (t0 := 0) (n := 40) (lo := (-2147483648)) (hi := 2147483647) hx hb hK TH hmxr34 hkxr34 (by decide) rfl rfl (i := y86_6) (vp_in_iff.mpr ⟨by  omega, by  omega⟩) dX5_listInOrder_101 (fun hxe58a hxe58b => ?_)
                obtain ⟨xe58, exe58⟩ : ∃ z : Int32, tw_iv Eg86 xr34 (Int32.toNatClampNeg y86_6) = z := ⟨_, rfl⟩
                rw [exe58] at hxe58a hxe58b ⊢
                have hJ128 : ∀  (Eg128 : Nat → va_E) (H : Heap) (locs : List Loc) (ls : Array Slot), tw_fr kp L [] [167] Eg86 Eg128 → tw_H D cs kp L Eg128 A H → va_S A s.heap H locs → lv_has ls 7 [(6, .int y86_6), (4, .int xc6), (3, .int y2_3), (0, .ref a0), (1, .int x1), (2, .ref a2)] → W p l e { frames := 2, cells := 0, slots := 0, locals := 51 } s m [.ref a0, .int x1, .ref a2].toArray below meth c H locs 0 0 (MQ below (tw_Q D cs kp0 L0 (fun v kq Lq Eq => (∃ x : Int32, v = some (.int x) ∧ 0 ≤ x.toInt ∧ x.toInt ≤ 1) ∧ kp = kq ∧ L = Lq ∧ tw_fr kp L [(3, 0), (10, 0)] [101, 102, 110, 111, 114, 167] E Eq) A) [.ref a0, .int x1, .ref a2].toArray s 0 0 A) (F0 m 128 ls []) := by
                  intro Eg128 H locs ls hG128 TH hS hl
                  have hF := hF.tr hG128 (fun _ h => ⟨h, rfl⟩) (by decide) (by decide)
                  have hG2 := hG2.tr hG128 (fun _ h => ⟨h, rfl⟩) (by decide) (by decide)
                  have hG86 := hG86.tr hG128 (fun _ h => ⟨h, rfl⟩) (by decide) (by decide)
                  have hmf59 : tw_fv Eg128 a0 12 = .int xi1 := (hG128.1 a0 12 hm0 (by rw [hk0]; decide)).trans hmf47
                  have hmf60 : tw_fv Eg128 a0 11 = .ref xr9 := (hG128.1 a0 11 hm0 (by rw [hk0]; decide)).trans hmf48
                  have hmf61 : tw_fv Eg128 a0 4 = .ref xr11 := (hG128.1 a0 4 hm0 (by rw [hk0]; decide)).trans hmf49
                  have hmf62 : tw_fv Eg128 a0 7 = .ref xr12 := (hG128.1 a0 7 hm0 (by rw [hk0]; decide)).trans hmf50
                  have hmf63 : tw_fv Eg128 a0 9 = .ref xr14 := (hG128.1 a0 9 hm0 (by rw [hk0]; decide)).trans hmf51
                  have hmf64 : tw_fv Eg128 xr11 0 = .int zfxc18_0_0 := (hG128.1 xr11 0 hmxr11 (by rw [hkxr11]; decide)).trans hmf52
                  have hmf65 : tw_fv Eg128 a0 14 = .ref xr34 := (hG128.1 a0 14 hm0 (by rw [hk0]; decide)).trans hmf53
                  obtain ⟨zi66, ezi66⟩ : ∃ z : Int32, z = y86_6 + Int32.ofInt 1 := ⟨_, rfl⟩
                  have hzi66 : zi66.toInt = y86_6.toInt + 1 := by rw [ezi66]; have : ((Int32.ofInt 1).toInt) = 1 := (by decide);  exact (ia_add (by omega) (by omega)).trans (by omega)
                  refine lv_iinc (v := zi66) (lv' := [(6, .int zi66), (4, .int xc6), (3, .int y2_3), (0, .ref a0), (1, .int x1), (2, .ref a2)]) hx hb dX5_listInOrder_128 hl (k := 0) rfl ezi66.symm (by decide) rfl (fun ls hl => ?_)
                  refine lv_goto (tgt := 86) hx hb dX5_listInOrder_131 (by decide) ?_
                  exact ih86 (n86 - 1) (by   omega) zi66 _ _ _ ls (by omega) (by omega) (by   omega) hG86 TH hS (lv_sub hl [0, 1, 2, 3, 4, 5] rfl)
                have hG128 : tw_fr kp L [] [167] Eg86 Eg86 := tw_fr.rf
                refine lv_if_le (tgt := 128) hx hb dX5_listInOrder_102 (by decide) (fun hc67 => ?_) (fun hc67 => ?_)
                · have hf68 : xe58.toInt ≤ 0 := by have z := (fa_le _ _).mp hc67; have : ((0 : Int32).toInt) = 0 := (by decide); omega
                  exact hJ128  _ _ _ ls hG128 TH hS (lv_sub hl [0, 1, 2, 3, 4, 5] rfl)
                · have hf69 : ¬ (xe58.toInt ≤ 0) := fun q => hc67 ((fa_le _ _).mpr (by have : ((0 : Int32).toInt) = 0 := (by decide); omega))
                  refine lv_aload_n hx hb dX5_listInOrder_105 rfl (lv_at hl 3 rfl) ?_
                  refine tw_get (ci := 5) (C := RX5) (T := TX5) (N := 15) hx hb hB cx_inX5 hown hK TH hm0 hk0 rfl ⟨by decide, rfl⟩ 14 (by decide) cw_333 (fun _ h9 => h9) dX5_listInOrder_106 (fun hv => ?_)
                  rw [hmf53]
                  refine lv_iload hx hb dX5_listInOrder_109 (lv_at hl 0 rfl) ?_
                  refine lv_dup2_11 hx hb dX5_listInOrder_111 rfl rfl ?_
                  refine tw_iald (k := 167) (t0 := 0) (n := 40) (lo := (-2147483648)) (hi := 2147483647) hx hb hK TH hmxr34 hkxr34 (by decide) rfl rfl (i := y86_6) (vp_in_iff.mpr ⟨by  omega, by  omega⟩) dX5_listInOrder_112 (fun hxe70a hxe70b => ?_)
                  rw [exe58]
                  refine lv_aload_n hx hb dX5_listInOrder_113 rfl (lv_at hl 3 rfl) ?_
                  refine tw_get (ci := 5) (C := RX5) (T := TX5) (N := 15) hx hb hB cx_inX5 hown hK TH hm0 hk0 rfl ⟨by decide, rfl⟩ 13 (by decide) cw_332 (fun _ h9 => h9) dX5_listInOrder_114 (fun hv => ?_)
                  obtain ⟨xr71, hxr71, hmxr71, hkxr71⟩ : ∃ a : Nat, tw_fv Eg86 a0 13 = .ref a ∧ a ∈ L ∧ kp a = 166 := hv
                  rw [hxr71]
                  refine lv_iload hx hb dX5_listInOrder_117 (lv_at hl 1 rfl) ?_
                  refine lv_bipush (v := 40) hx hb dX5_listInOrder_119 (by decide) ?_
                  refine lv_imul hx hb dX5_listInOrder_121 ?_
                  refine lv_topi (fun zi72 ezi72 => ?_)
                  have hzi72 : zi72.toInt = xc6.toInt * 40 := by rw [ezi72]; exact (ia_mul (by have hc : ((40 : Int32).toInt) = 40 := (by decide); rw [hc]; omega) (by have hc : ((40 : Int32).toInt) = 40 := (by decide); rw [hc]; omega)).trans (by have hc : ((40 : Int32).toInt) = 40 := (by decide); rw [hc])
                  refine lv_iload hx hb dX5_listInOrder_122 (lv_at hl 0 rfl) ?_
                  refine lv_iadd hx hb dX5_listInOrder_124 ?_
                  refine lv_topi (fun zi73 ezi73 => ?_)
                  have hzi73 : zi73.toInt = zi72.toInt + y86_6.toInt := by rw [ezi73];  have := ia_lo zi72; have := ia_hi zi72; have := ia_lo y86_6; have := ia_hi y86_6; exact (ia_add (by omega) (by omega)).trans (by omega)
                  refine tw_iald (k := 166) (t0 := 0) (n := 1600) (lo := 0) (hi := 1) hx hb hK TH hmxr71 hkxr71 (by decide) rfl rfl (i := zi73) (vp_in_iff.mpr ⟨by  omega, by  omega⟩) dX5_listInOrder_125 (fun hxe74a hxe74b => ?_)
                  obtain ⟨xe74, exe74⟩ : ∃ z : Int32, tw_iv Eg86 xr71 (Int32.toNatClampNeg zi73) = z := ⟨_, rfl⟩
                  rw [exe74] at hxe74a hxe74b ⊢
                  refine lv_isub hx hb dX5_listInOrder_126 ?_
                  refine lv_topi (fun zi75 ezi75 => ?_)
                  have hzi75 : zi75.toInt = xe58.toInt - xe74.toInt := by rw [ezi75];  have := ia_lo xe58; have := ia_hi xe58; have := ia_lo xe74; have := ia_hi xe74; exact (ia_sub (by omega) (by omega)).trans (by omega)
                  refine tw_iast (k := 167) (n := 40) (lo := (-2147483648)) (hi := 2147483647) hx hb hK TH hS hmxr34 hkxr34 (by decide) rfl (i := y86_6) (x := zi75) (vp_in_iff.mpr ⟨by  omega, by  omega⟩) (ia_lo _) (ia_hi _) dX5_listInOrder_127 (fun H locs E76 TH hS hp77 hp78 hp79 => ?_)
                  have hst80 : tw_fr kp L [] [167] Eg86 E76 := tw_fr.ast tw_fr.rf (fun _ => hkxr34) hp77 hp78 (by decide)
                  have hF := hF.tr hst80 (fun _ h => ⟨h, rfl⟩) (by decide) (by decide)
                  have hG2 := hG2.tr hst80 (fun _ h => ⟨h, rfl⟩) (by decide) (by decide)
                  have hG86 := hG86.tr hst80 (fun _ h => ⟨h, rfl⟩) (by decide) (by decide)
                  have hG128 := hG128.tr hst80 (fun _ h => ⟨h, rfl⟩) (by decide) (by decide)
                  have hmf81 : tw_fv E76 a0 12 = .int xi1 := (hst80.1 a0 12 hm0 (by rw [hk0]; decide)).trans hmf47
                  have hmf82 : tw_fv E76 a0 11 = .ref xr9 := (hst80.1 a0 11 hm0 (by rw [hk0]; decide)).trans hmf48
                  have hmf83 : tw_fv E76 a0 4 = .ref xr11 := (hst80.1 a0 4 hm0 (by rw [hk0]; decide)).trans hmf49
                  have hmf84 : tw_fv E76 a0 7 = .ref xr12 := (hst80.1 a0 7 hm0 (by rw [hk0]; decide)).trans hmf50
                  have hmf85 : tw_fv E76 a0 9 = .ref xr14 := (hst80.1 a0 9 hm0 (by rw [hk0]; decide)).trans hmf51
                  have hmf86 : tw_fv E76 xr11 0 = .int zfxc18_0_0 := (hst80.1 xr11 0 hmxr11 (by rw [hkxr11]; decide)).trans hmf52
                  have hmf87 : tw_fv E76 a0 14 = .ref xr34 := (hst80.1 a0 14 hm0 (by rw [hk0]; decide)).trans hmf53
                  have hmf88 : tw_fv E76 a0 13 = .ref xr71 := (hst80.1 a0 13 hm0 (by rw [hk0]; decide)).trans hxr71
                  exact hJ128  _ _ _ ls hG128 TH hS (lv_sub hl [0, 1, 2, 3, 4, 5] rfl)
          exact hJ86 41 (0 : Int32) _ _ _ ls (by have : ((0 : Int32).toInt) = 0 := (by decide); omega) (by have : ((0 : Int32).toInt) = 0 := (by decide); omega) (by have : ((0 : Int32).toInt) = 0 := (by decide);  omega) tw_fr.rf TH hS (lv_sub hl [0, 2, 3, 4, 5, 6] rfl)
        · have hf89 : xc6.toInt = (-1) := by have z := (fa_eq _ _).mp hc7; have : (((-1) : Int32).toInt) = (-1) := (by decide); omega
          refine lv_iconst (v := 0) hx hb dX5_listInOrder_22 (by decide) ?_
          exact tw_zret hx hb hr hlocks (by decide) TH hS hex ⟨⟨_, rfl, (show 0 ≤ Int32.toInt 0 from by have : ((0 : Int32).toInt) = 0 := (by decide); omega), (show Int32.toInt 0 ≤ 1 from by have : ((0 : Int32).toInt) = 0 := (by decide); omega)⟩, rfl, rfl, hF⟩ (Nat.le_of_ble_eq_true rfl) (Nat.le_of_ble_eq_true rfl) dX5_listInOrder_23
  exact hJ2 41 (0 : Int32) _ _ _ ls (by have : ((0 : Int32).toInt) = 0 := (by decide); omega) (by have : ((0 : Int32).toInt) = 0 := (by decide); omega) (by have : ((0 : Int32).toInt) = 0 := (by decide);  omega) tw_fr.rf TH hS (lv_sub hl [0, 1, 2, 3] rfl)
set_option maxHeartbeats 4000000 in
set_option maxRecDepth 100000 in
theorem tX5_orderChildren (l : Launch) (D : va_G) (cs : Nat → ClassId) {kp : Nat → Nat} {L : List Nat} {E : Nat → va_E} (a0 : Nat) (x1 : Int32) (a2 : Nat) (a3 : Nat) (hm0 : a0 ∈ L) (hk0 : kp a0 = 5) (hp1a : 0 ≤ x1.toInt) (hp1b : x1.toInt ≤ 149) (hm2 : a2 ∈ L) (hk2 : kp a2 = 2) (hm3 : a3 ∈ L) (hk3 : kp a3 = 3) (hg0 : gm_ok E a2) (sz : Nat) : Met l yX5_orderChildren (.code yX5_orderChildren cX5_orderChildren 5 none :: cx_big) { frames := 3, cells := 0, slots := 0, locals := 77 } (tw_P D cs kp L E [.ref a0, .int x1, .ref a2, .ref a3] sz) (tw_Q D cs kp L (fun v kq Lq Eq => v = none ∧ kp = kq ∧ L = Lq ∧ tw_fr kp L [(3, 0), (5, 10), (5, 12), (10, 0)] [101, 102, 110, 111, 114, 135, 160, 165, 166, 167] E Eq ∧ gm_ok Eq a2) (va_A (va_pl L E) sz)) 0 0 (va_A (va_pl L E) sz) := by
  refine tw_ofW (by decide) (Nat.le_of_ble_eq_true rfl) ?_
  intro p e s m below meth c A ls hx hb hr hml hB hown hlocks hK hN hA TH hS hl
  have hown : s.vm.findClass "TreeMerge$Merging" = some m.cls := hown
  have hl : lv_has ls 5 [(0, .ref a0), (1, .int x1), (2, .ref a2), (3, .ref a3)] := hl
  obtain ⟨kp0, ekp⟩ : ∃ z, z = kp := ⟨_, rfl⟩
  obtain ⟨L0, eL⟩ : ∃ z, z = L := ⟨_, rfl⟩
  rw [show tw_Q D cs kp L = tw_Q D cs kp0 L0 by rw [ekp, eL]]
  have hex : ∀ a : Nat, a ∈ L0 → a ∈ L ∧ kp a = kp0 a := fun a h => ⟨by rw [← eL]; exact h, by rw [ekp]⟩
  have hF : tw_fr kp L [(3, 0), (5, 10), (5, 12), (10, 0)] [101, 102, 110, 111, 114, 135, 160, 165, 166, 167] E E := tw_fr.rf
  refine lv_aload_n hx hb dX5_orderChildren_0 rfl (lv_at hl 0 rfl) ?_
  refine lv_iconst (v := 0) hx hb dX5_orderChildren_1 (by decide) ?_
  refine tw_put (ci := 5) (v := .int 0) (ty := .int) (C := RX5) (T := TX5) (N := 15) hx hb hB cx_inX5 tyX5 tyX5_ok nmX5 hown hK TH hS hm0 hk0 rfl ⟨by decide, rfl⟩ 12 (by decide) cw_331 (fun _ h9 => h9) rfl (by decide +kernel) rfl rfl ⟨_, rfl, (show 0 ≤ Int32.toInt 0 from by have : ((0 : Int32).toInt) = 0 := (by decide); omega), (show Int32.toInt 0 ≤ 40 from by have : ((0 : Int32).toInt) = 0 := (by decide); omega)⟩ dX5_orderChildren_2 (fun H locs E1 TH hS hmf5 hp2 hp3 => ?_)
  have hst4 : tw_fr kp L [(5, 12)] [] E E1 := tw_fr.put tw_fr.rf (fun _ => hk0) (by decide) hp2 hp3 (by decide)
  have hF := hF.tr hst4 (fun _ h => ⟨h, rfl⟩) (by decide) (by decide)
  have hg0 : gm_ok E1 a2 := gm_ok_fr TH hst4 hm2 hk2 (by decide) (by decide) hg0
  refine lv_iconst (v := 0) hx hb dX5_orderChildren_5 (by decide) ?_
  refine lv_istore (lv' := [(4, .int 0), (0, .ref a0), (1, .int x1), (2, .ref a2), (3, .ref a3)]) hx hb dX5_orderChildren_6 hl (by decide) rfl (fun ls hl => ?_)
  have hJ8 : ∀ (n8 : Nat) (y8_4 : Int32) (Eg8 : Nat → va_E) (H : Heap) (locs : List Loc) (ls : Array Slot), 0 ≤ y8_4.toInt → y8_4.toInt ≤ 150 → 150 - y8_4.toInt ≤ (n8 : Int) → tw_fr kp L [(5, 12)] [165, 167] E1 Eg8 → gm_ok Eg8 a2 → tw_H D cs kp L Eg8 A H → va_S A s.heap H locs → lv_has ls 5 [(4, .int y8_4), (0, .ref a0), (1, .int x1), (2, .ref a2), (3, .ref a3)] → W p l e { frames := 3, cells := 0, slots := 0, locals := 77 } s m [.ref a0, .int x1, .ref a2, .ref a3].toArray below meth c H locs 0 0 (MQ below (tw_Q D cs kp0 L0 (fun v kq Lq Eq => v = none ∧ kp = kq ∧ L = Lq ∧ tw_fr kp L [(3, 0), (5, 10), (5, 12), (10, 0)] [101, 102, 110, 111, 114, 135, 160, 165, 166, 167] E Eq ∧ gm_ok Eq a2) A) [.ref a0, .int x1, .ref a2, .ref a3].toArray s 0 0 A) (F0 m 8 ls []) := by
    intro n8
    induction n8 using Nat.strongRecOn with
    | _ n8 ih8 =>
      intro y8_4 Eg8 H locs ls hy8_4a hy8_4b hmeas8 hG8 hg0 TH hS hl
      have hF := hF.tr hG8 (fun _ h => ⟨h, rfl⟩) (by decide) (by decide)
      refine lv_iload hx hb dX5_orderChildren_8 (lv_at hl 0 rfl) ?_
      refine lv_sipush (v := 150) hx hb dX5_orderChildren_10 (by decide) ?_
      refine lv_icmp_ge (tgt := 84) hx hb dX5_orderChildren_13 (by decide) (fun hc6 => ?_) (fun hc6 => ?_)
      · have hf7 : 150 ≤ y8_4.toInt := by have z := (fa_le _ _).mp hc6; have : ((150 : Int32).toInt) = 150 := (by decide); omega
        refine lv_aload_n hx hb dX5_orderChildren_84 rfl (lv_at hl 3 rfl) ?_
        refine lv_aload_n hx hb dX5_orderChildren_85 rfl (lv_at hl 1 rfl) ?_
        refine tw_get (ci := 5) (C := RX5) (T := TX5) (N := 15) hx hb hB cx_inX5 hown hK TH hm0 hk0 rfl ⟨by decide, rfl⟩ 7 (by decide) cw_326 (fun _ h9 => h9) dX5_orderChildren_86 (fun hv => ?_)
        obtain ⟨xr8, hxr8, hmxr8, hkxr8⟩ : ∃ a : Nat, tw_fv Eg8 a0 7 = .ref a ∧ a ∈ L ∧ kp a = 162 := hv
        rw [hxr8]
        refine lv_iload_n hx hb dX5_orderChildren_89 rfl (lv_at hl 2 rfl) ?_
        refine tw_iald (k := 162) (t0 := 0) (n := 150) (lo := (-1)) (hi := 9) hx hb hK TH hmxr8 hkxr8 (by decide) rfl rfl (i := x1) (vp_in_iff.mpr ⟨by  omega, by  omega⟩) dX5_orderChildren_90 (fun hxe9a hxe9b => ?_)
        obtain ⟨xe9, exe9⟩ : ∃ z : Int32, tw_iv Eg8 xr8 (Int32.toNatClampNeg x1) = z := ⟨_, rfl⟩
        rw [exe9] at hxe9a hxe9b ⊢
        refine tw_Vc (o := a2) (ci := 2) (n := 1) (post := (fun v kq Lq Eq => (∃ x : Int32, v = some (.int x) ∧ 0 ≤ x.toInt ∧ x.toInt ≤ 1) ∧ kp = kq ∧ L = Lq ∧ Eg8 = Eq)) (As := [.int xe9]) (rest := []) ⟨hx, hb, hml, hown, hB⟩ (fun sz => tX2_isSet l D cs a2 xe9 hm2 hk2 sz) cg_5_159_X2_isSet rfl rfl (by decide +kernel) ⟨Nat.le_of_ble_eq_true rfl, Nat.le_of_ble_eq_true rfl⟩ hK hN TH hS hA rfl hm2 hk2 (by decide) rfl hl.1 rfl (Nat.le_of_ble_eq_true rfl) dX5_orderChildren_91 ⟨Nat.le_of_ble_eq_true rfl, Nat.le_of_ble_eq_true rfl⟩ (fun v10 kp10 L10 E10 H locs hq10 hx10 TH hS => ?_)
        obtain ⟨⟨xc11, rfl, hxc11a, hxc11b⟩, rfl, rfl, rfl⟩ := hq10
        refine W.eq (g2 := F0 m 94 ls [.int xc11]) rfl ?_
        refine lv_istore (lv' := [(4, .int xc11), (0, .ref a0), (1, .int x1), (2, .ref a2), (3, .ref a3)]) hx hb dX5_orderChildren_94 hl (by decide) rfl (fun ls hl => ?_)
        refine lv_aload_n hx hb dX5_orderChildren_96 rfl (lv_at hl 4 rfl) ?_
        refine tw_Vc (o := a3) (ci := 3) (n := 0) (post := (fun v kq Lq Eq => v = none ∧ kp = kq ∧ L = Lq ∧ tw_fr kp L [(3, 0)] [] Eg8 Eq)) (As := []) (rest := []) ⟨hx, hb, hml, hown, hB⟩ (fun sz => tX3_clear l D cs a3 hm3 hk3 sz) cg_5_164_X3_clear rfl rfl (by decide +kernel) ⟨Nat.le_of_ble_eq_true rfl, Nat.le_of_ble_eq_true rfl⟩ hK hN TH hS hA rfl hm3 hk3 (by decide) rfl hl.1 rfl (Nat.le_of_ble_eq_true rfl) dX5_orderChildren_97 ⟨Nat.le_of_ble_eq_true rfl, Nat.le_of_ble_eq_true rfl⟩ (fun v12 kp12 L12 E12 H locs hq12 hx12 TH hS => ?_)
        obtain ⟨rfl, rfl, rfl, hst12⟩ := hq12
        have hF := hF.tr hst12 (fun _ h => ⟨h, rfl⟩) (by decide) (by decide)
        have hmf14 : tw_fv E12 a0 7 = .ref xr8 := (hst12.1 a0 7 hm0 (by rw [hk0]; decide)).trans hxr8
        have hg0 : gm_ok E12 a2 := gm_ok_fr TH hst12 hm2 hk2 (by decide) (by decide) hg0
        refine W.eq (g2 := F0 m 100 ls []) rfl ?_
        refine lv_aload_n hx hb dX5_orderChildren_100 rfl (lv_at hl 1 rfl) ?_
        refine lv_iload_n hx hb dX5_orderChildren_101 rfl (lv_at hl 2 rfl) ?_
        refine lv_iload hx hb dX5_orderChildren_102 (lv_at hl 0 rfl) ?_
        refine tw_Vc (o := a0) (ci := 5) (n := 2) (post := (fun v kq Lq Eq => (∃ x : Int32, v = some (.int x) ∧ 0 ≤ x.toInt ∧ x.toInt ≤ 1) ∧ kp = kq ∧ L = Lq ∧ tw_fr kp L [] [166, 167] E12 Eq)) (As := [.int x1, .int xc11]) (rest := []) ⟨hx, hb, hml, hown, hB⟩ (fun sz => tX5_countWaits l D cs a0 x1 xc11 hm0 hk0 (by omega) (by omega) sz) cg_5_167_X5_countWaits rfl rfl (by decide +kernel) ⟨Nat.le_of_ble_eq_true rfl, Nat.le_of_ble_eq_true rfl⟩ hK hN TH hS hA rfl hm0 hk0 (by decide) rfl hl.1 rfl (Nat.le_of_ble_eq_true rfl) dX5_orderChildren_104 ⟨Nat.le_of_ble_eq_true rfl, Nat.le_of_ble_eq_true rfl⟩ (fun v15 kp15 L15 E15 H locs hq15 hx15 TH hS => ?_)
        obtain ⟨⟨xc16, rfl, hxc16a, hxc16b⟩, rfl, rfl, hst15⟩ := hq15
        have hF := hF.tr hst15 (fun _ h => ⟨h, rfl⟩) (by decide) (by decide)
        have hmf17 : tw_fv E15 a0 7 = .ref xr8 := (hst15.1 a0 7 hm0 (by rw [hk0]; decide)).trans hmf14
        have hg0 : gm_ok E15 a2 := gm_ok_fr TH hst15 hm2 hk2 (by decide) (by decide) hg0
        refine W.eq (g2 := F0 m 107 ls [.int xc16]) rfl ?_
        refine lv_if_eq (tgt := 119) hx hb dX5_orderChildren_107 (by decide) (fun hc18 => ?_) (fun hc18 => ?_)
        · have hf19 : xc16.toInt = 0 := by have z := (fa_eq _ _).mp hc18; have : ((0 : Int32).toInt) = 0 := (by decide); omega
          refine lv_aload_n hx hb dX5_orderChildren_119 rfl (lv_at hl 1 rfl) ?_
          refine lv_iload_n hx hb dX5_orderChildren_120 rfl (lv_at hl 2 rfl) ?_
          refine lv_iconst (v := 5) hx hb dX5_orderChildren_121 (by decide) ?_
          refine tw_Vc (o := a0) (ci := 5) (n := 2) (post := (fun v kq Lq Eq => v = none ∧ kp = kq ∧ L = Lq ∧ tw_fr kp L [(5, 10)] [160] E15 Eq)) (As := [.int x1, .int 5]) (rest := []) ⟨hx, hb, hml, hown, hB⟩ (fun sz => tX5_mark l D cs a0 x1 (5 : Int32) hm0 hk0 sz) cg_5_116_X5_mark rfl rfl (by decide +kernel) ⟨Nat.le_of_ble_eq_true rfl, Nat.le_of_ble_eq_true rfl⟩ hK hN TH hS hA rfl hm0 hk0 (by decide) rfl hl.1 rfl (Nat.le_of_ble_eq_true rfl) dX5_orderChildren_122 ⟨Nat.le_of_ble_eq_true rfl, Nat.le_of_ble_eq_true rfl⟩ (fun v20 kp20 L20 E20 H locs hq20 hx20 TH hS => ?_)
          obtain ⟨rfl, rfl, rfl, hst20⟩ := hq20
          have hF := hF.tr hst20 (fun _ h => ⟨h, rfl⟩) (by decide) (by decide)
          have hmf22 : tw_fv E20 a0 7 = .ref xr8 := (hst20.1 a0 7 hm0 (by rw [hk0]; decide)).trans hmf17
          have hg0 : gm_ok E20 a2 := gm_ok_fr TH hst20 hm2 hk2 (by decide) (by decide) hg0
          refine W.eq (g2 := F0 m 125 ls []) rfl ?_
          exact tw_vret hx hb hr hlocks TH hS hex ⟨rfl, rfl, rfl, hF, hg0⟩ (Nat.le_of_ble_eq_true rfl) (Nat.le_of_ble_eq_true rfl) dX5_orderChildren_125
        · have hf23 : ¬ (xc16.toInt = 0) := fun q => hc18 ((fa_eq _ _).mpr (by have : ((0 : Int32).toInt) = 0 := (by decide); omega))
          refine lv_aload_n hx hb dX5_orderChildren_110 rfl (lv_at hl 1 rfl) ?_
          refine lv_iload_n hx hb dX5_orderChildren_111 rfl (lv_at hl 2 rfl) ?_
          refine lv_aload_n hx hb dX5_orderChildren_112 rfl (lv_at hl 4 rfl) ?_
          refine tw_Vc (o := a0) (ci := 5) (n := 2) (post := (fun v kq Lq Eq => (∃ x : Int32, v = some (.int x) ∧ 0 ≤ x.toInt ∧ x.toInt ≤ 1) ∧ kp = kq ∧ L = Lq ∧ tw_fr kp L [(3, 0), (10, 0)] [101, 102, 110, 111, 114, 167] E15 Eq)) (As := [.int x1, .ref a3]) (rest := []) ⟨hx, hb, hml, hown, hB⟩ (fun sz => tX5_listInOrder l D cs a0 x1 a3 hm0 hk0 (by omega) (by omega) hm3 hk3 sz) cg_5_171_X5_listInOrder rfl rfl (by decide +kernel) ⟨Nat.le_of_ble_eq_true rfl, Nat.le_of_ble_eq_true rfl⟩ hK hN TH hS hA rfl hm0 hk0 (by decide) rfl hl.1 rfl (Nat.le_of_ble_eq_true rfl) dX5_orderChildren_113 ⟨Nat.le_of_ble_eq_true rfl, Nat.le_of_ble_eq_true rfl⟩ (fun v24 kp24 L24 E24 H locs hq24 hx24 TH hS => ?_)
          obtain ⟨⟨xc25, rfl, hxc25a, hxc25b⟩, rfl, rfl, hst24⟩ := hq24
          have hF := hF.tr hst24 (fun _ h => ⟨h, rfl⟩) (by decide) (by decide)
          have hmf26 : tw_fv E24 a0 7 = .ref xr8 := (hst24.1 a0 7 hm0 (by rw [hk0]; decide)).trans hmf17
          have hg0 : gm_ok E24 a2 := gm_ok_fr TH hst24 hm2 hk2 (by decide) (by decide) hg0
          refine W.eq (g2 := F0 m 116 ls [.int xc25]) rfl ?_
          refine lv_if_ne (tgt := 126) hx hb dX5_orderChildren_116 (by decide) (fun hc27 => ?_) (fun hc27 => ?_)
          · have hf28 : ¬ (xc25.toInt = 0) := fun q => hc27 ((fa_eq _ _).mpr (by have : ((0 : Int32).toInt) = 0 := (by decide); omega))
            refine lv_aload_n hx hb dX5_orderChildren_126 rfl (lv_at hl 3 rfl) ?_
            refine lv_aload_n hx hb dX5_orderChildren_127 rfl (lv_at hl 1 rfl) ?_
            refine tw_get (ci := 5) (C := RX5) (T := TX5) (N := 15) hx hb hB cx_inX5 hown hK TH hm0 hk0 rfl ⟨by decide, rfl⟩ 7 (by decide) cw_326 (fun _ h9 => h9) dX5_orderChildren_128 (fun hv => ?_)
            rw [hmf26]
            refine lv_iload_n hx hb dX5_orderChildren_131 rfl (lv_at hl 2 rfl) ?_
            refine tw_iald (k := 162) (t0 := 0) (n := 150) (lo := (-1)) (hi := 9) hx hb hK TH hmxr8 hkxr8 (by decide) rfl rfl (i := x1) (vp_in_iff.mpr ⟨by  omega, by  omega⟩) dX5_orderChildren_132 (fun hxe29a hxe29b => ?_)
            obtain ⟨xe29, exe29⟩ : ∃ z : Int32, tw_iv E24 xr8 (Int32.toNatClampNeg x1) = z := ⟨_, rfl⟩
            rw [exe29] at hxe29a hxe29b ⊢
            refine lv_aload_n hx hb dX5_orderChildren_133 rfl (lv_at hl 4 rfl) ?_
            refine tw_Vc (o := a2) (ci := 2) (n := 2) (post := (fun v kq Lq Eq => (∃ x : Int32, v = some (.int x) ∧ 0 ≤ x.toInt ∧ x.toInt ≤ 1 ∧ gm_ok Eq a2) ∧ kp = kq ∧ L = Lq ∧ tw_fr kp L [] [135] E24 Eq)) (As := [.int xe29, .ref a3]) (rest := []) ⟨hx, hb, hml, hown, hB⟩ (fun sz => tX2_allows l D cs a2 xe29 a3 hm2 hk2 hm3 hk3 hg0 sz) cg_5_175_X2_allows rfl rfl (by decide +kernel) ⟨Nat.le_of_ble_eq_true rfl, Nat.le_of_ble_eq_true rfl⟩ hK hN TH hS hA rfl hm2 hk2 (by decide) rfl hl.1 rfl (Nat.le_of_ble_eq_true rfl) dX5_orderChildren_134 ⟨Nat.le_of_ble_eq_true rfl, Nat.le_of_ble_eq_true rfl⟩ (fun v30 kp30 L30 E30 H locs hq30 hx30 TH hS => ?_)
            obtain ⟨⟨xc31, rfl, hxc31a, hxc31b, hgpxc31_0⟩, rfl, rfl, hst30⟩ := hq30
            have hF := hF.tr hst30 (fun _ h => ⟨h, rfl⟩) (by decide) (by decide)
            have hmf32 : tw_fv E30 a0 7 = .ref xr8 := (hst30.1 a0 7 hm0 (by rw [hk0]; decide)).trans hmf26
            refine W.eq (g2 := F0 m 137 ls [.int xc31]) rfl ?_
            refine lv_if_ne (tgt := 147) hx hb dX5_orderChildren_137 (by decide) (fun hc33 => ?_) (fun hc33 => ?_)
            · have hf34 : ¬ (xc31.toInt = 0) := fun q => hc33 ((fa_eq _ _).mpr (by have : ((0 : Int32).toInt) = 0 := (by decide); omega))
              refine lv_iload hx hb dX5_orderChildren_147 (lv_at hl 0 rfl) ?_
              refine lv_if_eq (tgt := 166) hx hb dX5_orderChildren_149 (by decide) (fun hc35 => ?_) (fun hc35 => ?_)
              · have hf36 : xc11.toInt = 0 := by have z := (fa_eq _ _).mp hc35; have : ((0 : Int32).toInt) = 0 := (by decide); omega
                exact tw_vret hx hb hr hlocks TH hS hex ⟨rfl, rfl, rfl, hF, hgpxc31_0⟩ (Nat.le_of_ble_eq_true rfl) (Nat.le_of_ble_eq_true rfl) dX5_orderChildren_166
              · have hf37 : ¬ (xc11.toInt = 0) := fun q => hc35 ((fa_eq _ _).mpr (by have : ((0 : Int32).toInt) = 0 := (by decide); omega))
                refine lv_aload_n hx hb dX5_orderChildren_152 rfl (lv_at hl 4 rfl) ?_
                refine tw_Vc (o := a3) (ci := 3) (n := 0) (post := (fun v kq Lq Eq => (∃ x : Int32, v = some (.int x) ∧ 0 ≤ x.toInt ∧ x.toInt ≤ 1) ∧ kp = kq ∧ L = Lq ∧ E30 = Eq)) (As := []) (rest := []) ⟨hx, hb, hml, hown, hB⟩ (fun sz => tX3_hasLikes l D cs a3 hm3 hk3 sz) cg_5_178_X3_hasLikes rfl rfl (by decide +kernel) ⟨Nat.le_of_ble_eq_true rfl, Nat.le_of_ble_eq_true rfl⟩ hK hN TH hS hA rfl hm3 hk3 (by decide) rfl hl.1 rfl (Nat.le_of_ble_eq_true rfl) dX5_orderChildren_153 ⟨Nat.le_of_ble_eq_true rfl, Nat.le_of_ble_eq_true rfl⟩ (fun v38 kp38 L38 E38 H locs hq38 hx38 TH hS => ?_)
                obtain ⟨⟨xc39, rfl, hxc39a, hxc39b⟩, rfl, rfl, rfl⟩ := hq38
                refine W.eq (g2 := F0 m 156 ls [.int xc39]) rfl ?_
                refine lv_if_eq (tgt := 166) hx hb dX5_orderChildren_156 (by decide) (fun hc40 => ?_) (fun hc40 => ?_)
                · have hf41 : xc39.toInt = 0 := by have z := (fa_eq _ _).mp hc40; have : ((0 : Int32).toInt) = 0 := (by decide); omega
                  exact tw_vret hx hb hr hlocks TH hS hex ⟨rfl, rfl, rfl, hF, hgpxc31_0⟩ (Nat.le_of_ble_eq_true rfl) (Nat.le_of_ble_eq_true rfl) dX5_orderChildren_166
                · have hf42 : ¬ (xc39.toInt = 0) := fun q => hc40 ((fa_eq _ _).mpr (by have : ((0 : Int32).toInt) = 0 := (by decide); omega))
                  refine lv_aload_n hx hb dX5_orderChildren_159 rfl (lv_at hl 1 rfl) ?_
                  refine lv_iload_n hx hb dX5_orderChildren_160 rfl (lv_at hl 2 rfl) ?_
                  refine lv_bipush (v := 7) hx hb dX5_orderChildren_161 (by decide) ?_
                  refine tw_Vc (o := a0) (ci := 5) (n := 2) (post := (fun v kq Lq Eq => v = none ∧ kp = kq ∧ L = Lq ∧ tw_fr kp L [(5, 10)] [160] E30 Eq)) (As := [.int x1, .int 7]) (rest := []) ⟨hx, hb, hml, hown, hB⟩ (fun sz => tX5_mark l D cs a0 x1 (7 : Int32) hm0 hk0 sz) cg_5_116_X5_mark rfl rfl (by decide +kernel) ⟨Nat.le_of_ble_eq_true rfl, Nat.le_of_ble_eq_true rfl⟩ hK hN TH hS hA rfl hm0 hk0 (by decide) rfl hl.1 rfl (Nat.le_of_ble_eq_true rfl) dX5_orderChildren_163 ⟨Nat.le_of_ble_eq_true rfl, Nat.le_of_ble_eq_true rfl⟩ (fun v43 kp43 L43 E43 H locs hq43 hx43 TH hS => ?_)
                  obtain ⟨rfl, rfl, rfl, hst43⟩ := hq43
                  have hF := hF.tr hst43 (fun _ h => ⟨h, rfl⟩) (by decide) (by decide)
                  have hmf45 : tw_fv E43 a0 7 = .ref xr8 := (hst43.1 a0 7 hm0 (by rw [hk0]; decide)).trans hmf32
                  have hgpxc31_0 : gm_ok E43 a2 := gm_ok_fr TH hst43 hm2 hk2 (by decide) (by decide) hgpxc31_0
                  refine W.eq (g2 := F0 m 166 ls []) rfl ?_
                  exact tw_vret hx hb hr hlocks TH hS hex ⟨rfl, rfl, rfl, hF, hgpxc31_0⟩ (Nat.le_of_ble_eq_true rfl) (Nat.le_of_ble_eq_true rfl) dX5_orderChildren_166
            · have hf46 : xc31.toInt = 0 := by have z := (fa_eq _ _).mp hc33; have : ((0 : Int32).toInt) = 0 := (by decide); omega
              refine lv_aload_n hx hb dX5_orderChildren_140 rfl (lv_at hl 1 rfl) ?_
              refine lv_iload_n hx hb dX5_orderChildren_141 rfl (lv_at hl 2 rfl) ?_
              refine lv_bipush (v := 6) hx hb dX5_orderChildren_142 (by decide) ?_
              refine tw_Vc (o := a0) (ci := 5) (n := 2) (post := (fun v kq Lq Eq => v = none ∧ kp = kq ∧ L = Lq ∧ tw_fr kp L [(5, 10)] [160] E30 Eq)) (As := [.int x1, .int 6]) (rest := []) ⟨hx, hb, hml, hown, hB⟩ (fun sz => tX5_mark l D cs a0 x1 (6 : Int32) hm0 hk0 sz) cg_5_116_X5_mark rfl rfl (by decide +kernel) ⟨Nat.le_of_ble_eq_true rfl, Nat.le_of_ble_eq_true rfl⟩ hK hN TH hS hA rfl hm0 hk0 (by decide) rfl hl.1 rfl (Nat.le_of_ble_eq_true rfl) dX5_orderChildren_144 ⟨Nat.le_of_ble_eq_true rfl, Nat.le_of_ble_eq_true rfl⟩ (fun v47 kp47 L47 E47 H locs hq47 hx47 TH hS => ?_)
              obtain ⟨rfl, rfl, rfl, hst47⟩ := hq47
              have hF := hF.tr hst47 (fun _ h => ⟨h, rfl⟩) (by decide) (by decide)
              have hmf49 : tw_fv E47 a0 7 = .ref xr8 := (hst47.1 a0 7 hm0 (by rw [hk0]; decide)).trans hmf32
              have hgpxc31_0 : gm_ok E47 a2 := gm_ok_fr TH hst47 hm2 hk2 (by decide) (by decide) hgpxc31_0
              refine W.eq (g2 := F0 m 147 ls []) rfl ?_
              refine lv_iload hx hb dX5_orderChildren_147 (lv_at hl 0 rfl) ?_
              refine lv_if_eq (tgt := 166) hx hb dX5_orderChildren_149 (by decide) (fun hc50 => ?_) (fun hc50 => ?_)
              · have hf51 : xc11.toInt = 0 := by have z := (fa_eq _ _).mp hc50; have : ((0 : Int32).toInt) = 0 := (by decide); omega
                exact tw_vret hx hb hr hlocks TH hS hex ⟨rfl, rfl, rfl, hF, hgpxc31_0⟩ (Nat.le_of_ble_eq_true rfl) (Nat.le_of_ble_eq_true rfl) dX5_orderChildren_166
              · have hf52 : ¬ (xc11.toInt = 0) := fun q => hc50 ((fa_eq _ _).mpr (by have : ((0 : Int32).toInt) = 0 := (by decide); omega))
                refine lv_aload_n hx hb dX5_orderChildren_152 rfl (lv_at hl 4 rfl) ?_
                refine tw_Vc (o := a3) (ci := 3) (n := 0) (post := (fun v kq Lq Eq => (∃ x : Int32, v = some (.int x) ∧ 0 ≤ x.toInt ∧ x.toInt ≤ 1) ∧ kp = kq ∧ L = Lq ∧ E47 = Eq)) (As := []) (rest := []) ⟨hx, hb, hml, hown, hB⟩ (fun sz => tX3_hasLikes l D cs a3 hm3 hk3 sz) cg_5_178_X3_hasLikes rfl rfl (by decide +kernel) ⟨Nat.le_of_ble_eq_true rfl, Nat.le_of_ble_eq_true rfl⟩ hK hN TH hS hA rfl hm3 hk3 (by decide) rfl hl.1 rfl (Nat.le_of_ble_eq_true rfl) dX5_orderChildren_153 ⟨Nat.le_of_ble_eq_true rfl, Nat.le_of_ble_eq_true rfl⟩ (fun v53 kp53 L53 E53 H locs hq53 hx53 TH hS => ?_)
                obtain ⟨⟨xc54, rfl, hxc54a, hxc54b⟩, rfl, rfl, rfl⟩ := hq53
                refine W.eq (g2 := F0 m 156 ls [.int xc54]) rfl ?_
                refine lv_if_eq (tgt := 166) hx hb dX5_orderChildren_156 (by decide) (fun hc55 => ?_) (fun hc55 => ?_)
                · have hf56 : xc54.toInt = 0 := by have z := (fa_eq _ _).mp hc55; have : ((0 : Int32).toInt) = 0 := (by decide); omega
                  exact tw_vret hx hb hr hlocks TH hS hex ⟨rfl, rfl, rfl, hF, hgpxc31_0⟩ (Nat.le_of_ble_eq_true rfl) (Nat.le_of_ble_eq_true rfl) dX5_orderChildren_166
                · have hf57 : ¬ (xc54.toInt = 0) := fun q => hc55 ((fa_eq _ _).mpr (by have : ((0 : Int32).toInt) = 0 := (by decide); omega))
                  refine lv_aload_n hx hb dX5_orderChildren_159 rfl (lv_at hl 1 rfl) ?_
                  refine lv_iload_n hx hb dX5_orderChildren_160 rfl (lv_at hl 2 rfl) ?_
                  refine lv_bipush (v := 7) hx hb dX5_orderChildren_161 (by decide) ?_
                  refine tw_Vc (o := a0) (ci := 5) (n := 2) (post := (fun v kq Lq Eq => v = none ∧ kp = kq ∧ L = Lq ∧ tw_fr kp L [(5, 10)] [160] E47 Eq)) (As := [.int x1, .int 7]) (rest := []) ⟨hx, hb, hml, hown, hB⟩ (fun sz => tX5_mark l D cs a0 x1 (7 : Int32) hm0 hk0 sz) cg_5_116_X5_mark rfl rfl (by decide +kernel) ⟨Nat.le_of_ble_eq_true rfl, Nat.le_of_ble_eq_true rfl⟩ hK hN TH hS hA rfl hm0 hk0 (by decide) rfl hl.1 rfl (Nat.le_of_ble_eq_true rfl) dX5_orderChildren_163 ⟨Nat.le_of_ble_eq_true rfl, Nat.le_of_ble_eq_true rfl⟩ (fun v58 kp58 L58 E58 H locs hq58 hx58 TH hS => ?_)
                  obtain ⟨rfl, rfl, rfl, hst58⟩ := hq58
                  have hF := hF.tr hst58 (fun _ h => ⟨h, rfl⟩) (by decide) (by decide)
                  have hmf60 : tw_fv E58 a0 7 = .ref xr8 := (hst58.1 a0 7 hm0 (by rw [hk0]; decide)).trans hmf49
                  have hgpxc31_0 : gm_ok E58 a2 := gm_ok_fr TH hst58 hm2 hk2 (by decide) (by decide) hgpxc31_0
                  refine W.eq (g2 := F0 m 166 ls []) rfl ?_
                  exact tw_vret hx hb hr hlocks TH hS hex ⟨rfl, rfl, rfl, hF, hgpxc31_0⟩ (Nat.le_of_ble_eq_true rfl) (Nat.le_of_ble_eq_true rfl) dX5_orderChildren_166
          · have hf61 : xc25.toInt = 0 := by have z := (fa_eq _ _).mp hc27; have : ((0 : Int32).toInt) = 0 := (by decide); omega
            refine lv_aload_n hx hb dX5_orderChildren_119 rfl (lv_at hl 1 rfl) ?_
            refine lv_iload_n hx hb dX5_orderChildren_120 rfl (lv_at hl 2 rfl) ?_
            refine lv_iconst (v := 5) hx hb dX5_orderChildren_121 (by decide) ?_
            refine tw_Vc (o := a0) (ci := 5) (n := 2) (post := (fun v kq Lq Eq => v = none ∧ kp = kq ∧ L = Lq ∧ tw_fr kp L [(5, 10)] [160] E24 Eq)) (As := [.int x1, .int 5]) (rest := []) ⟨hx, hb, hml, hown, hB⟩ (fun sz => tX5_mark l D cs a0 x1 (5 : Int32) hm0 hk0 sz) cg_5_116_X5_mark rfl rfl (by decide +kernel) ⟨Nat.le_of_ble_eq_true rfl, Nat.le_of_ble_eq_true rfl⟩ hK hN TH hS hA rfl hm0 hk0 (by decide) rfl hl.1 rfl (Nat.le_of_ble_eq_true rfl) dX5_orderChildren_122 ⟨Nat.le_of_ble_eq_true rfl, Nat.le_of_ble_eq_true rfl⟩ (fun v62 kp62 L62 E62 H locs hq62 hx62 TH hS => ?_)
            obtain ⟨rfl, rfl, rfl, hst62⟩ := hq62
            have hF := hF.tr hst62 (fun _ h => ⟨h, rfl⟩) (by decide) (by decide)
            have hmf64 : tw_fv E62 a0 7 = .ref xr8 := (hst62.1 a0 7 hm0 (by rw [hk0]; decide)).trans hmf26
            have hg0 : gm_ok E62 a2 := gm_ok_fr TH hst62 hm2 hk2 (by decide) (by decide) hg0
            refine W.eq (g2 := F0 m 125 ls []) rfl ?_
            exact tw_vret hx hb hr hlocks TH hS hex ⟨rfl, rfl, rfl, hF, hg0⟩ (Nat.le_of_ble_eq_true rfl) (Nat.le_of_ble_eq_true rfl) dX5_orderChildren_125
      · have hf65 : ¬ (150 ≤ y8_4.toInt) := fun q => hc6 ((fa_le _ _).mpr (by have : ((150 : Int32).toInt) = 150 := (by decide); omega))
        refine lv_aload_n hx hb dX5_orderChildren_16 rfl (lv_at hl 1 rfl) ?_
        refine tw_get (ci := 5) (C := RX5) (T := TX5) (N := 15) hx hb hB cx_inX5 hown hK TH hm0 hk0 rfl ⟨by decide, rfl⟩ 6 (by decide) cw_325 (fun _ h9 => h9) dX5_orderChildren_17 (fun hv => ?_)
        obtain ⟨xr66, hxr66, hmxr66, hkxr66⟩ : ∃ a : Nat, tw_fv Eg8 a0 6 = .ref a ∧ a ∈ L ∧ kp a = 161 := hv
        rw [hxr66]
        refine lv_iload hx hb dX5_orderChildren_20 (lv_at hl 0 rfl) ?_
        refine tw_iald (k := 161) (t0 := 0) (n := 150) (lo := 0) (hi := 1) hx hb hK TH hmxr66 hkxr66 (by decide) rfl rfl (i := y8_4) (vp_in_iff.mpr ⟨by  omega, by  omega⟩) dX5_orderChildren_22 (fun hxe67a hxe67b => ?_)
        obtain ⟨xe67, exe67⟩ : ∃ z : Int32, tw_iv Eg8 xr66 (Int32.toNatClampNeg y8_4) = z := ⟨_, rfl⟩
        rw [exe67] at hxe67a hxe67b ⊢
        refine lv_iconst (v := 1) hx hb dX5_orderChildren_23 (by decide) ?_
        have hJ78 : ∀  (Eg78 : Nat → va_E) (H : Heap) (locs : List Loc) (ls : Array Slot), tw_fr kp L [(5, 12)] [165, 167] Eg8 Eg78 → gm_ok Eg78 a2 → tw_H D cs kp L Eg78 A H → va_S A s.heap H locs → lv_has ls 5 [(4, .int y8_4), (0, .ref a0), (1, .int x1), (2, .ref a2), (3, .ref a3)] → W p l e { frames := 3, cells := 0, slots := 0, locals := 77 } s m [.ref a0, .int x1, .ref a2, .ref a3].toArray below meth c H locs 0 0 (MQ below (tw_Q D cs kp0 L0 (fun v kq Lq Eq => v = none ∧ kp = kq ∧ L = Lq ∧ tw_fr kp L [(3, 0), (5, 10), (5, 12), (10, 0)] [101, 102, 110, 111, 114, 135, 160, 165, 166, 167] E Eq ∧ gm_ok Eq a2) A) [.ref a0, .int x1, .ref a2, .ref a3].toArray s 0 0 A) (F0 m 78 ls []) := by
          intro Eg78 H locs ls hG78 hg0 TH hS hl
          have hF := hF.tr hG78 (fun _ h => ⟨h, rfl⟩) (by decide) (by decide)
          have hG8 := hG8.tr hG78 (fun _ h => ⟨h, rfl⟩) (by decide) (by decide)
          have hmf68 : tw_fv Eg78 a0 6 = .ref xr66 := (hG78.1 a0 6 hm0 (by rw [hk0]; decide)).trans hxr66
          obtain ⟨zi69, ezi69⟩ : ∃ z : Int32, z = y8_4 + Int32.ofInt 1 := ⟨_, rfl⟩
          have hzi69 : zi69.toInt = y8_4.toInt + 1 := by rw [ezi69]; have : ((Int32.ofInt 1).toInt) = 1 := (by decide);  exact (ia_add (by omega) (by omega)).trans (by omega)
          refine lv_iinc (v := zi69) (lv' := [(4, .int zi69), (0, .ref a0), (1, .int x1), (2, .ref a2), (3, .ref a3)]) hx hb dX5_orderChildren_78 hl (k := 0) rfl ezi69.symm (by decide) rfl (fun ls hl => ?_)
          refine lv_goto (tgt := 8) hx hb dX5_orderChildren_81 (by decide) ?_
          exact ih8 (n8 - 1) (by   omega) zi69 _ _ _ ls (by omega) (by omega) (by   omega) hG8 hg0 TH hS (lv_sub hl [0, 1, 2, 3, 4] rfl)
        have hG78 : tw_fr kp L [(5, 12)] [165, 167] Eg8 Eg8 := tw_fr.rf
        refine lv_icmp_ne (tgt := 78) hx hb dX5_orderChildren_24 (by decide) (fun hc70 => ?_) (fun hc70 => ?_)
        · have hf71 : ¬ (xe67.toInt = 1) := fun q => hc70 ((fa_eq _ _).mpr (by have : ((1 : Int32).toInt) = 1 := (by decide); omega))
          exact hJ78  _ _ _ ls hG78 hg0 TH hS (lv_sub hl [0, 1, 2, 3, 4] rfl)
        · have hf72 : xe67.toInt = 1 := by have z := (fa_eq _ _).mp hc70; have : ((1 : Int32).toInt) = 1 := (by decide); omega
          refine lv_aload_n hx hb dX5_orderChildren_27 rfl (lv_at hl 1 rfl) ?_
          refine tw_get (ci := 5) (C := RX5) (T := TX5) (N := 15) hx hb hB cx_inX5 hown hK TH hm0 hk0 rfl ⟨by decide, rfl⟩ 8 (by decide) cw_327 (fun _ h9 => h9) dX5_orderChildren_28 (fun hv => ?_)
          obtain ⟨xr73, hxr73, hmxr73, hkxr73⟩ : ∃ a : Nat, tw_fv Eg8 a0 8 = .ref a ∧ a ∈ L ∧ kp a = 163 := hv
          rw [hxr73]
          refine lv_iload hx hb dX5_orderChildren_31 (lv_at hl 0 rfl) ?_
          refine tw_iald (k := 163) (t0 := 0) (n := 150) (lo := (-2147483648)) (hi := 2147483647) hx hb hK TH hmxr73 hkxr73 (by decide) rfl rfl (i := y8_4) (vp_in_iff.mpr ⟨by  omega, by  omega⟩) dX5_orderChildren_33 (fun hxe74a hxe74b => ?_)
          obtain ⟨xe74, exe74⟩ : ∃ z : Int32, tw_iv Eg8 xr73 (Int32.toNatClampNeg y8_4) = z := ⟨_, rfl⟩
          rw [exe74] at hxe74a hxe74b ⊢
          refine lv_iload_n hx hb dX5_orderChildren_34 rfl (lv_at hl 2 rfl) ?_
          refine lv_icmp_ne (tgt := 78) hx hb dX5_orderChildren_35 (by decide) (fun hc75 => ?_) (fun hc75 => ?_)
          · have hf76 : ¬ (xe74.toInt = x1.toInt) := fun q => hc75 ((fa_eq _ _).mpr (by  omega))
            exact hJ78  _ _ _ ls hG78 hg0 TH hS (lv_sub hl [0, 1, 2, 3, 4] rfl)
          · have hf77 : xe74.toInt = x1.toInt := by have z := (fa_eq _ _).mp hc75;  omega
            refine lv_aload_n hx hb dX5_orderChildren_38 rfl (lv_at hl 1 rfl) ?_
            refine tw_get (ci := 5) (C := RX5) (T := TX5) (N := 15) hx hb hB cx_inX5 hown hK TH hm0 hk0 rfl ⟨by decide, rfl⟩ 12 (by decide) cw_331 (fun _ h9 => h9) dX5_orderChildren_39 (fun hv => ?_)
            obtain ⟨xi78, hxi78, hxi78a, hxi78b⟩ : ∃ x : Int32, tw_fv Eg8 a0 12 = .int x ∧ 0 ≤ x.toInt ∧ x.toInt ≤ 40 := hv
            rw [hxi78]
            refine lv_bipush (v := 40) hx hb dX5_orderChildren_42 (by decide) ?_
            refine lv_icmp_ge (tgt := 78) hx hb dX5_orderChildren_44 (by decide) (fun hc79 => ?_) (fun hc79 => ?_)
            · have hf80 : 40 ≤ xi78.toInt := by have z := (fa_le _ _).mp hc79; have : ((40 : Int32).toInt) = 40 := (by decide); omega
              exact hJ78  _ _ _ ls hG78 hg0 TH hS (lv_sub hl [0, 1, 2, 3, 4] rfl)
            · have hf81 : ¬ (40 ≤ xi78.toInt) := fun q => hc79 ((fa_le _ _).mpr (by have : ((40 : Int32).toInt) = 40 := (by decide); omega))
              refine lv_aload_n hx hb dX5_orderChildren_47 rfl (lv_at hl 1 rfl) ?_
              refine tw_get (ci := 5) (C := RX5) (T := TX5) (N := 15) hx hb hB cx_inX5 hown hK TH hm0 hk0 rfl ⟨by decide, rfl⟩ 11 (by decide) cw_330 (fun _ h9 => h9) dX5_orderChildren_48 (fun hv => ?_)
              obtain ⟨xr82, hxr82, hmxr82, hkxr82⟩ : ∃ a : Nat, tw_fv Eg8 a0 11 = .ref a ∧ a ∈ L ∧ kp a = 165 := hv
              rw [hxr82]
              refine lv_aload_n hx hb dX5_orderChildren_51 rfl (lv_at hl 1 rfl) ?_
              refine tw_get (ci := 5) (C := RX5) (T := TX5) (N := 15) hx hb hB cx_inX5 hown hK TH hm0 hk0 rfl ⟨by decide, rfl⟩ 12 (by decide) cw_331 (fun _ h9 => h9) dX5_orderChildren_52 (fun hv => ?_)
              rw [hxi78]
              refine lv_iload hx hb dX5_orderChildren_55 (lv_at hl 0 rfl) ?_
              refine tw_iast (k := 165) (n := 40) (lo := 0) (hi := 149) hx hb hK TH hS hmxr82 hkxr82 (by decide) rfl (i := xi78) (x := y8_4) (vp_in_iff.mpr ⟨by  omega, by  omega⟩) (by omega) (by omega) dX5_orderChildren_57 (fun H locs E83 TH hS hp84 hp85 hp86 => ?_)
              have hst87 : tw_fr kp L [] [165] Eg8 E83 := tw_fr.ast tw_fr.rf (fun _ => hkxr82) hp84 hp85 (by decide)
              have hF := hF.tr hst87 (fun _ h => ⟨h, rfl⟩) (by decide) (by decide)
              have hG8 := hG8.tr hst87 (fun _ h => ⟨h, rfl⟩) (by decide) (by decide)
              have hG78 := hG78.tr hst87 (fun _ h => ⟨h, rfl⟩) (by decide) (by decide)
              have hmf88 : tw_fv E83 a0 6 = .ref xr66 := (hst87.1 a0 6 hm0 (by rw [hk0]; decide)).trans hxr66
              have hmf89 : tw_fv E83 a0 8 = .ref xr73 := (hst87.1 a0 8 hm0 (by rw [hk0]; decide)).trans hxr73
              have hmf90 : tw_fv E83 a0 12 = .int xi78 := (hst87.1 a0 12 hm0 (by rw [hk0]; decide)).trans hxi78
              have hmf91 : tw_fv E83 a0 11 = .ref xr82 := (hst87.1 a0 11 hm0 (by rw [hk0]; decide)).trans hxr82
              have hg0 : gm_ok E83 a2 := gm_ok_fr TH hst87 hm2 hk2 (by decide) (by decide) hg0
              refine lv_aload_n hx hb dX5_orderChildren_58 rfl (lv_at hl 1 rfl) ?_
              refine tw_get (ci := 5) (C := RX5) (T := TX5) (N := 15) hx hb hB cx_inX5 hown hK TH hm0 hk0 rfl ⟨by decide, rfl⟩ 14 (by decide) cw_333 (fun _ h9 => h9) dX5_orderChildren_59 (fun hv => ?_)
              obtain ⟨xr92, hxr92, hmxr92, hkxr92⟩ : ∃ a : Nat, tw_fv E83 a0 14 = .ref a ∧ a ∈ L ∧ kp a = 167 := hv
              rw [hxr92]
              refine lv_aload_n hx hb dX5_orderChildren_62 rfl (lv_at hl 1 rfl) ?_
              refine tw_get (ci := 5) (C := RX5) (T := TX5) (N := 15) hx hb hB cx_inX5 hown hK TH hm0 hk0 rfl ⟨by decide, rfl⟩ 12 (by decide) cw_331 (fun _ h9 => h9) dX5_orderChildren_63 (fun hv => ?_)
              rw [hmf90]
              refine lv_iconst (v := 0) hx hb dX5_orderChildren_66 (by decide) ?_
              refine tw_iast (k := 167) (n := 40) (lo := (-2147483648)) (hi := 2147483647) hx hb hK TH hS hmxr92 hkxr92 (by decide) rfl (i := xi78) (x := 0) (vp_in_iff.mpr ⟨by  omega, by  omega⟩) (ia_lo _) (ia_hi _) dX5_orderChildren_67 (fun H locs E93 TH hS hp94 hp95 hp96 => ?_)
              have hst97 : tw_fr kp L [] [167] E83 E93 := tw_fr.ast tw_fr.rf (fun _ => hkxr92) hp94 hp95 (by decide)
              have hF := hF.tr hst97 (fun _ h => ⟨h, rfl⟩) (by decide) (by decide)
              have hG8 := hG8.tr hst97 (fun _ h => ⟨h, rfl⟩) (by decide) (by decide)
              have hG78 := hG78.tr hst97 (fun _ h => ⟨h, rfl⟩) (by decide) (by decide)
              have hmf98 : tw_fv E93 a0 6 = .ref xr66 := (hst97.1 a0 6 hm0 (by rw [hk0]; decide)).trans hmf88
              have hmf99 : tw_fv E93 a0 8 = .ref xr73 := (hst97.1 a0 8 hm0 (by rw [hk0]; decide)).trans hmf89
              have hmf100 : tw_fv E93 a0 12 = .int xi78 := (hst97.1 a0 12 hm0 (by rw [hk0]; decide)).trans hmf90
              have hmf101 : tw_fv E93 a0 11 = .ref xr82 := (hst97.1 a0 11 hm0 (by rw [hk0]; decide)).trans hmf91
              have hmf102 : tw_fv E93 a0 14 = .ref xr92 := (hst97.1 a0 14 hm0 (by rw [hk0]; decide)).trans hxr92
              have hg0 : gm_ok E93 a2 := gm_ok_fr TH hst97 hm2 hk2 (by decide) (by decide) hg0
              refine lv_aload_n hx hb dX5_orderChildren_68 rfl (lv_at hl 1 rfl) ?_
              refine lv_dup hx hb dX5_orderChildren_69 rfl ?_
              refine tw_get (ci := 5) (C := RX5) (T := TX5) (N := 15) hx hb hB cx_inX5 hown hK TH hm0 hk0 rfl ⟨by decide, rfl⟩ 12 (by decide) cw_331 (fun _ h9 => h9) dX5_orderChildren_70 (fun hv => ?_)
              rw [hmf100]
              refine lv_iconst (v := 1) hx hb dX5_orderChildren_73 (by decide) ?_
              refine lv_iadd hx hb dX5_orderChildren_74 ?_
              refine lv_topi (fun zi103 ezi103 => ?_)
              have hzi103 : zi103.toInt = xi78.toInt + 1 := by rw [ezi103]; have : ((1 : Int32).toInt) = 1 := (by decide); have := ia_lo xi78; have := ia_hi xi78; exact (ia_add (by omega) (by omega)).trans (by omega)
              refine tw_put (ci := 5) (v := .int zi103) (ty := .int) (C := RX5) (T := TX5) (N := 15) hx hb hB cx_inX5 tyX5 tyX5_ok nmX5 hown hK TH hS hm0 hk0 rfl ⟨by decide, rfl⟩ 12 (by decide) cw_331 (fun _ h9 => h9) rfl (by decide +kernel) rfl rfl ⟨_, rfl, (show 0 ≤ Int32.toInt zi103 from by  omega), (show Int32.toInt zi103 ≤ 40 from by  omega)⟩ dX5_orderChildren_75 (fun H locs E104 TH hS hmf108 hp105 hp106 => ?_)
              have hst107 : tw_fr kp L [(5, 12)] [] E93 E104 := tw_fr.put tw_fr.rf (fun _ => hk0) (by decide) hp105 hp106 (by decide)
              have hF := hF.tr hst107 (fun _ h => ⟨h, rfl⟩) (by decide) (by decide)
              have hG8 := hG8.tr hst107 (fun _ h => ⟨h, rfl⟩) (by decide) (by decide)
              have hG78 := hG78.tr hst107 (fun _ h => ⟨h, rfl⟩) (by decide) (by decide)
              have hmf109 : tw_fv E104 a0 6 = .ref xr66 := (hst107.1 a0 6 hm0 (by rw [hk0]; decide)).trans hmf98
              have hmf110 : tw_fv E104 a0 8 = .ref xr73 := (hst107.1 a0 8 hm0 (by rw [hk0]; decide)).trans hmf99
              have hmf111 : tw_fv E104 a0 11 = .ref xr82 := (hst107.1 a0 11 hm0 (by rw [hk0]; decide)).trans hmf101
              have hmf112 : tw_fv E104 a0 14 = .ref xr92 := (hst107.1 a0 14 hm0 (by rw [hk0]; decide)).trans hmf102
              have hg0 : gm_ok E104 a2 := gm_ok_fr TH hst107 hm2 hk2 (by decide) (by decide) hg0
              exact hJ78  _ _ _ ls hG78 hg0 TH hS (lv_sub hl [0, 1, 2, 3, 4] rfl)
  exact hJ8 151 (0 : Int32) _ _ _ ls (by have : ((0 : Int32).toInt) = 0 := (by decide); omega) (by have : ((0 : Int32).toInt) = 0 := (by decide); omega) (by have : ((0 : Int32).toInt) = 0 := (by decide);  omega) tw_fr.rf hg0 TH hS (lv_sub hl [0, 1, 2, 3, 4] rfl)
set_option maxHeartbeats 4000000 in
set_option maxRecDepth 100000 in
theorem tX5_run (l : Launch) (D : va_G) (cs : Nat → ClassId) {kp : Nat → Nat} {L : List Nat} {E : Nat → va_E} (a0 : Nat) (a1 : Nat) (a2 : Nat) (a3 : Nat) (hm0 : a0 ∈ L) (hk0 : kp a0 = 5) (hm1 : a1 ∈ L) (hk1 : kp a1 = 7) (hm2 : a2 ∈ L) (hk2 : kp a2 = 2) (hm3 : a3 ∈ L) (hk3 : kp a3 = 3) (hg0 : gm_ok E a2) (sz : Nat) : Met l yX5_run (.code yX5_run cX5_run 5 (some .boolean) :: cx_big) { frames := 4, cells := 0, slots := 0, locals := 102 } (tw_P D cs kp L E [.ref a0, .ref a1, .ref a2, .ref a3] sz) (tw_Q D cs kp L (fun v kq Lq Eq => (∃ x : Int32, v = some (.int x) ∧ 0 ≤ x.toInt ∧ x.toInt ≤ 1 ∧ gm_ok Eq a2) ∧ kp = kq ∧ L = Lq ∧ tw_fr kp L [(3, 0), (5, 10), (5, 12), (10, 0)] [101, 102, 110, 111, 112, 113, 114, 135, 160, 161, 162, 163, 164, 165, 166, 167, 171] E Eq) (va_A (va_pl L E) sz)) 0 0 (va_A (va_pl L E) sz) := by
  refine tw_ofW (by decide) (Nat.le_of_ble_eq_true rfl) ?_
  intro p e s m below meth c A ls hx hb hr hml hB hown hlocks hK hN hA TH hS hl
  have hown : s.vm.findClass "TreeMerge$Merging" = some m.cls := hown
  have hl : lv_has ls 5 [(0, .ref a0), (1, .ref a1), (2, .ref a2), (3, .ref a3)] := hl
  obtain ⟨kp0, ekp⟩ : ∃ z, z = kp := ⟨_, rfl⟩
  obtain ⟨L0, eL⟩ : ∃ z, z = L := ⟨_, rfl⟩
  rw [show tw_Q D cs kp L = tw_Q D cs kp0 L0 by rw [ekp, eL]]
  have hex : ∀ a : Nat, a ∈ L0 → a ∈ L ∧ kp a = kp0 a := fun a h => ⟨by rw [← eL]; exact h, by rw [ekp]⟩
  have hF : tw_fr kp L [(3, 0), (5, 10), (5, 12), (10, 0)] [101, 102, 110, 111, 112, 113, 114, 135, 160, 161, 162, 163, 164, 165, 166, 167, 171] E E := tw_fr.rf
  refine lv_aload_n hx hb dX5_run_0 rfl (lv_at hl 0 rfl) ?_
  refine lv_iconst (v := 0) hx hb dX5_run_1 (by decide) ?_
  refine tw_put (ci := 5) (v := .int 0) (ty := .boolean) (C := RX5) (T := TX5) (N := 15) hx hb hB cx_inX5 tyX5 tyX5_ok nmX5 hown hK TH hS hm0 hk0 rfl ⟨by decide, rfl⟩ 10 (by decide) cw_329 (fun _ h9 => h9) rfl (by decide +kernel) (by decide) (by decide) ⟨_, rfl, (show 0 ≤ Int32.toInt 0 from by have : ((0 : Int32).toInt) = 0 := (by decide); omega), (show Int32.toInt 0 ≤ 1 from by have : ((0 : Int32).toInt) = 0 := (by decide); omega)⟩ dX5_run_2 (fun H locs E1 TH hS hmf5 hp2 hp3 => ?_)
  have hst4 : tw_fr kp L [(5, 10)] [] E E1 := tw_fr.put tw_fr.rf (fun _ => hk0) (by decide) hp2 hp3 (by decide)
  have hF := hF.tr hst4 (fun _ h => ⟨h, rfl⟩) (by decide) (by decide)
  have hg0 : gm_ok E1 a2 := gm_ok_fr TH hst4 hm2 hk2 (by decide) (by decide) hg0
  refine lv_aload_n hx hb dX5_run_5 rfl (lv_at hl 0 rfl) ?_
  refine tw_get (ci := 5) (C := RX5) (T := TX5) (N := 15) hx hb hB cx_inX5 hown hK TH hm0 hk0 rfl ⟨by decide, rfl⟩ 0 (by decide) cw_315 (fun _ h9 => h9) dX5_run_6 (fun hv => ?_)
  obtain ⟨xr6, hxr6, hmxr6, hkxr6⟩ : ∃ a : Nat, tw_fv E1 a0 0 = .ref a ∧ a ∈ L ∧ kp a = 8 := hv
  rw [hxr6]
  refine lv_aload_n hx hb dX5_run_9 rfl (lv_at hl 0 rfl) ?_
  refine tw_get (ci := 5) (C := RX5) (T := TX5) (N := 15) hx hb hB cx_inX5 hown hK TH hm0 hk0 rfl ⟨by decide, rfl⟩ 2 (by decide) cw_319 (fun _ h9 => h9) dX5_run_10 (fun hv => ?_)
  obtain ⟨xr7, hxr7, hmxr7, hkxr7⟩ : ∃ a : Nat, tw_fv E1 a0 2 = .ref a ∧ a ∈ L ∧ kp a = 8 := hv
  rw [hxr7]
  refine tw_Vc (o := xr6) (ci := 8) (n := 1) (post := (fun v kq Lq Eq => v = none ∧ kp = kq ∧ L = Lq ∧ tw_fr kp L [] [171] E1 Eq)) (As := [.ref xr7]) (rest := []) ⟨hx, hb, hml, hown, hB⟩ (fun sz => tX8_findTouched l D cs xr6 xr7 hmxr6 hkxr6 hmxr7 hkxr7 sz) cg_5_64_X8_findTouched rfl rfl (by decide +kernel) ⟨Nat.le_of_ble_eq_true rfl, Nat.le_of_ble_eq_true rfl⟩ hK hN TH hS hA rfl hmxr6 hkxr6 (by decide) rfl hl.1 rfl (Nat.le_of_ble_eq_true rfl) dX5_run_13 ⟨Nat.le_of_ble_eq_true rfl, Nat.le_of_ble_eq_true rfl⟩ (fun v8 kp8 L8 E8 H locs hq8 hx8 TH hS => ?_)
  obtain ⟨rfl, rfl, rfl, hst8⟩ := hq8
  have hF := hF.tr hst8 (fun _ h => ⟨h, rfl⟩) (by decide) (by decide)
  have hmf10 : tw_fv E8 a0 10 = .int 0 := (hst8.1 a0 10 hm0 (by rw [hk0]; decide)).trans hmf5
  have hmf11 : tw_fv E8 a0 0 = .ref xr6 := (hst8.1 a0 0 hm0 (by rw [hk0]; decide)).trans hxr6
  have hmf12 : tw_fv E8 a0 2 = .ref xr7 := (hst8.1 a0 2 hm0 (by rw [hk0]; decide)).trans hxr7
  have hg0 : gm_ok E8 a2 := gm_ok_fr TH hst8 hm2 hk2 (by decide) (by decide) hg0
  refine W.eq (g2 := F0 m 16 ls []) rfl ?_
  refine lv_aload_n hx hb dX5_run_16 rfl (lv_at hl 0 rfl) ?_
  refine tw_get (ci := 5) (C := RX5) (T := TX5) (N := 15) hx hb hB cx_inX5 hown hK TH hm0 hk0 rfl ⟨by decide, rfl⟩ 1 (by decide) cw_317 (fun _ h9 => h9) dX5_run_17 (fun hv => ?_)
  obtain ⟨xr13, hxr13, hmxr13, hkxr13⟩ : ∃ a : Nat, tw_fv E8 a0 1 = .ref a ∧ a ∈ L ∧ kp a = 8 := hv
  rw [hxr13]
  refine lv_aload_n hx hb dX5_run_20 rfl (lv_at hl 0 rfl) ?_
  refine tw_get (ci := 5) (C := RX5) (T := TX5) (N := 15) hx hb hB cx_inX5 hown hK TH hm0 hk0 rfl ⟨by decide, rfl⟩ 2 (by decide) cw_319 (fun _ h9 => h9) dX5_run_21 (fun hv => ?_)
  rw [hmf12]
  refine tw_Vc (o := xr13) (ci := 8) (n := 1) (post := (fun v kq Lq Eq => v = none ∧ kp = kq ∧ L = Lq ∧ tw_fr kp L [] [171] E8 Eq)) (As := [.ref xr7]) (rest := []) ⟨hx, hb, hml, hown, hB⟩ (fun sz => tX8_findTouched l D cs xr13 xr7 hmxr13 hkxr13 hmxr7 hkxr7 sz) cg_5_64_X8_findTouched rfl rfl (by decide +kernel) ⟨Nat.le_of_ble_eq_true rfl, Nat.le_of_ble_eq_true rfl⟩ hK hN TH hS hA rfl hmxr13 hkxr13 (by decide) rfl hl.1 rfl (Nat.le_of_ble_eq_true rfl) dX5_run_24 ⟨Nat.le_of_ble_eq_true rfl, Nat.le_of_ble_eq_true rfl⟩ (fun v14 kp14 L14 E14 H locs hq14 hx14 TH hS => ?_)
  obtain ⟨rfl, rfl, rfl, hst14⟩ := hq14
  have hF := hF.tr hst14 (fun _ h => ⟨h, rfl⟩) (by decide) (by decide)
  have hmf16 : tw_fv E14 a0 10 = .int 0 := (hst14.1 a0 10 hm0 (by rw [hk0]; decide)).trans hmf10
  have hmf17 : tw_fv E14 a0 0 = .ref xr6 := (hst14.1 a0 0 hm0 (by rw [hk0]; decide)).trans hmf11
  have hmf18 : tw_fv E14 a0 2 = .ref xr7 := (hst14.1 a0 2 hm0 (by rw [hk0]; decide)).trans hmf12
  have hmf19 : tw_fv E14 a0 1 = .ref xr13 := (hst14.1 a0 1 hm0 (by rw [hk0]; decide)).trans hxr13
  have hg0 : gm_ok E14 a2 := gm_ok_fr TH hst14 hm2 hk2 (by decide) (by decide) hg0
  refine W.eq (g2 := F0 m 27 ls []) rfl ?_
  refine lv_iconst (v := 0) hx hb dX5_run_27 (by decide) ?_
  refine lv_istore (lv' := [(4, .int 0), (0, .ref a0), (1, .ref a1), (2, .ref a2), (3, .ref a3)]) hx hb dX5_run_28 hl (by decide) rfl (fun ls hl => ?_)
  have hJ30 : ∀ (n30 : Nat) (y30_4 : Int32) (Eg30 : Nat → va_E) (H : Heap) (locs : List Loc) (ls : Array Slot), 0 ≤ y30_4.toInt → y30_4.toInt ≤ 150 → 150 - y30_4.toInt ≤ (n30 : Int) → tw_fr kp L [(5, 10)] [160, 161, 162, 163, 164] E14 Eg30 → gm_ok Eg30 a2 → tw_H D cs kp L Eg30 A H → va_S A s.heap H locs → lv_has ls 5 [(4, .int y30_4), (0, .ref a0), (1, .ref a1), (2, .ref a2), (3, .ref a3)] → W p l e { frames := 4, cells := 0, slots := 0, locals := 102 } s m [.ref a0, .ref a1, .ref a2, .ref a3].toArray below meth c H locs 0 0 (MQ below (tw_Q D cs kp0 L0 (fun v kq Lq Eq => (∃ x : Int32, v = some (.int x) ∧ 0 ≤ x.toInt ∧ x.toInt ≤ 1 ∧ gm_ok Eq a2) ∧ kp = kq ∧ L = Lq ∧ tw_fr kp L [(3, 0), (5, 10), (5, 12), (10, 0)] [101, 102, 110, 111, 112, 113, 114, 135, 160, 161, 162, 163, 164, 165, 166, 167, 171] E Eq) A) [.ref a0, .ref a1, .ref a2, .ref a3].toArray s 0 0 A) (F0 m 30 ls []) := by
    intro n30
    induction n30 using Nat.strongRecOn with
    | _ n30 ih30 =>
      intro y30_4 Eg30 H locs ls hy30_4a hy30_4b hmeas30 hG30 hg0 TH hS hl
      have hF := hF.tr hG30 (fun _ h => ⟨h, rfl⟩) (by decide) (by decide)
      have hmf20 : tw_fv Eg30 a0 0 = .ref xr6 := (hG30.1 a0 0 hm0 (by rw [hk0]; decide)).trans hmf17
      have hmf21 : tw_fv Eg30 a0 2 = .ref xr7 := (hG30.1 a0 2 hm0 (by rw [hk0]; decide)).trans hmf18
      have hmf22 : tw_fv Eg30 a0 1 = .ref xr13 := (hG30.1 a0 1 hm0 (by rw [hk0]; decide)).trans hmf19
      refine lv_iload hx hb dX5_run_30 (lv_at hl 0 rfl) ?_
      refine lv_sipush (v := 150) hx hb dX5_run_32 (by decide) ?_
      refine lv_icmp_ge (tgt := 67) hx hb dX5_run_35 (by decide) (fun hc23 => ?_) (fun hc23 => ?_)
      · have hf24 : 150 ≤ y30_4.toInt := by have z := (fa_le _ _).mp hc23; have : ((150 : Int32).toInt) = 150 := (by decide); omega
        refine lv_aload_n hx hb dX5_run_67 rfl (lv_at hl 1 rfl) ?_
        refine tw_get (ci := 5) (C := RX5) (T := TX5) (N := 15) hx hb hB cx_inX5 hown hK TH hm0 hk0 rfl ⟨by decide, rfl⟩ 10 (by decide) cw_329 (fun _ h9 => h9) dX5_run_68 (fun hv => ?_)
        obtain ⟨xi25, hxi25, hxi25a, hxi25b⟩ : ∃ x : Int32, tw_fv Eg30 a0 10 = .int x ∧ 0 ≤ x.toInt ∧ x.toInt ≤ 1 := hv
        rw [hxi25]
        have hJ86 : ∀  (Eg86 : Nat → va_E) (H : Heap) (locs : List Loc) (ls : Array Slot), tw_fr kp L [(5, 10)] [160, 161] Eg30 Eg86 → gm_ok Eg86 a2 → tw_H D cs kp L Eg86 A H → va_S A s.heap H locs → lv_has ls 5 [(0, .ref a0), (2, .ref a2), (3, .ref a3)] → W p l e { frames := 4, cells := 0, slots := 0, locals := 102 } s m [.ref a0, .ref a1, .ref a2, .ref a3].toArray below meth c H locs 0 0 (MQ below (tw_Q D cs kp0 L0 (fun v kq Lq Eq => (∃ x : Int32, v = some (.int x) ∧ 0 ≤ x.toInt ∧ x.toInt ≤ 1 ∧ gm_ok Eq a2) ∧ kp = kq ∧ L = Lq ∧ tw_fr kp L [(3, 0), (5, 10), (5, 12), (10, 0)] [101, 102, 110, 111, 112, 113, 114, 135, 160, 161, 162, 163, 164, 165, 166, 167, 171] E Eq) A) [.ref a0, .ref a1, .ref a2, .ref a3].toArray s 0 0 A) (F0 m 86 ls []) := by
          intro Eg86 H locs ls hG86 hg0 TH hS hl
          have hF := hF.tr hG86 (fun _ h => ⟨h, rfl⟩) (by decide) (by decide)
          have hG30 := hG30.tr hG86 (fun _ h => ⟨h, rfl⟩) (by decide) (by decide)
          have hmf26 : tw_fv Eg86 a0 0 = .ref xr6 := (hG86.1 a0 0 hm0 (by rw [hk0]; decide)).trans hmf20
          have hmf27 : tw_fv Eg86 a0 2 = .ref xr7 := (hG86.1 a0 2 hm0 (by rw [hk0]; decide)).trans hmf21
          have hmf28 : tw_fv Eg86 a0 1 = .ref xr13 := (hG86.1 a0 1 hm0 (by rw [hk0]; decide)).trans hmf22
          refine lv_aload_n hx hb dX5_run_86 rfl (lv_at hl 0 rfl) ?_
          refine tw_get (ci := 5) (C := RX5) (T := TX5) (N := 15) hx hb hB cx_inX5 hown hK TH hm0 hk0 rfl ⟨by decide, rfl⟩ 10 (by decide) cw_329 (fun _ h9 => h9) dX5_run_87 (fun hv => ?_)
          obtain ⟨xi29, hxi29, hxi29a, hxi29b⟩ : ∃ x : Int32, tw_fv Eg86 a0 10 = .int x ∧ 0 ≤ x.toInt ∧ x.toInt ≤ 1 := hv
          rw [hxi29]
          have hJ133 : ∀  (Eg133 : Nat → va_E) (H : Heap) (locs : List Loc) (ls : Array Slot), tw_fr kp L [(3, 0), (5, 10), (5, 12), (10, 0)] [101, 102, 110, 111, 114, 135, 160, 165, 166, 167] Eg86 Eg133 → gm_ok Eg133 a2 → tw_H D cs kp L Eg133 A H → va_S A s.heap H locs → lv_has ls 5 [(0, .ref a0), (2, .ref a2)] → W p l e { frames := 4, cells := 0, slots := 0, locals := 102 } s m [.ref a0, .ref a1, .ref a2, .ref a3].toArray below meth c H locs 0 0 (MQ below (tw_Q D cs kp0 L0 (fun v kq Lq Eq => (∃ x : Int32, v = some (.int x) ∧ 0 ≤ x.toInt ∧ x.toInt ≤ 1 ∧ gm_ok Eq a2) ∧ kp = kq ∧ L = Lq ∧ tw_fr kp L [(3, 0), (5, 10), (5, 12), (10, 0)] [101, 102, 110, 111, 112, 113, 114, 135, 160, 161, 162, 163, 164, 165, 166, 167, 171] E Eq) A) [.ref a0, .ref a1, .ref a2, .ref a3].toArray s 0 0 A) (F0 m 133 ls []) := by
            intro Eg133 H locs ls hG133 hg0 TH hS hl
            have hF := hF.tr hG133 (fun _ h => ⟨h, rfl⟩) (by decide) (by decide)
            have hmf30 : tw_fv Eg133 a0 0 = .ref xr6 := (hG133.1 a0 0 hm0 (by rw [hk0]; decide)).trans hmf26
            have hmf31 : tw_fv Eg133 a0 2 = .ref xr7 := (hG133.1 a0 2 hm0 (by rw [hk0]; decide)).trans hmf27
            have hmf32 : tw_fv Eg133 a0 1 = .ref xr13 := (hG133.1 a0 1 hm0 (by rw [hk0]; decide)).trans hmf28
            refine lv_aload_n hx hb dX5_run_133 rfl (lv_at hl 0 rfl) ?_
            refine tw_get (ci := 5) (C := RX5) (T := TX5) (N := 15) hx hb hB cx_inX5 hown hK TH hm0 hk0 rfl ⟨by decide, rfl⟩ 10 (by decide) cw_329 (fun _ h9 => h9) dX5_run_134 (fun hv => ?_)
            obtain ⟨xi33, hxi33, hxi33a, hxi33b⟩ : ∃ x : Int32, tw_fv Eg133 a0 10 = .int x ∧ 0 ≤ x.toInt ∧ x.toInt ≤ 1 := hv
            rw [hxi33]
            refine lv_if_ne (tgt := 152) hx hb dX5_run_137 (by decide) (fun hc34 => ?_) (fun hc34 => ?_)
            · have hf35 : ¬ (xi33.toInt = 0) := fun q => hc34 ((fa_eq _ _).mpr (by have : ((0 : Int32).toInt) = 0 := (by decide); omega))
              refine lv_aload_n hx hb dX5_run_152 rfl (lv_at hl 0 rfl) ?_
              refine tw_get (ci := 5) (C := RX5) (T := TX5) (N := 15) hx hb hB cx_inX5 hown hK TH hm0 hk0 rfl ⟨by decide, rfl⟩ 10 (by decide) cw_329 (fun _ h9 => h9) dX5_run_153 (fun hv => ?_)
              rw [hxi33]
              refine lv_if_ne (tgt := 163) hx hb dX5_run_156 (by decide) (fun hc36 => ?_) (fun hc36 => ?_)
              · have hf37 : ¬ (xi33.toInt = 0) := fun q => hc36 ((fa_eq _ _).mpr (by have : ((0 : Int32).toInt) = 0 := (by decide); omega))
                refine lv_iconst (v := 0) hx hb dX5_run_163 (by decide) ?_
                exact tw_zret hx hb hr hlocks (by decide) TH hS hex ⟨⟨_, rfl, (show 0 ≤ Int32.toInt 0 from by have : ((0 : Int32).toInt) = 0 := (by decide); omega), (show Int32.toInt 0 ≤ 1 from by have : ((0 : Int32).toInt) = 0 := (by decide); omega), hg0⟩, rfl, rfl, hF⟩ (Nat.le_of_ble_eq_true rfl) (Nat.le_of_ble_eq_true rfl) dX5_run_164
              · have hf38 : xi33.toInt = 0 := by have z := (fa_eq _ _).mp hc36; have : ((0 : Int32).toInt) = 0 := (by decide); omega
                exfalso; omega
            · have hf39 : xi33.toInt = 0 := by have z := (fa_eq _ _).mp hc34; have : ((0 : Int32).toInt) = 0 := (by decide); omega
              refine lv_aload_n hx hb dX5_run_140 rfl (lv_at hl 0 rfl) ?_
              refine tw_get (ci := 5) (C := RX5) (T := TX5) (N := 15) hx hb hB cx_inX5 hown hK TH hm0 hk0 rfl ⟨by decide, rfl⟩ 3 (by decide) cw_321 (fun _ h9 => h9) dX5_run_141 (fun hv => ?_)
              obtain ⟨xr40, hxr40, hmxr40, hkxr40⟩ : ∃ a : Nat, tw_fv Eg133 a0 3 = .ref a ∧ a ∈ L ∧ kp a = 10 := hv
              rw [hxr40]
              refine lv_aload_n hx hb dX5_run_144 rfl (lv_at hl 0 rfl) ?_
              refine tw_get (ci := 5) (C := RX5) (T := TX5) (N := 15) hx hb hB cx_inX5 hown hK TH hm0 hk0 rfl ⟨by decide, rfl⟩ 4 (by decide) cw_323 (fun _ h9 => h9) dX5_run_145 (fun hv => ?_)
              obtain ⟨xr41, hxr41, hmxr41, hkxr41⟩ : ∃ a : Nat, tw_fv Eg133 a0 4 = .ref a ∧ a ∈ L ∧ kp a = 10 := hv
              rw [hxr41]
              refine lv_aload_n hx hb dX5_run_148 rfl (lv_at hl 1 rfl) ?_
              refine tw_Vc (o := xr40) (ci := 10) (n := 2) (post := (fun v kq Lq Eq => v = none ∧ kp = kq ∧ L = Lq ∧ tw_fr kp L [(10, 0)] [102, 110, 111, 112, 113, 114] Eg133 Eq)) (As := [.ref xr41, .ref a2]) (rest := []) ⟨hx, hb, hml, hown, hB⟩ (fun sz => tX10_arrange l D cs xr40 xr41 a2 hmxr40 hkxr40 hmxr41 hkxr41 hm2 hk2 sz) cg_5_88_X10_arrange rfl rfl (by decide +kernel) ⟨Nat.le_of_ble_eq_true rfl, Nat.le_of_ble_eq_true rfl⟩ hK hN TH hS hA rfl hmxr40 hkxr40 (by decide) rfl hl.1 rfl (Nat.le_of_ble_eq_true rfl) dX5_run_149 ⟨Nat.le_of_ble_eq_true rfl, Nat.le_of_ble_eq_true rfl⟩ (fun v42 kp42 L42 E42 H locs hq42 hx42 TH hS => ?_)
              obtain ⟨rfl, rfl, rfl, hst42⟩ := hq42
              have hF := hF.tr hst42 (fun _ h => ⟨h, rfl⟩) (by decide) (by decide)
              have hmf44 : tw_fv E42 a0 0 = .ref xr6 := (hst42.1 a0 0 hm0 (by rw [hk0]; decide)).trans hmf30
              have hmf45 : tw_fv E42 a0 2 = .ref xr7 := (hst42.1 a0 2 hm0 (by rw [hk0]; decide)).trans hmf31
              have hmf46 : tw_fv E42 a0 1 = .ref xr13 := (hst42.1 a0 1 hm0 (by rw [hk0]; decide)).trans hmf32
              have hmf47 : tw_fv E42 a0 10 = .int xi33 := (hst42.1 a0 10 hm0 (by rw [hk0]; decide)).trans hxi33
              have hmf48 : tw_fv E42 a0 3 = .ref xr40 := (hst42.1 a0 3 hm0 (by rw [hk0]; decide)).trans hxr40
              have hmf49 : tw_fv E42 a0 4 = .ref xr41 := (hst42.1 a0 4 hm0 (by rw [hk0]; decide)).trans hxr41
              have hg0 : gm_ok E42 a2 := gm_ok_fr TH hst42 hm2 hk2 (by decide) (by decide) hg0
              refine W.eq (g2 := F0 m 152 ls []) rfl ?_
              refine lv_aload_n hx hb dX5_run_152 rfl (lv_at hl 0 rfl) ?_
              refine tw_get (ci := 5) (C := RX5) (T := TX5) (N := 15) hx hb hB cx_inX5 hown hK TH hm0 hk0 rfl ⟨by decide, rfl⟩ 10 (by decide) cw_329 (fun _ h9 => h9) dX5_run_153 (fun hv => ?_)
              rw [hmf47]
              refine lv_if_ne (tgt := 163) hx hb dX5_run_156 (by decide) (fun hc50 => ?_) (fun hc50 => ?_)
              · have hf51 : ¬ (xi33.toInt = 0) := fun q => hc50 ((fa_eq _ _).mpr (by have : ((0 : Int32).toInt) = 0 := (by decide); omega))
                exfalso; omega
              · have hf52 : xi33.toInt = 0 := by have z := (fa_eq _ _).mp hc50; have : ((0 : Int32).toInt) = 0 := (by decide); omega
                refine lv_iconst (v := 1) hx hb dX5_run_159 (by decide) ?_
                refine lv_goto (tgt := 164) hx hb dX5_run_160 (by decide) ?_
                exact tw_zret hx hb hr hlocks (by decide) TH hS hex ⟨⟨_, rfl, (show 0 ≤ Int32.toInt 1 from by have : ((1 : Int32).toInt) = 1 := (by decide); omega), (show Int32.toInt 1 ≤ 1 from by have : ((1 : Int32).toInt) = 1 := (by decide); omega), hg0⟩, rfl, rfl, hF⟩ (Nat.le_of_ble_eq_true rfl) (Nat.le_of_ble_eq_true rfl) dX5_run_164
          have hG133 : tw_fr kp L [(3, 0), (5, 10), (5, 12), (10, 0)] [101, 102, 110, 111, 114, 135, 160, 165, 166, 167] Eg86 Eg86 := tw_fr.rf
          refine lv_if_ne (tgt := 133) hx hb dX5_run_90 (by decide) (fun hc53 => ?_) (fun hc53 => ?_)
          · have hf54 : ¬ (xi29.toInt = 0) := fun q => hc53 ((fa_eq _ _).mpr (by have : ((0 : Int32).toInt) = 0 := (by decide); omega))
            exact hJ133  _ _ _ ls hG133 hg0 TH hS (lv_sub hl [0, 1] rfl)
          · have hf55 : xi29.toInt = 0 := by have z := (fa_eq _ _).mp hc53; have : ((0 : Int32).toInt) = 0 := (by decide); omega
            refine lv_aload_n hx hb dX5_run_93 rfl (lv_at hl 0 rfl) ?_
            refine tw_Vc (o := a0) (ci := 5) (n := 0) (post := (fun v kq Lq Eq => v = none ∧ kp = kq ∧ L = Lq ∧ tw_fr kp L [(10, 0)] [102, 110, 111, 114] Eg86 Eq)) (As := []) (rest := []) ⟨hx, hb, hml, hown, hB⟩ (fun sz => tX5_listOutermost l D cs a0 hm0 hk0 sz) cg_5_81_X5_listOutermost rfl rfl (by decide +kernel) ⟨Nat.le_of_ble_eq_true rfl, Nat.le_of_ble_eq_true rfl⟩ hK hN TH hS hA rfl hm0 hk0 (by decide) rfl hl.1 rfl (Nat.le_of_ble_eq_true rfl) dX5_run_94 ⟨Nat.le_of_ble_eq_true rfl, Nat.le_of_ble_eq_true rfl⟩ (fun v56 kp56 L56 E56 H locs hq56 hx56 TH hS => ?_)
            obtain ⟨rfl, rfl, rfl, hst56⟩ := hq56
            have hF := hF.tr hst56 (fun _ h => ⟨h, rfl⟩) (by decide) (by decide)
            have hG133 := hG133.tr hst56 (fun _ h => ⟨h, rfl⟩) (by decide) (by decide)
            have hmf58 : tw_fv E56 a0 0 = .ref xr6 := (hst56.1 a0 0 hm0 (by rw [hk0]; decide)).trans hmf26
            have hmf59 : tw_fv E56 a0 2 = .ref xr7 := (hst56.1 a0 2 hm0 (by rw [hk0]; decide)).trans hmf27
            have hmf60 : tw_fv E56 a0 1 = .ref xr13 := (hst56.1 a0 1 hm0 (by rw [hk0]; decide)).trans hmf28
            have hmf61 : tw_fv E56 a0 10 = .int xi29 := (hst56.1 a0 10 hm0 (by rw [hk0]; decide)).trans hxi29
            have hg0 : gm_ok E56 a2 := gm_ok_fr TH hst56 hm2 hk2 (by decide) (by decide) hg0
            refine W.eq (g2 := F0 m 97 ls []) rfl ?_
            refine lv_iconst (v := 0) hx hb dX5_run_97 (by decide) ?_
            refine lv_istore (lv' := [(4, .int 0), (0, .ref a0), (2, .ref a2), (3, .ref a3)]) hx hb dX5_run_98 hl (by decide) rfl (fun ls hl => ?_)
            have hJ100 : ∀ (n100 : Nat) (y100_4 : Int32) (Eg100 : Nat → va_E) (H : Heap) (locs : List Loc) (ls : Array Slot), 0 ≤ y100_4.toInt → y100_4.toInt ≤ 150 → 150 - y100_4.toInt ≤ (n100 : Int) → tw_fr kp L [(3, 0), (5, 10), (5, 12), (10, 0)] [101, 102, 110, 111, 114, 135, 160, 165, 166, 167] E56 Eg100 → gm_ok Eg100 a2 → tw_H D cs kp L Eg100 A H → va_S A s.heap H locs → lv_has ls 5 [(4, .int y100_4), (0, .ref a0), (2, .ref a2), (3, .ref a3)] → W p l e { frames := 4, cells := 0, slots := 0, locals := 102 } s m [.ref a0, .ref a1, .ref a2, .ref a3].toArray below meth c H locs 0 0 (MQ below (tw_Q D cs kp0 L0 (fun v kq Lq Eq => (∃ x : Int32, v = some (.int x) ∧ 0 ≤ x.toInt ∧ x.toInt ≤ 1 ∧ gm_ok Eq a2) ∧ kp = kq ∧ L = Lq ∧ tw_fr kp L [(3, 0), (5, 10), (5, 12), (10, 0)] [101, 102, 110, 111, 112, 113, 114, 135, 160, 161, 162, 163, 164, 165, 166, 167, 171] E Eq) A) [.ref a0, .ref a1, .ref a2, .ref a3].toArray s 0 0 A) (F0 m 100 ls []) := by
              intro n100
              induction n100 using Nat.strongRecOn with
              | _ n100 ih100 =>
                intro y100_4 Eg100 H locs ls hy100_4a hy100_4b hmeas100 hG100 hg0 TH hS hl
                have hF := hF.tr hG100 (fun _ h => ⟨h, rfl⟩) (by decide) (by decide)
                have hG133 := hG133.tr hG100 (fun _ h => ⟨h, rfl⟩) (by decide) (by decide)
                have hmf62 : tw_fv Eg100 a0 0 = .ref xr6 := (hG100.1 a0 0 hm0 (by rw [hk0]; decide)).trans hmf58
                have hmf63 : tw_fv Eg100 a0 2 = .ref xr7 := (hG100.1 a0 2 hm0 (by rw [hk0]; decide)).trans hmf59
                have hmf64 : tw_fv Eg100 a0 1 = .ref xr13 := (hG100.1 a0 1 hm0 (by rw [hk0]; decide)).trans hmf60
                refine lv_iload hx hb dX5_run_100 (lv_at hl 0 rfl) ?_
                refine lv_sipush (v := 150) hx hb dX5_run_102 (by decide) ?_
                refine lv_icmp_ge (tgt := 133) hx hb dX5_run_105 (by decide) (fun hc65 => ?_) (fun hc65 => ?_)
                · have hf66 : 150 ≤ y100_4.toInt := by have z := (fa_le _ _).mp hc65; have : ((150 : Int32).toInt) = 150 := (by decide); omega
                  exact hJ133  _ _ _ ls hG133 hg0 TH hS (lv_sub hl [1, 2] rfl)
                · have hf67 : ¬ (150 ≤ y100_4.toInt) := fun q => hc65 ((fa_le _ _).mpr (by have : ((150 : Int32).toInt) = 150 := (by decide); omega))
                  refine lv_aload_n hx hb dX5_run_108 rfl (lv_at hl 1 rfl) ?_
                  refine tw_get (ci := 5) (C := RX5) (T := TX5) (N := 15) hx hb hB cx_inX5 hown hK TH hm0 hk0 rfl ⟨by decide, rfl⟩ 6 (by decide) cw_325 (fun _ h9 => h9) dX5_run_109 (fun hv => ?_)
                  obtain ⟨xr68, hxr68, hmxr68, hkxr68⟩ : ∃ a : Nat, tw_fv Eg100 a0 6 = .ref a ∧ a ∈ L ∧ kp a = 161 := hv
                  rw [hxr68]
                  refine lv_iload hx hb dX5_run_112 (lv_at hl 0 rfl) ?_
                  refine tw_iald (k := 161) (t0 := 0) (n := 150) (lo := 0) (hi := 1) hx hb hK TH hmxr68 hkxr68 (by decide) rfl rfl (i := y100_4) (vp_in_iff.mpr ⟨by  omega, by  omega⟩) dX5_run_114 (fun hxe69a hxe69b => ?_)
                  obtain ⟨xe69, exe69⟩ : ∃ z : Int32, tw_iv Eg100 xr68 (Int32.toNatClampNeg y100_4) = z := ⟨_, rfl⟩
                  rw [exe69] at hxe69a hxe69b ⊢
                  refine lv_iconst (v := 1) hx hb dX5_run_115 (by decide) ?_
                  have hJ127 : ∀  (Eg127 : Nat → va_E) (H : Heap) (locs : List Loc) (ls : Array Slot), tw_fr kp L [(3, 0), (5, 10), (5, 12), (10, 0)] [101, 102, 110, 111, 114, 135, 160, 165, 166, 167] Eg100 Eg127 → gm_ok Eg127 a2 → tw_H D cs kp L Eg127 A H → va_S A s.heap H locs → lv_has ls 5 [(4, .int y100_4), (0, .ref a0), (2, .ref a2), (3, .ref a3)] → W p l e { frames := 4, cells := 0, slots := 0, locals := 102 } s m [.ref a0, .ref a1, .ref a2, .ref a3].toArray below meth c H locs 0 0 (MQ below (tw_Q D cs kp0 L0 (fun v kq Lq Eq => (∃ x : Int32, v = some (.int x) ∧ 0 ≤ x.toInt ∧ x.toInt ≤ 1 ∧ gm_ok Eq a2) ∧ kp = kq ∧ L = Lq ∧ tw_fr kp L [(3, 0), (5, 10), (5, 12), (10, 0)] [101, 102, 110, 111, 112, 113, 114, 135, 160, 161, 162, 163, 164, 165, 166, 167, 171] E Eq) A) [.ref a0, .ref a1, .ref a2, .ref a3].toArray s 0 0 A) (F0 m 127 ls []) := by
                    intro Eg127 H locs ls hG127 hg0 TH hS hl
                    have hF := hF.tr hG127 (fun _ h => ⟨h, rfl⟩) (by decide) (by decide)
                    have hG133 := hG133.tr hG127 (fun _ h => ⟨h, rfl⟩) (by decide) (by decide)
                    have hG100 := hG100.tr hG127 (fun _ h => ⟨h, rfl⟩) (by decide) (by decide)
                    have hmf70 : tw_fv Eg127 a0 0 = .ref xr6 := (hG127.1 a0 0 hm0 (by rw [hk0]; decide)).trans hmf62
                    have hmf71 : tw_fv Eg127 a0 2 = .ref xr7 := (hG127.1 a0 2 hm0 (by rw [hk0]; decide)).trans hmf63
                    have hmf72 : tw_fv Eg127 a0 1 = .ref xr13 := (hG127.1 a0 1 hm0 (by rw [hk0]; decide)).trans hmf64
                    have hmf73 : tw_fv Eg127 a0 6 = .ref xr68 := (hG127.1 a0 6 hm0 (by rw [hk0]; decide)).trans hxr68
                    obtain ⟨zi74, ezi74⟩ : ∃ z : Int32, z = y100_4 + Int32.ofInt 1 := ⟨_, rfl⟩
                    have hzi74 : zi74.toInt = y100_4.toInt + 1 := by rw [ezi74]; have : ((Int32.ofInt 1).toInt) = 1 := (by decide);  exact (ia_add (by omega) (by omega)).trans (by omega)
                    refine lv_iinc (v := zi74) (lv' := [(4, .int zi74), (0, .ref a0), (2, .ref a2), (3, .ref a3)]) hx hb dX5_run_127 hl (k := 0) rfl ezi74.symm (by decide) rfl (fun ls hl => ?_)
                    refine lv_goto (tgt := 100) hx hb dX5_run_130 (by decide) ?_
                    exact ih100 (n100 - 1) (by   omega) zi74 _ _ _ ls (by omega) (by omega) (by   omega) hG100 hg0 TH hS (lv_sub hl [0, 1, 2, 3] rfl)
                  have hG127 : tw_fr kp L [(3, 0), (5, 10), (5, 12), (10, 0)] [101, 102, 110, 111, 114, 135, 160, 165, 166, 167] Eg100 Eg100 := tw_fr.rf
                  refine lv_icmp_ne (tgt := 127) hx hb dX5_run_116 (by decide) (fun hc75 => ?_) (fun hc75 => ?_)
                  · have hf76 : ¬ (xe69.toInt = 1) := fun q => hc75 ((fa_eq _ _).mpr (by have : ((1 : Int32).toInt) = 1 := (by decide); omega))
                    exact hJ127  _ _ _ ls hG127 hg0 TH hS (lv_sub hl [0, 1, 2, 3] rfl)
                  · have hf77 : xe69.toInt = 1 := by have z := (fa_eq _ _).mp hc75; have : ((1 : Int32).toInt) = 1 := (by decide); omega
                    refine lv_aload_n hx hb dX5_run_119 rfl (lv_at hl 1 rfl) ?_
                    refine lv_iload hx hb dX5_run_120 (lv_at hl 0 rfl) ?_
                    refine lv_aload_n hx hb dX5_run_122 rfl (lv_at hl 2 rfl) ?_
                    refine lv_aload_n hx hb dX5_run_123 rfl (lv_at hl 3 rfl) ?_
                    refine tw_Vc (o := a0) (ci := 5) (n := 3) (post := (fun v kq Lq Eq => v = none ∧ kp = kq ∧ L = Lq ∧ tw_fr kp L [(3, 0), (5, 10), (5, 12), (10, 0)] [101, 102, 110, 111, 114, 135, 160, 165, 166, 167] Eg100 Eq ∧ gm_ok Eq a2)) (As := [.int y100_4, .ref a2, .ref a3]) (rest := []) ⟨hx, hb, hml, hown, hB⟩ (fun sz => tX5_orderChildren l D cs a0 y100_4 a2 a3 hm0 hk0 (by omega) (by omega) hm2 hk2 hm3 hk3 hg0 sz) cg_5_84_X5_orderChildren rfl rfl (by decide +kernel) ⟨Nat.le_of_ble_eq_true rfl, Nat.le_of_ble_eq_true rfl⟩ hK hN TH hS hA rfl hm0 hk0 (by decide) rfl hl.1 rfl (Nat.le_of_ble_eq_true rfl) dX5_run_124 ⟨Nat.le_of_ble_eq_true rfl, Nat.le_of_ble_eq_true rfl⟩ (fun v78 kp78 L78 E78 H locs hq78 hx78 TH hS => ?_)
                    obtain ⟨rfl, rfl, rfl, hst78, hgpxc79_0⟩ := hq78
                    have hF := hF.tr hst78 (fun _ h => ⟨h, rfl⟩) (by decide) (by decide)
                    have hG133 := hG133.tr hst78 (fun _ h => ⟨h, rfl⟩) (by decide) (by decide)
                    have hG100 := hG100.tr hst78 (fun _ h => ⟨h, rfl⟩) (by decide) (by decide)
                    have hG127 := hG127.tr hst78 (fun _ h => ⟨h, rfl⟩) (by decide) (by decide)
                    have hmf80 : tw_fv E78 a0 0 = .ref xr6 := (hst78.1 a0 0 hm0 (by rw [hk0]; decide)).trans hmf62
                    have hmf81 : tw_fv E78 a0 2 = .ref xr7 := (hst78.1 a0 2 hm0 (by rw [hk0]; decide)).trans hmf63
                    have hmf82 : tw_fv E78 a0 1 = .ref xr13 := (hst78.1 a0 1 hm0 (by rw [hk0]; decide)).trans hmf64
                    have hmf83 : tw_fv E78 a0 6 = .ref xr68 := (hst78.1 a0 6 hm0 (by rw [hk0]; decide)).trans hxr68
                    refine W.eq (g2 := F0 m 127 ls []) rfl ?_
                    exact hJ127  _ _ _ ls hG127 hgpxc79_0 TH hS (lv_sub hl [0, 1, 2, 3] rfl)
            exact hJ100 151 (0 : Int32) _ _ _ ls (by have : ((0 : Int32).toInt) = 0 := (by decide); omega) (by have : ((0 : Int32).toInt) = 0 := (by decide); omega) (by have : ((0 : Int32).toInt) = 0 := (by decide);  omega) tw_fr.rf hg0 TH hS (lv_sub hl [0, 1, 2, 3] rfl)
        have hG86 : tw_fr kp L [(5, 10)] [160, 161] Eg30 Eg30 := tw_fr.rf
        refine lv_if_ne (tgt := 86) hx hb dX5_run_71 (by decide) (fun hc84 => ?_) (fun hc84 => ?_)
        · have hf85 : ¬ (xi25.toInt = 0) := fun q => hc84 ((fa_eq _ _).mpr (by have : ((0 : Int32).toInt) = 0 := (by decide); omega))
          exact hJ86  _ _ _ ls hG86 hg0 TH hS (lv_sub hl [1, 3, 4] rfl)
        · have hf86 : xi25.toInt = 0 := by have z := (fa_eq _ _).mp hc84; have : ((0 : Int32).toInt) = 0 := (by decide); omega
          refine lv_aload_n hx hb dX5_run_74 rfl (lv_at hl 1 rfl) ?_
          refine tw_Vc (o := a0) (ci := 5) (n := 0) (post := (fun v kq Lq Eq => v = none ∧ kp = kq ∧ L = Lq ∧ tw_fr kp L [] [161] Eg30 Eq)) (As := []) (rest := []) ⟨hx, hb, hml, hown, hB⟩ (fun sz => tX5_dropTheLed l D cs a0 hm0 hk0 sz) cg_5_72_X5_dropTheLed rfl rfl (by decide +kernel) ⟨Nat.le_of_ble_eq_true rfl, Nat.le_of_ble_eq_true rfl⟩ hK hN TH hS hA rfl hm0 hk0 (by decide) rfl hl.1 rfl (Nat.le_of_ble_eq_true rfl) dX5_run_75 ⟨Nat.le_of_ble_eq_true rfl, Nat.le_of_ble_eq_true rfl⟩ (fun v87 kp87 L87 E87 H locs hq87 hx87 TH hS => ?_)
          obtain ⟨rfl, rfl, rfl, hst87⟩ := hq87
          have hF := hF.tr hst87 (fun _ h => ⟨h, rfl⟩) (by decide) (by decide)
          have hG30 := hG30.tr hst87 (fun _ h => ⟨h, rfl⟩) (by decide) (by decide)
          have hG86 := hG86.tr hst87 (fun _ h => ⟨h, rfl⟩) (by decide) (by decide)
          have hmf89 : tw_fv E87 a0 0 = .ref xr6 := (hst87.1 a0 0 hm0 (by rw [hk0]; decide)).trans hmf20
          have hmf90 : tw_fv E87 a0 2 = .ref xr7 := (hst87.1 a0 2 hm0 (by rw [hk0]; decide)).trans hmf21
          have hmf91 : tw_fv E87 a0 1 = .ref xr13 := (hst87.1 a0 1 hm0 (by rw [hk0]; decide)).trans hmf22
          have hmf92 : tw_fv E87 a0 10 = .int xi25 := (hst87.1 a0 10 hm0 (by rw [hk0]; decide)).trans hxi25
          have hg0 : gm_ok E87 a2 := gm_ok_fr TH hst87 hm2 hk2 (by decide) (by decide) hg0
          refine W.eq (g2 := F0 m 78 ls []) rfl ?_
          refine lv_aload_n hx hb dX5_run_78 rfl (lv_at hl 1 rfl) ?_
          refine tw_Vc (o := a0) (ci := 5) (n := 0) (post := (fun v kq Lq Eq => v = none ∧ kp = kq ∧ L = Lq ∧ tw_fr kp L [(5, 10)] [160] E87 Eq)) (As := []) (rest := []) ⟨hx, hb, hml, hown, hB⟩ (fun sz => tX5_findRings l D cs a0 hm0 hk0 sz) cg_5_75_X5_findRings rfl rfl (by decide +kernel) ⟨Nat.le_of_ble_eq_true rfl, Nat.le_of_ble_eq_true rfl⟩ hK hN TH hS hA rfl hm0 hk0 (by decide) rfl hl.1 rfl (Nat.le_of_ble_eq_true rfl) dX5_run_79 ⟨Nat.le_of_ble_eq_true rfl, Nat.le_of_ble_eq_true rfl⟩ (fun v93 kp93 L93 E93 H locs hq93 hx93 TH hS => ?_)
          obtain ⟨rfl, rfl, rfl, hst93⟩ := hq93
          have hF := hF.tr hst93 (fun _ h => ⟨h, rfl⟩) (by decide) (by decide)
          have hG30 := hG30.tr hst93 (fun _ h => ⟨h, rfl⟩) (by decide) (by decide)
          have hG86 := hG86.tr hst93 (fun _ h => ⟨h, rfl⟩) (by decide) (by decide)
          have hmf95 : tw_fv E93 a0 0 = .ref xr6 := (hst93.1 a0 0 hm0 (by rw [hk0]; decide)).trans hmf89
          have hmf96 : tw_fv E93 a0 2 = .ref xr7 := (hst93.1 a0 2 hm0 (by rw [hk0]; decide)).trans hmf90
          have hmf97 : tw_fv E93 a0 1 = .ref xr13 := (hst93.1 a0 1 hm0 (by rw [hk0]; decide)).trans hmf91
          have hg0 : gm_ok E93 a2 := gm_ok_fr TH hst93 hm2 hk2 (by decide) (by decide) hg0
          refine W.eq (g2 := F0 m 82 ls []) rfl ?_
          refine lv_aload_n hx hb dX5_run_82 rfl (lv_at hl 1 rfl) ?_
          refine tw_Vc (o := a0) (ci := 5) (n := 0) (post := (fun v kq Lq Eq => v = none ∧ kp = kq ∧ L = Lq ∧ tw_fr kp L [(5, 10)] [160] E93 Eq)) (As := []) (rest := []) ⟨hx, hb, hml, hown, hB⟩ (fun sz => tX5_findCrowd l D cs a0 hm0 hk0 sz) cg_5_78_X5_findCrowd rfl rfl (by decide +kernel) ⟨Nat.le_of_ble_eq_true rfl, Nat.le_of_ble_eq_true rfl⟩ hK hN TH hS hA rfl hm0 hk0 (by decide) rfl hl.1 rfl (Nat.le_of_ble_eq_true rfl) dX5_run_83 ⟨Nat.le_of_ble_eq_true rfl, Nat.le_of_ble_eq_true rfl⟩ (fun v98 kp98 L98 E98 H locs hq98 hx98 TH hS => ?_)
          obtain ⟨rfl, rfl, rfl, hst98⟩ := hq98
          have hF := hF.tr hst98 (fun _ h => ⟨h, rfl⟩) (by decide) (by decide)
          have hG30 := hG30.tr hst98 (fun _ h => ⟨h, rfl⟩) (by decide) (by decide)
          have hG86 := hG86.tr hst98 (fun _ h => ⟨h, rfl⟩) (by decide) (by decide)
          have hmf100 : tw_fv E98 a0 0 = .ref xr6 := (hst98.1 a0 0 hm0 (by rw [hk0]; decide)).trans hmf95
          have hmf101 : tw_fv E98 a0 2 = .ref xr7 := (hst98.1 a0 2 hm0 (by rw [hk0]; decide)).trans hmf96
          have hmf102 : tw_fv E98 a0 1 = .ref xr13 := (hst98.1 a0 1 hm0 (by rw [hk0]; decide)).trans hmf97
          have hg0 : gm_ok E98 a2 := gm_ok_fr TH hst98 hm2 hk2 (by decide) (by decide) hg0
          refine W.eq (g2 := F0 m 86 ls []) rfl ?_
          exact hJ86  _ _ _ ls hG86 hg0 TH hS (lv_sub hl [1, 3, 4] rfl)
      · have hf103 : ¬ (150 ≤ y30_4.toInt) := fun q => hc23 ((fa_le _ _).mpr (by have : ((150 : Int32).toInt) = 150 := (by decide); omega))
        refine lv_aload_n hx hb dX5_run_38 rfl (lv_at hl 1 rfl) ?_
        refine tw_get (ci := 5) (C := RX5) (T := TX5) (N := 15) hx hb hB cx_inX5 hown hK TH hm0 hk0 rfl ⟨by decide, rfl⟩ 5 (by decide) cw_324 (fun _ h9 => h9) dX5_run_39 (fun hv => ?_)
        obtain ⟨xr104, hxr104, hmxr104, hkxr104⟩ : ∃ a : Nat, tw_fv Eg30 a0 5 = .ref a ∧ a ∈ L ∧ kp a = 160 := hv
        rw [hxr104]
        refine lv_iload hx hb dX5_run_42 (lv_at hl 0 rfl) ?_
        refine lv_iconst (v := 0) hx hb dX5_run_44 (by decide) ?_
        refine tw_iast (k := 160) (n := 150) (lo := (-2147483648)) (hi := 2147483647) hx hb hK TH hS hmxr104 hkxr104 (by decide) rfl (i := y30_4) (x := 0) (vp_in_iff.mpr ⟨by  omega, by  omega⟩) (ia_lo _) (ia_hi _) dX5_run_45 (fun H locs E105 TH hS hp106 hp107 hp108 => ?_)
        have hst109 : tw_fr kp L [] [160] Eg30 E105 := tw_fr.ast tw_fr.rf (fun _ => hkxr104) hp106 hp107 (by decide)
        have hF := hF.tr hst109 (fun _ h => ⟨h, rfl⟩) (by decide) (by decide)
        have hG30 := hG30.tr hst109 (fun _ h => ⟨h, rfl⟩) (by decide) (by decide)
        have hmf110 : tw_fv E105 a0 0 = .ref xr6 := (hst109.1 a0 0 hm0 (by rw [hk0]; decide)).trans hmf20
        have hmf111 : tw_fv E105 a0 2 = .ref xr7 := (hst109.1 a0 2 hm0 (by rw [hk0]; decide)).trans hmf21
        have hmf112 : tw_fv E105 a0 1 = .ref xr13 := (hst109.1 a0 1 hm0 (by rw [hk0]; decide)).trans hmf22
        have hmf113 : tw_fv E105 a0 5 = .ref xr104 := (hst109.1 a0 5 hm0 (by rw [hk0]; decide)).trans hxr104
        have hg0 : gm_ok E105 a2 := gm_ok_fr TH hst109 hm2 hk2 (by decide) (by decide) hg0
        refine lv_aload_n hx hb dX5_run_46 rfl (lv_at hl 1 rfl) ?_
        refine tw_get (ci := 5) (C := RX5) (T := TX5) (N := 15) hx hb hB cx_inX5 hown hK TH hm0 hk0 rfl ⟨by decide, rfl⟩ 6 (by decide) cw_325 (fun _ h9 => h9) dX5_run_47 (fun hv => ?_)
        obtain ⟨xr114, hxr114, hmxr114, hkxr114⟩ : ∃ a : Nat, tw_fv E105 a0 6 = .ref a ∧ a ∈ L ∧ kp a = 161 := hv
        rw [hxr114]
        refine lv_iload hx hb dX5_run_50 (lv_at hl 0 rfl) ?_
        refine lv_iconst (v := 0) hx hb dX5_run_52 (by decide) ?_
        refine tw_iast (k := 161) (n := 150) (lo := 0) (hi := 1) hx hb hK TH hS hmxr114 hkxr114 (by decide) rfl (i := y30_4) (x := 0) (vp_in_iff.mpr ⟨by  omega, by  omega⟩) (by have : ((0 : Int32).toInt) = 0 := (by decide); omega) (by have : ((0 : Int32).toInt) = 0 := (by decide); omega) dX5_run_53 (fun H locs E115 TH hS hp116 hp117 hp118 => ?_)
        have hst119 : tw_fr kp L [] [161] E105 E115 := tw_fr.ast tw_fr.rf (fun _ => hkxr114) hp116 hp117 (by decide)
        have hF := hF.tr hst119 (fun _ h => ⟨h, rfl⟩) (by decide) (by decide)
        have hG30 := hG30.tr hst119 (fun _ h => ⟨h, rfl⟩) (by decide) (by decide)
        have hmf120 : tw_fv E115 a0 0 = .ref xr6 := (hst119.1 a0 0 hm0 (by rw [hk0]; decide)).trans hmf110
        have hmf121 : tw_fv E115 a0 2 = .ref xr7 := (hst119.1 a0 2 hm0 (by rw [hk0]; decide)).trans hmf111
        have hmf122 : tw_fv E115 a0 1 = .ref xr13 := (hst119.1 a0 1 hm0 (by rw [hk0]; decide)).trans hmf112
        have hmf123 : tw_fv E115 a0 5 = .ref xr104 := (hst119.1 a0 5 hm0 (by rw [hk0]; decide)).trans hmf113
        have hmf124 : tw_fv E115 a0 6 = .ref xr114 := (hst119.1 a0 6 hm0 (by rw [hk0]; decide)).trans hxr114
        have hg0 : gm_ok E115 a2 := gm_ok_fr TH hst119 hm2 hk2 (by decide) (by decide) hg0
        refine lv_aload_n hx hb dX5_run_54 rfl (lv_at hl 1 rfl) ?_
        refine lv_iload hx hb dX5_run_55 (lv_at hl 0 rfl) ?_
        refine lv_aload_n hx hb dX5_run_57 rfl (lv_at hl 2 rfl) ?_
        refine tw_Vc (o := a0) (ci := 5) (n := 2) (post := (fun v kq Lq Eq => v = none ∧ kp = kq ∧ L = Lq ∧ tw_fr kp L [(5, 10)] [160, 161, 162, 163, 164] E115 Eq)) (As := [.int y30_4, .ref a1]) (rest := []) ⟨hx, hb, hml, hown, hB⟩ (fun sz => tX5_decide l D cs a0 y30_4 a1 hm0 hk0 (by omega) (by omega) hm1 hk1 sz) cg_5_68_X5_decide rfl rfl (by decide +kernel) ⟨Nat.le_of_ble_eq_true rfl, Nat.le_of_ble_eq_true rfl⟩ hK hN TH hS hA rfl hm0 hk0 (by decide) rfl hl.1 rfl (Nat.le_of_ble_eq_true rfl) dX5_run_58 ⟨Nat.le_of_ble_eq_true rfl, Nat.le_of_ble_eq_true rfl⟩ (fun v125 kp125 L125 E125 H locs hq125 hx125 TH hS => ?_)
        obtain ⟨rfl, rfl, rfl, hst125⟩ := hq125
        have hF := hF.tr hst125 (fun _ h => ⟨h, rfl⟩) (by decide) (by decide)
        have hG30 := hG30.tr hst125 (fun _ h => ⟨h, rfl⟩) (by decide) (by decide)
        have hmf127 : tw_fv E125 a0 0 = .ref xr6 := (hst125.1 a0 0 hm0 (by rw [hk0]; decide)).trans hmf120
        have hmf128 : tw_fv E125 a0 2 = .ref xr7 := (hst125.1 a0 2 hm0 (by rw [hk0]; decide)).trans hmf121
        have hmf129 : tw_fv E125 a0 1 = .ref xr13 := (hst125.1 a0 1 hm0 (by rw [hk0]; decide)).trans hmf122
        have hmf130 : tw_fv E125 a0 5 = .ref xr104 := (hst125.1 a0 5 hm0 (by rw [hk0]; decide)).trans hmf123
        have hmf131 : tw_fv E125 a0 6 = .ref xr114 := (hst125.1 a0 6 hm0 (by rw [hk0]; decide)).trans hmf124
        have hg0 : gm_ok E125 a2 := gm_ok_fr TH hst125 hm2 hk2 (by decide) (by decide) hg0
        refine W.eq (g2 := F0 m 61 ls []) rfl ?_
        obtain ⟨zi132, ezi132⟩ : ∃ z : Int32, z = y30_4 + Int32.ofInt 1 := ⟨_, rfl⟩
        have hzi132 : zi132.toInt = y30_4.toInt + 1 := by rw [ezi132]; have : ((Int32.ofInt 1).toInt) = 1 := (by decide);  exact (ia_add (by omega) (by omega)).trans (by omega)
        refine lv_iinc (v := zi132) (lv' := [(4, .int zi132), (0, .ref a0), (1, .ref a1), (2, .ref a2), (3, .ref a3)]) hx hb dX5_run_61 hl (k := 0) rfl ezi132.symm (by decide) rfl (fun ls hl => ?_)
        refine lv_goto (tgt := 30) hx hb dX5_run_64 (by decide) ?_
        exact ih30 (n30 - 1) (by   omega) zi132 _ _ _ ls (by omega) (by omega) (by   omega) hG30 hg0 TH hS (lv_sub hl [0, 1, 2, 3, 4] rfl)
  exact hJ30 151 (0 : Int32) _ _ _ ls (by have : ((0 : Int32).toInt) = 0 := (by decide); omega) (by have : ((0 : Int32).toInt) = 0 := (by decide); omega) (by have : ((0 : Int32).toInt) = 0 := (by decide);  omega) tw_fr.rf hg0 TH hS (lv_sub hl [0, 1, 2, 3, 4] rfl)
