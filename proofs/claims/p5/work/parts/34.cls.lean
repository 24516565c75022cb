set_option maxHeartbeats 4000000 in
set_option maxRecDepth 100000 in
theorem tX10_arrange (l : Launch) (D : va_G) (cs : Nat → ClassId) {kp : Nat → Nat} {L : List Nat} {E : Nat → va_E} (a0 : Nat) (a1 : Nat) (a2 : Nat) (hm0 : a0 ∈ L) (hk0 : kp a0 = 10) (hm1 : a1 ∈ L) (hk1 : kp a1 = 10) (hm2 : a2 ∈ L) (hk2 : kp a2 = 2) (sz : Nat) : Met l yX10_arrange (.code yX10_arrange cX10_arrange 6 none :: cx_big) { frames := 2, cells := 0, slots := 0, locals := 51 } (tw_P D cs kp L E [.ref a0, .ref a1, .ref a2] sz) (tw_Q D cs kp L (fun v kq Lq Eq => v = none ∧ kp = kq ∧ L = Lq ∧ tw_fr kp L [(10, 0)] [102, 110, 111, 112, 113, 114] E Eq) (va_A (va_pl L E) sz)) 0 0 (va_A (va_pl L E) sz) := by
  refine tw_ofW (by decide) (Nat.le_of_ble_eq_true rfl) ?_
  intro p e s m below meth c A ls hx hb hr hml hB hown hlocks hK hN hA TH hS hl
  have hown : s.vm.findClass "TreeMerge$Tree" = some m.cls := hown
  have hl : lv_has ls 6 [(0, .ref a0), (1, .ref a1), (2, .ref a2)] := hl
  obtain ⟨kp0, ekp⟩ : ∃ z, z = kp := ⟨_, rfl⟩
  obtain ⟨L0, eL⟩ : ∃ z, z = L := ⟨_, rfl⟩
  rw [show tw_Q D cs kp L = tw_Q D cs kp0 L0 by rw [ekp, eL]]
  have hex : ∀ a : Nat, a ∈ L0 → a ∈ L ∧ kp a = kp0 a := fun a h => ⟨by rw [← eL]; exact h, by rw [ekp]⟩
  have hF : tw_fr kp L [(10, 0)] [102, 110, 111, 112, 113, 114] E E := tw_fr.rf
  refine lv_aload_n hx hb dX10_arrange_0 rfl (lv_at hl 0 rfl) ?_
  refine tw_Vc (o := a0) (ci := 10) (n := 0) (post := (fun v kq Lq Eq => v = none ∧ kp = kq ∧ L = Lq ∧ tw_fr kp L [(10, 0)] [] E Eq ∧ (∃ z0 : Int32, tw_fv Eq a0 0 = .int z0 ∧ (z0.toInt = 0)))) (As := []) (rest := []) ⟨hx, hb, hml, hown, hB⟩ (fun sz => tX10_clear l D cs a0 hm0 hk0 sz) cg_10_42_X10_clear rfl rfl (by decide +kernel) ⟨Nat.le_of_ble_eq_true rfl, Nat.le_of_ble_eq_true rfl⟩ hK hN TH hS hA rfl hm0 hk0 (by decide) rfl hl.1 rfl (Nat.le_of_ble_eq_true rfl) dX10_arrange_1 ⟨Nat.le_of_ble_eq_true rfl, Nat.le_of_ble_eq_true rfl⟩ (fun v1 kp1 L1 E1 H locs hq1 hx1 TH hS => ?_)
  obtain ⟨rfl, rfl, rfl, hst1, ⟨zfxc2_0_0, hzfxc2_0_0, hzpxc2_0⟩⟩ := hq1
  have hF := hF.tr hst1 (fun _ h => ⟨h, rfl⟩) (by decide) (by decide)
  obtain ⟨qzfxc2_0_0, hqzfxc2_0_0, hqzfxc2_0_0a, hqzfxc2_0_0b⟩ := tw_rd TH hm0 hk0 (by decide) (by decide) (k := 0) rfl
  have eqzfxc2_0_0 : qzfxc2_0_0 = zfxc2_0_0 := by have q := hqzfxc2_0_0.symm.trans hzfxc2_0_0; injection q
  rw [eqzfxc2_0_0] at hqzfxc2_0_0a hqzfxc2_0_0b
  refine W.eq (g2 := F0 m 4 ls []) rfl ?_
  refine lv_iconst (v := 0) hx hb dX10_arrange_4 (by decide) ?_
  refine lv_istore_n (lv' := [(3, .int 0), (0, .ref a0), (1, .ref a1), (2, .ref a2)]) hx hb dX10_arrange_5 rfl hl (by decide) rfl (fun ls hl => ?_)
  have hJ6 : ∀ (n6 : Nat) (y6_3 : Int32) (Eg6 : Nat → va_E) (H : Heap) (locs : List Loc) (ls : Array Slot), 0 ≤ y6_3.toInt → y6_3.toInt ≤ 40 → 40 - y6_3.toInt ≤ (n6 : Int) → tw_fr kp L [] [113] E1 Eg6 → tw_H D cs kp L Eg6 A H → va_S A s.heap H locs → lv_has ls 6 [(3, .int y6_3), (0, .ref a0), (1, .ref a1), (2, .ref a2)] → W p l e { frames := 2, cells := 0, slots := 0, locals := 51 } s m [.ref a0, .ref a1, .ref a2].toArray below meth c H locs 0 0 (MQ below (tw_Q D cs kp0 L0 (fun v kq Lq Eq => v = none ∧ kp = kq ∧ L = Lq ∧ tw_fr kp L [(10, 0)] [102, 110, 111, 112, 113, 114] E Eq) A) [.ref a0, .ref a1, .ref a2].toArray s 0 0 A) (F0 m 6 ls []) := by
    intro n6
    induction n6 using Nat.strongRecOn with
    | _ n6 ih6 =>
      intro y6_3 Eg6 H locs ls hy6_3a hy6_3b hmeas6 hG6 TH hS hl
      have hF := hF.tr hG6 (fun _ h => ⟨h, rfl⟩) (by decide) (by decide)
      have hmf3 : tw_fv Eg6 a0 0 = .int zfxc2_0_0 := (hG6.1 a0 0 hm0 (by rw [hk0]; decide)).trans hzfxc2_0_0
      refine lv_iload_n hx hb dX10_arrange_6 rfl (lv_at hl 0 rfl) ?_
      refine lv_aload_n hx hb dX10_arrange_7 rfl (lv_at hl 2 rfl) ?_
      refine tw_get (ci := 10) (C := RX10) (T := TX10) (N := 8) hx hb hB cx_inX10 hown hK TH hm1 hk1 rfl ⟨by decide, rfl⟩ 0 (by decide) cw_116 (fun _ h9 => h9) dX10_arrange_8 (fun hv => ?_)
      obtain ⟨xi4, hxi4, hxi4a, hxi4b⟩ : ∃ x : Int32, tw_fv Eg6 a1 0 = .int x ∧ 0 ≤ x.toInt ∧ x.toInt ≤ 40 := hv
      rw [hxi4]
      refine lv_icmp_ge (tgt := 27) hx hb dX10_arrange_11 (by decide) (fun hc5 => ?_) (fun hc5 => ?_)
      · have hf6 : xi4.toInt ≤ y6_3.toInt := by have z := (fa_le _ _).mp hc5;  omega
        refine lv_aload_n hx hb dX10_arrange_27 rfl (lv_at hl 1 rfl) ?_
        refine lv_aload_n hx hb dX10_arrange_28 rfl (lv_at hl 2 rfl) ?_
        refine lv_aload_n hx hb dX10_arrange_29 rfl (lv_at hl 2 rfl) ?_
        refine lv_iconst (v := (-1)) hx hb dX10_arrange_30 (by decide) ?_
        refine lv_iconst (v := 0) hx hb dX10_arrange_31 (by decide) ?_
        refine tw_Vc (o := a1) (ci := 10) (n := 2) (post := (fun v kq Lq Eq => (∃ x : Int32, v = some (.int x) ∧ (-1) ≤ x.toInt ∧ x.toInt ≤ 40) ∧ kp = kq ∧ L = Lq ∧ Eg6 = Eq)) (As := [.int (-1), .int 0]) (rest := [.ref a1, .ref a0]) ⟨hx, hb, hml, hown, hB⟩ (fun sz => tX10_childIndex l D cs a1 ((-1) : Int32) (0 : Int32) hm1 hk1 sz) cg_10_76_X10_childIndex rfl rfl (by decide +kernel) ⟨Nat.le_of_ble_eq_true rfl, Nat.le_of_ble_eq_true rfl⟩ hK hN TH hS hA rfl hm1 hk1 (by decide) rfl hl.1 rfl (Nat.le_of_ble_eq_true rfl) dX10_arrange_32 ⟨Nat.le_of_ble_eq_true rfl, Nat.le_of_ble_eq_true rfl⟩ (fun v7 kp7 L7 E7 H locs hq7 hx7 TH hS => ?_)
        obtain ⟨⟨xc8, rfl, hxc8a, hxc8b⟩, rfl, rfl, rfl⟩ := hq7
        refine W.eq (g2 := F0 m 35 ls [.int xc8, .ref a1, .ref a0]) rfl ?_
        refine lv_iconst (v := (-1)) hx hb dX10_arrange_35 (by decide) ?_
        refine tw_Vc (o := a0) (ci := 10) (n := 3) (post := (fun v kq Lq Eq => (∃ x : Int32, v = some (.int x) ∧ (-1) ≤ x.toInt ∧ x.toInt ≤ 39 ∧ (∃ z0 : Int32, tw_fv Eq a0 0 = .int z0 ∧ (x.toInt < z0.toInt) ∧ dp_ok Eq a0 (z0.toInt))) ∧ kp = kq ∧ L = Lq ∧ tw_fr kp L [(10, 0)] [102, 110, 111, 112, 113, 114] Eg6 Eq)) (As := [.ref a1, .int xc8, .int (-1)]) (rest := []) ⟨hx, hb, hml, hown, hB⟩ (fun sz => tX10_takeFrom l D cs a0 a1 xc8 ((-1) : Int32) zfxc2_0_0 hm0 hk0 hm1 hk1 (by have : (((-1) : Int32).toInt) = (-1) := (by decide); omega) (by have : (((-1) : Int32).toInt) = (-1) := (by decide); omega) hmf3 (by have : (((-1) : Int32).toInt) = (-1) := (by decide); omega) (dp_ok_zero (by omega)) sz) cg_10_80_X10_takeFrom rfl rfl (by decide +kernel) ⟨Nat.le_of_ble_eq_true rfl, Nat.le_of_ble_eq_true rfl⟩ hK hN TH hS hA rfl hm0 hk0 (by decide) rfl hl.1 rfl (Nat.le_of_ble_eq_true rfl) dX10_arrange_36 ⟨Nat.le_of_ble_eq_true rfl, Nat.le_of_ble_eq_true rfl⟩ (fun v9 kp9 L9 E9 H locs hq9 hx9 TH hS => ?_)
        obtain ⟨⟨xc10, rfl, hxc10a, hxc10b, ⟨zfxc10_0_0, hzfxc10_0_0, hzpxc10_0, hzgxc10_0_0⟩⟩, rfl, rfl, hst9⟩ := hq9
        have hF := hF.tr hst9 (fun _ h => ⟨h, rfl⟩) (by decide) (by decide)
        obtain ⟨qzfxc10_0_0, hqzfxc10_0_0, hqzfxc10_0_0a, hqzfxc10_0_0b⟩ := tw_rd TH hm0 hk0 (by decide) (by decide) (k := 0) rfl
        have eqzfxc10_0_0 : qzfxc10_0_0 = zfxc10_0_0 := by have q := hqzfxc10_0_0.symm.trans hzfxc10_0_0; injection q
        rw [eqzfxc10_0_0] at hqzfxc10_0_0a hqzfxc10_0_0b
        refine W.eq (g2 := F0 m 39 ls [.int xc10]) rfl ?_
        refine lv_istore_n (lv' := [(3, .int xc10), (0, .ref a0), (1, .ref a1), (2, .ref a2)]) hx hb dX10_arrange_39 rfl hl (by decide) rfl (fun ls hl => ?_)
        refine lv_iconst (v := 0) hx hb dX10_arrange_40 (by decide) ?_
        refine lv_istore (lv' := [(4, .int 0), (3, .int xc10), (0, .ref a0), (1, .ref a1), (2, .ref a2)]) hx hb dX10_arrange_41 hl (by decide) rfl (fun ls hl => ?_)
        have hJ43 : ∀ (n43 : Nat) (y43_4 : Int32) (y43_3 : Int32) (u43_0_0 : Int32) (Eg43 : Nat → va_E) (H : Heap) (locs : List Loc) (ls : Array Slot), 0 ≤ y43_4.toInt → y43_4.toInt ≤ 125 → (-1) ≤ y43_3.toInt → y43_3.toInt ≤ 39 → 0 ≤ u43_0_0.toInt → u43_0_0.toInt ≤ 40 → (y43_3.toInt < u43_0_0.toInt) → 125 - y43_4.toInt ≤ (n43 : Int) → tw_fv Eg43 a0 0 = .int u43_0_0 → tw_fr kp L [(10, 0)] [102, 110, 111, 112, 113, 114] E9 Eg43 → dp_ok Eg43 a0 (u43_0_0.toInt) → tw_H D cs kp L Eg43 A H → va_S A s.heap H locs → lv_has ls 6 [(4, .int y43_4), (3, .int y43_3), (0, .ref a0), (1, .ref a1), (2, .ref a2)] → W p l e { frames := 2, cells := 0, slots := 0, locals := 51 } s m [.ref a0, .ref a1, .ref a2].toArray below meth c H locs 0 0 (MQ below (tw_Q D cs kp0 L0 (fun v kq Lq Eq => v = none ∧ kp = kq ∧ L = Lq ∧ tw_fr kp L [(10, 0)] [102, 110, 111, 112, 113, 114] E Eq) A) [.ref a0, .ref a1, .ref a2].toArray s 0 0 A) (F0 m 43 ls []) := by
          intro n43
          induction n43 using Nat.strongRecOn with
          | _ n43 ih43 =>
            intro y43_4 y43_3 u43_0_0 Eg43 H locs ls hy43_4a hy43_4b hy43_3a hy43_3b hu43_0_0a hu43_0_0b hin43_0 hmeas43 hfm43_0 hG43 hcg43_0 TH hS hl
            have hF := hF.tr hG43 (fun _ h => ⟨h, rfl⟩) (by decide) (by decide)
            refine lv_iload hx hb dX10_arrange_43 (lv_at hl 0 rfl) ?_
            refine lv_bipush (v := 80) hx hb dX10_arrange_45 (by decide) ?_
            refine lv_icmp_ge (tgt := 106) hx hb dX10_arrange_47 (by decide) (fun hc11 => ?_) (fun hc11 => ?_)
            · have hf12 : 80 ≤ y43_4.toInt := by have z := (fa_le _ _).mp hc11; have : ((80 : Int32).toInt) = 80 := (by decide); omega
              exact tw_vret hx hb hr hlocks TH hS hex ⟨rfl, rfl, rfl, hF⟩ (Nat.le_of_ble_eq_true rfl) (Nat.le_of_ble_eq_true rfl) dX10_arrange_106
            · have hf13 : ¬ (80 ≤ y43_4.toInt) := fun q => hc11 ((fa_le _ _).mpr (by have : ((80 : Int32).toInt) = 80 := (by decide); omega))
              refine lv_iload_n hx hb dX10_arrange_50 rfl (lv_at hl 1 rfl) ?_
              refine lv_if_lt (tgt := 106) hx hb dX10_arrange_51 (by decide) (fun hc14 => ?_) (fun hc14 => ?_)
              · have hf15 : y43_3.toInt < 0 := by have z := (fa_lt _ _).mp hc14; have : ((0 : Int32).toInt) = 0 := (by decide); omega
                exact tw_vret hx hb hr hlocks TH hS hex ⟨rfl, rfl, rfl, hF⟩ (Nat.le_of_ble_eq_true rfl) (Nat.le_of_ble_eq_true rfl) dX10_arrange_106
              · have hf16 : ¬ (y43_3.toInt < 0) := fun q => hc14 ((fa_lt _ _).mpr (by have : ((0 : Int32).toInt) = 0 := (by decide); omega))
                refine lv_aload_n hx hb dX10_arrange_54 rfl (lv_at hl 3 rfl) ?_
                refine lv_aload_n hx hb dX10_arrange_55 rfl (lv_at hl 2 rfl) ?_
                refine tw_get (ci := 10) (C := RX10) (T := TX10) (N := 8) hx hb hB cx_inX10 hown hK TH hm0 hk0 rfl ⟨by decide, rfl⟩ 1 (by decide) cw_122 (fun _ h9 => h9) dX10_arrange_56 (fun hv => ?_)
                obtain ⟨xr17, hxr17, hmxr17, hkxr17⟩ : ∃ a : Nat, tw_fv Eg43 a0 1 = .ref a ∧ a ∈ L ∧ kp a = 110 := hv
                rw [hxr17]
                refine lv_iload_n hx hb dX10_arrange_59 rfl (lv_at hl 1 rfl) ?_
                refine tw_iald (k := 110) (t0 := 0) (n := 40) (lo := (-1)) (hi := 149) hx hb hK TH hmxr17 hkxr17 (by decide) rfl rfl (i := y43_3) (vp_in_iff.mpr ⟨by  omega, by  omega⟩) dX10_arrange_60 (fun hxe18a hxe18b => ?_)
                obtain ⟨xe18, exe18⟩ : ∃ z : Int32, tw_iv Eg43 xr17 (Int32.toNatClampNeg y43_3) = z := ⟨_, rfl⟩
                rw [exe18] at hxe18a hxe18b ⊢
                refine lv_aload_n hx hb dX10_arrange_61 rfl (lv_at hl 4 rfl) ?_
                refine lv_aload_n hx hb dX10_arrange_62 rfl (lv_at hl 2 rfl) ?_
                refine tw_get (ci := 10) (C := RX10) (T := TX10) (N := 8) hx hb hB cx_inX10 hown hK TH hm0 hk0 rfl ⟨by decide, rfl⟩ 5 (by decide) cw_138 (fun _ h9 => h9) dX10_arrange_63 (fun hv => ?_)
                obtain ⟨xr19, hxr19, hmxr19, hkxr19⟩ : ∃ a : Nat, tw_fv Eg43 a0 5 = .ref a ∧ a ∈ L ∧ kp a = 114 := hv
                rw [hxr19]
                refine lv_iload_n hx hb dX10_arrange_66 rfl (lv_at hl 1 rfl) ?_
                refine tw_iald (k := 114) (t0 := 0) (n := 40) (lo := (-1)) (hi := 9) hx hb hK TH hmxr19 hkxr19 (by decide) rfl rfl (i := y43_3) (vp_in_iff.mpr ⟨by  omega, by  omega⟩) dX10_arrange_67 (fun hxe20a hxe20b => ?_)
                obtain ⟨xe20, exe20⟩ : ∃ z : Int32, tw_iv Eg43 xr19 (Int32.toNatClampNeg y43_3) = z := ⟨_, rfl⟩
                rw [exe20] at hxe20a hxe20b ⊢
                refine tw_Vc (o := a2) (ci := 2) (n := 1) (post := (fun v kq Lq Eq => (∃ x : Int32, v = some (.int x) ∧ 0 ≤ x.toInt ∧ x.toInt ≤ 1) ∧ kp = kq ∧ L = Lq ∧ Eg43 = Eq)) (As := [.int xe20]) (rest := [.int xe18, .ref a1]) ⟨hx, hb, hml, hown, hB⟩ (fun sz => tX2_isSet l D cs a2 xe20 hm2 hk2 sz) cg_10_84_X2_isSet rfl rfl (by decide +kernel) ⟨Nat.le_of_ble_eq_true rfl, Nat.le_of_ble_eq_true rfl⟩ hK hN TH hS hA rfl hm2 hk2 (by decide) rfl hl.1 rfl (Nat.le_of_ble_eq_true rfl) dX10_arrange_68 ⟨Nat.le_of_ble_eq_true rfl, Nat.le_of_ble_eq_true rfl⟩ (fun v21 kp21 L21 E21 H locs hq21 hx21 TH hS => ?_)
                obtain ⟨⟨xc22, rfl, hxc22a, hxc22b⟩, rfl, rfl, rfl⟩ := hq21
                refine W.eq (g2 := F0 m 71 ls [.int xc22, .int xe18, .ref a1]) rfl ?_
                refine tw_Vc (o := a1) (ci := 10) (n := 2) (post := (fun v kq Lq Eq => (∃ x : Int32, v = some (.int x) ∧ (-1) ≤ x.toInt ∧ x.toInt ≤ 39) ∧ kp = kq ∧ L = Lq ∧ Eg43 = Eq)) (As := [.int xe18, .int xc22]) (rest := []) ⟨hx, hb, hml, hown, hB⟩ (fun sz => tX10_nextWaiting l D cs a1 xe18 xc22 hm1 hk1 (by omega) (by omega) sz) cg_10_88_X10_nextWaiting rfl rfl (by decide +kernel) ⟨Nat.le_of_ble_eq_true rfl, Nat.le_of_ble_eq_true rfl⟩ hK hN TH hS hA rfl hm1 hk1 (by decide) rfl hl.1 rfl (Nat.le_of_ble_eq_true rfl) dX10_arrange_71 ⟨Nat.le_of_ble_eq_true rfl, Nat.le_of_ble_eq_true rfl⟩ (fun v23 kp23 L23 E23 H locs hq23 hx23 TH hS => ?_)
                obtain ⟨⟨xc24, rfl, hxc24a, hxc24b⟩, rfl, rfl, rfl⟩ := hq23
                refine W.eq (g2 := F0 m 74 ls [.int xc24]) rfl ?_
                refine lv_istore (lv' := [(5, .int xc24), (4, .int y43_4), (3, .int y43_3), (0, .ref a0), (1, .ref a1), (2, .ref a2)]) hx hb dX10_arrange_74 hl (by decide) rfl (fun ls hl => ?_)
                refine lv_iload hx hb dX10_arrange_76 (lv_at hl 0 rfl) ?_
                refine lv_iconst (v := (-1)) hx hb dX10_arrange_78 (by decide) ?_
                have hJ99 : ∀ (z99_0 : Int32) (u99_0_0 : Int32) (Eg99 : Nat → va_E) (H : Heap) (locs : List Loc) (ls : Array Slot), (-1) ≤ z99_0.toInt → z99_0.toInt ≤ 39 → 0 ≤ u99_0_0.toInt → u99_0_0.toInt ≤ 40 → (z99_0.toInt < u99_0_0.toInt) → tw_fv Eg99 a0 0 = .int u99_0_0 → tw_fr kp L [(10, 0)] [102, 110, 111, 112, 113, 114] Eg43 Eg99 → dp_ok Eg99 a0 (u99_0_0.toInt) → tw_H D cs kp L Eg99 A H → va_S A s.heap H locs → lv_has ls 6 [(4, .int y43_4), (0, .ref a0), (1, .ref a1), (2, .ref a2)] → W p l e { frames := 2, cells := 0, slots := 0, locals := 51 } s m [.ref a0, .ref a1, .ref a2].toArray below meth c H locs 0 0 (MQ below (tw_Q D cs kp0 L0 (fun v kq Lq Eq => v = none ∧ kp = kq ∧ L = Lq ∧ tw_fr kp L [(10, 0)] [102, 110, 111, 112, 113, 114] E Eq) A) [.ref a0, .ref a1, .ref a2].toArray s 0 0 A) (F0 m 99 ls [.int z99_0]) := by
                  intro z99_0 u99_0_0 Eg99 H locs ls hz99_0a hz99_0b hu99_0_0a hu99_0_0b hin99_0 hfm99_0 hG99 hcg99_0 TH hS hl
                  have hF := hF.tr hG99 (fun _ h => ⟨h, rfl⟩) (by decide) (by decide)
                  have hG43 := hG43.tr hG99 (fun _ h => ⟨h, rfl⟩) (by decide) (by decide)
                  have hmf25 : tw_fv Eg99 a0 1 = .ref xr17 := (hG99.1 a0 1 hm0 (by rw [hk0]; decide)).trans hxr17
                  have hmf26 : tw_fv Eg99 a0 5 = .ref xr19 := (hG99.1 a0 5 hm0 (by rw [hk0]; decide)).trans hxr19
                  refine lv_istore_n (lv' := [(3, .int z99_0), (4, .int y43_4), (0, .ref a0), (1, .ref a1), (2, .ref a2)]) hx hb dX10_arrange_99 rfl hl (by decide) rfl (fun ls hl => ?_)
                  obtain ⟨zi27, ezi27⟩ : ∃ z : Int32, z = y43_4 + Int32.ofInt 1 := ⟨_, rfl⟩
                  have hzi27 : zi27.toInt = y43_4.toInt + 1 := by rw [ezi27]; have : ((Int32.ofInt 1).toInt) = 1 := (by decide);  exact (ia_add (by omega) (by omega)).trans (by omega)
                  refine lv_iinc (v := zi27) (lv' := [(4, .int zi27), (3, .int z99_0), (0, .ref a0), (1, .ref a1), (2, .ref a2)]) hx hb dX10_arrange_100 hl (k := 1) rfl ezi27.symm (by decide) rfl (fun ls hl => ?_)
                  refine lv_goto (tgt := 43) hx hb dX10_arrange_103 (by decide) ?_
                  exact ih43 (n43 - 1) (by   omega) zi27 z99_0 u99_0_0 _ _ _ ls (by omega) (by omega) (by omega) (by omega) (by omega) (by omega) (by  omega) (by   omega) hfm99_0 hG43 (dp_ok_cast (by  omega) hcg99_0) TH hS (lv_sub hl [0, 1, 2, 3, 4] rfl)
                have hG99 : tw_fr kp L [(10, 0)] [102, 110, 111, 112, 113, 114] Eg43 Eg43 := tw_fr.rf
                refine lv_icmp_ne (tgt := 91) hx hb dX10_arrange_79 (by decide) (fun hc28 => ?_) (fun hc28 => ?_)
                · have hf29 : ¬ (xc24.toInt = (-1)) := fun q => hc28 ((fa_eq _ _).mpr (by have : (((-1) : Int32).toInt) = (-1) := (by decide); omega))
                  refine lv_aload_n hx hb dX10_arrange_91 rfl (lv_at hl 3 rfl) ?_
                  refine lv_aload_n hx hb dX10_arrange_92 rfl (lv_at hl 4 rfl) ?_
                  refine lv_iload hx hb dX10_arrange_93 (lv_at hl 0 rfl) ?_
                  refine lv_iload_n hx hb dX10_arrange_95 rfl (lv_at hl 2 rfl) ?_
                  refine tw_Vc (o := a0) (ci := 10) (n := 3) (post := (fun v kq Lq Eq => (∃ x : Int32, v = some (.int x) ∧ (-1) ≤ x.toInt ∧ x.toInt ≤ 39 ∧ (∃ z0 : Int32, tw_fv Eq a0 0 = .int z0 ∧ (x.toInt < z0.toInt) ∧ dp_ok Eq a0 (z0.toInt))) ∧ kp = kq ∧ L = Lq ∧ tw_fr kp L [(10, 0)] [102, 110, 111, 112, 113, 114] Eg43 Eq)) (As := [.ref a1, .int xc24, .int y43_3]) (rest := []) ⟨hx, hb, hml, hown, hB⟩ (fun sz => tX10_takeFrom l D cs a0 a1 xc24 y43_3 u43_0_0 hm0 hk0 hm1 hk1 (by omega) (by omega) hfm43_0 (by  omega) hcg43_0 sz) cg_10_80_X10_takeFrom rfl rfl (by decide +kernel) ⟨Nat.le_of_ble_eq_true rfl, Nat.le_of_ble_eq_true rfl⟩ hK hN TH hS hA rfl hm0 hk0 (by decide) rfl hl.1 rfl (Nat.le_of_ble_eq_true rfl) dX10_arrange_96 ⟨Nat.le_of_ble_eq_true rfl, Nat.le_of_ble_eq_true rfl⟩ (fun v30 kp30 L30 E30 H locs hq30 hx30 TH hS => ?_)
                  obtain ⟨⟨xc31, rfl, hxc31a, hxc31b, ⟨zfxc31_0_0, hzfxc31_0_0, hzpxc31_0, hzgxc31_0_0⟩⟩, rfl, rfl, hst30⟩ := hq30
                  have hF := hF.tr hst30 (fun _ h => ⟨h, rfl⟩) (by decide) (by decide)
                  have hG43 := hG43.tr hst30 (fun _ h => ⟨h, rfl⟩) (by decide) (by decide)
                  have hG99 := hG99.tr hst30 (fun _ h => ⟨h, rfl⟩) (by decide) (by decide)
                  have hmf32 : tw_fv E30 a0 1 = .ref xr17 := (hst30.1 a0 1 hm0 (by rw [hk0]; decide)).trans hxr17
                  have hmf33 : tw_fv E30 a0 5 = .ref xr19 := (hst30.1 a0 5 hm0 (by rw [hk0]; decide)).trans hxr19
                  obtain ⟨qzfxc31_0_0, hqzfxc31_0_0, hqzfxc31_0_0a, hqzfxc31_0_0b⟩ := tw_rd TH hm0 hk0 (by decide) (by decide) (k := 0) rfl
                  have eqzfxc31_0_0 : qzfxc31_0_0 = zfxc31_0_0 := by have q := hqzfxc31_0_0.symm.trans hzfxc31_0_0; injection q
                  rw [eqzfxc31_0_0] at hqzfxc31_0_0a hqzfxc31_0_0b
                  refine W.eq (g2 := F0 m 99 ls [.int xc31]) rfl ?_
                  exact hJ99 xc31 zfxc31_0_0 _ _ _ ls (by omega) (by omega) (by omega) (by omega) (by  omega) hzfxc31_0_0 hG99 (dp_ok_cast (by  omega) hzgxc31_0_0) TH hS (lv_sub hl [1, 3, 4, 5] rfl)
                · have hf34 : xc24.toInt = (-1) := by have z := (fa_eq _ _).mp hc28; have : (((-1) : Int32).toInt) = (-1) := (by decide); omega
                  refine lv_aload_n hx hb dX10_arrange_82 rfl (lv_at hl 3 rfl) ?_
                  refine tw_get (ci := 10) (C := RX10) (T := TX10) (N := 8) hx hb hB cx_inX10 hown hK TH hm0 hk0 rfl ⟨by decide, rfl⟩ 3 (by decide) cw_130 (fun _ h9 => h9) dX10_arrange_83 (fun hv => ?_)
                  obtain ⟨xr35, hxr35, hmxr35, hkxr35⟩ : ∃ a : Nat, tw_fv Eg43 a0 3 = .ref a ∧ a ∈ L ∧ kp a = 112 := hv
                  rw [hxr35]
                  refine lv_iload_n hx hb dX10_arrange_86 rfl (lv_at hl 2 rfl) ?_
                  refine tw_iald (k := 112) (t0 := 0) (n := 40) (lo := (-1)) (hi := 39) hx hb hK TH hmxr35 hkxr35 (by decide) rfl rfl (i := y43_3) (vp_in_iff.mpr ⟨by  omega, by  omega⟩) dX10_arrange_87 (fun hxe36a hxe36b => ?_)
                  obtain ⟨xe36, exe36⟩ : ∃ z : Int32, tw_iv Eg43 xr35 (Int32.toNatClampNeg y43_3) = z := ⟨_, rfl⟩
                  rw [exe36] at hxe36a hxe36b ⊢
                  have hnt := ia_tn (i := y43_3) (by omega)
                  have htt := (hcg43_0 (Int32.toNatClampNeg y43_3) (by omega)).2
                  rw [tw_el_of hxr35, exe36] at htt
                  refine lv_goto (tgt := 99) hx hb dX10_arrange_88 (by decide) ?_
                  exact hJ99 xe36 u43_0_0 _ _ _ ls (by omega) (by omega) (by omega) (by omega) (by  omega) hfm43_0 hG99 (dp_ok_cast (by  omega) hcg43_0) TH hS (lv_sub hl [1, 3, 4, 5] rfl)
        exact hJ43 126 (0 : Int32) xc10 zfxc10_0_0 _ _ _ ls (by have : ((0 : Int32).toInt) = 0 := (by decide); omega) (by have : ((0 : Int32).toInt) = 0 := (by decide); omega) (by omega) (by omega) (by omega) (by omega) (by have : ((0 : Int32).toInt) = 0 := (by decide); omega) (by have : ((0 : Int32).toInt) = 0 := (by decide);  omega) hzfxc10_0_0 tw_fr.rf (dp_ok_cast (by have : ((0 : Int32).toInt) = 0 := (by decide); omega) hzgxc10_0_0) TH hS (lv_sub hl [0, 1, 2, 3, 4] rfl)
      · have hf37 : ¬ (xi4.toInt ≤ y6_3.toInt) := fun q => hc5 ((fa_le _ _).mpr (by  omega))
        refine lv_aload_n hx hb dX10_arrange_14 rfl (lv_at hl 2 rfl) ?_
        refine tw_get (ci := 10) (C := RX10) (T := TX10) (N := 8) hx hb hB cx_inX10 hown hK TH hm1 hk1 rfl ⟨by decide, rfl⟩ 4 (by decide) cw_135 (fun _ h9 => h9) dX10_arrange_15 (fun hv => ?_)
        obtain ⟨xr38, hxr38, hmxr38, hkxr38⟩ : ∃ a : Nat, tw_fv Eg6 a1 4 = .ref a ∧ a ∈ L ∧ kp a = 113 := hv
        rw [hxr38]
        refine lv_iload_n hx hb dX10_arrange_18 rfl (lv_at hl 0 rfl) ?_
        refine lv_iconst (v := 0) hx hb dX10_arrange_19 (by decide) ?_
        refine tw_iast (k := 113) (n := 40) (lo := 0) (hi := 40) hx hb hK TH hS hmxr38 hkxr38 (by decide) rfl (i := y6_3) (x := 0) (vp_in_iff.mpr ⟨by  omega, by  omega⟩) (by have : ((0 : Int32).toInt) = 0 := (by decide); omega) (by have : ((0 : Int32).toInt) = 0 := (by decide); omega) dX10_arrange_20 (fun H locs E39 TH hS hp40 hp41 hp42 => ?_)
        have hst43 : tw_fr kp L [] [113] Eg6 E39 := tw_fr.ast tw_fr.rf (fun _ => hkxr38) hp40 hp41 (by decide)
        have hF := hF.tr hst43 (fun _ h => ⟨h, rfl⟩) (by decide) (by decide)
        have hG6 := hG6.tr hst43 (fun _ h => ⟨h, rfl⟩) (by decide) (by decide)
        have hmf44 : tw_fv E39 a0 0 = .int zfxc2_0_0 := (hst43.1 a0 0 hm0 (by rw [hk0]; decide)).trans hmf3
        have hmf45 : tw_fv E39 a1 0 = .int xi4 := (hst43.1 a1 0 hm1 (by rw [hk1]; decide)).trans hxi4
        have hmf46 : tw_fv E39 a1 4 = .ref xr38 := (hst43.1 a1 4 hm1 (by rw [hk1]; decide)).trans hxr38
        obtain ⟨zi47, ezi47⟩ : ∃ z : Int32, z = y6_3 + Int32.ofInt 1 := ⟨_, rfl⟩
        have hzi47 : zi47.toInt = y6_3.toInt + 1 := by rw [ezi47]; have : ((Int32.ofInt 1).toInt) = 1 := (by decide);  exact (ia_add (by omega) (by omega)).trans (by omega)
        refine lv_iinc (v := zi47) (lv' := [(3, .int zi47), (0, .ref a0), (1, .ref a1), (2, .ref a2)]) hx hb dX10_arrange_21 hl (k := 0) rfl ezi47.symm (by decide) rfl (fun ls hl => ?_)
        refine lv_goto (tgt := 6) hx hb dX10_arrange_24 (by decide) ?_
        exact ih6 (n6 - 1) (by   omega) zi47 _ _ _ ls (by omega) (by omega) (by   omega) hG6 TH hS (lv_sub hl [0, 1, 2, 3] rfl)
  exact hJ6 41 (0 : Int32) _ _ _ ls (by have : ((0 : Int32).toInt) = 0 := (by decide); omega) (by have : ((0 : Int32).toInt) = 0 := (by decide); omega) (by have : ((0 : Int32).toInt) = 0 := (by decide);  omega) tw_fr.rf TH hS (lv_sub hl [0, 1, 2, 3] rfl)
set_option maxHeartbeats 4000000 in
set_option maxRecDepth 100000 in
theorem tX2_passOver (l : Launch) (D : va_G) (cs : Nat → ClassId) {kp : Nat → Nat} {L : List Nat} {E : Nat → va_E} (a0 : Nat) (x1 : Int32) (x2 : Int32) (hm0 : a0 ∈ L) (hk0 : kp a0 = 2) (hp1a : 0 ≤ x1.toInt) (hp1b : x1.toInt ≤ 500) (hp2a : 0 ≤ x2.toInt) (hp2b : x2.toInt ≤ 500) (hpre0 : x1.toInt + x2.toInt ≤ 500) (sz : Nat) : Met l yX2_passOver (.code yX2_passOver cX2_passOver 4 none :: cx_big) { frames := 0, cells := 0, slots := 0, locals := 0 } (tw_P D cs kp L E [.ref a0, .int x1, .int x2] sz) (tw_Q D cs kp L (fun v kq Lq Eq => v = none ∧ kp = kq ∧ L = Lq ∧ tw_fr kp L [] [135] E Eq) (va_A (va_pl L E) sz)) 0 0 (va_A (va_pl L E) sz) := by
  refine tw_ofW (by decide) (Nat.le_of_ble_eq_true rfl) ?_
  intro p e s m below meth c A ls hx hb hr hml hB hown hlocks hK hN hA TH hS hl
  have hown : s.vm.findClass "TreeMerge$Grammar" = some m.cls := hown
  have hl : lv_has ls 4 [(0, .ref a0), (1, .int x1), (2, .int x2)] := hl
  obtain ⟨kp0, ekp⟩ : ∃ z, z = kp := ⟨_, rfl⟩
  obtain ⟨L0, eL⟩ : ∃ z, z = L := ⟨_, rfl⟩
  rw [show tw_Q D cs kp L = tw_Q D cs kp0 L0 by rw [ekp, eL]]
  have hex : ∀ a : Nat, a ∈ L0 → a ∈ L ∧ kp a = kp0 a := fun a h => ⟨by rw [← eL]; exact h, by rw [ekp]⟩
  have hF : tw_fr kp L [] [135] E E := tw_fr.rf
  refine lv_iconst (v := 0) hx hb dX2_passOver_0 (by decide) ?_
  refine lv_istore_n (lv' := [(3, .int 0), (0, .ref a0), (1, .int x1), (2, .int x2)]) hx hb dX2_passOver_1 rfl hl (by decide) rfl (fun ls hl => ?_)
  have hJ2 : ∀ (n2 : Nat) (y2_3 : Int32) (Eg2 : Nat → va_E) (H : Heap) (locs : List Loc) (ls : Array Slot), 0 ≤ y2_3.toInt → y2_3.toInt ≤ 500 → 500 - y2_3.toInt ≤ (n2 : Int) → tw_fr kp L [] [135] E Eg2 → tw_H D cs kp L Eg2 A H → va_S A s.heap H locs → lv_has ls 4 [(3, .int y2_3), (0, .ref a0), (1, .int x1), (2, .int x2)] → W p l e { frames := 0, cells := 0, slots := 0, locals := 0 } s m [.ref a0, .int x1, .int x2].toArray below meth c H locs 0 0 (MQ below (tw_Q D cs kp0 L0 (fun v kq Lq Eq => v = none ∧ kp = kq ∧ L = Lq ∧ tw_fr kp L [] [135] E Eq) A) [.ref a0, .int x1, .int x2].toArray s 0 0 A) (F0 m 2 ls []) := by
    intro n2
    induction n2 using Nat.strongRecOn with
    | _ n2 ih2 =>
      intro y2_3 Eg2 H locs ls hy2_3a hy2_3b hmeas2 hG2 TH hS hl
      have hF := hF.tr hG2 (fun _ h => ⟨h, rfl⟩) (by decide) (by decide)
      refine lv_iload_n hx hb dX2_passOver_2 rfl (lv_at hl 0 rfl) ?_
      refine lv_iload_n hx hb dX2_passOver_3 rfl (lv_at hl 3 rfl) ?_
      refine lv_icmp_ge (tgt := 43) hx hb dX2_passOver_4 (by decide) (fun hc1 => ?_) (fun hc1 => ?_)
      · have hf2 : x2.toInt ≤ y2_3.toInt := by have z := (fa_le _ _).mp hc1;  omega
        exact tw_vret hx hb hr hlocks TH hS hex ⟨rfl, rfl, rfl, hF⟩ (Nat.le_of_ble_eq_true rfl) (Nat.le_of_ble_eq_true rfl) dX2_passOver_43
      · have hf3 : ¬ (x2.toInt ≤ y2_3.toInt) := fun q => hc1 ((fa_le _ _).mpr (by  omega))
        refine lv_aload_n hx hb dX2_passOver_7 rfl (lv_at hl 1 rfl) ?_
        refine tw_get (ci := 2) (C := RX2) (T := TX2) (N := 13) hx hb hB cx_inX2 hown hK TH hm0 hk0 rfl ⟨by decide, rfl⟩ 12 (by decide) cw_82 (fun _ h9 => h9) dX2_passOver_8 (fun hv => ?_)
        obtain ⟨xr4, hxr4, hmxr4, hkxr4⟩ : ∃ a : Nat, tw_fv Eg2 a0 12 = .ref a ∧ a ∈ L ∧ kp a = 135 := hv
        rw [hxr4]
        refine lv_iload_n hx hb dX2_passOver_11 rfl (lv_at hl 0 rfl) ?_
        refine tw_iald (k := 135) (t0 := 0) (n := 501) (lo := 0) (hi := 1) hx hb hK TH hmxr4 hkxr4 (by decide) rfl rfl (i := y2_3) (vp_in_iff.mpr ⟨by  omega, by  omega⟩) dX2_passOver_12 (fun hxe5a hxe5b => ?_)
        obtain ⟨xe5, exe5⟩ : ∃ z : Int32, tw_iv Eg2 xr4 (Int32.toNatClampNeg y2_3) = z := ⟨_, rfl⟩
        rw [exe5] at hxe5a hxe5b ⊢
        refine lv_iconst (v := 1) hx hb dX2_passOver_13 (by decide) ?_
        have hJ37 : ∀  (Eg37 : Nat → va_E) (H : Heap) (locs : List Loc) (ls : Array Slot), tw_fr kp L [] [135] Eg2 Eg37 → tw_H D cs kp L Eg37 A H → va_S A s.heap H locs → lv_has ls 4 [(3, .int y2_3), (0, .ref a0), (1, .int x1), (2, .int x2)] → W p l e { frames := 0, cells := 0, slots := 0, locals := 0 } s m [.ref a0, .int x1, .int x2].toArray below meth c H locs 0 0 (MQ below (tw_Q D cs kp0 L0 (fun v kq Lq Eq => v = none ∧ kp = kq ∧ L = Lq ∧ tw_fr kp L [] [135] E Eq) A) [.ref a0, .int x1, .int x2].toArray s 0 0 A) (F0 m 37 ls []) := by
          intro Eg37 H locs ls hG37 TH hS hl
          have hF := hF.tr hG37 (fun _ h => ⟨h, rfl⟩) (by decide) (by decide)
          have hG2 := hG2.tr hG37 (fun _ h => ⟨h, rfl⟩) (by decide) (by decide)
          have hmf6 : tw_fv Eg37 a0 12 = .ref xr4 := (hG37.1 a0 12 hm0 (by rw [hk0]; decide)).trans hxr4
          obtain ⟨zi7, ezi7⟩ : ∃ z : Int32, z = y2_3 + Int32.ofInt 1 := ⟨_, rfl⟩
          have hzi7 : zi7.toInt = y2_3.toInt + 1 := by rw [ezi7]; have : ((Int32.ofInt 1).toInt) = 1 := (by decide);  exact (ia_add (by omega) (by omega)).trans (by omega)
          refine lv_iinc (v := zi7) (lv' := [(3, .int zi7), (0, .ref a0), (1, .int x1), (2, .int x2)]) hx hb dX2_passOver_37 hl (k := 0) rfl ezi7.symm (by decide) rfl (fun ls hl => ?_)
          refine lv_goto (tgt := 2) hx hb dX2_passOver_40 (by decide) ?_
          exact ih2 (n2 - 1) (by   omega) zi7 _ _ _ ls (by omega) (by omega) (by   omega) hG2 TH hS (lv_sub hl [0, 1, 2, 3] rfl)
        have hG37 : tw_fr kp L [] [135] Eg2 Eg2 := tw_fr.rf
        refine lv_icmp_ne (tgt := 37) hx hb dX2_passOver_14 (by decide) (fun hc8 => ?_) (fun hc8 => ?_)
        · have hf9 : ¬ (xe5.toInt = 1) := fun q => hc8 ((fa_eq _ _).mpr (by have : ((1 : Int32).toInt) = 1 := (by decide); omega))
          exact hJ37  _ _ _ ls hG37 TH hS (lv_sub hl [0, 1, 2, 3] rfl)
        · have hf10 : xe5.toInt = 1 := by have z := (fa_eq _ _).mp hc8; have : ((1 : Int32).toInt) = 1 := (by decide); omega
          refine lv_aload_n hx hb dX2_passOver_17 rfl (lv_at hl 1 rfl) ?_
          refine tw_get (ci := 2) (C := RX2) (T := TX2) (N := 13) hx hb hB cx_inX2 hown hK TH hm0 hk0 rfl ⟨by decide, rfl⟩ 11 (by decide) cw_81 (fun _ h9 => h9) dX2_passOver_18 (fun hv => ?_)
          obtain ⟨xr11, hxr11, hmxr11, hkxr11⟩ : ∃ a : Nat, tw_fv Eg2 a0 11 = .ref a ∧ a ∈ L ∧ kp a = 134 := hv
          rw [hxr11]
          refine lv_iload_n hx hb dX2_passOver_21 rfl (lv_at hl 2 rfl) ?_
          refine lv_iload_n hx hb dX2_passOver_22 rfl (lv_at hl 0 rfl) ?_
          refine lv_iadd hx hb dX2_passOver_23 ?_
          refine lv_topi (fun zi12 ezi12 => ?_)
          have hzi12 : zi12.toInt = x1.toInt + y2_3.toInt := by rw [ezi12];  have := ia_lo x1; have := ia_hi x1; have := ia_lo y2_3; have := ia_hi y2_3; exact (ia_add (by omega) (by omega)).trans (by omega)
          refine tw_iald (k := 134) (t0 := 0) (n := 500) (lo := 0) (hi := 255) hx hb hK TH hmxr11 hkxr11 (by decide) rfl rfl (i := zi12) (vp_in_iff.mpr ⟨by  omega, by  omega⟩) dX2_passOver_24 (fun hxe13a hxe13b => ?_)
          obtain ⟨xe13, exe13⟩ : ∃ z : Int32, tw_iv Eg2 xr11 (Int32.toNatClampNeg zi12) = z := ⟨_, rfl⟩
          rw [exe13] at hxe13a hxe13b ⊢
          refine lv_if_eq (tgt := 37) hx hb dX2_passOver_25 (by decide) (fun hc14 => ?_) (fun hc14 => ?_)
          · have hf15 : xe13.toInt = 0 := by have z := (fa_eq _ _).mp hc14; have : ((0 : Int32).toInt) = 0 := (by decide); omega
            exact hJ37  _ _ _ ls hG37 TH hS (lv_sub hl [0, 1, 2, 3] rfl)
          · have hf16 : ¬ (xe13.toInt = 0) := fun q => hc14 ((fa_eq _ _).mpr (by have : ((0 : Int32).toInt) = 0 := (by decide); omega))
            refine lv_aload_n hx hb dX2_passOver_28 rfl (lv_at hl 1 rfl) ?_
            refine tw_get (ci := 2) (C := RX2) (T := TX2) (N := 13) hx hb hB cx_inX2 hown hK TH hm0 hk0 rfl ⟨by decide, rfl⟩ 12 (by decide) cw_82 (fun _ h9 => h9) dX2_passOver_29 (fun hv => ?_)
            rw [hxr4]
            refine lv_iload_n hx hb dX2_passOver_32 rfl (lv_at hl 0 rfl) ?_
            refine lv_iconst (v := 1) hx hb dX2_passOver_33 (by decide) ?_
            refine lv_iadd hx hb dX2_passOver_34 ?_
            refine lv_topi (fun zi17 ezi17 => ?_)
            have hzi17 : zi17.toInt = y2_3.toInt + 1 := by rw [ezi17]; have : ((1 : Int32).toInt) = 1 := (by decide); have := ia_lo y2_3; have := ia_hi y2_3; exact (ia_add (by omega) (by omega)).trans (by omega)
            refine lv_iconst (v := 1) hx hb dX2_passOver_35 (by decide) ?_
            refine tw_iast (k := 135) (n := 501) (lo := 0) (hi := 1) hx hb hK TH hS hmxr4 hkxr4 (by decide) rfl (i := zi17) (x := 1) (vp_in_iff.mpr ⟨by  omega, by  omega⟩) (by have : ((1 : Int32).toInt) = 1 := (by decide); omega) (by have : ((1 : Int32).toInt) = 1 := (by decide); omega) dX2_passOver_36 (fun H locs E18 TH hS hp19 hp20 hp21 => ?_)
            have hst22 : tw_fr kp L [] [135] Eg2 E18 := tw_fr.ast tw_fr.rf (fun _ => hkxr4) hp19 hp20 (by decide)
            have hF := hF.tr hst22 (fun _ h => ⟨h, rfl⟩) (by decide) (by decide)
            have hG2 := hG2.tr hst22 (fun _ h => ⟨h, rfl⟩) (by decide) (by decide)
            have hG37 := hG37.tr hst22 (fun _ h => ⟨h, rfl⟩) (by decide) (by decide)
            have hmf23 : tw_fv E18 a0 12 = .ref xr4 := (hst22.1 a0 12 hm0 (by rw [hk0]; decide)).trans hxr4
            have hmf24 : tw_fv E18 a0 11 = .ref xr11 := (hst22.1 a0 11 hm0 (by rw [hk0]; decide)).trans hxr11
            exact hJ37  _ _ _ ls hG37 TH hS (lv_sub hl [0, 1, 2, 3] rfl)
  exact hJ2 501 (0 : Int32) _ _ _ ls (by have : ((0 : Int32).toInt) = 0 := (by decide); omega) (by have : ((0 : Int32).toInt) = 0 := (by decide); omega) (by have : ((0 : Int32).toInt) = 0 := (by decide);  omega) tw_fr.rf TH hS (lv_sub hl [0, 1, 2, 3] rfl)
set_option maxHeartbeats 4000000 in
set_option maxRecDepth 100000 in
theorem tX2_step (l : Launch) (D : va_G) (cs : Nat → ClassId) {kp : Nat → Nat} {L : List Nat} {E : Nat → va_E} (a0 : Nat) (x1 : Int32) (x2 : Int32) (x3 : Int32) (hm0 : a0 ∈ L) (hk0 : kp a0 = 2) (hp1a : 0 ≤ x1.toInt) (hp1b : x1.toInt ≤ 500) (hp2a : 0 ≤ x2.toInt) (hp2b : x2.toInt ≤ 500) (hpre0 : x1.toInt + x2.toInt ≤ 500) (sz : Nat) : Met l yX2_step (.code yX2_step cX2_step 7 none :: cx_big) { frames := 0, cells := 0, slots := 0, locals := 0 } (tw_P D cs kp L E [.ref a0, .int x1, .int x2, .int x3] sz) (tw_Q D cs kp L (fun v kq Lq Eq => v = none ∧ kp = kq ∧ L = Lq ∧ tw_fr kp L [] [135] E Eq) (va_A (va_pl L E) sz)) 0 0 (va_A (va_pl L E) sz) := by
  refine tw_ofW (by decide) (Nat.le_of_ble_eq_true rfl) ?_
  intro p e s m below meth c A ls hx hb hr hml hB hown hlocks hK hN hA TH hS hl
  have hown : s.vm.findClass "TreeMerge$Grammar" = some m.cls := hown
  have hl : lv_has ls 7 [(0, .ref a0), (1, .int x1), (2, .int x2), (3, .int x3)] := hl
  obtain ⟨kp0, ekp⟩ : ∃ z, z = kp := ⟨_, rfl⟩
  obtain ⟨L0, eL⟩ : ∃ z, z = L := ⟨_, rfl⟩
  rw [show tw_Q D cs kp L = tw_Q D cs kp0 L0 by rw [ekp, eL]]
  have hex : ∀ a : Nat, a ∈ L0 → a ∈ L ∧ kp a = kp0 a := fun a h => ⟨by rw [← eL]; exact h, by rw [ekp]⟩
  have hF : tw_fr kp L [] [135] E E := tw_fr.rf
  refine lv_iload_n hx hb dX2_step_0 rfl (lv_at hl 2 rfl) ?_
  refine lv_istore (lv' := [(4, .int x2), (0, .ref a0), (1, .int x1), (2, .int x2), (3, .int x3)]) hx hb dX2_step_1 hl (by decide) rfl (fun ls hl => ?_)
  have hJ3 : ∀ (n3 : Nat) (y3_4 : Int32) (Eg3 : Nat → va_E) (H : Heap) (locs : List Loc) (ls : Array Slot), (-1) ≤ y3_4.toInt → y3_4.toInt ≤ 500 → (y3_4.toInt ≤ x2.toInt) → y3_4.toInt - (-1) ≤ (n3 : Int) → tw_fr kp L [] [135] E Eg3 → tw_H D cs kp L Eg3 A H → va_S A s.heap H locs → lv_has ls 7 [(4, .int y3_4), (0, .ref a0), (1, .int x1), (2, .int x2), (3, .int x3)] → W p l e { frames := 0, cells := 0, slots := 0, locals := 0 } s m [.ref a0, .int x1, .int x2, .int x3].toArray below meth c H locs 0 0 (MQ below (tw_Q D cs kp0 L0 (fun v kq Lq Eq => v = none ∧ kp = kq ∧ L = Lq ∧ tw_fr kp L [] [135] E Eq) A) [.ref a0, .int x1, .int x2, .int x3].toArray s 0 0 A) (F0 m 3 ls []) := by
    intro n3
    induction n3 using Nat.strongRecOn with
    | _ n3 ih3 =>
      intro y3_4 Eg3 H locs ls hy3_4a hy3_4b hin3_0 hmeas3 hG3 TH hS hl
      have hF := hF.tr hG3 (fun _ h => ⟨h, rfl⟩) (by decide) (by decide)
      refine lv_iload hx hb dX2_step_3 (lv_at hl 0 rfl) ?_
      refine lv_if_lt (tgt := 143) hx hb dX2_step_5 (by decide) (fun hc1 => ?_) (fun hc1 => ?_)
      · have hf2 : y3_4.toInt < 0 := by have z := (fa_lt _ _).mp hc1; have : ((0 : Int32).toInt) = 0 := (by decide); omega
        exact tw_vret hx hb hr hlocks TH hS hex ⟨rfl, rfl, rfl, hF⟩ (Nat.le_of_ble_eq_true rfl) (Nat.le_of_ble_eq_true rfl) dX2_step_143
      · have hf3 : ¬ (y3_4.toInt < 0) := fun q => hc1 ((fa_lt _ _).mpr (by have : ((0 : Int32).toInt) = 0 := (by decide); omega))
        refine lv_iload hx hb dX2_step_8 (lv_at hl 0 rfl) ?_
        refine lv_iload_n hx hb dX2_step_10 rfl (lv_at hl 3 rfl) ?_
        have hJ57 : ∀ (z57_0 : Int32) (H : Heap) (locs : List Loc) (ls : Array Slot), 0 ≤ z57_0.toInt → z57_0.toInt ≤ 1 → tw_H D cs kp L Eg3 A H → va_S A s.heap H locs → lv_has ls 7 [(4, .int y3_4), (0, .ref a0), (1, .int x1), (2, .int x2), (3, .int x3)] → W p l e { frames := 0, cells := 0, slots := 0, locals := 0 } s m [.ref a0, .int x1, .int x2, .int x3].toArray below meth c H locs 0 0 (MQ below (tw_Q D cs kp0 L0 (fun v kq Lq Eq => v = none ∧ kp = kq ∧ L = Lq ∧ tw_fr kp L [] [135] E Eq) A) [.ref a0, .int x1, .int x2, .int x3].toArray s 0 0 A) (F0 m 57 ls [.int z57_0]) := by
          intro z57_0 H locs ls hz57_0a hz57_0b TH hS hl
          refine lv_istore (lv' := [(5, .int z57_0), (4, .int y3_4), (0, .ref a0), (1, .int x1), (2, .int x2), (3, .int x3)]) hx hb dX2_step_57 hl (by decide) rfl (fun ls hl => ?_)
          refine lv_iload hx hb dX2_step_59 (lv_at hl 1 rfl) ?_
          have hJ113 : ∀ (z113_0 : Int32) (H : Heap) (locs : List Loc) (ls : Array Slot), 0 ≤ z113_0.toInt → z113_0.toInt ≤ 1 → tw_H D cs kp L Eg3 A H → va_S A s.heap H locs → lv_has ls 7 [(5, .int z57_0), (4, .int y3_4), (0, .ref a0), (1, .int x1), (2, .int x2), (3, .int x3)] → W p l e { frames := 0, cells := 0, slots := 0, locals := 0 } s m [.ref a0, .int x1, .int x2, .int x3].toArray below meth c H locs 0 0 (MQ below (tw_Q D cs kp0 L0 (fun v kq Lq Eq => v = none ∧ kp = kq ∧ L = Lq ∧ tw_fr kp L [] [135] E Eq) A) [.ref a0, .int x1, .int x2, .int x3].toArray s 0 0 A) (F0 m 113 ls [.int z113_0]) := by
            intro z113_0 H locs ls hz113_0a hz113_0b TH hS hl
            refine lv_istore (lv' := [(6, .int z113_0), (5, .int z57_0), (4, .int y3_4), (0, .ref a0), (1, .int x1), (2, .int x2), (3, .int x3)]) hx hb dX2_step_113 hl (by decide) rfl (fun ls hl => ?_)
            refine lv_aload_n hx hb dX2_step_115 rfl (lv_at hl 3 rfl) ?_
            refine tw_get (ci := 2) (C := RX2) (T := TX2) (N := 13) hx hb hB cx_inX2 hown hK TH hm0 hk0 rfl ⟨by decide, rfl⟩ 12 (by decide) cw_82 (fun _ h9 => h9) dX2_step_116 (fun hv => ?_)
            obtain ⟨xr4, hxr4, hmxr4, hkxr4⟩ : ∃ a : Nat, tw_fv Eg3 a0 12 = .ref a ∧ a ∈ L ∧ kp a = 135 := hv
            rw [hxr4]
            refine lv_iload hx hb dX2_step_119 (lv_at hl 2 rfl) ?_
            refine lv_iload hx hb dX2_step_121 (lv_at hl 1 rfl) ?_
            have hJ136 : ∀ (z136_0 : Int32) (H : Heap) (locs : List Loc) (ls : Array Slot), 0 ≤ z136_0.toInt → z136_0.toInt ≤ 1 → tw_H D cs kp L Eg3 A H → va_S A s.heap H locs → lv_has ls 7 [(4, .int y3_4), (0, .ref a0), (1, .int x1), (2, .int x2), (3, .int x3)] → W p l e { frames := 0, cells := 0, slots := 0, locals := 0 } s m [.ref a0, .int x1, .int x2, .int x3].toArray below meth c H locs 0 0 (MQ below (tw_Q D cs kp0 L0 (fun v kq Lq Eq => v = none ∧ kp = kq ∧ L = Lq ∧ tw_fr kp L [] [135] E Eq) A) [.ref a0, .int x1, .int x2, .int x3].toArray s 0 0 A) (F0 m 136 ls [.int z136_0, .int y3_4, .ref xr4]) := by
              intro z136_0 H locs ls hz136_0a hz136_0b TH hS hl
              refine tw_iast (k := 135) (n := 501) (lo := 0) (hi := 1) hx hb hK TH hS hmxr4 hkxr4 (by decide) rfl (i := y3_4) (x := z136_0) (vp_in_iff.mpr ⟨by  omega, by  omega⟩) (by omega) (by omega) dX2_step_136 (fun H locs E5 TH hS hp6 hp7 hp8 => ?_)
              have hst9 : tw_fr kp L [] [135] Eg3 E5 := tw_fr.ast tw_fr.rf (fun _ => hkxr4) hp6 hp7 (by decide)
              have hF := hF.tr hst9 (fun _ h => ⟨h, rfl⟩) (by decide) (by decide)
              have hG3 := hG3.tr hst9 (fun _ h => ⟨h, rfl⟩) (by decide) (by decide)
              have hmf10 : tw_fv E5 a0 12 = .ref xr4 := (hst9.1 a0 12 hm0 (by rw [hk0]; decide)).trans hxr4
              obtain ⟨zi11, ezi11⟩ : ∃ z : Int32, z = y3_4 + Int32.ofInt (-1) := ⟨_, rfl⟩
              have hzi11 : zi11.toInt = y3_4.toInt + (-1) := by rw [ezi11]; have : ((Int32.ofInt (-1)).toInt) = (-1) := (by decide);  exact (ia_add (by omega) (by omega)).trans (by omega)
              refine lv_iinc (v := zi11) (lv' := [(4, .int zi11), (0, .ref a0), (1, .int x1), (2, .int x2), (3, .int x3)]) hx hb dX2_step_137 hl (k := 0) rfl ezi11.symm (by decide) rfl (fun ls hl => ?_)
              refine lv_goto (tgt := 3) hx hb dX2_step_140 (by decide) ?_
              exact ih3 (n3 - 1) (by   omega) zi11 _ _ _ ls (by omega) (by omega) (by  omega) (by   omega) hG3 TH hS (lv_sub hl [0, 1, 2, 3, 4] rfl)
            have hJ131 : ∀  (H : Heap) (locs : List Loc) (ls : Array Slot), tw_H D cs kp L Eg3 A H → va_S A s.heap H locs → lv_has ls 7 [(4, .int y3_4), (0, .ref a0), (1, .int x1), (2, .int x2), (3, .int x3)] → W p l e { frames := 0, cells := 0, slots := 0, locals := 0 } s m [.ref a0, .int x1, .int x2, .int x3].toArray below meth c H locs 0 0 (MQ below (tw_Q D cs kp0 L0 (fun v kq Lq Eq => v = none ∧ kp = kq ∧ L = Lq ∧ tw_fr kp L [] [135] E Eq) A) [.ref a0, .int x1, .int x2, .int x3].toArray s 0 0 A) (F0 m 131 ls [.int y3_4, .ref xr4]) := by
              intro H locs ls TH hS hl
              refine lv_iconst (v := 1) hx hb dX2_step_131 (by decide) ?_
              refine lv_goto (tgt := 136) hx hb dX2_step_132 (by decide) ?_
              exact hJ136 (1 : Int32) _ _ ls (by have : ((1 : Int32).toInt) = 1 := (by decide); omega) (by have : ((1 : Int32).toInt) = 1 := (by decide); omega) TH hS (lv_sub hl [0, 1, 2, 3, 4] rfl)
            refine lv_if_ne (tgt := 131) hx hb dX2_step_123 (by decide) (fun hc12 => ?_) (fun hc12 => ?_)
            · have hf13 : ¬ (z57_0.toInt = 0) := fun q => hc12 ((fa_eq _ _).mpr (by have : ((0 : Int32).toInt) = 0 := (by decide); omega))
              exact hJ131  _ _ ls  TH hS (lv_sub hl [2, 3, 4, 5, 6] rfl)
            · have hf14 : z57_0.toInt = 0 := by have z := (fa_eq _ _).mp hc12; have : ((0 : Int32).toInt) = 0 := (by decide); omega
              refine lv_iload hx hb dX2_step_126 (lv_at hl 0 rfl) ?_
              refine lv_if_eq (tgt := 135) hx hb dX2_step_128 (by decide) (fun hc15 => ?_) (fun hc15 => ?_)
              · have hf16 : z113_0.toInt = 0 := by have z := (fa_eq _ _).mp hc15; have : ((0 : Int32).toInt) = 0 := (by decide); omega
                refine lv_iconst (v := 0) hx hb dX2_step_135 (by decide) ?_
                exact hJ136 (0 : Int32) _ _ ls (by have : ((0 : Int32).toInt) = 0 := (by decide); omega) (by have : ((0 : Int32).toInt) = 0 := (by decide); omega) TH hS (lv_sub hl [2, 3, 4, 5, 6] rfl)
              · have hf17 : ¬ (z113_0.toInt = 0) := fun q => hc15 ((fa_eq _ _).mpr (by have : ((0 : Int32).toInt) = 0 := (by decide); omega))
                exact hJ131  _ _ ls  TH hS (lv_sub hl [2, 3, 4, 5, 6] rfl)
          have hJ112 : ∀  (H : Heap) (locs : List Loc) (ls : Array Slot), tw_H D cs kp L Eg3 A H → va_S A s.heap H locs → lv_has ls 7 [(5, .int z57_0), (4, .int y3_4), (0, .ref a0), (1, .int x1), (2, .int x2), (3, .int x3)] → W p l e { frames := 0, cells := 0, slots := 0, locals := 0 } s m [.ref a0, .int x1, .int x2, .int x3].toArray below meth c H locs 0 0 (MQ below (tw_Q D cs kp0 L0 (fun v kq Lq Eq => v = none ∧ kp = kq ∧ L = Lq ∧ tw_fr kp L [] [135] E Eq) A) [.ref a0, .int x1, .int x2, .int x3].toArray s 0 0 A) (F0 m 112 ls []) := by
            intro H locs ls TH hS hl
            refine lv_iconst (v := 0) hx hb dX2_step_112 (by decide) ?_
            exact hJ113 (0 : Int32) _ _ ls (by have : ((0 : Int32).toInt) = 0 := (by decide); omega) (by have : ((0 : Int32).toInt) = 0 := (by decide); omega) TH hS (lv_sub hl [0, 1, 2, 3, 4, 5] rfl)
          refine lv_if_le (tgt := 112) hx hb dX2_step_61 (by decide) (fun hc18 => ?_) (fun hc18 => ?_)
          · have hf19 : y3_4.toInt ≤ 0 := by have z := (fa_le _ _).mp hc18; have : ((0 : Int32).toInt) = 0 := (by decide); omega
            exact hJ112  _ _ ls  TH hS (lv_sub hl [0, 1, 2, 3, 4, 5] rfl)
          · have hf20 : ¬ (y3_4.toInt ≤ 0) := fun q => hc18 ((fa_le _ _).mpr (by have : ((0 : Int32).toInt) = 0 := (by decide); omega))
            refine lv_aload_n hx hb dX2_step_64 rfl (lv_at hl 2 rfl) ?_
            refine tw_get (ci := 2) (C := RX2) (T := TX2) (N := 13) hx hb hB cx_inX2 hown hK TH hm0 hk0 rfl ⟨by decide, rfl⟩ 12 (by decide) cw_82 (fun _ h9 => h9) dX2_step_65 (fun hv => ?_)
            obtain ⟨xr21, hxr21, hmxr21, hkxr21⟩ : ∃ a : Nat, tw_fv Eg3 a0 12 = .ref a ∧ a ∈ L ∧ kp a = 135 := hv
            rw [hxr21]
            refine lv_iload hx hb dX2_step_68 (lv_at hl 1 rfl) ?_
            refine lv_iconst (v := 1) hx hb dX2_step_70 (by decide) ?_
            refine lv_isub hx hb dX2_step_71 ?_
            refine lv_topi (fun zi22 ezi22 => ?_)
            have hzi22 : zi22.toInt = y3_4.toInt - 1 := by rw [ezi22]; have : ((1 : Int32).toInt) = 1 := (by decide); have := ia_lo y3_4; have := ia_hi y3_4; exact (ia_sub (by omega) (by omega)).trans (by omega)
            refine tw_iald (k := 135) (t0 := 0) (n := 501) (lo := 0) (hi := 1) hx hb hK TH hmxr21 hkxr21 (by decide) rfl rfl (i := zi22) (vp_in_iff.mpr ⟨by  omega, by  omega⟩) dX2_step_72 (fun hxe23a hxe23b => ?_)
            obtain ⟨xe23, exe23⟩ : ∃ z : Int32, tw_iv Eg3 xr21 (Int32.toNatClampNeg zi22) = z := ⟨_, rfl⟩
            rw [exe23] at hxe23a hxe23b ⊢
            refine lv_iconst (v := 1) hx hb dX2_step_73 (by decide) ?_
            refine lv_icmp_ne (tgt := 112) hx hb dX2_step_74 (by decide) (fun hc24 => ?_) (fun hc24 => ?_)
            · have hf25 : ¬ (xe23.toInt = 1) := fun q => hc24 ((fa_eq _ _).mpr (by have : ((1 : Int32).toInt) = 1 := (by decide); omega))
              exact hJ112  _ _ ls  TH hS (lv_sub hl [0, 1, 2, 3, 4, 5] rfl)
            · have hf26 : xe23.toInt = 1 := by have z := (fa_eq _ _).mp hc24; have : ((1 : Int32).toInt) = 1 := (by decide); omega
              refine lv_aload_n hx hb dX2_step_77 rfl (lv_at hl 2 rfl) ?_
              refine tw_get (ci := 2) (C := RX2) (T := TX2) (N := 13) hx hb hB cx_inX2 hown hK TH hm0 hk0 rfl ⟨by decide, rfl⟩ 11 (by decide) cw_81 (fun _ h9 => h9) dX2_step_78 (fun hv => ?_)
              obtain ⟨xr27, hxr27, hmxr27, hkxr27⟩ : ∃ a : Nat, tw_fv Eg3 a0 11 = .ref a ∧ a ∈ L ∧ kp a = 134 := hv
              rw [hxr27]
              refine lv_iload_n hx hb dX2_step_81 rfl (lv_at hl 3 rfl) ?_
              refine lv_iload hx hb dX2_step_82 (lv_at hl 1 rfl) ?_
              refine lv_iadd hx hb dX2_step_84 ?_
              refine lv_topi (fun zi28 ezi28 => ?_)
              have hzi28 : zi28.toInt = x1.toInt + y3_4.toInt := by rw [ezi28];  have := ia_lo x1; have := ia_hi x1; have := ia_lo y3_4; have := ia_hi y3_4; exact (ia_add (by omega) (by omega)).trans (by omega)
              refine lv_iconst (v := 1) hx hb dX2_step_85 (by decide) ?_
              refine lv_isub hx hb dX2_step_86 ?_
              refine lv_topi (fun zi29 ezi29 => ?_)
              have hzi29 : zi29.toInt = zi28.toInt - 1 := by rw [ezi29]; have : ((1 : Int32).toInt) = 1 := (by decide); have := ia_lo zi28; have := ia_hi zi28; exact (ia_sub (by omega) (by omega)).trans (by omega)
              refine tw_iald (k := 134) (t0 := 0) (n := 500) (lo := 0) (hi := 255) hx hb hK TH hmxr27 hkxr27 (by decide) rfl rfl (i := zi29) (vp_in_iff.mpr ⟨by  omega, by  omega⟩) dX2_step_87 (fun hxe30a hxe30b => ?_)
              obtain ⟨xe30, exe30⟩ : ∃ z : Int32, tw_iv Eg3 xr27 (Int32.toNatClampNeg zi29) = z := ⟨_, rfl⟩
              rw [exe30] at hxe30a hxe30b ⊢
              refine lv_bipush (v := 42) hx hb dX2_step_88 (by decide) ?_
              refine lv_icmp_eq (tgt := 112) hx hb dX2_step_90 (by decide) (fun hc31 => ?_) (fun hc31 => ?_)
              · have hf32 : xe30.toInt = 42 := by have z := (fa_eq _ _).mp hc31; have : ((42 : Int32).toInt) = 42 := (by decide); omega
                exact hJ112  _ _ ls  TH hS (lv_sub hl [0, 1, 2, 3, 4, 5] rfl)
              · have hf33 : ¬ (xe30.toInt = 42) := fun q => hc31 ((fa_eq _ _).mpr (by have : ((42 : Int32).toInt) = 42 := (by decide); omega))
                refine lv_aload_n hx hb dX2_step_93 rfl (lv_at hl 2 rfl) ?_
                refine tw_get (ci := 2) (C := RX2) (T := TX2) (N := 13) hx hb hB cx_inX2 hown hK TH hm0 hk0 rfl ⟨by decide, rfl⟩ 10 (by decide) cw_80 (fun _ h9 => h9) dX2_step_94 (fun hv => ?_)
                obtain ⟨xr34, hxr34, hmxr34, hkxr34⟩ : ∃ a : Nat, tw_fv Eg3 a0 10 = .ref a ∧ a ∈ L ∧ kp a = 133 := hv
                rw [hxr34]
                refine lv_iload_n hx hb dX2_step_97 rfl (lv_at hl 3 rfl) ?_
                refine lv_iload hx hb dX2_step_98 (lv_at hl 1 rfl) ?_
                refine lv_iadd hx hb dX2_step_100 ?_
                refine lv_topi (fun zi35 ezi35 => ?_)
                have hzi35 : zi35.toInt = x1.toInt + y3_4.toInt := by rw [ezi35];  have := ia_lo x1; have := ia_hi x1; have := ia_lo y3_4; have := ia_hi y3_4; exact (ia_add (by omega) (by omega)).trans (by omega)
                refine lv_iconst (v := 1) hx hb dX2_step_101 (by decide) ?_
                refine lv_isub hx hb dX2_step_102 ?_
                refine lv_topi (fun zi36 ezi36 => ?_)
                have hzi36 : zi36.toInt = zi35.toInt - 1 := by rw [ezi36]; have : ((1 : Int32).toInt) = 1 := (by decide); have := ia_lo zi35; have := ia_hi zi35; exact (ia_sub (by omega) (by omega)).trans (by omega)
                refine tw_iald (k := 133) (t0 := 0) (n := 500) (lo := (-1)) (hi := 9) hx hb hK TH hmxr34 hkxr34 (by decide) rfl rfl (i := zi36) (vp_in_iff.mpr ⟨by  omega, by  omega⟩) dX2_step_103 (fun hxe37a hxe37b => ?_)
                obtain ⟨xe37, exe37⟩ : ∃ z : Int32, tw_iv Eg3 xr34 (Int32.toNatClampNeg zi36) = z := ⟨_, rfl⟩
                rw [exe37] at hxe37a hxe37b ⊢
                refine lv_iload_n hx hb dX2_step_104 rfl (lv_at hl 5 rfl) ?_
                refine lv_icmp_ne (tgt := 112) hx hb dX2_step_105 (by decide) (fun hc38 => ?_) (fun hc38 => ?_)
                · have hf39 : ¬ (xe37.toInt = x3.toInt) := fun q => hc38 ((fa_eq _ _).mpr (by  omega))
                  exact hJ112  _ _ ls  TH hS (lv_sub hl [0, 1, 2, 3, 4, 5] rfl)
                · have hf40 : xe37.toInt = x3.toInt := by have z := (fa_eq _ _).mp hc38;  omega
                  refine lv_iconst (v := 1) hx hb dX2_step_108 (by decide) ?_
                  refine lv_goto (tgt := 113) hx hb dX2_step_109 (by decide) ?_
                  exact hJ113 (1 : Int32) _ _ ls (by have : ((1 : Int32).toInt) = 1 := (by decide); omega) (by have : ((1 : Int32).toInt) = 1 := (by decide); omega) TH hS (lv_sub hl [0, 1, 2, 3, 4, 5] rfl)
        have hJ56 : ∀  (H : Heap) (locs : List Loc) (ls : Array Slot), tw_H D cs kp L Eg3 A H → va_S A s.heap H locs → lv_has ls 7 [(4, .int y3_4), (0, .ref a0), (1, .int x1), (2, .int x2), (3, .int x3)] → W p l e { frames := 0, cells := 0, slots := 0, locals := 0 } s m [.ref a0, .int x1, .int x2, .int x3].toArray below meth c H locs 0 0 (MQ below (tw_Q D cs kp0 L0 (fun v kq Lq Eq => v = none ∧ kp = kq ∧ L = Lq ∧ tw_fr kp L [] [135] E Eq) A) [.ref a0, .int x1, .int x2, .int x3].toArray s 0 0 A) (F0 m 56 ls []) := by
          intro H locs ls TH hS hl
          refine lv_iconst (v := 0) hx hb dX2_step_56 (by decide) ?_
          exact hJ57 (0 : Int32) _ _ ls (by have : ((0 : Int32).toInt) = 0 := (by decide); omega) (by have : ((0 : Int32).toInt) = 0 := (by decide); omega) TH hS (lv_sub hl [0, 1, 2, 3, 4] rfl)
        refine lv_icmp_ge (tgt := 56) hx hb dX2_step_11 (by decide) (fun hc41 => ?_) (fun hc41 => ?_)
        · have hf42 : x2.toInt ≤ y3_4.toInt := by have z := (fa_le _ _).mp hc41;  omega
          exact hJ56  _ _ ls  TH hS (lv_sub hl [0, 1, 2, 3, 4] rfl)
        · have hf43 : ¬ (x2.toInt ≤ y3_4.toInt) := fun q => hc41 ((fa_le _ _).mpr (by  omega))
          refine lv_aload_n hx hb dX2_step_14 rfl (lv_at hl 1 rfl) ?_
          refine tw_get (ci := 2) (C := RX2) (T := TX2) (N := 13) hx hb hB cx_inX2 hown hK TH hm0 hk0 rfl ⟨by decide, rfl⟩ 12 (by decide) cw_82 (fun _ h9 => h9) dX2_step_15 (fun hv => ?_)
          obtain ⟨xr44, hxr44, hmxr44, hkxr44⟩ : ∃ a : Nat, tw_fv Eg3 a0 12 = .ref a ∧ a ∈ L ∧ kp a = 135 := hv
          rw [hxr44]
          refine lv_iload hx hb dX2_step_18 (lv_at hl 0 rfl) ?_
          refine tw_iald (k := 135) (t0 := 0) (n := 501) (lo := 0) (hi := 1) hx hb hK TH hmxr44 hkxr44 (by decide) rfl rfl (i := y3_4) (vp_in_iff.mpr ⟨by  omega, by  omega⟩) dX2_step_20 (fun hxe45a hxe45b => ?_)
          obtain ⟨xe45, exe45⟩ : ∃ z : Int32, tw_iv Eg3 xr44 (Int32.toNatClampNeg y3_4) = z := ⟨_, rfl⟩
          rw [exe45] at hxe45a hxe45b ⊢
          refine lv_iconst (v := 1) hx hb dX2_step_21 (by decide) ?_
          refine lv_icmp_ne (tgt := 56) hx hb dX2_step_22 (by decide) (fun hc46 => ?_) (fun hc46 => ?_)
          · have hf47 : ¬ (xe45.toInt = 1) := fun q => hc46 ((fa_eq _ _).mpr (by have : ((1 : Int32).toInt) = 1 := (by decide); omega))
            exact hJ56  _ _ ls  TH hS (lv_sub hl [0, 1, 2, 3, 4] rfl)
          · have hf48 : xe45.toInt = 1 := by have z := (fa_eq _ _).mp hc46; have : ((1 : Int32).toInt) = 1 := (by decide); omega
            refine lv_aload_n hx hb dX2_step_25 rfl (lv_at hl 1 rfl) ?_
            refine tw_get (ci := 2) (C := RX2) (T := TX2) (N := 13) hx hb hB cx_inX2 hown hK TH hm0 hk0 rfl ⟨by decide, rfl⟩ 11 (by decide) cw_81 (fun _ h9 => h9) dX2_step_26 (fun hv => ?_)
            obtain ⟨xr49, hxr49, hmxr49, hkxr49⟩ : ∃ a : Nat, tw_fv Eg3 a0 11 = .ref a ∧ a ∈ L ∧ kp a = 134 := hv
            rw [hxr49]
            refine lv_iload_n hx hb dX2_step_29 rfl (lv_at hl 2 rfl) ?_
            refine lv_iload hx hb dX2_step_30 (lv_at hl 0 rfl) ?_
            refine lv_iadd hx hb dX2_step_32 ?_
            refine lv_topi (fun zi50 ezi50 => ?_)
            have hzi50 : zi50.toInt = x1.toInt + y3_4.toInt := by rw [ezi50];  have := ia_lo x1; have := ia_hi x1; have := ia_lo y3_4; have := ia_hi y3_4; exact (ia_add (by omega) (by omega)).trans (by omega)
            refine tw_iald (k := 134) (t0 := 0) (n := 500) (lo := 0) (hi := 255) hx hb hK TH hmxr49 hkxr49 (by decide) rfl rfl (i := zi50) (vp_in_iff.mpr ⟨by  omega, by  omega⟩) dX2_step_33 (fun hxe51a hxe51b => ?_)
            obtain ⟨xe51, exe51⟩ : ∃ z : Int32, tw_iv Eg3 xr49 (Int32.toNatClampNeg zi50) = z := ⟨_, rfl⟩
            rw [exe51] at hxe51a hxe51b ⊢
            refine lv_bipush (v := 42) hx hb dX2_step_34 (by decide) ?_
            refine lv_icmp_ne (tgt := 56) hx hb dX2_step_36 (by decide) (fun hc52 => ?_) (fun hc52 => ?_)
            · have hf53 : ¬ (xe51.toInt = 42) := fun q => hc52 ((fa_eq _ _).mpr (by have : ((42 : Int32).toInt) = 42 := (by decide); omega))
              exact hJ56  _ _ ls  TH hS (lv_sub hl [0, 1, 2, 3, 4] rfl)
            · have hf54 : xe51.toInt = 42 := by have z := (fa_eq _ _).mp hc52; have : ((42 : Int32).toInt) = 42 := (by decide); omega
              refine lv_aload_n hx hb dX2_step_39 rfl (lv_at hl 1 rfl) ?_
              refine tw_get (ci := 2) (C := RX2) (T := TX2) (N := 13) hx hb hB cx_inX2 hown hK TH hm0 hk0 rfl ⟨by decide, rfl⟩ 10 (by decide) cw_80 (fun _ h9 => h9) dX2_step_40 (fun hv => ?_)
              obtain ⟨xr55, hxr55, hmxr55, hkxr55⟩ : ∃ a : Nat, tw_fv Eg3 a0 10 = .ref a ∧ a ∈ L ∧ kp a = 133 := hv
              rw [hxr55]
              refine lv_iload_n hx hb dX2_step_43 rfl (lv_at hl 2 rfl) ?_
              refine lv_iload hx hb dX2_step_44 (lv_at hl 0 rfl) ?_
              refine lv_iadd hx hb dX2_step_46 ?_
              refine lv_topi (fun zi56 ezi56 => ?_)
              have hzi56 : zi56.toInt = x1.toInt + y3_4.toInt := by rw [ezi56];  have := ia_lo x1; have := ia_hi x1; have := ia_lo y3_4; have := ia_hi y3_4; exact (ia_add (by omega) (by omega)).trans (by omega)
              refine tw_iald (k := 133) (t0 := 0) (n := 500) (lo := (-1)) (hi := 9) hx hb hK TH hmxr55 hkxr55 (by decide) rfl rfl (i := zi56) (vp_in_iff.mpr ⟨by  omega, by  omega⟩) dX2_step_47 (fun hxe57a hxe57b => ?_)
              obtain ⟨xe57, exe57⟩ : ∃ z : Int32, tw_iv Eg3 xr55 (Int32.toNatClampNeg zi56) = z := ⟨_, rfl⟩
              rw [exe57] at hxe57a hxe57b ⊢
              refine lv_iload_n hx hb dX2_step_48 rfl (lv_at hl 4 rfl) ?_
              refine lv_icmp_ne (tgt := 56) hx hb dX2_step_49 (by decide) (fun hc58 => ?_) (fun hc58 => ?_)
              · have hf59 : ¬ (xe57.toInt = x3.toInt) := fun q => hc58 ((fa_eq _ _).mpr (by  omega))
                exact hJ56  _ _ ls  TH hS (lv_sub hl [0, 1, 2, 3, 4] rfl)
              · have hf60 : xe57.toInt = x3.toInt := by have z := (fa_eq _ _).mp hc58;  omega
                refine lv_iconst (v := 1) hx hb dX2_step_52 (by decide) ?_
                refine lv_goto (tgt := 57) hx hb dX2_step_53 (by decide) ?_
                exact hJ57 (1 : Int32) _ _ ls (by have : ((1 : Int32).toInt) = 1 := (by decide); omega) (by have : ((1 : Int32).toInt) = 1 := (by decide); omega) TH hS (lv_sub hl [0, 1, 2, 3, 4] rfl)
  exact hJ3 502 x2 _ _ _ ls (by omega) (by omega) (by  omega) (by   omega) tw_fr.rf TH hS (lv_sub hl [0, 1, 2, 3, 4] rfl)
set_option maxHeartbeats 4000000 in
set_option maxRecDepth 100000 in
theorem tX2_saysItems (l : Launch) (D : va_G) (cs : Nat → ClassId) {kp : Nat → Nat} {L : List Nat} {E : Nat → va_E} (a0 : Nat) (x1 : Int32) (a2 : Nat) (fv0_1 : Int32) (hm0 : a0 ∈ L) (hk0 : kp a0 = 2) (hp1a : 0 ≤ x1.toInt) (hp1b : x1.toInt ≤ 9) (hm2 : a2 ∈ L) (hk2 : kp a2 = 3) (hfv0_1 : tw_fv E a0 1 = .int fv0_1) (hpre0 : x1.toInt < fv0_1.toInt) (hg0 : gm_ok E a0) (sz : Nat) : Met l yX2_saysItems (.code yX2_saysItems cX2_saysItems 6 (some .boolean) :: cx_big) { frames := 1, cells := 0, slots := 0, locals := 26 } (tw_P D cs kp L E [.ref a0, .int x1, .ref a2] sz) (tw_Q D cs kp L (fun v kq Lq Eq => (∃ x : Int32, v = some (.int x) ∧ 0 ≤ x.toInt ∧ x.toInt ≤ 1 ∧ gm_ok Eq a0) ∧ kp = kq ∧ L = Lq ∧ tw_fr kp L [] [135] E Eq) (va_A (va_pl L E) sz)) 0 0 (va_A (va_pl L E) sz) := by
  refine tw_ofW (by decide) (Nat.le_of_ble_eq_true rfl) ?_
  intro p e s m below meth c A ls hx hb hr hml hB hown hlocks hK hN hA TH hS hl
  have hown : s.vm.findClass "TreeMerge$Grammar" = some m.cls := hown
  have hl : lv_has ls 6 [(0, .ref a0), (1, .int x1), (2, .ref a2)] := hl
  obtain ⟨kp0, ekp⟩ : ∃ z, z = kp := ⟨_, rfl⟩
  obtain ⟨L0, eL⟩ : ∃ z, z = L := ⟨_, rfl⟩
  rw [show tw_Q D cs kp L = tw_Q D cs kp0 L0 by rw [ekp, eL]]
  have hex : ∀ a : Nat, a ∈ L0 → a ∈ L ∧ kp a = kp0 a := fun a h => ⟨by rw [← eL]; exact h, by rw [ekp]⟩
  have hF : tw_fr kp L [] [135] E E := tw_fr.rf
  obtain ⟨qfv0_1, hqfv0_1, hqfv0_1a, hqfv0_1b⟩ := tw_rd TH hm0 hk0 (by decide) (by decide) (k := 1) rfl
  have eqfv0_1 : qfv0_1 = fv0_1 := by have q := hqfv0_1.symm.trans hfv0_1; injection q
  rw [eqfv0_1] at hqfv0_1a hqfv0_1b
  refine lv_aload_n hx hb dX2_saysItems_0 rfl (lv_at hl 0 rfl) ?_
  refine tw_get (ci := 2) (C := RX2) (T := TX2) (N := 13) hx hb hB cx_inX2 hown hK TH hm0 hk0 rfl ⟨by decide, rfl⟩ 5 (by decide) cw_75 (fun _ h9 => h9) dX2_saysItems_1 (fun hv => ?_)
  obtain ⟨xr1, hxr1, hmxr1, hkxr1⟩ : ∃ a : Nat, tw_fv E a0 5 = .ref a ∧ a ∈ L ∧ kp a = 136 := hv
  rw [hxr1]
  refine lv_iload_n hx hb dX2_saysItems_4 rfl (lv_at hl 1 rfl) ?_
  refine tw_iald (k := 136) (t0 := 0) (n := 10) (lo := 0) (hi := 500) hx hb hK TH hmxr1 hkxr1 (by decide) rfl rfl (i := x1) (vp_in_iff.mpr ⟨by  omega, by  omega⟩) dX2_saysItems_5 (fun hxe2a hxe2b => ?_)
  obtain ⟨xe2, exe2⟩ : ∃ z : Int32, tw_iv E xr1 (Int32.toNatClampNeg x1) = z := ⟨_, rfl⟩
  rw [exe2] at hxe2a hxe2b ⊢
  refine lv_istore_n (lv' := [(3, .int xe2), (0, .ref a0), (1, .int x1), (2, .ref a2)]) hx hb dX2_saysItems_6 rfl hl (by decide) rfl (fun ls hl => ?_)
  refine lv_aload_n hx hb dX2_saysItems_7 rfl (lv_at hl 1 rfl) ?_
  refine tw_get (ci := 2) (C := RX2) (T := TX2) (N := 13) hx hb hB cx_inX2 hown hK TH hm0 hk0 rfl ⟨by decide, rfl⟩ 6 (by decide) cw_76 (fun _ h9 => h9) dX2_saysItems_8 (fun hv => ?_)
  obtain ⟨xr3, hxr3, hmxr3, hkxr3⟩ : ∃ a : Nat, tw_fv E a0 6 = .ref a ∧ a ∈ L ∧ kp a = 138 := hv
  rw [hxr3]
  refine lv_iload_n hx hb dX2_saysItems_11 rfl (lv_at hl 2 rfl) ?_
  refine tw_iald (k := 138) (t0 := 0) (n := 10) (lo := 0) (hi := 500) hx hb hK TH hmxr3 hkxr3 (by decide) rfl rfl (i := x1) (vp_in_iff.mpr ⟨by  omega, by  omega⟩) dX2_saysItems_12 (fun hxe4a hxe4b => ?_)
  obtain ⟨xe4, exe4⟩ : ∃ z : Int32, tw_iv E xr3 (Int32.toNatClampNeg x1) = z := ⟨_, rfl⟩
  rw [exe4] at hxe4a hxe4b ⊢
  have hn1 := ia_tn (i := x1) (by omega)
  have hgm := (hg0 (Int32.toNatClampNeg x1) (by rw [tw_fi_of hfv0_1]; omega)).2
  rw [tw_el_of hxr1, tw_el_of hxr3, exe2, exe4] at hgm
  refine lv_iload_n hx hb dX2_saysItems_13 rfl (lv_at hl 0 rfl) ?_
  refine lv_isub hx hb dX2_saysItems_14 ?_
  refine lv_topi (fun zi5 ezi5 => ?_)
  have hzi5 : zi5.toInt = xe4.toInt - xe2.toInt := by rw [ezi5];  have := ia_lo xe4; have := ia_hi xe4; have := ia_lo xe2; have := ia_hi xe2; exact (ia_sub (by omega) (by omega)).trans (by omega)
  refine lv_istore (lv' := [(4, .int zi5), (3, .int xe2), (0, .ref a0), (1, .int x1), (2, .ref a2)]) hx hb dX2_saysItems_15 hl (by decide) rfl (fun ls hl => ?_)
  refine lv_iconst (v := 0) hx hb dX2_saysItems_17 (by decide) ?_
  refine lv_istore (lv' := [(5, .int 0), (4, .int zi5), (3, .int xe2), (0, .ref a0), (1, .int x1), (2, .ref a2)]) hx hb dX2_saysItems_18 hl (by decide) rfl (fun ls hl => ?_)
  have hJ20 : ∀ (n20 : Nat) (y20_5 : Int32) (Eg20 : Nat → va_E) (H : Heap) (locs : List Loc) (ls : Array Slot), 0 ≤ y20_5.toInt → y20_5.toInt ≤ 501 → 501 - y20_5.toInt ≤ (n20 : Int) → tw_fr kp L [] [135] E Eg20 → gm_ok Eg20 a0 → tw_H D cs kp L Eg20 A H → va_S A s.heap H locs → lv_has ls 6 [(5, .int y20_5), (4, .int zi5), (3, .int xe2), (0, .ref a0), (2, .ref a2)] → W p l e { frames := 1, cells := 0, slots := 0, locals := 26 } s m [.ref a0, .int x1, .ref a2].toArray below meth c H locs 0 0 (MQ below (tw_Q D cs kp0 L0 (fun v kq Lq Eq => (∃ x : Int32, v = some (.int x) ∧ 0 ≤ x.toInt ∧ x.toInt ≤ 1 ∧ gm_ok Eq a0) ∧ kp = kq ∧ L = Lq ∧ tw_fr kp L [] [135] E Eq) A) [.ref a0, .int x1, .ref a2].toArray s 0 0 A) (F0 m 20 ls []) := by
    intro n20
    induction n20 using Nat.strongRecOn with
    | _ n20 ih20 =>
      intro y20_5 Eg20 H locs ls hy20_5a hy20_5b hmeas20 hG20 hg0 TH hS hl
      have hF := hF.tr hG20 (fun _ h => ⟨h, rfl⟩) (by decide) (by decide)
      have hmf6 : tw_fv Eg20 a0 1 = .int fv0_1 := (hG20.1 a0 1 hm0 (by rw [hk0]; decide)).trans hfv0_1
      have hmf7 : tw_fv Eg20 a0 5 = .ref xr1 := (hG20.1 a0 5 hm0 (by rw [hk0]; decide)).trans hxr1
      have hmf8 : tw_fv Eg20 a0 6 = .ref xr3 := (hG20.1 a0 6 hm0 (by rw [hk0]; decide)).trans hxr3
      refine lv_iload hx hb dX2_saysItems_20 (lv_at hl 0 rfl) ?_
      refine lv_iload hx hb dX2_saysItems_22 (lv_at hl 1 rfl) ?_
      refine lv_icmp_gt (tgt := 41) hx hb dX2_saysItems_24 (by decide) (fun hc9 => ?_) (fun hc9 => ?_)
      · have hf10 : zi5.toInt < y20_5.toInt := by have z := (fa_lt _ _).mp hc9;  omega
        refine lv_aload_n hx hb dX2_saysItems_41 rfl (lv_at hl 3 rfl) ?_
        refine tw_get (ci := 2) (C := RX2) (T := TX2) (N := 13) hx hb hB cx_inX2 hown hK TH hm0 hk0 rfl ⟨by decide, rfl⟩ 12 (by decide) cw_82 (fun _ h9 => h9) dX2_saysItems_42 (fun hv => ?_)
        obtain ⟨xr11, hxr11, hmxr11, hkxr11⟩ : ∃ a : Nat, tw_fv Eg20 a0 12 = .ref a ∧ a ∈ L ∧ kp a = 135 := hv
        rw [hxr11]
        refine lv_iconst (v := 0) hx hb dX2_saysItems_45 (by decide) ?_
        refine lv_iconst (v := 1) hx hb dX2_saysItems_46 (by decide) ?_
        refine tw_iast (k := 135) (n := 501) (lo := 0) (hi := 1) hx hb hK TH hS hmxr11 hkxr11 (by decide) rfl (i := 0) (x := 1) (vp_in_iff.mpr ⟨by have : ((0 : Int32).toInt) = 0 := (by decide); omega, by have : ((0 : Int32).toInt) = 0 := (by decide); omega⟩) (by have : ((1 : Int32).toInt) = 1 := (by decide); omega) (by have : ((1 : Int32).toInt) = 1 := (by decide); omega) dX2_saysItems_47 (fun H locs E12 TH hS hp13 hp14 hp15 => ?_)
        have hst16 : tw_fr kp L [] [135] Eg20 E12 := tw_fr.ast tw_fr.rf (fun _ => hkxr11) hp13 hp14 (by decide)
        have hF := hF.tr hst16 (fun _ h => ⟨h, rfl⟩) (by decide) (by decide)
        have hG20 := hG20.tr hst16 (fun _ h => ⟨h, rfl⟩) (by decide) (by decide)
        have hmf17 : tw_fv E12 a0 1 = .int fv0_1 := (hst16.1 a0 1 hm0 (by rw [hk0]; decide)).trans hmf6
        have hmf18 : tw_fv E12 a0 5 = .ref xr1 := (hst16.1 a0 5 hm0 (by rw [hk0]; decide)).trans hmf7
        have hmf19 : tw_fv E12 a0 6 = .ref xr3 := (hst16.1 a0 6 hm0 (by rw [hk0]; decide)).trans hmf8
        have hmf20 : tw_fv E12 a0 12 = .ref xr11 := (hst16.1 a0 12 hm0 (by rw [hk0]; decide)).trans hxr11
        have hg0 : gm_ok E12 a0 := gm_ok_fr TH hst16 hm0 hk0 (by decide) (by decide) hg0
        refine lv_aload_n hx hb dX2_saysItems_48 rfl (lv_at hl 3 rfl) ?_
        refine lv_iload_n hx hb dX2_saysItems_49 rfl (lv_at hl 2 rfl) ?_
        refine lv_iload hx hb dX2_saysItems_50 (lv_at hl 1 rfl) ?_
        refine tw_Vc (o := a0) (ci := 2) (n := 2) (post := (fun v kq Lq Eq => v = none ∧ kp = kq ∧ L = Lq ∧ tw_fr kp L [] [135] E12 Eq)) (As := [.int xe2, .int zi5]) (rest := []) ⟨hx, hb, hml, hown, hB⟩ (fun sz => tX2_passOver l D cs a0 xe2 zi5 hm0 hk0 (by omega) (by omega) (by omega) (by omega) (by  omega) sz) cg_2_120_X2_passOver rfl rfl (by decide +kernel) ⟨Nat.le_of_ble_eq_true rfl, Nat.le_of_ble_eq_true rfl⟩ hK hN TH hS hA rfl hm0 hk0 (by decide) rfl hl.1 rfl (Nat.le_of_ble_eq_true rfl) dX2_saysItems_52 ⟨Nat.le_of_ble_eq_true rfl, Nat.le_of_ble_eq_true rfl⟩ (fun v21 kp21 L21 E21 H locs hq21 hx21 TH hS => ?_)
        obtain ⟨rfl, rfl, rfl, hst21⟩ := hq21
        have hF := hF.tr hst21 (fun _ h => ⟨h, rfl⟩) (by decide) (by decide)
        have hG20 := hG20.tr hst21 (fun _ h => ⟨h, rfl⟩) (by decide) (by decide)
        have hmf23 : tw_fv E21 a0 1 = .int fv0_1 := (hst21.1 a0 1 hm0 (by rw [hk0]; decide)).trans hmf17
        have hmf24 : tw_fv E21 a0 5 = .ref xr1 := (hst21.1 a0 5 hm0 (by rw [hk0]; decide)).trans hmf18
        have hmf25 : tw_fv E21 a0 6 = .ref xr3 := (hst21.1 a0 6 hm0 (by rw [hk0]; decide)).trans hmf19
        have hmf26 : tw_fv E21 a0 12 = .ref xr11 := (hst21.1 a0 12 hm0 (by rw [hk0]; decide)).trans hmf20
        have hg0 : gm_ok E21 a0 := gm_ok_fr TH hst21 hm0 hk0 (by decide) (by decide) hg0
        refine W.eq (g2 := F0 m 55 ls []) rfl ?_
        refine lv_iconst (v := 0) hx hb dX2_saysItems_55 (by decide) ?_
        refine lv_istore (lv' := [(5, .int 0), (4, .int zi5), (3, .int xe2), (0, .ref a0), (2, .ref a2)]) hx hb dX2_saysItems_56 hl (by decide) rfl (fun ls hl => ?_)
        have hJ58 : ∀ (n58 : Nat) (y58_5 : Int32) (Eg58 : Nat → va_E) (H : Heap) (locs : List Loc) (ls : Array Slot), 0 ≤ y58_5.toInt → y58_5.toInt ≤ 40 → 40 - y58_5.toInt ≤ (n58 : Int) → tw_fr kp L [] [135] E21 Eg58 → gm_ok Eg58 a0 → tw_H D cs kp L Eg58 A H → va_S A s.heap H locs → lv_has ls 6 [(5, .int y58_5), (4, .int zi5), (3, .int xe2), (0, .ref a0), (2, .ref a2)] → W p l e { frames := 1, cells := 0, slots := 0, locals := 26 } s m [.ref a0, .int x1, .ref a2].toArray below meth c H locs 0 0 (MQ below (tw_Q D cs kp0 L0 (fun v kq Lq Eq => (∃ x : Int32, v = some (.int x) ∧ 0 ≤ x.toInt ∧ x.toInt ≤ 1 ∧ gm_ok Eq a0) ∧ kp = kq ∧ L = Lq ∧ tw_fr kp L [] [135] E Eq) A) [.ref a0, .int x1, .ref a2].toArray s 0 0 A) (F0 m 58 ls []) := by
          intro n58
          induction n58 using Nat.strongRecOn with
          | _ n58 ih58 =>
            intro y58_5 Eg58 H locs ls hy58_5a hy58_5b hmeas58 hG58 hg0 TH hS hl
            have hF := hF.tr hG58 (fun _ h => ⟨h, rfl⟩) (by decide) (by decide)
            have hG20 := hG20.tr hG58 (fun _ h => ⟨h, rfl⟩) (by decide) (by decide)
            have hmf27 : tw_fv Eg58 a0 1 = .int fv0_1 := (hG58.1 a0 1 hm0 (by rw [hk0]; decide)).trans hmf23
            have hmf28 : tw_fv Eg58 a0 5 = .ref xr1 := (hG58.1 a0 5 hm0 (by rw [hk0]; decide)).trans hmf24
            have hmf29 : tw_fv Eg58 a0 6 = .ref xr3 := (hG58.1 a0 6 hm0 (by rw [hk0]; decide)).trans hmf25
            have hmf30 : tw_fv Eg58 a0 12 = .ref xr11 := (hG58.1 a0 12 hm0 (by rw [hk0]; decide)).trans hmf26
            refine lv_iload hx hb dX2_saysItems_58 (lv_at hl 0 rfl) ?_
            refine lv_aload_n hx hb dX2_saysItems_60 rfl (lv_at hl 4 rfl) ?_
            refine tw_get (ci := 3) (C := RX3) (T := TX3) (N := 3) hx hb hB cx_inX3 hown hK TH hm2 hk2 rfl ⟨by decide, rfl⟩ 0 (by decide) cw_178 (fun _ h9 => h9) dX2_saysItems_61 (fun hv => ?_)
            obtain ⟨xi31, hxi31, hxi31a, hxi31b⟩ : ∃ x : Int32, tw_fv Eg58 a2 0 = .int x ∧ 0 ≤ x.toInt ∧ x.toInt ≤ 40 := hv
            rw [hxi31]
            refine lv_icmp_ge (tgt := 94) hx hb dX2_saysItems_64 (by decide) (fun hc32 => ?_) (fun hc32 => ?_)
            · have hf33 : xi31.toInt ≤ y58_5.toInt := by have z := (fa_le _ _).mp hc32;  omega
              refine lv_aload_n hx hb dX2_saysItems_94 rfl (lv_at hl 3 rfl) ?_
              refine tw_get (ci := 2) (C := RX2) (T := TX2) (N := 13) hx hb hB cx_inX2 hown hK TH hm0 hk0 rfl ⟨by decide, rfl⟩ 12 (by decide) cw_82 (fun _ h9 => h9) dX2_saysItems_95 (fun hv => ?_)
              rw [hmf30]
              refine lv_iload hx hb dX2_saysItems_98 (lv_at hl 1 rfl) ?_
              refine tw_iald (k := 135) (t0 := 0) (n := 501) (lo := 0) (hi := 1) hx hb hK TH hmxr11 hkxr11 (by decide) rfl rfl (i := zi5) (vp_in_iff.mpr ⟨by  omega, by  omega⟩) dX2_saysItems_100 (fun hxe34a hxe34b => ?_)
              obtain ⟨xe34, exe34⟩ : ∃ z : Int32, tw_iv Eg58 xr11 (Int32.toNatClampNeg zi5) = z := ⟨_, rfl⟩
              rw [exe34] at hxe34a hxe34b ⊢
              refine lv_iconst (v := 1) hx hb dX2_saysItems_101 (by decide) ?_
              refine lv_icmp_ne (tgt := 109) hx hb dX2_saysItems_102 (by decide) (fun hc35 => ?_) (fun hc35 => ?_)
              · have hf36 : ¬ (xe34.toInt = 1) := fun q => hc35 ((fa_eq _ _).mpr (by have : ((1 : Int32).toInt) = 1 := (by decide); omega))
                refine lv_iconst (v := 0) hx hb dX2_saysItems_109 (by decide) ?_
                exact tw_zret hx hb hr hlocks (by decide) TH hS hex ⟨⟨_, rfl, (show 0 ≤ Int32.toInt 0 from by have : ((0 : Int32).toInt) = 0 := (by decide); omega), (show Int32.toInt 0 ≤ 1 from by have : ((0 : Int32).toInt) = 0 := (by decide); omega), hg0⟩, rfl, rfl, hF⟩ (Nat.le_of_ble_eq_true rfl) (Nat.le_of_ble_eq_true rfl) dX2_saysItems_110
              · have hf37 : xe34.toInt = 1 := by have z := (fa_eq _ _).mp hc35; have : ((1 : Int32).toInt) = 1 := (by decide); omega
                refine lv_iconst (v := 1) hx hb dX2_saysItems_105 (by decide) ?_
                refine lv_goto (tgt := 110) hx hb dX2_saysItems_106 (by decide) ?_
                exact tw_zret hx hb hr hlocks (by decide) TH hS hex ⟨⟨_, rfl, (show 0 ≤ Int32.toInt 1 from by have : ((1 : Int32).toInt) = 1 := (by decide); omega), (show Int32.toInt 1 ≤ 1 from by have : ((1 : Int32).toInt) = 1 := (by decide); omega), hg0⟩, rfl, rfl, hF⟩ (Nat.le_of_ble_eq_true rfl) (Nat.le_of_ble_eq_true rfl) dX2_saysItems_110
            · have hf38 : ¬ (xi31.toInt ≤ y58_5.toInt) := fun q => hc32 ((fa_le _ _).mpr (by  omega))
              refine lv_aload_n hx hb dX2_saysItems_67 rfl (lv_at hl 3 rfl) ?_
              refine lv_iload_n hx hb dX2_saysItems_68 rfl (lv_at hl 2 rfl) ?_
              refine lv_iload hx hb dX2_saysItems_69 (lv_at hl 1 rfl) ?_
              refine lv_aload_n hx hb dX2_saysItems_71 rfl (lv_at hl 4 rfl) ?_
              refine tw_get (ci := 3) (C := RX3) (T := TX3) (N := 3) hx hb hB cx_inX3 hown hK TH hm2 hk2 rfl ⟨by decide, rfl⟩ 1 (by decide) cw_180 (fun _ h9 => h9) dX2_saysItems_72 (fun hv => ?_)
              obtain ⟨xr39, hxr39, hmxr39, hkxr39⟩ : ∃ a : Nat, tw_fv Eg58 a2 1 = .ref a ∧ a ∈ L ∧ kp a = 101 := hv
              rw [hxr39]
              refine lv_iload hx hb dX2_saysItems_75 (lv_at hl 0 rfl) ?_
              refine tw_iald (k := 101) (t0 := 0) (n := 40) (lo := (-1)) (hi := 9) hx hb hK TH hmxr39 hkxr39 (by decide) rfl rfl (i := y58_5) (vp_in_iff.mpr ⟨by  omega, by  omega⟩) dX2_saysItems_77 (fun hxe40a hxe40b => ?_)
              obtain ⟨xe40, exe40⟩ : ∃ z : Int32, tw_iv Eg58 xr39 (Int32.toNatClampNeg y58_5) = z := ⟨_, rfl⟩
              rw [exe40] at hxe40a hxe40b ⊢
              refine tw_Vc (o := a0) (ci := 2) (n := 3) (post := (fun v kq Lq Eq => v = none ∧ kp = kq ∧ L = Lq ∧ tw_fr kp L [] [135] Eg58 Eq)) (As := [.int xe2, .int zi5, .int xe40]) (rest := []) ⟨hx, hb, hml, hown, hB⟩ (fun sz => tX2_step l D cs a0 xe2 zi5 xe40 hm0 hk0 (by omega) (by omega) (by omega) (by omega) (by  omega) sz) cg_2_124_X2_step rfl rfl (by decide +kernel) ⟨Nat.le_of_ble_eq_true rfl, Nat.le_of_ble_eq_true rfl⟩ hK hN TH hS hA rfl hm0 hk0 (by decide) rfl hl.1 rfl (Nat.le_of_ble_eq_true rfl) dX2_saysItems_78 ⟨Nat.le_of_ble_eq_true rfl, Nat.le_of_ble_eq_true rfl⟩ (fun v41 kp41 L41 E41 H locs hq41 hx41 TH hS => ?_)
              obtain ⟨rfl, rfl, rfl, hst41⟩ := hq41
              have hF := hF.tr hst41 (fun _ h => ⟨h, rfl⟩) (by decide) (by decide)
              have hG20 := hG20.tr hst41 (fun _ h => ⟨h, rfl⟩) (by decide) (by decide)
              have hG58 := hG58.tr hst41 (fun _ h => ⟨h, rfl⟩) (by decide) (by decide)
              have hmf43 : tw_fv E41 a0 1 = .int fv0_1 := (hst41.1 a0 1 hm0 (by rw [hk0]; decide)).trans hmf27
              have hmf44 : tw_fv E41 a0 5 = .ref xr1 := (hst41.1 a0 5 hm0 (by rw [hk0]; decide)).trans hmf28
              have hmf45 : tw_fv E41 a0 6 = .ref xr3 := (hst41.1 a0 6 hm0 (by rw [hk0]; decide)).trans hmf29
              have hmf46 : tw_fv E41 a0 12 = .ref xr11 := (hst41.1 a0 12 hm0 (by rw [hk0]; decide)).trans hmf30
              have hmf47 : tw_fv E41 a2 0 = .int xi31 := (hst41.1 a2 0 hm2 (by rw [hk2]; decide)).trans hxi31
              have hmf48 : tw_fv E41 a2 1 = .ref xr39 := (hst41.1 a2 1 hm2 (by rw [hk2]; decide)).trans hxr39
              have hg0 : gm_ok E41 a0 := gm_ok_fr TH hst41 hm0 hk0 (by decide) (by decide) hg0
              refine W.eq (g2 := F0 m 81 ls []) rfl ?_
              refine lv_aload_n hx hb dX2_saysItems_81 rfl (lv_at hl 3 rfl) ?_
              refine lv_iload_n hx hb dX2_saysItems_82 rfl (lv_at hl 2 rfl) ?_
              refine lv_iload hx hb dX2_saysItems_83 (lv_at hl 1 rfl) ?_
              refine tw_Vc (o := a0) (ci := 2) (n := 2) (post := (fun v kq Lq Eq => v = none ∧ kp = kq ∧ L = Lq ∧ tw_fr kp L [] [135] E41 Eq)) (As := [.int xe2, .int zi5]) (rest := []) ⟨hx, hb, hml, hown, hB⟩ (fun sz => tX2_passOver l D cs a0 xe2 zi5 hm0 hk0 (by omega) (by omega) (by omega) (by omega) (by  omega) sz) cg_2_120_X2_passOver rfl rfl (by decide +kernel) ⟨Nat.le_of_ble_eq_true rfl, Nat.le_of_ble_eq_true rfl⟩ hK hN TH hS hA rfl hm0 hk0 (by decide) rfl hl.1 rfl (Nat.le_of_ble_eq_true rfl) dX2_saysItems_85 ⟨Nat.le_of_ble_eq_true rfl, Nat.le_of_ble_eq_true rfl⟩ (fun v49 kp49 L49 E49 H locs hq49 hx49 TH hS => ?_)
              obtain ⟨rfl, rfl, rfl, hst49⟩ := hq49
              have hF := hF.tr hst49 (fun _ h => ⟨h, rfl⟩) (by decide) (by decide)
              have hG20 := hG20.tr hst49 (fun _ h => ⟨h, rfl⟩) (by decide) (by decide)
              have hG58 := hG58.tr hst49 (fun _ h => ⟨h, rfl⟩) (by decide) (by decide)
              have hmf51 : tw_fv E49 a0 1 = .int fv0_1 := (hst49.1 a0 1 hm0 (by rw [hk0]; decide)).trans hmf43
              have hmf52 : tw_fv E49 a0 5 = .ref xr1 := (hst49.1 a0 5 hm0 (by rw [hk0]; decide)).trans hmf44
              have hmf53 : tw_fv E49 a0 6 = .ref xr3 := (hst49.1 a0 6 hm0 (by rw [hk0]; decide)).trans hmf45
              have hmf54 : tw_fv E49 a0 12 = .ref xr11 := (hst49.1 a0 12 hm0 (by rw [hk0]; decide)).trans hmf46
              have hmf55 : tw_fv E49 a2 0 = .int xi31 := (hst49.1 a2 0 hm2 (by rw [hk2]; decide)).trans hmf47
              have hmf56 : tw_fv E49 a2 1 = .ref xr39 := (hst49.1 a2 1 hm2 (by rw [hk2]; decide)).trans hmf48
              have hg0 : gm_ok E49 a0 := gm_ok_fr TH hst49 hm0 hk0 (by decide) (by decide) hg0
              refine W.eq (g2 := F0 m 88 ls []) rfl ?_
              obtain ⟨zi57, ezi57⟩ : ∃ z : Int32, z = y58_5 + Int32.ofInt 1 := ⟨_, rfl⟩
              have hzi57 : zi57.toInt = y58_5.toInt + 1 := by rw [ezi57]; have : ((Int32.ofInt 1).toInt) = 1 := (by decide);  exact (ia_add (by omega) (by omega)).trans (by omega)
              refine lv_iinc (v := zi57) (lv' := [(5, .int zi57), (4, .int zi5), (3, .int xe2), (0, .ref a0), (2, .ref a2)]) hx hb dX2_saysItems_88 hl (k := 0) rfl ezi57.symm (by decide) rfl (fun ls hl => ?_)
              refine lv_goto (tgt := 58) hx hb dX2_saysItems_91 (by decide) ?_
              exact ih58 (n58 - 1) (by   omega) zi57 _ _ _ ls (by omega) (by omega) (by   omega) hG58 hg0 TH hS (lv_sub hl [0, 1, 2, 3, 4] rfl)
        exact hJ58 41 (0 : Int32) _ _ _ ls (by have : ((0 : Int32).toInt) = 0 := (by decide); omega) (by have : ((0 : Int32).toInt) = 0 := (by decide); omega) (by have : ((0 : Int32).toInt) = 0 := (by decide);  omega) tw_fr.rf hg0 TH hS (lv_sub hl [0, 1, 2, 3, 4] rfl)
      · have hf58 : ¬ (zi5.toInt < y20_5.toInt) := fun q => hc9 ((fa_lt _ _).mpr (by  omega))
        refine lv_aload_n hx hb dX2_saysItems_27 rfl (lv_at hl 3 rfl) ?_
        refine tw_get (ci := 2) (C := RX2) (T := TX2) (N := 13) hx hb hB cx_inX2 hown hK TH hm0 hk0 rfl ⟨by decide, rfl⟩ 12 (by decide) cw_82 (fun _ h9 => h9) dX2_saysItems_28 (fun hv => ?_)
        obtain ⟨xr59, hxr59, hmxr59, hkxr59⟩ : ∃ a : Nat, tw_fv Eg20 a0 12 = .ref a ∧ a ∈ L ∧ kp a = 135 := hv
        rw [hxr59]
        refine lv_iload hx hb dX2_saysItems_31 (lv_at hl 0 rfl) ?_
        refine lv_iconst (v := 0) hx hb dX2_saysItems_33 (by decide) ?_
        refine tw_iast (k := 135) (n := 501) (lo := 0) (hi := 1) hx hb hK TH hS hmxr59 hkxr59 (by decide) rfl (i := y20_5) (x := 0) (vp_in_iff.mpr ⟨by  omega, by  omega⟩) (by have : ((0 : Int32).toInt) = 0 := (by decide); omega) (by have : ((0 : Int32).toInt) = 0 := (by decide); omega) dX2_saysItems_34 (fun H locs E60 TH hS hp61 hp62 hp63 => ?_)
        have hst64 : tw_fr kp L [] [135] Eg20 E60 := tw_fr.ast tw_fr.rf (fun _ => hkxr59) hp61 hp62 (by decide)
        have hF := hF.tr hst64 (fun _ h => ⟨h, rfl⟩) (by decide) (by decide)
        have hG20 := hG20.tr hst64 (fun _ h => ⟨h, rfl⟩) (by decide) (by decide)
        have hmf65 : tw_fv E60 a0 1 = .int fv0_1 := (hst64.1 a0 1 hm0 (by rw [hk0]; decide)).trans hmf6
        have hmf66 : tw_fv E60 a0 5 = .ref xr1 := (hst64.1 a0 5 hm0 (by rw [hk0]; decide)).trans hmf7
        have hmf67 : tw_fv E60 a0 6 = .ref xr3 := (hst64.1 a0 6 hm0 (by rw [hk0]; decide)).trans hmf8
        have hmf68 : tw_fv E60 a0 12 = .ref xr59 := (hst64.1 a0 12 hm0 (by rw [hk0]; decide)).trans hxr59
        have hg0 : gm_ok E60 a0 := gm_ok_fr TH hst64 hm0 hk0 (by decide) (by decide) hg0
        obtain ⟨zi69, ezi69⟩ : ∃ z : Int32, z = y20_5 + Int32.ofInt 1 := ⟨_, rfl⟩
        have hzi69 : zi69.toInt = y20_5.toInt + 1 := by rw [ezi69]; have : ((Int32.ofInt 1).toInt) = 1 := (by decide);  exact (ia_add (by omega) (by omega)).trans (by omega)
        refine lv_iinc (v := zi69) (lv' := [(5, .int zi69), (4, .int zi5), (3, .int xe2), (0, .ref a0), (2, .ref a2)]) hx hb dX2_saysItems_35 hl (k := 0) rfl ezi69.symm (by decide) rfl (fun ls hl => ?_)
        refine lv_goto (tgt := 20) hx hb dX2_saysItems_38 (by decide) ?_
        exact ih20 (n20 - 1) (by   omega) zi69 _ _ _ ls (by omega) (by omega) (by   omega) hG20 hg0 TH hS (lv_sub hl [0, 1, 2, 3, 4] rfl)
  exact hJ20 502 (0 : Int32) _ _ _ ls (by have : ((0 : Int32).toInt) = 0 := (by decide); omega) (by have : ((0 : Int32).toInt) = 0 := (by decide); omega) (by have : ((0 : Int32).toInt) = 0 := (by decide);  omega) tw_fr.rf hg0 TH hS (lv_sub hl [0, 1, 2, 3, 5] rfl)
set_option maxHeartbeats 4000000 in
set_option maxRecDepth 100000 in
theorem tX2_allows (l : Launch) (D : va_G) (cs : Nat → ClassId) {kp : Nat → Nat} {L : List Nat} {E : Nat → va_E} (a0 : Nat) (x1 : Int32) (a2 : Nat) (hm0 : a0 ∈ L) (hk0 : kp a0 = 2) (hm2 : a2 ∈ L) (hk2 : kp a2 = 3) (hg0 : gm_ok E a0) (sz : Nat) : Met l yX2_allows (.code yX2_allows cX2_allows 3 (some .boolean) :: cx_big) { frames := 2, cells := 0, slots := 0, locals := 51 } (tw_P D cs kp L E [.ref a0, .int x1, .ref a2] sz) (tw_Q D cs kp L (fun v kq Lq Eq => (∃ x : Int32, v = some (.int x) ∧ 0 ≤ x.toInt ∧ x.toInt ≤ 1 ∧ gm_ok Eq a0) ∧ kp = kq ∧ L = Lq ∧ tw_fr kp L [] [135] E Eq) (va_A (va_pl L E) sz)) 0 0 (va_A (va_pl L E) sz) := by
  refine tw_ofW (by decide) (Nat.le_of_ble_eq_true rfl) ?_
  intro p e s m below meth c A ls hx hb hr hml hB hown hlocks hK hN hA TH hS hl
  have hown : s.vm.findClass "TreeMerge$Grammar" = some m.cls := hown
  have hl : lv_has ls 3 [(0, .ref a0), (1, .int x1), (2, .ref a2)] := hl
  obtain ⟨kp0, ekp⟩ : ∃ z, z = kp := ⟨_, rfl⟩
  obtain ⟨L0, eL⟩ : ∃ z, z = L := ⟨_, rfl⟩
  rw [show tw_Q D cs kp L = tw_Q D cs kp0 L0 by rw [ekp, eL]]
  have hex : ∀ a : Nat, a ∈ L0 → a ∈ L ∧ kp a = kp0 a := fun a h => ⟨by rw [← eL]; exact h, by rw [ekp]⟩
  have hF : tw_fr kp L [] [135] E E := tw_fr.rf
  refine lv_aload_n hx hb dX2_allows_0 rfl (lv_at hl 0 rfl) ?_
  refine lv_iload_n hx hb dX2_allows_1 rfl (lv_at hl 1 rfl) ?_
  refine tw_Vc (o := a0) (ci := 2) (n := 1) (post := (fun v kq Lq Eq => (∃ x : Int32, v = some (.int x) ∧ 0 ≤ x.toInt ∧ x.toInt ≤ 1 ∧ (x.toInt ≠ 0 → 0 ≤ x1.toInt ∧ x1.toInt ≤ 9) ∧ (∃ z0 : Int32, tw_fv Eq a0 1 = .int z0 ∧ (x.toInt ≠ 0 → 0 ≤ x1.toInt ∧ x1.toInt < z0.toInt))) ∧ kp = kq ∧ L = Lq ∧ E = Eq)) (As := [.int x1]) (rest := []) ⟨hx, hb, hml, hown, hB⟩ (fun sz => tX2_hasKind l D cs a0 x1 hm0 hk0 sz) cg_2_49_X2_hasKind rfl rfl (by decide +kernel) ⟨Nat.le_of_ble_eq_true rfl, Nat.le_of_ble_eq_true rfl⟩ hK hN TH hS hA rfl hm0 hk0 (by decide) rfl hl.1 rfl (Nat.le_of_ble_eq_true rfl) dX2_allows_2 ⟨Nat.le_of_ble_eq_true rfl, Nat.le_of_ble_eq_true rfl⟩ (fun v1 kp1 L1 E1 H locs hq1 hx1 TH hS => ?_)
  obtain ⟨⟨xc2, rfl, hxc2a, hxc2b, hpoxc2_0, ⟨zfxc2_0_0, hzfxc2_0_0, hzpxc2_0⟩⟩, rfl, rfl, rfl⟩ := hq1
  obtain ⟨qzfxc2_0_0, hqzfxc2_0_0, hqzfxc2_0_0a, hqzfxc2_0_0b⟩ := tw_rd TH hm0 hk0 (by decide) (by decide) (k := 1) rfl
  have eqzfxc2_0_0 : qzfxc2_0_0 = zfxc2_0_0 := by have q := hqzfxc2_0_0.symm.trans hzfxc2_0_0; injection q
  rw [eqzfxc2_0_0] at hqzfxc2_0_0a hqzfxc2_0_0b
  refine W.eq (g2 := F0 m 5 ls [.int xc2]) rfl ?_
  refine lv_if_ne (tgt := 10) hx hb dX2_allows_5 (by decide) (fun hc3 => ?_) (fun hc3 => ?_)
  · have hf4 : ¬ (xc2.toInt = 0) := fun q => hc3 ((fa_eq _ _).mpr (by have : ((0 : Int32).toInt) = 0 := (by decide); omega))
    refine lv_aload_n hx hb dX2_allows_10 rfl (lv_at hl 0 rfl) ?_
    refine tw_get (ci := 2) (C := RX2) (T := TX2) (N := 13) hx hb hB cx_inX2 hown hK TH hm0 hk0 rfl ⟨by decide, rfl⟩ 4 (by decide) cw_74 (fun _ h9 => h9) dX2_allows_11 (fun hv => ?_)
    obtain ⟨xr5, hxr5, hmxr5, hkxr5⟩ : ∃ a : Nat, tw_fv E a0 4 = .ref a ∧ a ∈ L ∧ kp a = 131 := hv
    rw [hxr5]
    refine lv_iload_n hx hb dX2_allows_14 rfl (lv_at hl 1 rfl) ?_
    refine tw_iald (k := 131) (t0 := 0) (n := 10) (lo := 0) (hi := 255) hx hb hK TH hmxr5 hkxr5 (by decide) rfl rfl (i := x1) (vp_in_iff.mpr ⟨by  omega, by  omega⟩) dX2_allows_15 (fun hxe6a hxe6b => ?_)
    obtain ⟨xe6, exe6⟩ : ∃ z : Int32, tw_iv E xr5 (Int32.toNatClampNeg x1) = z := ⟨_, rfl⟩
    rw [exe6] at hxe6a hxe6b ⊢
    refine lv_iconst (v := 2) hx hb dX2_allows_16 (by decide) ?_
    refine lv_icmp_ne (tgt := 33) hx hb dX2_allows_17 (by decide) (fun hc7 => ?_) (fun hc7 => ?_)
    · have hf8 : ¬ (xe6.toInt = 2) := fun q => hc7 ((fa_eq _ _).mpr (by have : ((2 : Int32).toInt) = 2 := (by decide); omega))
      refine lv_aload_n hx hb dX2_allows_33 rfl (lv_at hl 0 rfl) ?_
      refine tw_get (ci := 2) (C := RX2) (T := TX2) (N := 13) hx hb hB cx_inX2 hown hK TH hm0 hk0 rfl ⟨by decide, rfl⟩ 4 (by decide) cw_74 (fun _ h9 => h9) dX2_allows_34 (fun hv => ?_)
      rw [hxr5]
      refine lv_iload_n hx hb dX2_allows_37 rfl (lv_at hl 1 rfl) ?_
      refine tw_iald (k := 131) (t0 := 0) (n := 10) (lo := 0) (hi := 255) hx hb hK TH hmxr5 hkxr5 (by decide) rfl rfl (i := x1) (vp_in_iff.mpr ⟨by  omega, by  omega⟩) dX2_allows_38 (fun hxe9a hxe9b => ?_)
      rw [exe6]
      refine lv_iconst (v := 3) hx hb dX2_allows_39 (by decide) ?_
      refine lv_icmp_ne (tgt := 52) hx hb dX2_allows_40 (by decide) (fun hc10 => ?_) (fun hc10 => ?_)
      · have hf11 : ¬ (xe6.toInt = 3) := fun q => hc10 ((fa_eq _ _).mpr (by have : ((3 : Int32).toInt) = 3 := (by decide); omega))
        refine lv_aload_n hx hb dX2_allows_52 rfl (lv_at hl 0 rfl) ?_
        refine lv_iload_n hx hb dX2_allows_53 rfl (lv_at hl 1 rfl) ?_
        refine lv_aload_n hx hb dX2_allows_54 rfl (lv_at hl 2 rfl) ?_
        refine tw_Vc (o := a0) (ci := 2) (n := 2) (post := (fun v kq Lq Eq => (∃ x : Int32, v = some (.int x) ∧ 0 ≤ x.toInt ∧ x.toInt ≤ 1 ∧ gm_ok Eq a0) ∧ kp = kq ∧ L = Lq ∧ tw_fr kp L [] [135] E Eq)) (As := [.int x1, .ref a2]) (rest := []) ⟨hx, hb, hml, hown, hB⟩ (fun sz => tX2_saysItems l D cs a0 x1 a2 zfxc2_0_0 hm0 hk0 (by omega) (by omega) hm2 hk2 hzfxc2_0_0 (by  omega) hg0 sz) cg_2_115_X2_saysItems rfl rfl (by decide +kernel) ⟨Nat.le_of_ble_eq_true rfl, Nat.le_of_ble_eq_true rfl⟩ hK hN TH hS hA rfl hm0 hk0 (by decide) rfl hl.1 rfl (Nat.le_of_ble_eq_true rfl) dX2_allows_55 ⟨Nat.le_of_ble_eq_true rfl, Nat.le_of_ble_eq_true rfl⟩ (fun v12 kp12 L12 E12 H locs hq12 hx12 TH hS => ?_)
        obtain ⟨⟨xc13, rfl, hxc13a, hxc13b, hgpxc13_0⟩, rfl, rfl, hst12⟩ := hq12
        have hF := hF.tr hst12 (fun _ h => ⟨h, rfl⟩) (by decide) (by decide)
        have hmf14 : tw_fv E12 a0 1 = .int zfxc2_0_0 := (hst12.1 a0 1 hm0 (by rw [hk0]; decide)).trans hzfxc2_0_0
        have hmf15 : tw_fv E12 a0 4 = .ref xr5 := (hst12.1 a0 4 hm0 (by rw [hk0]; decide)).trans hxr5
        refine W.eq (g2 := F0 m 58 ls [.int xc13]) rfl ?_
        exact tw_zret hx hb hr hlocks (ia_bool (by omega) (by omega)) TH hS hex ⟨⟨_, rfl, (show 0 ≤ Int32.toInt xc13 from by  omega), (show Int32.toInt xc13 ≤ 1 from by  omega), hgpxc13_0⟩, rfl, rfl, hF⟩ (Nat.le_of_ble_eq_true rfl) (Nat.le_of_ble_eq_true rfl) dX2_allows_58
      · have hf16 : xe6.toInt = 3 := by have z := (fa_eq _ _).mp hc10; have : ((3 : Int32).toInt) = 3 := (by decide); omega
        refine lv_aload_n hx hb dX2_allows_43 rfl (lv_at hl 0 rfl) ?_
        refine lv_iload_n hx hb dX2_allows_44 rfl (lv_at hl 1 rfl) ?_
        refine lv_aload_n hx hb dX2_allows_45 rfl (lv_at hl 2 rfl) ?_
        refine tw_Vc (o := a0) (ci := 2) (n := 2) (post := (fun v kq Lq Eq => (∃ x : Int32, v = some (.int x) ∧ 0 ≤ x.toInt ∧ x.toInt ≤ 1) ∧ kp = kq ∧ L = Lq ∧ E = Eq)) (As := [.int x1, .ref a2]) (rest := []) ⟨hx, hb, hml, hown, hB⟩ (fun sz => tX2_namesAll l D cs a0 x1 a2 hm0 hk0 (by omega) (by omega) hm2 hk2 sz) cg_2_111_X2_namesAll rfl rfl (by decide +kernel) ⟨Nat.le_of_ble_eq_true rfl, Nat.le_of_ble_eq_true rfl⟩ hK hN TH hS hA rfl hm0 hk0 (by decide) rfl hl.1 rfl (Nat.le_of_ble_eq_true rfl) dX2_allows_46 ⟨Nat.le_of_ble_eq_true rfl, Nat.le_of_ble_eq_true rfl⟩ (fun v17 kp17 L17 E17 H locs hq17 hx17 TH hS => ?_)
        obtain ⟨⟨xc18, rfl, hxc18a, hxc18b⟩, rfl, rfl, rfl⟩ := hq17
        refine W.eq (g2 := F0 m 49 ls [.int xc18]) rfl ?_
        refine lv_goto (tgt := 58) hx hb dX2_allows_49 (by decide) ?_
        exact tw_zret hx hb hr hlocks (ia_bool (by omega) (by omega)) TH hS hex ⟨⟨_, rfl, (show 0 ≤ Int32.toInt xc18 from by  omega), (show Int32.toInt xc18 ≤ 1 from by  omega), hg0⟩, rfl, rfl, hF⟩ (Nat.le_of_ble_eq_true rfl) (Nat.le_of_ble_eq_true rfl) dX2_allows_58
    · have hf19 : xe6.toInt = 2 := by have z := (fa_eq _ _).mp hc7; have : ((2 : Int32).toInt) = 2 := (by decide); omega
      refine lv_aload_n hx hb dX2_allows_20 rfl (lv_at hl 2 rfl) ?_
      refine tw_get (ci := 3) (C := RX3) (T := TX3) (N := 3) hx hb hB cx_inX3 hown hK TH hm2 hk2 rfl ⟨by decide, rfl⟩ 0 (by decide) cw_178 (fun _ h9 => h9) dX2_allows_21 (fun hv => ?_)
      obtain ⟨xi20, hxi20, hxi20a, hxi20b⟩ : ∃ x : Int32, tw_fv E a2 0 = .int x ∧ 0 ≤ x.toInt ∧ x.toInt ≤ 40 := hv
      rw [hxi20]
      refine lv_if_ne (tgt := 31) hx hb dX2_allows_24 (by decide) (fun hc21 => ?_) (fun hc21 => ?_)
      · have hf22 : ¬ (xi20.toInt = 0) := fun q => hc21 ((fa_eq _ _).mpr (by have : ((0 : Int32).toInt) = 0 := (by decide); omega))
        refine lv_iconst (v := 0) hx hb dX2_allows_31 (by decide) ?_
        exact tw_zret hx hb hr hlocks (by decide) TH hS hex ⟨⟨_, rfl, (show 0 ≤ Int32.toInt 0 from by have : ((0 : Int32).toInt) = 0 := (by decide); omega), (show Int32.toInt 0 ≤ 1 from by have : ((0 : Int32).toInt) = 0 := (by decide); omega), hg0⟩, rfl, rfl, hF⟩ (Nat.le_of_ble_eq_true rfl) (Nat.le_of_ble_eq_true rfl) dX2_allows_32
      · have hf23 : xi20.toInt = 0 := by have z := (fa_eq _ _).mp hc21; have : ((0 : Int32).toInt) = 0 := (by decide); omega
        refine lv_iconst (v := 1) hx hb dX2_allows_27 (by decide) ?_
        refine lv_goto (tgt := 32) hx hb dX2_allows_28 (by decide) ?_
        exact tw_zret hx hb hr hlocks (by decide) TH hS hex ⟨⟨_, rfl, (show 0 ≤ Int32.toInt 1 from by have : ((1 : Int32).toInt) = 1 := (by decide); omega), (show Int32.toInt 1 ≤ 1 from by have : ((1 : Int32).toInt) = 1 := (by decide); omega), hg0⟩, rfl, rfl, hF⟩ (Nat.le_of_ble_eq_true rfl) (Nat.le_of_ble_eq_true rfl) dX2_allows_32
  · have hf24 : xc2.toInt = 0 := by have z := (fa_eq _ _).mp hc3; have : ((0 : Int32).toInt) = 0 := (by decide); omega
    refine lv_iconst (v := 0) hx hb dX2_allows_8 (by decide) ?_
    exact tw_zret hx hb hr hlocks (by decide) TH hS hex ⟨⟨_, rfl, (show 0 ≤ Int32.toInt 0 from by have : ((0 : Int32).toInt) = 0 := (by decide); omega), (show Int32.toInt 0 ≤ 1 from by have : ((0 : Int32).toInt) = 0 := (by decide); omega), hg0⟩, rfl, rfl, hF⟩ (Nat.le_of_ble_eq_true rfl) (Nat.le_of_ble_eq_true rfl) dX2_allows_9
set_option maxHeartbeats 4000000 in
set_option maxRecDepth 100000 in
theorem tX10_firstBreak (l : Launch) (D : va_G) (cs : Nat → ClassId) {kp : Nat → Nat} {L : List Nat} {E : Nat → va_E} (a0 : Nat) (a1 : Nat) (a2 : Nat) (hm0 : a0 ∈ L) (hk0 : kp a0 = 10) (hm1 : a1 ∈ L) (hk1 : kp a1 = 2) (hm2 : a2 ∈ L) (hk2 : kp a2 = 3) (hg0 : gm_ok E a1) (sz : Nat) : Met l yX10_firstBreak (.code yX10_firstBreak cX10_firstBreak 5 (some .int) :: cx_big) { frames := 3, cells := 0, slots := 0, locals := 73 } (tw_P D cs kp L E [.ref a0, .ref a1, .ref a2] sz) (tw_Q D cs kp L (fun v kq Lq Eq => (∃ x : Int32, v = some (.int x) ∧ (-1) ≤ x.toInt ∧ x.toInt ≤ 39 ∧ gm_ok Eq a1) ∧ kp = kq ∧ L = Lq ∧ tw_fr kp L [(3, 0)] [101, 102, 135] E Eq) (va_A (va_pl L E) sz)) 0 0 (va_A (va_pl L E) sz) := by
  refine tw_ofW (by decide) (Nat.le_of_ble_eq_true rfl) ?_
  intro p e s m below meth c A ls hx hb hr hml hB hown hlocks hK hN hA TH hS hl
  have hown : s.vm.findClass "TreeMerge$Tree" = some m.cls := hown
  have hl : lv_has ls 5 [(0, .ref a0), (1, .ref a1), (2, .ref a2)] := hl
  obtain ⟨kp0, ekp⟩ : ∃ z, z = kp := ⟨_, rfl⟩
  obtain ⟨L0, eL⟩ : ∃ z, z = L := ⟨_, rfl⟩
  rw [show tw_Q D cs kp L = tw_Q D cs kp0 L0 by rw [ekp, eL]]
  have hex : ∀ a : Nat, a ∈ L0 → a ∈ L ∧ kp a = kp0 a := fun a h => ⟨by rw [← eL]; exact h, by rw [ekp]⟩
  have hF : tw_fr kp L [(3, 0)] [101, 102, 135] E E := tw_fr.rf
  refine lv_aload_n hx hb dX10_firstBreak_0 rfl (lv_at hl 0 rfl) ?_
  refine tw_get (ci := 10) (C := RX10) (T := TX10) (N := 8) hx hb hB cx_inX10 hown hK TH hm0 hk0 rfl ⟨by decide, rfl⟩ 0 (by decide) cw_116 (fun _ h9 => h9) dX10_firstBreak_1 (fun hv => ?_)
  obtain ⟨xi1, hxi1, hxi1a, hxi1b⟩ : ∃ x : Int32, tw_fv E a0 0 = .int x ∧ 0 ≤ x.toInt ∧ x.toInt ≤ 40 := hv
  rw [hxi1]
  have hJ18 : ∀  (H : Heap) (locs : List Loc) (ls : Array Slot), tw_H D cs kp L E A H → va_S A s.heap H locs → lv_has ls 5 [(0, .ref a0), (1, .ref a1), (2, .ref a2)] → W p l e { frames := 3, cells := 0, slots := 0, locals := 73 } s m [.ref a0, .ref a1, .ref a2].toArray below meth c H locs 0 0 (MQ below (tw_Q D cs kp0 L0 (fun v kq Lq Eq => (∃ x : Int32, v = some (.int x) ∧ (-1) ≤ x.toInt ∧ x.toInt ≤ 39 ∧ gm_ok Eq a1) ∧ kp = kq ∧ L = Lq ∧ tw_fr kp L [(3, 0)] [101, 102, 135] E Eq) A) [.ref a0, .ref a1, .ref a2].toArray s 0 0 A) (F0 m 18 ls []) := by
    intro H locs ls TH hS hl
    refine lv_iconst (v := 0) hx hb dX10_firstBreak_18 (by decide) ?_
    refine lv_istore_n (lv' := [(3, .int 0), (0, .ref a0), (1, .ref a1), (2, .ref a2)]) hx hb dX10_firstBreak_19 rfl hl (by decide) rfl (fun ls hl => ?_)
    have hJ20 : ∀ (n20 : Nat) (y20_3 : Int32) (Eg20 : Nat → va_E) (H : Heap) (locs : List Loc) (ls : Array Slot), 0 ≤ y20_3.toInt → y20_3.toInt ≤ 40 → 40 - y20_3.toInt ≤ (n20 : Int) → tw_fr kp L [(3, 0)] [101, 102, 135] E Eg20 → gm_ok Eg20 a1 → tw_H D cs kp L Eg20 A H → va_S A s.heap H locs → lv_has ls 5 [(3, .int y20_3), (0, .ref a0), (1, .ref a1), (2, .ref a2)] → W p l e { frames := 3, cells := 0, slots := 0, locals := 73 } s m [.ref a0, .ref a1, .ref a2].toArray below meth c H locs 0 0 (MQ below (tw_Q D cs kp0 L0 (fun v kq Lq Eq => (∃ x : Int32, v = some (.int x) ∧ (-1) ≤ x.toInt ∧ x.toInt ≤ 39 ∧ gm_ok Eq a1) ∧ kp = kq ∧ L = Lq ∧ tw_fr kp L [(3, 0)] [101, 102, 135] E Eq) A) [.ref a0, .ref a1, .ref a2].toArray s 0 0 A) (F0 m 20 ls []) := by
      intro n20
      induction n20 using Nat.strongRecOn with
      | _ n20 ih20 =>
        intro y20_3 Eg20 H locs ls hy20_3a hy20_3b hmeas20 hG20 hg0 TH hS hl
        have hF := hF.tr hG20 (fun _ h => ⟨h, rfl⟩) (by decide) (by decide)
        have hmf2 : tw_fv Eg20 a0 0 = .int xi1 := (hG20.1 a0 0 hm0 (by rw [hk0]; decide)).trans hxi1
        refine lv_iload_n hx hb dX10_firstBreak_20 rfl (lv_at hl 0 rfl) ?_
        refine lv_aload_n hx hb dX10_firstBreak_21 rfl (lv_at hl 1 rfl) ?_
        refine tw_get (ci := 10) (C := RX10) (T := TX10) (N := 8) hx hb hB cx_inX10 hown hK TH hm0 hk0 rfl ⟨by decide, rfl⟩ 0 (by decide) cw_116 (fun _ h9 => h9) dX10_firstBreak_22 (fun hv => ?_)
        rw [hmf2]
        refine lv_icmp_ge (tgt := 123) hx hb dX10_firstBreak_25 (by decide) (fun hc3 => ?_) (fun hc3 => ?_)
        · have hf4 : xi1.toInt ≤ y20_3.toInt := by have z := (fa_le _ _).mp hc3;  omega
          refine lv_iconst (v := (-1)) hx hb dX10_firstBreak_123 (by decide) ?_
          exact tw_iret hx hb hr hlocks TH hS hex ⟨⟨_, rfl, (show (-1) ≤ Int32.toInt (-1) from by have : (((-1) : Int32).toInt) = (-1) := (by decide); omega), (show Int32.toInt (-1) ≤ 39 from by have : (((-1) : Int32).toInt) = (-1) := (by decide); omega), hg0⟩, rfl, rfl, hF⟩ (Nat.le_of_ble_eq_true rfl) (Nat.le_of_ble_eq_true rfl) dX10_firstBreak_124
        · have hf5 : ¬ (xi1.toInt ≤ y20_3.toInt) := fun q => hc3 ((fa_le _ _).mpr (by  omega))
          refine lv_aload_n hx hb dX10_firstBreak_28 rfl (lv_at hl 3 rfl) ?_
          refine tw_Vc (o := a2) (ci := 3) (n := 0) (post := (fun v kq Lq Eq => v = none ∧ kp = kq ∧ L = Lq ∧ tw_fr kp L [(3, 0)] [] Eg20 Eq)) (As := []) (rest := []) ⟨hx, hb, hml, hown, hB⟩ (fun sz => tX3_clear l D cs a2 hm2 hk2 sz) cg_10_100_X3_clear rfl rfl (by decide +kernel) ⟨Nat.le_of_ble_eq_true rfl, Nat.le_of_ble_eq_true rfl⟩ hK hN TH hS hA rfl hm2 hk2 (by decide) rfl hl.1 rfl (Nat.le_of_ble_eq_true rfl) dX10_firstBreak_29 ⟨Nat.le_of_ble_eq_true rfl, Nat.le_of_ble_eq_true rfl⟩ (fun v6 kp6 L6 E6 H locs hq6 hx6 TH hS => ?_)
          obtain ⟨rfl, rfl, rfl, hst6⟩ := hq6
          have hF := hF.tr hst6 (fun _ h => ⟨h, rfl⟩) (by decide) (by decide)
          have hG20 := hG20.tr hst6 (fun _ h => ⟨h, rfl⟩) (by decide) (by decide)
          have hmf8 : tw_fv E6 a0 0 = .int xi1 := (hst6.1 a0 0 hm0 (by rw [hk0]; decide)).trans hmf2
          have hg0 : gm_ok E6 a1 := gm_ok_fr TH hst6 hm1 hk1 (by decide) (by decide) hg0
          refine W.eq (g2 := F0 m 32 ls []) rfl ?_
          refine lv_iload_n hx hb dX10_firstBreak_32 rfl (lv_at hl 0 rfl) ?_
          refine lv_iconst (v := 1) hx hb dX10_firstBreak_33 (by decide) ?_
          refine lv_iadd hx hb dX10_firstBreak_34 ?_
          refine lv_topi (fun zi9 ezi9 => ?_)
          have hzi9 : zi9.toInt = y20_3.toInt + 1 := by rw [ezi9]; have : ((1 : Int32).toInt) = 1 := (by decide); have := ia_lo y20_3; have := ia_hi y20_3; exact (ia_add (by omega) (by omega)).trans (by omega)
          refine lv_istore (lv' := [(4, .int zi9), (3, .int y20_3), (0, .ref a0), (1, .ref a1), (2, .ref a2)]) hx hb dX10_firstBreak_35 hl (by decide) rfl (fun ls hl => ?_)
          have hJ37 : ∀ (n37 : Nat) (y37_4 : Int32) (Eg37 : Nat → va_E) (H : Heap) (locs : List Loc) (ls : Array Slot), 1 ≤ y37_4.toInt → y37_4.toInt ≤ 40 → 40 - y37_4.toInt ≤ (n37 : Int) → tw_fr kp L [(3, 0)] [101, 102] E6 Eg37 → gm_ok Eg37 a1 → tw_H D cs kp L Eg37 A H → va_S A s.heap H locs → lv_has ls 5 [(4, .int y37_4), (3, .int y20_3), (0, .ref a0), (1, .ref a1), (2, .ref a2)] → W p l e { frames := 3, cells := 0, slots := 0, locals := 73 } s m [.ref a0, .ref a1, .ref a2].toArray below meth c H locs 0 0 (MQ below (tw_Q D cs kp0 L0 (fun v kq Lq Eq => (∃ x : Int32, v = some (.int x) ∧ (-1) ≤ x.toInt ∧ x.toInt ≤ 39 ∧ gm_ok Eq a1) ∧ kp = kq ∧ L = Lq ∧ tw_fr kp L [(3, 0)] [101, 102, 135] E Eq) A) [.ref a0, .ref a1, .ref a2].toArray s 0 0 A) (F0 m 37 ls []) := by
            intro n37
            induction n37 using Nat.strongRecOn with
            | _ n37 ih37 =>
              intro y37_4 Eg37 H locs ls hy37_4a hy37_4b hmeas37 hG37 hg0 TH hS hl
              have hF := hF.tr hG37 (fun _ h => ⟨h, rfl⟩) (by decide) (by decide)
              have hG20 := hG20.tr hG37 (fun _ h => ⟨h, rfl⟩) (by decide) (by decide)
              have hmf10 : tw_fv Eg37 a0 0 = .int xi1 := (hG37.1 a0 0 hm0 (by rw [hk0]; decide)).trans hmf8
              refine lv_iload hx hb dX10_firstBreak_37 (lv_at hl 0 rfl) ?_
              refine lv_aload_n hx hb dX10_firstBreak_39 rfl (lv_at hl 2 rfl) ?_
              refine tw_get (ci := 10) (C := RX10) (T := TX10) (N := 8) hx hb hB cx_inX10 hown hK TH hm0 hk0 rfl ⟨by decide, rfl⟩ 0 (by decide) cw_116 (fun _ h9 => h9) dX10_firstBreak_40 (fun hv => ?_)
              rw [hmf10]
              refine lv_icmp_ge (tgt := 81) hx hb dX10_firstBreak_43 (by decide) (fun hc11 => ?_) (fun hc11 => ?_)
              · have hf12 : xi1.toInt ≤ y37_4.toInt := by have z := (fa_le _ _).mp hc11;  omega
                refine lv_aload_n hx hb dX10_firstBreak_81 rfl (lv_at hl 3 rfl) ?_
                refine lv_aload_n hx hb dX10_firstBreak_82 rfl (lv_at hl 2 rfl) ?_
                refine tw_get (ci := 10) (C := RX10) (T := TX10) (N := 8) hx hb hB cx_inX10 hown hK TH hm0 hk0 rfl ⟨by decide, rfl⟩ 5 (by decide) cw_138 (fun _ h9 => h9) dX10_firstBreak_83 (fun hv => ?_)
                obtain ⟨xr13, hxr13, hmxr13, hkxr13⟩ : ∃ a : Nat, tw_fv Eg37 a0 5 = .ref a ∧ a ∈ L ∧ kp a = 114 := hv
                rw [hxr13]
                refine lv_iload_n hx hb dX10_firstBreak_86 rfl (lv_at hl 1 rfl) ?_
                refine tw_iald (k := 114) (t0 := 0) (n := 40) (lo := (-1)) (hi := 9) hx hb hK TH hmxr13 hkxr13 (by decide) rfl rfl (i := y20_3) (vp_in_iff.mpr ⟨by  omega, by  omega⟩) dX10_firstBreak_87 (fun hxe14a hxe14b => ?_)
                obtain ⟨xe14, exe14⟩ : ∃ z : Int32, tw_iv Eg37 xr13 (Int32.toNatClampNeg y20_3) = z := ⟨_, rfl⟩
                rw [exe14] at hxe14a hxe14b ⊢
                refine lv_aload_n hx hb dX10_firstBreak_88 rfl (lv_at hl 4 rfl) ?_
                refine tw_Vc (o := a1) (ci := 2) (n := 2) (post := (fun v kq Lq Eq => (∃ x : Int32, v = some (.int x) ∧ 0 ≤ x.toInt ∧ x.toInt ≤ 1 ∧ gm_ok Eq a1) ∧ kp = kq ∧ L = Lq ∧ tw_fr kp L [] [135] Eg37 Eq)) (As := [.int xe14, .ref a2]) (rest := []) ⟨hx, hb, hml, hown, hB⟩ (fun sz => tX2_allows l D cs a1 xe14 a2 hm1 hk1 hm2 hk2 hg0 sz) cg_10_106_X2_allows rfl rfl (by decide +kernel) ⟨Nat.le_of_ble_eq_true rfl, Nat.le_of_ble_eq_true rfl⟩ hK hN TH hS hA rfl hm1 hk1 (by decide) rfl hl.1 rfl (Nat.le_of_ble_eq_true rfl) dX10_firstBreak_89 ⟨Nat.le_of_ble_eq_true rfl, Nat.le_of_ble_eq_true rfl⟩ (fun v15 kp15 L15 E15 H locs hq15 hx15 TH hS => ?_)
                obtain ⟨⟨xc16, rfl, hxc16a, hxc16b, hgpxc16_0⟩, rfl, rfl, hst15⟩ := hq15
                have hF := hF.tr hst15 (fun _ h => ⟨h, rfl⟩) (by decide) (by decide)
                have hG20 := hG20.tr hst15 (fun _ h => ⟨h, rfl⟩) (by decide) (by decide)
                have hmf17 : tw_fv E15 a0 0 = .int xi1 := (hst15.1 a0 0 hm0 (by rw [hk0]; decide)).trans hmf10
                have hmf18 : tw_fv E15 a0 5 = .ref xr13 := (hst15.1 a0 5 hm0 (by rw [hk0]; decide)).trans hxr13
                refine W.eq (g2 := F0 m 92 ls [.int xc16]) rfl ?_
                refine lv_if_eq (tgt := 115) hx hb dX10_firstBreak_92 (by decide) (fun hc19 => ?_) (fun hc19 => ?_)
                · have hf20 : xc16.toInt = 0 := by have z := (fa_eq _ _).mp hc19; have : ((0 : Int32).toInt) = 0 := (by decide); omega
                  refine lv_iload_n hx hb dX10_firstBreak_115 rfl (lv_at hl 1 rfl) ?_
                  exact tw_iret hx hb hr hlocks TH hS hex ⟨⟨_, rfl, (show (-1) ≤ Int32.toInt y20_3 from by  omega), (show Int32.toInt y20_3 ≤ 39 from by  omega), hgpxc16_0⟩, rfl, rfl, hF⟩ (Nat.le_of_ble_eq_true rfl) (Nat.le_of_ble_eq_true rfl) dX10_firstBreak_116
                · have hf21 : ¬ (xc16.toInt = 0) := fun q => hc19 ((fa_eq _ _).mpr (by have : ((0 : Int32).toInt) = 0 := (by decide); omega))
                  refine lv_aload_n hx hb dX10_firstBreak_95 rfl (lv_at hl 3 rfl) ?_
                  refine lv_aload_n hx hb dX10_firstBreak_96 rfl (lv_at hl 2 rfl) ?_
                  refine tw_get (ci := 10) (C := RX10) (T := TX10) (N := 8) hx hb hB cx_inX10 hown hK TH hm0 hk0 rfl ⟨by decide, rfl⟩ 5 (by decide) cw_138 (fun _ h9 => h9) dX10_firstBreak_97 (fun hv => ?_)
                  rw [hmf18]
                  refine lv_iload_n hx hb dX10_firstBreak_100 rfl (lv_at hl 1 rfl) ?_
                  refine tw_iald (k := 114) (t0 := 0) (n := 40) (lo := (-1)) (hi := 9) hx hb hK TH hmxr13 hkxr13 (by decide) rfl rfl (i := y20_3) (vp_in_iff.mpr ⟨by  omega, by  omega⟩) dX10_firstBreak_101 (fun hxe22a hxe22b => ?_)
                  obtain ⟨xe22, exe22⟩ : ∃ z : Int32, tw_iv E15 xr13 (Int32.toNatClampNeg y20_3) = z := ⟨_, rfl⟩
                  rw [exe22] at hxe22a hxe22b ⊢
                  refine tw_Vc (o := a1) (ci := 2) (n := 1) (post := (fun v kq Lq Eq => (∃ x : Int32, v = some (.int x) ∧ 0 ≤ x.toInt ∧ x.toInt ≤ 1) ∧ kp = kq ∧ L = Lq ∧ E15 = Eq)) (As := [.int xe22]) (rest := []) ⟨hx, hb, hml, hown, hB⟩ (fun sz => tX2_isSet l D cs a1 xe22 hm1 hk1 sz) cg_10_84_X2_isSet rfl rfl (by decide +kernel) ⟨Nat.le_of_ble_eq_true rfl, Nat.le_of_ble_eq_true rfl⟩ hK hN TH hS hA rfl hm1 hk1 (by decide) rfl hl.1 rfl (Nat.le_of_ble_eq_true rfl) dX10_firstBreak_102 ⟨Nat.le_of_ble_eq_true rfl, Nat.le_of_ble_eq_true rfl⟩ (fun v23 kp23 L23 E23 H locs hq23 hx23 TH hS => ?_)
                  obtain ⟨⟨xc24, rfl, hxc24a, hxc24b⟩, rfl, rfl, rfl⟩ := hq23
                  refine W.eq (g2 := F0 m 105 ls [.int xc24]) rfl ?_
                  have hJ117 : ∀  (H : Heap) (locs : List Loc) (ls : Array Slot), tw_H D cs kp L E15 A H → va_S A s.heap H locs → lv_has ls 5 [(3, .int y20_3), (0, .ref a0), (1, .ref a1), (2, .ref a2)] → W p l e { frames := 3, cells := 0, slots := 0, locals := 73 } s m [.ref a0, .ref a1, .ref a2].toArray below meth c H locs 0 0 (MQ below (tw_Q D cs kp0 L0 (fun v kq Lq Eq => (∃ x : Int32, v = some (.int x) ∧ (-1) ≤ x.toInt ∧ x.toInt ≤ 39 ∧ gm_ok Eq a1) ∧ kp = kq ∧ L = Lq ∧ tw_fr kp L [(3, 0)] [101, 102, 135] E Eq) A) [.ref a0, .ref a1, .ref a2].toArray s 0 0 A) (F0 m 117 ls []) := by
                    intro H locs ls TH hS hl
                    obtain ⟨zi25, ezi25⟩ : ∃ z : Int32, z = y20_3 + Int32.ofInt 1 := ⟨_, rfl⟩
                    have hzi25 : zi25.toInt = y20_3.toInt + 1 := by rw [ezi25]; have : ((Int32.ofInt 1).toInt) = 1 := (by decide);  exact (ia_add (by omega) (by omega)).trans (by omega)
                    refine lv_iinc (v := zi25) (lv' := [(3, .int zi25), (0, .ref a0), (1, .ref a1), (2, .ref a2)]) hx hb dX10_firstBreak_117 hl (k := 0) rfl ezi25.symm (by decide) rfl (fun ls hl => ?_)
                    refine lv_goto (tgt := 20) hx hb dX10_firstBreak_120 (by decide) ?_
                    exact ih20 (n20 - 1) (by   omega) zi25 _ _ _ ls (by omega) (by omega) (by   omega) hG20 hgpxc16_0 TH hS (lv_sub hl [0, 1, 2, 3] rfl)
                  refine lv_if_eq (tgt := 117) hx hb dX10_firstBreak_105 (by decide) (fun hc26 => ?_) (fun hc26 => ?_)
                  · have hf27 : xc24.toInt = 0 := by have z := (fa_eq _ _).mp hc26; have : ((0 : Int32).toInt) = 0 := (by decide); omega
                    exact hJ117  _ _ ls  TH hS (lv_sub hl [1, 2, 3, 4] rfl)
                  · have hf28 : ¬ (xc24.toInt = 0) := fun q => hc26 ((fa_eq _ _).mpr (by have : ((0 : Int32).toInt) = 0 := (by decide); omega))
                    refine lv_aload_n hx hb dX10_firstBreak_108 rfl (lv_at hl 4 rfl) ?_
                    refine tw_Vc (o := a2) (ci := 3) (n := 0) (post := (fun v kq Lq Eq => (∃ x : Int32, v = some (.int x) ∧ 0 ≤ x.toInt ∧ x.toInt ≤ 1) ∧ kp = kq ∧ L = Lq ∧ E15 = Eq)) (As := []) (rest := []) ⟨hx, hb, hml, hown, hB⟩ (fun sz => tX3_hasLikes l D cs a2 hm2 hk2 sz) cg_10_110_X3_hasLikes rfl rfl (by decide +kernel) ⟨Nat.le_of_ble_eq_true rfl, Nat.le_of_ble_eq_true rfl⟩ hK hN TH hS hA rfl hm2 hk2 (by decide) rfl hl.1 rfl (Nat.le_of_ble_eq_true rfl) dX10_firstBreak_109 ⟨Nat.le_of_ble_eq_true rfl, Nat.le_of_ble_eq_true rfl⟩ (fun v29 kp29 L29 E29 H locs hq29 hx29 TH hS => ?_)
                    obtain ⟨⟨xc30, rfl, hxc30a, hxc30b⟩, rfl, rfl, rfl⟩ := hq29
                    refine W.eq (g2 := F0 m 112 ls [.int xc30]) rfl ?_
                    refine lv_if_eq (tgt := 117) hx hb dX10_firstBreak_112 (by decide) (fun hc31 => ?_) (fun hc31 => ?_)
                    · have hf32 : xc30.toInt = 0 := by have z := (fa_eq _ _).mp hc31; have : ((0 : Int32).toInt) = 0 := (by decide); omega
                      exact hJ117  _ _ ls  TH hS (lv_sub hl [1, 2, 3, 4] rfl)
                    · have hf33 : ¬ (xc30.toInt = 0) := fun q => hc31 ((fa_eq _ _).mpr (by have : ((0 : Int32).toInt) = 0 := (by decide); omega))
                      refine lv_iload_n hx hb dX10_firstBreak_115 rfl (lv_at hl 1 rfl) ?_
                      exact tw_iret hx hb hr hlocks TH hS hex ⟨⟨_, rfl, (show (-1) ≤ Int32.toInt y20_3 from by  omega), (show Int32.toInt y20_3 ≤ 39 from by  omega), hgpxc16_0⟩, rfl, rfl, hF⟩ (Nat.le_of_ble_eq_true rfl) (Nat.le_of_ble_eq_true rfl) dX10_firstBreak_116
              · have hf34 : ¬ (xi1.toInt ≤ y37_4.toInt) := fun q => hc11 ((fa_le _ _).mpr (by  omega))
                refine lv_aload_n hx hb dX10_firstBreak_46 rfl (lv_at hl 2 rfl) ?_
                refine tw_get (ci := 10) (C := RX10) (T := TX10) (N := 8) hx hb hB cx_inX10 hown hK TH hm0 hk0 rfl ⟨by decide, rfl⟩ 3 (by decide) cw_130 (fun _ h9 => h9) dX10_firstBreak_47 (fun hv => ?_)
                obtain ⟨xr35, hxr35, hmxr35, hkxr35⟩ : ∃ a : Nat, tw_fv Eg37 a0 3 = .ref a ∧ a ∈ L ∧ kp a = 112 := hv
                rw [hxr35]
                refine lv_iload hx hb dX10_firstBreak_50 (lv_at hl 0 rfl) ?_
                refine tw_iald (k := 112) (t0 := 0) (n := 40) (lo := (-1)) (hi := 39) hx hb hK TH hmxr35 hkxr35 (by decide) rfl rfl (i := y37_4) (vp_in_iff.mpr ⟨by  omega, by  omega⟩) dX10_firstBreak_52 (fun hxe36a hxe36b => ?_)
                obtain ⟨xe36, exe36⟩ : ∃ z : Int32, tw_iv Eg37 xr35 (Int32.toNatClampNeg y37_4) = z := ⟨_, rfl⟩
                rw [exe36] at hxe36a hxe36b ⊢
                refine lv_iload_n hx hb dX10_firstBreak_53 rfl (lv_at hl 1 rfl) ?_
                have hJ75 : ∀  (Eg75 : Nat → va_E) (H : Heap) (locs : List Loc) (ls : Array Slot), tw_fr kp L [(3, 0)] [101, 102] Eg37 Eg75 → gm_ok Eg75 a1 → tw_H D cs kp L Eg75 A H → va_S A s.heap H locs → lv_has ls 5 [(4, .int y37_4), (3, .int y20_3), (0, .ref a0), (1, .ref a1), (2, .ref a2)] → W p l e { frames := 3, cells := 0, slots := 0, locals := 73 } s m [.ref a0, .ref a1, .ref a2].toArray below meth c H locs 0 0 (MQ below (tw_Q D cs kp0 L0 (fun v kq Lq Eq => (∃ x : Int32, v = some (.int x) ∧ (-1) ≤ x.toInt ∧ x.toInt ≤ 39 ∧ gm_ok Eq a1) ∧ kp = kq ∧ L = Lq ∧ tw_fr kp L [(3, 0)] [101, 102, 135] E Eq) A) [.ref a0, .ref a1, .ref a2].toArray s 0 0 A) (F0 m 75 ls []) := by
                  intro Eg75 H locs ls hG75 hg0 TH hS hl
                  have hF := hF.tr hG75 (fun _ h => ⟨h, rfl⟩) (by decide) (by decide)
                  have hG20 := hG20.tr hG75 (fun _ h => ⟨h, rfl⟩) (by decide) (by decide)
                  have hG37 := hG37.tr hG75 (fun _ h => ⟨h, rfl⟩) (by decide) (by decide)
                  have hmf37 : tw_fv Eg75 a0 0 = .int xi1 := (hG75.1 a0 0 hm0 (by rw [hk0]; decide)).trans hmf10
                  have hmf38 : tw_fv Eg75 a0 3 = .ref xr35 := (hG75.1 a0 3 hm0 (by rw [hk0]; decide)).trans hxr35
                  obtain ⟨zi39, ezi39⟩ : ∃ z : Int32, z = y37_4 + Int32.ofInt 1 := ⟨_, rfl⟩
                  have hzi39 : zi39.toInt = y37_4.toInt + 1 := by rw [ezi39]; have : ((Int32.ofInt 1).toInt) = 1 := (by decide);  exact (ia_add (by omega) (by omega)).trans (by omega)
                  refine lv_iinc (v := zi39) (lv' := [(4, .int zi39), (3, .int y20_3), (0, .ref a0), (1, .ref a1), (2, .ref a2)]) hx hb dX10_firstBreak_75 hl (k := 0) rfl ezi39.symm (by decide) rfl (fun ls hl => ?_)
                  refine lv_goto (tgt := 37) hx hb dX10_firstBreak_78 (by decide) ?_
                  exact ih37 (n37 - 1) (by   omega) zi39 _ _ _ ls (by omega) (by omega) (by   omega) hG37 hg0 TH hS (lv_sub hl [0, 1, 2, 3, 4] rfl)
                have hG75 : tw_fr kp L [(3, 0)] [101, 102] Eg37 Eg37 := tw_fr.rf
                refine lv_icmp_ne (tgt := 75) hx hb dX10_firstBreak_54 (by decide) (fun hc40 => ?_) (fun hc40 => ?_)
                · have hf41 : ¬ (xe36.toInt = y20_3.toInt) := fun q => hc40 ((fa_eq _ _).mpr (by  omega))
                  exact hJ75  _ _ _ ls hG75 hg0 TH hS (lv_sub hl [0, 1, 2, 3, 4] rfl)
                · have hf42 : xe36.toInt = y20_3.toInt := by have z := (fa_eq _ _).mp hc40;  omega
                  refine lv_aload_n hx hb dX10_firstBreak_57 rfl (lv_at hl 4 rfl) ?_
                  refine lv_aload_n hx hb dX10_firstBreak_58 rfl (lv_at hl 2 rfl) ?_
                  refine tw_get (ci := 10) (C := RX10) (T := TX10) (N := 8) hx hb hB cx_inX10 hown hK TH hm0 hk0 rfl ⟨by decide, rfl⟩ 5 (by decide) cw_138 (fun _ h9 => h9) dX10_firstBreak_59 (fun hv => ?_)
                  obtain ⟨xr43, hxr43, hmxr43, hkxr43⟩ : ∃ a : Nat, tw_fv Eg37 a0 5 = .ref a ∧ a ∈ L ∧ kp a = 114 := hv
                  rw [hxr43]
                  refine lv_iload hx hb dX10_firstBreak_62 (lv_at hl 0 rfl) ?_
                  refine tw_iald (k := 114) (t0 := 0) (n := 40) (lo := (-1)) (hi := 9) hx hb hK TH hmxr43 hkxr43 (by decide) rfl rfl (i := y37_4) (vp_in_iff.mpr ⟨by  omega, by  omega⟩) dX10_firstBreak_64 (fun hxe44a hxe44b => ?_)
                  obtain ⟨xe44, exe44⟩ : ∃ z : Int32, tw_iv Eg37 xr43 (Int32.toNatClampNeg y37_4) = z := ⟨_, rfl⟩
                  rw [exe44] at hxe44a hxe44b ⊢
                  refine lv_aload_n hx hb dX10_firstBreak_65 rfl (lv_at hl 2 rfl) ?_
                  refine tw_get (ci := 10) (C := RX10) (T := TX10) (N := 8) hx hb hB cx_inX10 hown hK TH hm0 hk0 rfl ⟨by decide, rfl⟩ 6 (by decide) cw_144 (fun _ h9 => h9) dX10_firstBreak_66 (fun hv => ?_)
                  obtain ⟨xr45, hxr45, hmxr45, hkxr45⟩ : ∃ a : Nat, tw_fv Eg37 a0 6 = .ref a ∧ a ∈ L ∧ kp a = 102 := hv
                  rw [hxr45]
                  refine lv_iload hx hb dX10_firstBreak_69 (lv_at hl 0 rfl) ?_
                  refine tw_lald (k := 102) (n := 40) (lo := 0) (hi := 0) hx hb hK TH hmxr45 hkxr45 (by decide) rfl (i := y37_4) (vp_in_iff.mpr ⟨by  omega, by  omega⟩) dX10_firstBreak_71 (fun xl46 => ?_)
                  refine tw_Vc (o := a2) (ci := 3) (n := 2) (post := (fun v kq Lq Eq => v = none ∧ kp = kq ∧ L = Lq ∧ tw_fr kp L [(3, 0)] [101, 102] Eg37 Eq)) (As := [.int xe44, .long xl46]) (rest := []) ⟨hx, hb, hml, hown, hB⟩ (fun sz => tX3_add l D cs a2 xe44 xl46 hm2 hk2 (by omega) (by omega) sz) cg_10_103_X3_add rfl rfl (by decide +kernel) ⟨Nat.le_of_ble_eq_true rfl, Nat.le_of_ble_eq_true rfl⟩ hK hN TH hS hA rfl hm2 hk2 (by decide) rfl hl.1 rfl (Nat.le_of_ble_eq_true rfl) dX10_firstBreak_72 ⟨Nat.le_of_ble_eq_true rfl, Nat.le_of_ble_eq_true rfl⟩ (fun v47 kp47 L47 E47 H locs hq47 hx47 TH hS => ?_)
                  obtain ⟨rfl, rfl, rfl, hst47⟩ := hq47
                  have hF := hF.tr hst47 (fun _ h => ⟨h, rfl⟩) (by decide) (by decide)
                  have hG20 := hG20.tr hst47 (fun _ h => ⟨h, rfl⟩) (by decide) (by decide)
                  have hG37 := hG37.tr hst47 (fun _ h => ⟨h, rfl⟩) (by decide) (by decide)
                  have hG75 := hG75.tr hst47 (fun _ h => ⟨h, rfl⟩) (by decide) (by decide)
                  have hmf49 : tw_fv E47 a0 0 = .int xi1 := (hst47.1 a0 0 hm0 (by rw [hk0]; decide)).trans hmf10
                  have hmf50 : tw_fv E47 a0 3 = .ref xr35 := (hst47.1 a0 3 hm0 (by rw [hk0]; decide)).trans hxr35
                  have hmf51 : tw_fv E47 a0 5 = .ref xr43 := (hst47.1 a0 5 hm0 (by rw [hk0]; decide)).trans hxr43
                  have hmf52 : tw_fv E47 a0 6 = .ref xr45 := (hst47.1 a0 6 hm0 (by rw [hk0]; decide)).trans hxr45
                  have hg0 : gm_ok E47 a1 := gm_ok_fr TH hst47 hm1 hk1 (by decide) (by decide) hg0
                  refine W.eq (g2 := F0 m 75 ls []) rfl ?_
                  exact hJ75  _ _ _ ls hG75 hg0 TH hS (lv_sub hl [0, 1, 2, 3, 4] rfl)
          exact hJ37 40 zi9 _ _ _ ls (by omega) (by omega) (by   omega) tw_fr.rf hg0 TH hS (lv_sub hl [0, 1, 2, 3, 4] rfl)
    exact hJ20 41 (0 : Int32) _ _ _ ls (by have : ((0 : Int32).toInt) = 0 := (by decide); omega) (by have : ((0 : Int32).toInt) = 0 := (by decide); omega) (by have : ((0 : Int32).toInt) = 0 := (by decide);  omega) tw_fr.rf hg0 TH hS (lv_sub hl [0, 1, 2, 3] rfl)
  refine lv_if_le (tgt := 18) hx hb dX10_firstBreak_4 (by decide) (fun hc53 => ?_) (fun hc53 => ?_)
  · have hf54 : xi1.toInt ≤ 0 := by have z := (fa_le _ _).mp hc53; have : ((0 : Int32).toInt) = 0 := (by decide); omega
    exact hJ18  _ _ ls  TH hS (lv_sub hl [0, 1, 2] rfl)
  · have hf55 : ¬ (xi1.toInt ≤ 0) := fun q => hc53 ((fa_le _ _).mpr (by have : ((0 : Int32).toInt) = 0 := (by decide); omega))
    refine lv_aload_n hx hb dX10_firstBreak_7 rfl (lv_at hl 0 rfl) ?_
    refine tw_get (ci := 10) (C := RX10) (T := TX10) (N := 8) hx hb hB cx_inX10 hown hK TH hm0 hk0 rfl ⟨by decide, rfl⟩ 5 (by decide) cw_138 (fun _ h9 => h9) dX10_firstBreak_8 (fun hv => ?_)
    obtain ⟨xr56, hxr56, hmxr56, hkxr56⟩ : ∃ a : Nat, tw_fv E a0 5 = .ref a ∧ a ∈ L ∧ kp a = 114 := hv
    rw [hxr56]
    refine lv_iconst (v := 0) hx hb dX10_firstBreak_11 (by decide) ?_
    refine tw_iald (k := 114) (t0 := 0) (n := 40) (lo := (-1)) (hi := 9) hx hb hK TH hmxr56 hkxr56 (by decide) rfl rfl (i := 0) (vp_in_iff.mpr ⟨by have : ((0 : Int32).toInt) = 0 := (by decide); omega, by have : ((0 : Int32).toInt) = 0 := (by decide); omega⟩) dX10_firstBreak_12 (fun hxe57a hxe57b => ?_)
    obtain ⟨xe57, exe57⟩ : ∃ z : Int32, tw_iv E xr56 (Int32.toNatClampNeg 0) = z := ⟨_, rfl⟩
    rw [exe57] at hxe57a hxe57b ⊢
    refine lv_if_eq (tgt := 18) hx hb dX10_firstBreak_13 (by decide) (fun hc58 => ?_) (fun hc58 => ?_)
    · have hf59 : xe57.toInt = 0 := by have z := (fa_eq _ _).mp hc58; have : ((0 : Int32).toInt) = 0 := (by decide); omega
      exact hJ18  _ _ ls  TH hS (lv_sub hl [0, 1, 2] rfl)
    · have hf60 : ¬ (xe57.toInt = 0) := fun q => hc58 ((fa_eq _ _).mpr (by have : ((0 : Int32).toInt) = 0 := (by decide); omega))
      refine lv_iconst (v := 0) hx hb dX10_firstBreak_16 (by decide) ?_
      exact tw_iret hx hb hr hlocks TH hS hex ⟨⟨_, rfl, (show (-1) ≤ Int32.toInt 0 from by have : ((0 : Int32).toInt) = 0 := (by decide); omega), (show Int32.toInt 0 ≤ 39 from by have : ((0 : Int32).toInt) = 0 := (by decide); omega), hg0⟩, rfl, rfl, hF⟩ (Nat.le_of_ble_eq_true rfl) (Nat.le_of_ble_eq_true rfl) dX10_firstBreak_17
set_option maxHeartbeats 4000000 in
set_option maxRecDepth 100000 in
theorem tX10_nameOf (l : Launch) (D : va_G) (cs : Nat → ClassId) {kp : Nat → Nat} {L : List Nat} {E : Nat → va_E} (a0 : Nat) (x1 : Int32) (a2 : Nat) (hm0 : a0 ∈ L) (hk0 : kp a0 = 10) (hp1a : 0 ≤ x1.toInt) (hp1b : x1.toInt ≤ 39) (hm2 : a2 ∈ L) (hk2 : kp a2 = 182) (sz : Nat) : Met l yX10_nameOf (.code yX10_nameOf cX10_nameOf 7 (some .int) :: cx_big) { frames := 0, cells := 0, slots := 0, locals := 0 } (tw_P D cs kp L E [.ref a0, .int x1, .ref a2] sz) (tw_Q D cs kp L (fun v kq Lq Eq => (∃ x : Int32, v = some (.int x)) ∧ kp = kq ∧ L = Lq ∧ tw_fr kp L [] [182] E Eq) (va_A (va_pl L E) sz)) 0 0 (va_A (va_pl L E) sz) := by
  refine tw_ofW (by decide) (Nat.le_of_ble_eq_true rfl) ?_
  intro p e s m below meth c A ls hx hb hr hml hB hown hlocks hK hN hA TH hS hl
  have hown : s.vm.findClass "TreeMerge$Tree" = some m.cls := hown
  have hl : lv_has ls 7 [(0, .ref a0), (1, .int x1), (2, .ref a2)] := hl
  obtain ⟨kp0, ekp⟩ : ∃ z, z = kp := ⟨_, rfl⟩
  obtain ⟨L0, eL⟩ : ∃ z, z = L := ⟨_, rfl⟩
  rw [show tw_Q D cs kp L = tw_Q D cs kp0 L0 by rw [ekp, eL]]
  have hex : ∀ a : Nat, a ∈ L0 → a ∈ L ∧ kp a = kp0 a := fun a h => ⟨by rw [← eL]; exact h, by rw [ekp]⟩
  have hF : tw_fr kp L [] [182] E E := tw_fr.rf
  refine lv_aload_n hx hb dX10_nameOf_0 rfl (lv_at hl 0 rfl) ?_
  refine tw_get (ci := 10) (C := RX10) (T := TX10) (N := 8) hx hb hB cx_inX10 hown hK TH hm0 hk0 rfl ⟨by decide, rfl⟩ 0 (by decide) cw_116 (fun _ h9 => h9) dX10_nameOf_1 (fun hv => ?_)
  obtain ⟨xi1, hxi1, hxi1a, hxi1b⟩ : ∃ x : Int32, tw_fv E a0 0 = .int x ∧ 0 ≤ x.toInt ∧ x.toInt ≤ 40 := hv
  rw [hxi1]
  refine lv_iconst (v := 1) hx hb dX10_nameOf_4 (by decide) ?_
  refine lv_isub hx hb dX10_nameOf_5 ?_
  refine lv_topi (fun zi2 ezi2 => ?_)
  have hzi2 : zi2.toInt = xi1.toInt - 1 := by rw [ezi2]; have : ((1 : Int32).toInt) = 1 := (by decide); have := ia_lo xi1; have := ia_hi xi1; exact (ia_sub (by omega) (by omega)).trans (by omega)
  refine lv_istore_n (lv' := [(3, .int zi2), (0, .ref a0), (1, .int x1), (2, .ref a2)]) hx hb dX10_nameOf_6 rfl hl (by decide) rfl (fun ls hl => ?_)
  have hJ7 : ∀ (n7 : Nat) (y7_3 : Int32) (Eg7 : Nat → va_E) (H : Heap) (locs : List Loc) (ls : Array Slot), (-1) ≤ y7_3.toInt → y7_3.toInt ≤ 39 → y7_3.toInt - (-1) ≤ (n7 : Int) → tw_fr kp L [] [182] E Eg7 → tw_H D cs kp L Eg7 A H → va_S A s.heap H locs → lv_has ls 7 [(3, .int y7_3), (0, .ref a0), (1, .int x1), (2, .ref a2)] → W p l e { frames := 0, cells := 0, slots := 0, locals := 0 } s m [.ref a0, .int x1, .ref a2].toArray below meth c H locs 0 0 (MQ below (tw_Q D cs kp0 L0 (fun v kq Lq Eq => (∃ x : Int32, v = some (.int x)) ∧ kp = kq ∧ L = Lq ∧ tw_fr kp L [] [182] E Eq) A) [.ref a0, .int x1, .ref a2].toArray s 0 0 A) (F0 m 7 ls []) := by
    intro n7
    induction n7 using Nat.strongRecOn with
    | _ n7 ih7 =>
      intro y7_3 Eg7 H locs ls hy7_3a hy7_3b hmeas7 hG7 TH hS hl
      have hF := hF.tr hG7 (fun _ h => ⟨h, rfl⟩) (by decide) (by decide)
      have hmf3 : tw_fv Eg7 a0 0 = .int xi1 := (hG7.1 a0 0 hm0 (by rw [hk0]; decide)).trans hxi1
      refine lv_iload_n hx hb dX10_nameOf_7 rfl (lv_at hl 0 rfl) ?_
      refine lv_iload_n hx hb dX10_nameOf_8 rfl (lv_at hl 2 rfl) ?_
      refine lv_icmp_lt (tgt := 131) hx hb dX10_nameOf_9 (by decide) (fun hc4 => ?_) (fun hc4 => ?_)
      · have hf5 : y7_3.toInt < x1.toInt := by have z := (fa_lt _ _).mp hc4;  omega
        refine lv_aload_n hx hb dX10_nameOf_131 rfl (lv_at hl 3 rfl) ?_
        refine lv_iload_n hx hb dX10_nameOf_132 rfl (lv_at hl 2 rfl) ?_
        refine tw_iald (k := 182) (t0 := 0) (n := 40) (lo := (-2147483648)) (hi := 2147483647) hx hb hK TH hm2 hk2 (by decide) rfl rfl (i := x1) (vp_in_iff.mpr ⟨by  omega, by  omega⟩) dX10_nameOf_133 (fun hxe6a hxe6b => ?_)
        obtain ⟨xe6, exe6⟩ : ∃ z : Int32, tw_iv Eg7 a2 (Int32.toNatClampNeg x1) = z := ⟨_, rfl⟩
        rw [exe6] at hxe6a hxe6b ⊢
        exact tw_iret hx hb hr hlocks TH hS hex ⟨⟨_, rfl⟩, rfl, rfl, hF⟩ (Nat.le_of_ble_eq_true rfl) (Nat.le_of_ble_eq_true rfl) dX10_nameOf_134
      · have hf7 : ¬ (y7_3.toInt < x1.toInt) := fun q => hc4 ((fa_lt _ _).mpr (by  omega))
        refine lv_aload_n hx hb dX10_nameOf_12 rfl (lv_at hl 1 rfl) ?_
        refine tw_get (ci := 10) (C := RX10) (T := TX10) (N := 8) hx hb hB cx_inX10 hown hK TH hm0 hk0 rfl ⟨by decide, rfl⟩ 5 (by decide) cw_138 (fun _ h9 => h9) dX10_nameOf_13 (fun hv => ?_)
        obtain ⟨xr8, hxr8, hmxr8, hkxr8⟩ : ∃ a : Nat, tw_fv Eg7 a0 5 = .ref a ∧ a ∈ L ∧ kp a = 114 := hv
        rw [hxr8]
        refine lv_iload_n hx hb dX10_nameOf_16 rfl (lv_at hl 0 rfl) ?_
        refine tw_iald (k := 114) (t0 := 0) (n := 40) (lo := (-1)) (hi := 9) hx hb hK TH hmxr8 hkxr8 (by decide) rfl rfl (i := y7_3) (vp_in_iff.mpr ⟨by  omega, by  omega⟩) dX10_nameOf_17 (fun hxe9a hxe9b => ?_)
        obtain ⟨xe9, exe9⟩ : ∃ z : Int32, tw_iv Eg7 xr8 (Int32.toNatClampNeg y7_3) = z := ⟨_, rfl⟩
        rw [exe9] at hxe9a hxe9b ⊢
        refine lv_bipush (v := 7) hx hb dX10_nameOf_18 (by decide) ?_
        refine lv_iadd hx hb dX10_nameOf_20 ?_
        refine lv_topi (fun zi10 ezi10 => ?_)
        have hzi10 : zi10.toInt = xe9.toInt + 7 := by rw [ezi10]; have : ((7 : Int32).toInt) = 7 := (by decide); have := ia_lo xe9; have := ia_hi xe9; exact (ia_add (by omega) (by omega)).trans (by omega)
        refine lv_istore (lv' := [(4, .int zi10), (3, .int y7_3), (0, .ref a0), (1, .int x1), (2, .ref a2)]) hx hb dX10_nameOf_21 hl (by decide) rfl (fun ls hl => ?_)
        refine lv_bipush (v := 56) hx hb dX10_nameOf_23 (by decide) ?_
        refine lv_istore (lv' := [(5, .int 56), (4, .int zi10), (3, .int y7_3), (0, .ref a0), (1, .int x1), (2, .ref a2)]) hx hb dX10_nameOf_25 hl (by decide) rfl (fun ls hl => ?_)
        have hJ27 : ∀ (n27 : Nat) (y27_5 : Int32) (y27_4 : Int32) (H : Heap) (locs : List Loc) (ls : Array Slot), (-8) ≤ y27_5.toInt → y27_5.toInt ≤ 56 → y27_5.toInt - (-8) ≤ (n27 : Int) → tw_H D cs kp L Eg7 A H → va_S A s.heap H locs → lv_has ls 7 [(5, .int y27_5), (4, .int y27_4), (3, .int y7_3), (0, .ref a0), (1, .int x1), (2, .ref a2)] → W p l e { frames := 0, cells := 0, slots := 0, locals := 0 } s m [.ref a0, .int x1, .ref a2].toArray below meth c H locs 0 0 (MQ below (tw_Q D cs kp0 L0 (fun v kq Lq Eq => (∃ x : Int32, v = some (.int x)) ∧ kp = kq ∧ L = Lq ∧ tw_fr kp L [] [182] E Eq) A) [.ref a0, .int x1, .ref a2].toArray s 0 0 A) (F0 m 27 ls []) := by
          intro n27
          induction n27 using Nat.strongRecOn with
          | _ n27 ih27 =>
            intro y27_5 y27_4 H locs ls hy27_5a hy27_5b hmeas27 TH hS hl
            refine lv_iload hx hb dX10_nameOf_27 (lv_at hl 0 rfl) ?_
            refine lv_if_lt (tgt := 72) hx hb dX10_nameOf_29 (by decide) (fun hc11 => ?_) (fun hc11 => ?_)
            · have hf12 : y27_5.toInt < 0 := by have z := (fa_lt _ _).mp hc11; have : ((0 : Int32).toInt) = 0 := (by decide); omega
              refine lv_iload_n hx hb dX10_nameOf_72 rfl (lv_at hl 2 rfl) ?_
              refine lv_iconst (v := 1) hx hb dX10_nameOf_73 (by decide) ?_
              refine lv_iadd hx hb dX10_nameOf_74 ?_
              refine lv_topi (fun zi13 ezi13 => ?_)
              have hzi13 : zi13.toInt = y7_3.toInt + 1 := by rw [ezi13]; have : ((1 : Int32).toInt) = 1 := (by decide); have := ia_lo y7_3; have := ia_hi y7_3; exact (ia_add (by omega) (by omega)).trans (by omega)
              refine lv_istore (lv' := [(5, .int zi13), (4, .int y27_4), (3, .int y7_3), (0, .ref a0), (1, .int x1), (2, .ref a2)]) hx hb dX10_nameOf_75 hl (by decide) rfl (fun ls hl => ?_)
              have hJ77 : ∀ (n77 : Nat) (y77_5 : Int32) (y77_4 : Int32) (H : Heap) (locs : List Loc) (ls : Array Slot), 1 ≤ y77_5.toInt → y77_5.toInt ≤ 40 → 40 - y77_5.toInt ≤ (n77 : Int) → tw_H D cs kp L Eg7 A H → va_S A s.heap H locs → lv_has ls 7 [(5, .int y77_5), (4, .int y77_4), (3, .int y7_3), (0, .ref a0), (1, .int x1), (2, .ref a2)] → W p l e { frames := 0, cells := 0, slots := 0, locals := 0 } s m [.ref a0, .int x1, .ref a2].toArray below meth c H locs 0 0 (MQ below (tw_Q D cs kp0 L0 (fun v kq Lq Eq => (∃ x : Int32, v = some (.int x)) ∧ kp = kq ∧ L = Lq ∧ tw_fr kp L [] [182] E Eq) A) [.ref a0, .int x1, .ref a2].toArray s 0 0 A) (F0 m 77 ls []) := by
                intro n77
                induction n77 using Nat.strongRecOn with
                | _ n77 ih77 =>
                  intro y77_5 y77_4 H locs ls hy77_5a hy77_5b hmeas77 TH hS hl
                  refine lv_iload hx hb dX10_nameOf_77 (lv_at hl 0 rfl) ?_
                  refine lv_aload_n hx hb dX10_nameOf_79 rfl (lv_at hl 3 rfl) ?_
                  refine tw_get (ci := 10) (C := RX10) (T := TX10) (N := 8) hx hb hB cx_inX10 hown hK TH hm0 hk0 rfl ⟨by decide, rfl⟩ 0 (by decide) cw_116 (fun _ h9 => h9) dX10_nameOf_80 (fun hv => ?_)
                  rw [hmf3]
                  refine lv_icmp_ge (tgt := 120) hx hb dX10_nameOf_83 (by decide) (fun hc14 => ?_) (fun hc14 => ?_)
                  · have hf15 : xi1.toInt ≤ y77_5.toInt := by have z := (fa_le _ _).mp hc14;  omega
                    refine lv_aload_n hx hb dX10_nameOf_120 rfl (lv_at hl 5 rfl) ?_
                    refine lv_iload_n hx hb dX10_nameOf_121 rfl (lv_at hl 2 rfl) ?_
                    refine lv_iload hx hb dX10_nameOf_122 (lv_at hl 1 rfl) ?_
                    refine tw_iast (k := 182) (n := 40) (lo := (-2147483648)) (hi := 2147483647) hx hb hK TH hS hm2 hk2 (by decide) rfl (i := y7_3) (x := y77_4) (vp_in_iff.mpr ⟨by  omega, by  omega⟩) (ia_lo _) (ia_hi _) dX10_nameOf_124 (fun H locs E16 TH hS hp17 hp18 hp19 => ?_)
                    have hst20 : tw_fr kp L [] [182] Eg7 E16 := tw_fr.ast tw_fr.rf (fun _ => hk2) hp17 hp18 (by decide)
                    have hF := hF.tr hst20 (fun _ h => ⟨h, rfl⟩) (by decide) (by decide)
                    have hG7 := hG7.tr hst20 (fun _ h => ⟨h, rfl⟩) (by decide) (by decide)
                    have hmf21 : tw_fv E16 a0 0 = .int xi1 := (hst20.1 a0 0 hm0 (by rw [hk0]; decide)).trans hmf3
                    have hmf22 : tw_fv E16 a0 5 = .ref xr8 := (hst20.1 a0 5 hm0 (by rw [hk0]; decide)).trans hxr8
                    obtain ⟨zi23, ezi23⟩ : ∃ z : Int32, z = y7_3 + Int32.ofInt (-1) := ⟨_, rfl⟩
                    have hzi23 : zi23.toInt = y7_3.toInt + (-1) := by rw [ezi23]; have : ((Int32.ofInt (-1)).toInt) = (-1) := (by decide);  exact (ia_add (by omega) (by omega)).trans (by omega)
                    refine lv_iinc (v := zi23) (lv' := [(3, .int zi23), (5, .int y77_5), (4, .int y77_4), (0, .ref a0), (1, .int x1), (2, .ref a2)]) hx hb dX10_nameOf_125 hl (k := 2) rfl ezi23.symm (by decide) rfl (fun ls hl => ?_)
                    refine lv_goto (tgt := 7) hx hb dX10_nameOf_128 (by decide) ?_
                    exact ih7 (n7 - 1) (by   omega) zi23 _ _ _ ls (by omega) (by omega) (by   omega) hG7 TH hS (lv_sub hl [0, 3, 4, 5] rfl)
                  · have hf24 : ¬ (xi1.toInt ≤ y77_5.toInt) := fun q => hc14 ((fa_le _ _).mpr (by  omega))
                    refine lv_aload_n hx hb dX10_nameOf_86 rfl (lv_at hl 3 rfl) ?_
                    refine tw_get (ci := 10) (C := RX10) (T := TX10) (N := 8) hx hb hB cx_inX10 hown hK TH hm0 hk0 rfl ⟨by decide, rfl⟩ 3 (by decide) cw_130 (fun _ h9 => h9) dX10_nameOf_87 (fun hv => ?_)
                    obtain ⟨xr25, hxr25, hmxr25, hkxr25⟩ : ∃ a : Nat, tw_fv Eg7 a0 3 = .ref a ∧ a ∈ L ∧ kp a = 112 := hv
                    rw [hxr25]
                    refine lv_iload hx hb dX10_nameOf_90 (lv_at hl 0 rfl) ?_
                    refine tw_iald (k := 112) (t0 := 0) (n := 40) (lo := (-1)) (hi := 39) hx hb hK TH hmxr25 hkxr25 (by decide) rfl rfl (i := y77_5) (vp_in_iff.mpr ⟨by  omega, by  omega⟩) dX10_nameOf_92 (fun hxe26a hxe26b => ?_)
                    obtain ⟨xe26, exe26⟩ : ∃ z : Int32, tw_iv Eg7 xr25 (Int32.toNatClampNeg y77_5) = z := ⟨_, rfl⟩
                    rw [exe26] at hxe26a hxe26b ⊢
                    refine lv_iload_n hx hb dX10_nameOf_93 rfl (lv_at hl 2 rfl) ?_
                    have hJ114 : ∀ (y114_4 : Int32) (H : Heap) (locs : List Loc) (ls : Array Slot), tw_H D cs kp L Eg7 A H → va_S A s.heap H locs → lv_has ls 7 [(5, .int y77_5), (4, .int y114_4), (3, .int y7_3), (0, .ref a0), (1, .int x1), (2, .ref a2)] → W p l e { frames := 0, cells := 0, slots := 0, locals := 0 } s m [.ref a0, .int x1, .ref a2].toArray below meth c H locs 0 0 (MQ below (tw_Q D cs kp0 L0 (fun v kq Lq Eq => (∃ x : Int32, v = some (.int x)) ∧ kp = kq ∧ L = Lq ∧ tw_fr kp L [] [182] E Eq) A) [.ref a0, .int x1, .ref a2].toArray s 0 0 A) (F0 m 114 ls []) := by
                      intro y114_4 H locs ls TH hS hl
                      obtain ⟨zi27, ezi27⟩ : ∃ z : Int32, z = y77_5 + Int32.ofInt 1 := ⟨_, rfl⟩
                      have hzi27 : zi27.toInt = y77_5.toInt + 1 := by rw [ezi27]; have : ((Int32.ofInt 1).toInt) = 1 := (by decide);  exact (ia_add (by omega) (by omega)).trans (by omega)
                      refine lv_iinc (v := zi27) (lv' := [(5, .int zi27), (4, .int y114_4), (3, .int y7_3), (0, .ref a0), (1, .int x1), (2, .ref a2)]) hx hb dX10_nameOf_114 hl (k := 0) rfl ezi27.symm (by decide) rfl (fun ls hl => ?_)
                      refine lv_goto (tgt := 77) hx hb dX10_nameOf_117 (by decide) ?_
                      exact ih77 (n77 - 1) (by   omega) zi27 y114_4 _ _ ls (by omega) (by omega) (by   omega) TH hS (lv_sub hl [0, 1, 2, 3, 4, 5] rfl)
                    refine lv_icmp_ne (tgt := 114) hx hb dX10_nameOf_94 (by decide) (fun hc28 => ?_) (fun hc28 => ?_)
                    · have hf29 : ¬ (xe26.toInt = y7_3.toInt) := fun q => hc28 ((fa_eq _ _).mpr (by  omega))
                      exact hJ114 y77_4 _ _ ls  TH hS (lv_sub hl [0, 1, 2, 3, 4, 5] rfl)
                    · have hf30 : xe26.toInt = y7_3.toInt := by have z := (fa_eq _ _).mp hc28;  omega
                      refine lv_iload hx hb dX10_nameOf_97 (lv_at hl 1 rfl) ?_
                      refine lv_bipush (v := 37) hx hb dX10_nameOf_99 (by decide) ?_
                      refine lv_imul hx hb dX10_nameOf_101 ?_
                      refine lv_topi (fun zi31 ezi31 => ?_)
                      refine lv_aload_n hx hb dX10_nameOf_102 rfl (lv_at hl 5 rfl) ?_
                      refine lv_iload hx hb dX10_nameOf_103 (lv_at hl 0 rfl) ?_
                      refine tw_iald (k := 182) (t0 := 0) (n := 40) (lo := (-2147483648)) (hi := 2147483647) hx hb hK TH hm2 hk2 (by decide) rfl rfl (i := y77_5) (vp_in_iff.mpr ⟨by  omega, by  omega⟩) dX10_nameOf_105 (fun hxe32a hxe32b => ?_)
                      obtain ⟨xe32, exe32⟩ : ∃ z : Int32, tw_iv Eg7 a2 (Int32.toNatClampNeg y77_5) = z := ⟨_, rfl⟩
                      rw [exe32] at hxe32a hxe32b ⊢
                      refine lv_iadd hx hb dX10_nameOf_106 ?_
                      refine lv_topi (fun zi33 ezi33 => ?_)
                      refine lv_iconst (v := 1) hx hb dX10_nameOf_107 (by decide) ?_
                      refine lv_iadd hx hb dX10_nameOf_108 ?_
                      refine lv_topi (fun zi34 ezi34 => ?_)
                      refine lv_ldc hx hb hown (hB _ cw_1115) dX10_nameOf_109 ?_
                      refine lv_irem hx hb dX10_nameOf_111 (by decide) ?_
                      refine lv_topi (fun zi35 ezi35 => ?_)
                      refine lv_istore (lv' := [(4, .int zi35), (5, .int y77_5), (3, .int y7_3), (0, .ref a0), (1, .int x1), (2, .ref a2)]) hx hb dX10_nameOf_112 hl (by decide) rfl (fun ls hl => ?_)
                      exact hJ114 zi35 _ _ ls  TH hS (lv_sub hl [1, 0, 2, 3, 4, 5] rfl)
              exact hJ77 40 zi13 y27_4 _ _ ls (by omega) (by omega) (by   omega) TH hS (lv_sub hl [0, 1, 2, 3, 4, 5] rfl)
            · have hf36 : ¬ (y27_5.toInt < 0) := fun q => hc11 ((fa_lt _ _).mpr (by have : ((0 : Int32).toInt) = 0 := (by decide); omega))
              refine lv_aload_n hx hb dX10_nameOf_32 rfl (lv_at hl 3 rfl) ?_
              refine tw_get (ci := 10) (C := RX10) (T := TX10) (N := 8) hx hb hB cx_inX10 hown hK TH hm0 hk0 rfl ⟨by decide, rfl⟩ 6 (by decide) cw_144 (fun _ h9 => h9) dX10_nameOf_33 (fun hv => ?_)
              obtain ⟨xr37, hxr37, hmxr37, hkxr37⟩ : ∃ a : Nat, tw_fv Eg7 a0 6 = .ref a ∧ a ∈ L ∧ kp a = 102 := hv
              rw [hxr37]
              refine lv_iload_n hx hb dX10_nameOf_36 rfl (lv_at hl 2 rfl) ?_
              refine tw_lald (k := 102) (n := 40) (lo := 0) (hi := 0) hx hb hK TH hmxr37 hkxr37 (by decide) rfl (i := y7_3) (vp_in_iff.mpr ⟨by  omega, by  omega⟩) dX10_nameOf_37 (fun xl38 => ?_)
              refine lv_iload hx hb dX10_nameOf_38 (lv_at hl 0 rfl) ?_
              refine lv_lushr (v := ((xl38).toUInt64 >>> (((y27_5 : Int32)).toInt64.toUInt64 &&& Int64.toUInt64 63)).toInt64) hx hb dX10_nameOf_40 rfl ?_
              refine tw_topl (fun zl39 ezl39 => ?_)
              refine lv_l2i (v := (zl39).toInt32) hx hb dX10_nameOf_41 rfl ?_
              refine lv_topi (fun zi40 ezi40 => ?_)
              refine lv_sipush (v := 255) hx hb dX10_nameOf_42 (by decide) ?_
              refine lv_iand hx hb dX10_nameOf_45 ?_
              refine lv_topi (fun zi41 ezi41 => ?_)
              have hzi41 : 0 ≤ zi41.toInt ∧ zi41.toInt ≤ 255 := by rw [ezi41]; exact ia_and255 _
              refine lv_istore (lv' := [(6, .int zi41), (5, .int y27_5), (4, .int y27_4), (3, .int y7_3), (0, .ref a0), (1, .int x1), (2, .ref a2)]) hx hb dX10_nameOf_46 hl (by decide) rfl (fun ls hl => ?_)
              refine lv_iload hx hb dX10_nameOf_48 (lv_at hl 0 rfl) ?_
              have hJ66 : ∀ (y66_4 : Int32) (H : Heap) (locs : List Loc) (ls : Array Slot), tw_H D cs kp L Eg7 A H → va_S A s.heap H locs → lv_has ls 7 [(5, .int y27_5), (4, .int y66_4), (3, .int y7_3), (0, .ref a0), (1, .int x1), (2, .ref a2)] → W p l e { frames := 0, cells := 0, slots := 0, locals := 0 } s m [.ref a0, .int x1, .ref a2].toArray below meth c H locs 0 0 (MQ below (tw_Q D cs kp0 L0 (fun v kq Lq Eq => (∃ x : Int32, v = some (.int x)) ∧ kp = kq ∧ L = Lq ∧ tw_fr kp L [] [182] E Eq) A) [.ref a0, .int x1, .ref a2].toArray s 0 0 A) (F0 m 66 ls []) := by
                intro y66_4 H locs ls TH hS hl
                obtain ⟨zi42, ezi42⟩ : ∃ z : Int32, z = y27_5 + Int32.ofInt (-8) := ⟨_, rfl⟩
                have hzi42 : zi42.toInt = y27_5.toInt + (-8) := by rw [ezi42]; have : ((Int32.ofInt (-8)).toInt) = (-8) := (by decide);  exact (ia_add (by omega) (by omega)).trans (by omega)
                refine lv_iinc (v := zi42) (lv' := [(5, .int zi42), (4, .int y66_4), (3, .int y7_3), (0, .ref a0), (1, .int x1), (2, .ref a2)]) hx hb dX10_nameOf_66 hl (k := 0) rfl ezi42.symm (by decide) rfl (fun ls hl => ?_)
                refine lv_goto (tgt := 27) hx hb dX10_nameOf_69 (by decide) ?_
                exact ih27 (n27 - 1) (by   omega) zi42 y66_4 _ _ ls (by omega) (by omega) (by   omega) TH hS (lv_sub hl [0, 1, 2, 3, 4, 5] rfl)
              refine lv_if_eq (tgt := 66) hx hb dX10_nameOf_50 (by decide) (fun hc43 => ?_) (fun hc43 => ?_)
              · have hf44 : zi41.toInt = 0 := by have z := (fa_eq _ _).mp hc43; have : ((0 : Int32).toInt) = 0 := (by decide); omega
                exact hJ66 y27_4 _ _ ls  TH hS (lv_sub hl [1, 2, 3, 4, 5, 6] rfl)
              · have hf45 : ¬ (zi41.toInt = 0) := fun q => hc43 ((fa_eq _ _).mpr (by have : ((0 : Int32).toInt) = 0 := (by decide); omega))
                refine lv_iload hx hb dX10_nameOf_53 (lv_at hl 2 rfl) ?_
                refine lv_bipush (v := 31) hx hb dX10_nameOf_55 (by decide) ?_
                refine lv_imul hx hb dX10_nameOf_57 ?_
                refine lv_topi (fun zi46 ezi46 => ?_)
                refine lv_iload hx hb dX10_nameOf_58 (lv_at hl 0 rfl) ?_
                refine lv_iadd hx hb dX10_nameOf_60 ?_
                refine lv_topi (fun zi47 ezi47 => ?_)
                refine lv_ldc hx hb hown (hB _ cw_1115) dX10_nameOf_61 ?_
                refine lv_irem hx hb dX10_nameOf_63 (by decide) ?_
                refine lv_topi (fun zi48 ezi48 => ?_)
                refine lv_istore (lv' := [(4, .int zi48), (6, .int zi41), (5, .int y27_5), (3, .int y7_3), (0, .ref a0), (1, .int x1), (2, .ref a2)]) hx hb dX10_nameOf_64 hl (by decide) rfl (fun ls hl => ?_)
                exact hJ66 zi48 _ _ ls  TH hS (lv_sub hl [2, 0, 3, 4, 5, 6] rfl)
        exact hJ27 65 (56 : Int32) zi10 _ _ ls (by have : ((56 : Int32).toInt) = 56 := (by decide); omega) (by have : ((56 : Int32).toInt) = 56 := (by decide); omega) (by have : ((56 : Int32).toInt) = 56 := (by decide);  omega) TH hS (lv_sub hl [0, 1, 2, 3, 4, 5] rfl)
  exact hJ7 41 zi2 _ _ _ ls (by omega) (by omega) (by   omega) tw_fr.rf TH hS (lv_sub hl [0, 1, 2, 3] rfl)
set_option maxHeartbeats 4000000 in
set_option maxRecDepth 100000 in
theorem tX11_flushLeft (l : Launch) (D : va_G) (cs : Nat → ClassId) {kp : Nat → Nat} {L : List Nat} {E : Nat → va_E} (x0 : Int64)  (sz : Nat) : Met l yX11_flushLeft (.code yX11_flushLeft cX11_flushLeft 7 (some .long) :: cx_big) { frames := 2, cells := 0, slots := 0, locals := 40 } (tw_P D cs kp L E [.long x0] sz) (tw_Q D cs kp L (fun v kq Lq Eq => (∃ x : Int64, v = some (.long x)) ∧ kp = kq ∧ L = Lq ∧ E = Eq) (va_A (va_pl L E) sz)) 0 0 (va_A (va_pl L E) sz) := by
  refine tw_ofW (by decide) (Nat.le_of_ble_eq_true rfl) ?_
  intro p e s m below meth c A ls hx hb hr hml hB hown hlocks hK hN hA TH hS hl
  have hown : s.vm.findClass "TreeMerge" = some m.cls := hown
  have hl : lv_has ls 7 [(0, .long x0)] := hl
  obtain ⟨kp0, ekp⟩ : ∃ z, z = kp := ⟨_, rfl⟩
  obtain ⟨L0, eL⟩ : ∃ z, z = L := ⟨_, rfl⟩
  rw [show tw_Q D cs kp L = tw_Q D cs kp0 L0 by rw [ekp, eL]]
  have hex : ∀ a : Nat, a ∈ L0 → a ∈ L ∧ kp a = kp0 a := fun a h => ⟨by rw [← eL]; exact h, by rw [ekp]⟩
  refine lv_lconst (v := 0) hx hb dX11_flushLeft_0 (by decide) ?_
  refine lv_lstore_n (lv' := [(2, .long (0 : Int64)), (0, .long x0)]) hx hb dX11_flushLeft_1 rfl hl (by decide) rfl (fun ls hl => ?_)
  refine lv_bipush (v := 56) hx hb dX11_flushLeft_2 (by decide) ?_
  refine lv_istore (lv' := [(4, .int 56), (2, .long (0 : Int64)), (0, .long x0)]) hx hb dX11_flushLeft_4 hl (by decide) rfl (fun ls hl => ?_)
  refine lv_bipush (v := 56) hx hb dX11_flushLeft_6 (by decide) ?_
  refine lv_istore (lv' := [(5, .int 56), (4, .int 56), (2, .long (0 : Int64)), (0, .long x0)]) hx hb dX11_flushLeft_8 hl (by decide) rfl (fun ls hl => ?_)
  have hJ10 : ∀ (n10 : Nat) (y10_5 : Int32) (y10_4 : Int32) (y10_2 : Int64) (H : Heap) (locs : List Loc) (ls : Array Slot), (-8) ≤ y10_5.toInt → y10_5.toInt ≤ 56 → y10_5.toInt - (-8) ≤ (n10 : Int) → tw_H D cs kp L E A H → va_S A s.heap H locs → lv_has ls 7 [(5, .int y10_5), (4, .int y10_4), (2, .long y10_2), (0, .long x0)] → W p l e { frames := 2, cells := 0, slots := 0, locals := 40 } s m [.long x0].toArray below meth c H locs 0 0 (MQ below (tw_Q D cs kp0 L0 (fun v kq Lq Eq => (∃ x : Int64, v = some (.long x)) ∧ kp = kq ∧ L = Lq ∧ E = Eq) A) [.long x0].toArray s 0 0 A) (F0 m 10 ls []) := by
    intro n10
    induction n10 using Nat.strongRecOn with
    | _ n10 ih10 =>
      intro y10_5 y10_4 y10_2 H locs ls hy10_5a hy10_5b hmeas10 TH hS hl
      refine lv_iload hx hb dX11_flushLeft_10 (lv_at hl 0 rfl) ?_
      refine lv_if_lt (tgt := 66) hx hb dX11_flushLeft_12 (by decide) (fun hc1 => ?_) (fun hc1 => ?_)
      · have hf2 : y10_5.toInt < 0 := by have z := (fa_lt _ _).mp hc1; have : ((0 : Int32).toInt) = 0 := (by decide); omega
        refine lv_lload_n hx hb dX11_flushLeft_66 rfl (lv_at hl 2 rfl) ?_
        exact tw_lret hx hb hr hlocks TH hS hex ⟨⟨_, rfl⟩, rfl, rfl, rfl⟩ (Nat.le_of_ble_eq_true rfl) (Nat.le_of_ble_eq_true rfl) dX11_flushLeft_67
      · have hf3 : ¬ (y10_5.toInt < 0) := fun q => hc1 ((fa_lt _ _).mpr (by have : ((0 : Int32).toInt) = 0 := (by decide); omega))
        refine lv_lload_n hx hb dX11_flushLeft_15 rfl (lv_at hl 3 rfl) ?_
        refine lv_iload hx hb dX11_flushLeft_16 (lv_at hl 0 rfl) ?_
        refine lv_lushr (v := ((x0).toUInt64 >>> (((y10_5 : Int32)).toInt64.toUInt64 &&& Int64.toUInt64 63)).toInt64) hx hb dX11_flushLeft_18 rfl ?_
        refine tw_topl (fun zl4 ezl4 => ?_)
        refine lv_l2i (v := (zl4).toInt32) hx hb dX11_flushLeft_19 rfl ?_
        refine lv_topi (fun zi5 ezi5 => ?_)
        refine lv_sipush (v := 255) hx hb dX11_flushLeft_20 (by decide) ?_
        refine lv_iand hx hb dX11_flushLeft_23 ?_
        refine lv_topi (fun zi6 ezi6 => ?_)
        have hzi6 : 0 ≤ zi6.toInt ∧ zi6.toInt ≤ 255 := by rw [ezi6]; exact ia_and255 _
        refine lv_istore (lv' := [(6, .int zi6), (5, .int y10_5), (4, .int y10_4), (2, .long y10_2), (0, .long x0)]) hx hb dX11_flushLeft_24 hl (by decide) rfl (fun ls hl => ?_)
        refine lv_iload hx hb dX11_flushLeft_26 (lv_at hl 0 rfl) ?_
        have hJ43 : ∀  (H : Heap) (locs : List Loc) (ls : Array Slot), tw_H D cs kp L E A H → va_S A s.heap H locs → lv_has ls 7 [(6, .int zi6), (5, .int y10_5), (4, .int y10_4), (2, .long y10_2), (0, .long x0)] → W p l e { frames := 2, cells := 0, slots := 0, locals := 40 } s m [.long x0].toArray below meth c H locs 0 0 (MQ below (tw_Q D cs kp0 L0 (fun v kq Lq Eq => (∃ x : Int64, v = some (.long x)) ∧ kp = kq ∧ L = Lq ∧ E = Eq) A) [.long x0].toArray s 0 0 A) (F0 m 43 ls []) := by
          intro H locs ls TH hS hl
          refine lv_iload hx hb dX11_flushLeft_43 (lv_at hl 0 rfl) ?_
          have hJ60 : ∀ (y60_4 : Int32) (y60_2 : Int64) (H : Heap) (locs : List Loc) (ls : Array Slot), tw_H D cs kp L E A H → va_S A s.heap H locs → lv_has ls 7 [(5, .int y10_5), (4, .int y60_4), (2, .long y60_2), (0, .long x0)] → W p l e { frames := 2, cells := 0, slots := 0, locals := 40 } s m [.long x0].toArray below meth c H locs 0 0 (MQ below (tw_Q D cs kp0 L0 (fun v kq Lq Eq => (∃ x : Int64, v = some (.long x)) ∧ kp = kq ∧ L = Lq ∧ E = Eq) A) [.long x0].toArray s 0 0 A) (F0 m 60 ls []) := by
            intro y60_4 y60_2 H locs ls TH hS hl
            obtain ⟨zi7, ezi7⟩ : ∃ z : Int32, z = y10_5 + Int32.ofInt (-8) := ⟨_, rfl⟩
            have hzi7 : zi7.toInt = y10_5.toInt + (-8) := by rw [ezi7]; have : ((Int32.ofInt (-8)).toInt) = (-8) := (by decide);  exact (ia_add (by omega) (by omega)).trans (by omega)
            refine lv_iinc (v := zi7) (lv' := [(5, .int zi7), (4, .int y60_4), (2, .long y60_2), (0, .long x0)]) hx hb dX11_flushLeft_60 hl (k := 0) rfl ezi7.symm (by decide) rfl (fun ls hl => ?_)
            refine lv_goto (tgt := 10) hx hb dX11_flushLeft_63 (by decide) ?_
            exact ih10 (n10 - 1) (by   omega) zi7 y60_4 y60_2 _ _ ls (by omega) (by omega) (by   omega) TH hS (lv_sub hl [0, 1, 2, 3] rfl)
          refine lv_if_eq (tgt := 60) hx hb dX11_flushLeft_45 (by decide) (fun hc8 => ?_) (fun hc8 => ?_)
          · have hf9 : zi6.toInt = 0 := by have z := (fa_eq _ _).mp hc8; have : ((0 : Int32).toInt) = 0 := (by decide); omega
            exact hJ60 y10_4 y10_2 _ _ ls  TH hS (lv_sub hl [1, 2, 3, 4] rfl)
          · have hf10 : ¬ (zi6.toInt = 0) := fun q => hc8 ((fa_eq _ _).mpr (by have : ((0 : Int32).toInt) = 0 := (by decide); omega))
            refine lv_lload_n hx hb dX11_flushLeft_48 rfl (lv_at hl 3 rfl) ?_
            refine lv_iload hx hb dX11_flushLeft_49 (lv_at hl 0 rfl) ?_
            refine lv_i2l (v := (zi6).toInt64) hx hb dX11_flushLeft_51 rfl ?_
            refine tw_topl (fun zl11 ezl11 => ?_)
            refine lv_iload hx hb dX11_flushLeft_52 (lv_at hl 2 rfl) ?_
            refine lv_lshl (v := ((zl11) <<< (((y10_4 : Int32)).toInt64 &&& 63))) hx hb dX11_flushLeft_54 rfl ?_
            refine tw_topl (fun zl12 ezl12 => ?_)
            refine lv_lor hx hb dX11_flushLeft_55 ?_
            refine tw_topl (fun zl13 ezl13 => ?_)
            refine lv_lstore_n (lv' := [(2, .long zl13), (6, .int zi6), (5, .int y10_5), (4, .int y10_4), (0, .long x0)]) hx hb dX11_flushLeft_56 rfl hl (by decide) rfl (fun ls hl => ?_)
            obtain ⟨zi14, ezi14⟩ : ∃ z : Int32, z = y10_4 + Int32.ofInt (-8) := ⟨_, rfl⟩
            refine lv_iinc (v := zi14) (lv' := [(4, .int zi14), (2, .long zl13), (6, .int zi6), (5, .int y10_5), (0, .long x0)]) hx hb dX11_flushLeft_57 hl (k := 3) rfl ezi14.symm (by decide) rfl (fun ls hl => ?_)
            exact hJ60 zi14 zl13 _ _ ls  TH hS (lv_sub hl [3, 0, 1, 4] rfl)
        refine lv_if_eq (tgt := 43) hx hb dX11_flushLeft_28 (by decide) (fun hc15 => ?_) (fun hc15 => ?_)
        · have hf16 : zi6.toInt = 0 := by have z := (fa_eq _ _).mp hc15; have : ((0 : Int32).toInt) = 0 := (by decide); omega
          exact hJ43  _ _ ls  TH hS (lv_sub hl [0, 1, 2, 3, 4] rfl)
        · have hf17 : ¬ (zi6.toInt = 0) := fun q => hc15 ((fa_eq _ _).mpr (by have : ((0 : Int32).toInt) = 0 := (by decide); omega))
          refine lv_iload hx hb dX11_flushLeft_31 (lv_at hl 0 rfl) ?_
          refine tw_Sc (n := 1) (post := (fun v kq Lq Eq => (∃ x : Int32, v = some (.int x) ∧ 0 ≤ x.toInt ∧ x.toInt ≤ 1) ∧ kp = kq ∧ L = Lq ∧ E = Eq)) (As := [.int zi6]) (rest := []) ⟨hx, hb, hml, hown, hB⟩ (fun sz => tX11_isWordByte l D cs zi6  sz) cg_11_370_X11_isWordByte rfl rfl (by decide +kernel) ⟨Nat.le_of_ble_eq_true rfl, Nat.le_of_ble_eq_true rfl⟩ hK hN TH hS hA rfl hl.1 rfl (Nat.le_of_ble_eq_true rfl) dX11_flushLeft_33 ⟨Nat.le_of_ble_eq_true rfl, Nat.le_of_ble_eq_true rfl⟩ (fun v18 kp18 L18 E18 H locs hq18 hx18 TH hS => ?_)
          obtain ⟨⟨xc19, rfl, hxc19a, hxc19b⟩, rfl, rfl, rfl⟩ := hq18
          refine W.eq (g2 := F0 m 36 ls [.int xc19]) rfl ?_
          refine lv_if_ne (tgt := 43) hx hb dX11_flushLeft_36 (by decide) (fun hc20 => ?_) (fun hc20 => ?_)
          · have hf21 : ¬ (xc19.toInt = 0) := fun q => hc20 ((fa_eq _ _).mpr (by have : ((0 : Int32).toInt) = 0 := (by decide); omega))
            exact hJ43  _ _ ls  TH hS (lv_sub hl [0, 1, 2, 3, 4] rfl)
          · have hf22 : xc19.toInt = 0 := by have z := (fa_eq _ _).mp hc20; have : ((0 : Int32).toInt) = 0 := (by decide); omega
            refine lv_ldc2 hx hb hown (hB _ cw_832) dX11_flushLeft_39 ?_
            exact tw_lret hx hb hr hlocks TH hS hex ⟨⟨_, rfl⟩, rfl, rfl, rfl⟩ (Nat.le_of_ble_eq_true rfl) (Nat.le_of_ble_eq_true rfl) dX11_flushLeft_42
  exact hJ10 65 (56 : Int32) (56 : Int32) (0 : Int64) _ _ ls (by have : ((56 : Int32).toInt) = 56 := (by decide); omega) (by have : ((56 : Int32).toInt) = 56 := (by decide); omega) (by have : ((56 : Int32).toInt) = 56 := (by decide);  omega) TH hS (lv_sub hl [0, 1, 2, 3] rfl)
set_option maxHeartbeats 4000000 in
set_option maxRecDepth 100000 in
theorem tX11_flushRight (l : Launch) (D : va_G) (cs : Nat → ClassId) {kp : Nat → Nat} {L : List Nat} {E : Nat → va_E} (x0 : Int64)  (sz : Nat) : Met l yX11_flushRight (.code yX11_flushRight cX11_flushRight 7 (some .long) :: cx_big) { frames := 0, cells := 0, slots := 0, locals := 0 } (tw_P D cs kp L E [.long x0] sz) (tw_Q D cs kp L (fun v kq Lq Eq => (∃ x : Int64, v = some (.long x)) ∧ kp = kq ∧ L = Lq ∧ E = Eq) (va_A (va_pl L E) sz)) 0 0 (va_A (va_pl L E) sz) := by
  refine tw_ofW (by decide) (Nat.le_of_ble_eq_true rfl) ?_
  intro p e s m below meth c A ls hx hb hr hml hB hown hlocks hK hN hA TH hS hl
  have hown : s.vm.findClass "TreeMerge" = some m.cls := hown
  have hl : lv_has ls 7 [(0, .long x0)] := hl
  obtain ⟨kp0, ekp⟩ : ∃ z, z = kp := ⟨_, rfl⟩
  obtain ⟨L0, eL⟩ : ∃ z, z = L := ⟨_, rfl⟩
  rw [show tw_Q D cs kp L = tw_Q D cs kp0 L0 by rw [ekp, eL]]
  have hex : ∀ a : Nat, a ∈ L0 → a ∈ L ∧ kp a = kp0 a := fun a h => ⟨by rw [← eL]; exact h, by rw [ekp]⟩
  refine lv_lconst (v := 0) hx hb dX11_flushRight_0 (by decide) ?_
  refine lv_lstore_n (lv' := [(2, .long (0 : Int64)), (0, .long x0)]) hx hb dX11_flushRight_1 rfl hl (by decide) rfl (fun ls hl => ?_)
  refine lv_bipush (v := 56) hx hb dX11_flushRight_2 (by decide) ?_
  refine lv_istore (lv' := [(4, .int 56), (2, .long (0 : Int64)), (0, .long x0)]) hx hb dX11_flushRight_4 hl (by decide) rfl (fun ls hl => ?_)
  have hJ6 : ∀ (n6 : Nat) (y6_4 : Int32) (y6_2 : Int64) (H : Heap) (locs : List Loc) (ls : Array Slot), (-8) ≤ y6_4.toInt → y6_4.toInt ≤ 56 → y6_4.toInt - (-8) ≤ (n6 : Int) → tw_H D cs kp L E A H → va_S A s.heap H locs → lv_has ls 7 [(4, .int y6_4), (2, .long y6_2), (0, .long x0)] → W p l e { frames := 0, cells := 0, slots := 0, locals := 0 } s m [.long x0].toArray below meth c H locs 0 0 (MQ below (tw_Q D cs kp0 L0 (fun v kq Lq Eq => (∃ x : Int64, v = some (.long x)) ∧ kp = kq ∧ L = Lq ∧ E = Eq) A) [.long x0].toArray s 0 0 A) (F0 m 6 ls []) := by
    intro n6
    induction n6 using Nat.strongRecOn with
    | _ n6 ih6 =>
      intro y6_4 y6_2 H locs ls hy6_4a hy6_4b hmeas6 TH hS hl
      refine lv_iload hx hb dX11_flushRight_6 (lv_at hl 0 rfl) ?_
      refine lv_if_lt (tgt := 42) hx hb dX11_flushRight_8 (by decide) (fun hc1 => ?_) (fun hc1 => ?_)
      · have hf2 : y6_4.toInt < 0 := by have z := (fa_lt _ _).mp hc1; have : ((0 : Int32).toInt) = 0 := (by decide); omega
        refine lv_lload_n hx hb dX11_flushRight_42 rfl (lv_at hl 1 rfl) ?_
        exact tw_lret hx hb hr hlocks TH hS hex ⟨⟨_, rfl⟩, rfl, rfl, rfl⟩ (Nat.le_of_ble_eq_true rfl) (Nat.le_of_ble_eq_true rfl) dX11_flushRight_43
      · have hf3 : ¬ (y6_4.toInt < 0) := fun q => hc1 ((fa_lt _ _).mpr (by have : ((0 : Int32).toInt) = 0 := (by decide); omega))
        refine lv_lload_n hx hb dX11_flushRight_11 rfl (lv_at hl 2 rfl) ?_
        refine lv_iload hx hb dX11_flushRight_12 (lv_at hl 0 rfl) ?_
        refine lv_lushr (v := ((x0).toUInt64 >>> (((y6_4 : Int32)).toInt64.toUInt64 &&& Int64.toUInt64 63)).toInt64) hx hb dX11_flushRight_14 rfl ?_
        refine tw_topl (fun zl4 ezl4 => ?_)
        refine lv_ldc2 hx hb hown (hB _ cw_1123) dX11_flushRight_15 ?_
        refine lv_land hx hb dX11_flushRight_18 ?_
        refine tw_topl (fun zl5 ezl5 => ?_)
        refine lv_lstore (lv' := [(5, .long zl5), (4, .int y6_4), (2, .long y6_2), (0, .long x0)]) hx hb dX11_flushRight_19 hl (by decide) rfl (fun ls hl => ?_)
        refine lv_lload hx hb dX11_flushRight_21 (lv_at hl 0 rfl) ?_
        refine lv_lconst (v := 0) hx hb dX11_flushRight_23 (by decide) ?_
        refine W.lcmp hx hb dX11_flushRight_24 ?_
        have hzi6 := ia_lcmp zl5 (0 : Int64)
        generalize lg_cmp zl5 (0 : Int64) = zi6 at hzi6 ⊢
        have hJ36 : ∀ (y36_2 : Int64) (H : Heap) (locs : List Loc) (ls : Array Slot), tw_H D cs kp L E A H → va_S A s.heap H locs → lv_has ls 7 [(4, .int y6_4), (2, .long y36_2), (0, .long x0)] → W p l e { frames := 0, cells := 0, slots := 0, locals := 0 } s m [.long x0].toArray below meth c H locs 0 0 (MQ below (tw_Q D cs kp0 L0 (fun v kq Lq Eq => (∃ x : Int64, v = some (.long x)) ∧ kp = kq ∧ L = Lq ∧ E = Eq) A) [.long x0].toArray s 0 0 A) (F0 m 36 ls []) := by
          intro y36_2 H locs ls TH hS hl
          obtain ⟨zi7, ezi7⟩ : ∃ z : Int32, z = y6_4 + Int32.ofInt (-8) := ⟨_, rfl⟩
          have hzi7 : zi7.toInt = y6_4.toInt + (-8) := by rw [ezi7]; have : ((Int32.ofInt (-8)).toInt) = (-8) := (by decide);  exact (ia_add (by omega) (by omega)).trans (by omega)
          refine lv_iinc (v := zi7) (lv' := [(4, .int zi7), (2, .long y36_2), (0, .long x0)]) hx hb dX11_flushRight_36 hl (k := 0) rfl ezi7.symm (by decide) rfl (fun ls hl => ?_)
          refine lv_goto (tgt := 6) hx hb dX11_flushRight_39 (by decide) ?_
          exact ih6 (n6 - 1) (by   omega) zi7 y36_2 _ _ ls (by omega) (by omega) (by   omega) TH hS (lv_sub hl [0, 1, 2] rfl)
        refine lv_if_eq (tgt := 36) hx hb dX11_flushRight_25 (by decide) (fun hc8 => ?_) (fun hc8 => ?_)
        · have hf9 : zi6.toInt = 0 := by have z := (fa_eq _ _).mp hc8; have : ((0 : Int32).toInt) = 0 := (by decide); omega
          exact hJ36 y6_2 _ _ ls  TH hS (lv_sub hl [1, 2, 3] rfl)
        · have hf10 : ¬ (zi6.toInt = 0) := fun q => hc8 ((fa_eq _ _).mpr (by have : ((0 : Int32).toInt) = 0 := (by decide); omega))
          refine lv_lload_n hx hb dX11_flushRight_28 rfl (lv_at hl 2 rfl) ?_
          refine lv_bipush (v := 8) hx hb dX11_flushRight_29 (by decide) ?_
          refine lv_lshl (v := ((y6_2) <<< (((8 : Int32)).toInt64 &&& 63))) hx hb dX11_flushRight_31 rfl ?_
          refine tw_topl (fun zl11 ezl11 => ?_)
          refine lv_lload hx hb dX11_flushRight_32 (lv_at hl 0 rfl) ?_
          refine lv_lor hx hb dX11_flushRight_34 ?_
          refine tw_topl (fun zl12 ezl12 => ?_)
          refine lv_lstore_n (lv' := [(2, .long zl12), (5, .long zl5), (4, .int y6_4), (0, .long x0)]) hx hb dX11_flushRight_35 rfl hl (by decide) rfl (fun ls hl => ?_)
          exact hJ36 zl12 _ _ ls  TH hS (lv_sub hl [2, 0, 3] rfl)
  exact hJ6 65 (56 : Int32) (0 : Int64) _ _ ls (by have : ((56 : Int32).toInt) = 56 := (by decide); omega) (by have : ((56 : Int32).toInt) = 56 := (by decide); omega) (by have : ((56 : Int32).toInt) = 56 := (by decide);  omega) TH hS (lv_sub hl [0, 1, 2] rfl)
