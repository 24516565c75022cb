theorem cg_12_376_X12_isSameFree : GoodIn cx_big (wsV "TreeMergeModel" 376 "TreeMergeModel" yX12_isSameFree (.code yX12_isSameFree cX12_isSameFree 6 (some .boolean) :: cx_big)) := cx_gV cw_1635 cw_1637 cp_109 cw_13 cw_1638
theorem cg_12_369_X12_pairs : GoodIn cx_big (wsV "TreeMergeModel" 369 "TreeMergeModel" yX12_pairs (.code yX12_pairs cX12_pairs 3 none :: cx_big)) := cx_gV cw_1603 cw_1605 cp_101 cw_13 cw_1606
theorem cg_12_379_X12_pairsAll : GoodIn cx_big (wsV "TreeMergeModel" 379 "TreeMergeModel" yX12_pairsAll (.code yX12_pairsAll cX12_pairsAll 6 none :: cx_big)) := cx_gV cw_1639 cw_1641 cp_110 cw_13 cw_1642
set_option maxHeartbeats 4000000 in
set_option maxRecDepth 100000 in
theorem tX12_kidBehind_vF (l : Launch) (D : va_G) (cs : Nat → ClassId) {kp : Nat → Nat} {L : List Nat} {E : Nat → va_E} (a0 : Nat) (x1 : Int32) (x2 : Int32) (x3 : Int32) (hm0 : a0 ∈ L) (hk0 : kp a0 = 12) (hp1a : 0 ≤ x1.toInt) (hp1b : x1.toInt ≤ 15) (sz : Nat) : Met l yX12_kidBehind (.code yX12_kidBehind cX12_kidBehind 6 (some .int) :: cx_big) { frames := 0, cells := 0, slots := 0, locals := 0 } (tw_P D cs kp L E [.ref a0, .int x1, .int x2, .int x3] sz) (tw_Q D cs kp L (fun v kq Lq Eq => (∃ x : Int32, v = some (.int x) ∧ (-1) ≤ x.toInt ∧ x.toInt ≤ 149 ∧ (rt_kbk (rw_h E a0 x1.toInt) (rw_p E a0 x1.toInt) (rw_q E a0 x1.toInt) 150 x2.toInt x3.toInt x.toInt) ∧ (x.toInt = rt_kbf (rw_h E a0 x1.toInt) (rw_p E a0 x1.toInt) (rw_q E a0 x1.toInt) x2.toInt x3.toInt 150)) ∧ kp = kq ∧ L = Lq ∧ E = Eq) (va_A (va_pl L E) sz)) 0 0 (va_A (va_pl L E) sz) := by
  refine tw_ofW (by decide) (Nat.le_of_ble_eq_true rfl) ?_
  intro p e s m below meth c A ls hx hb hr hml hB hown hlocks hK hN hA TH hS hl
  have hown : s.vm.findClass "TreeMergeModel" = some m.cls := hown
  have hl : lv_has ls 6 [(0, .ref a0), (1, .int x1), (2, .int x2), (3, .int x3)] := hl
  obtain ⟨kp0, ekp⟩ : ∃ z, z = kp := ⟨_, rfl⟩
  obtain ⟨L0, eL⟩ : ∃ z, z = L := ⟨_, rfl⟩
  rw [show tw_Q D cs kp L = tw_Q D cs kp0 L0 by rw [ekp, eL]]
  have hex : ∀ a : Nat, a ∈ L0 → a ∈ L ∧ kp a = kp0 a := fun a h => ⟨by rw [← eL]; exact h, by rw [ekp]⟩
  refine lv_iconst (v := (-1)) hx hb dX12_kidBehind_0 (by decide) ?_
  refine lv_istore (lv' := [(4, .int (-1)), (0, .ref a0), (1, .int x1), (2, .int x2), (3, .int x3)]) hx hb dX12_kidBehind_1 hl (by decide) rfl (fun ls hl => ?_)
  refine lv_iconst (v := 0) hx hb dX12_kidBehind_3 (by decide) ?_
  refine lv_istore (lv' := [(5, .int 0), (4, .int (-1)), (0, .ref a0), (1, .int x1), (2, .int x2), (3, .int x3)]) hx hb dX12_kidBehind_4 hl (by decide) rfl (fun ls hl => ?_)
  have hJ6 : ∀ (n6 : Nat) (y6_5 : Int32) (y6_4 : Int32) (H : Heap) (locs : List Loc) (ls : Array Slot), 0 ≤ y6_5.toInt → y6_5.toInt ≤ 150 → (-1) ≤ y6_4.toInt → y6_4.toInt ≤ 149 → (rt_kbk (rw_h E a0 (x1.toInt)) (rw_p E a0 (x1.toInt)) (rw_q E a0 (x1.toInt)) (y6_5.toInt).toNat (x2.toInt) (x3.toInt) (y6_4.toInt)) → (y6_4.toInt = rt_kbf (rw_h E a0 (x1.toInt)) (rw_p E a0 (x1.toInt)) (rw_q E a0 (x1.toInt)) (x2.toInt) (x3.toInt) (y6_5.toInt).toNat) → 150 - y6_5.toInt ≤ (n6 : Int) → tw_H D cs kp L E A H → va_S A s.heap H locs → lv_has ls 6 [(5, .int y6_5), (4, .int y6_4), (0, .ref a0), (1, .int x1), (2, .int x2), (3, .int x3)] → W p l e { frames := 0, cells := 0, slots := 0, locals := 0 } s m [.ref a0, .int x1, .int x2, .int x3].toArray below meth c H locs 0 0 (MQ below (tw_Q D cs kp0 L0 (fun v kq Lq Eq => (∃ x : Int32, v = some (.int x) ∧ (-1) ≤ x.toInt ∧ x.toInt ≤ 149 ∧ (rt_kbk (rw_h E a0 x1.toInt) (rw_p E a0 x1.toInt) (rw_q E a0 x1.toInt) 150 x2.toInt x3.toInt x.toInt) ∧ (x.toInt = rt_kbf (rw_h E a0 x1.toInt) (rw_p E a0 x1.toInt) (rw_q E a0 x1.toInt) x2.toInt x3.toInt 150)) ∧ kp = kq ∧ L = Lq ∧ E = Eq) A) [.ref a0, .int x1, .int x2, .int x3].toArray s 0 0 A) (F0 m 6 ls []) := by
    intro n6
    induction n6 using Nat.strongRecOn with
    | _ n6 ih6 =>
      intro y6_5 y6_4 H locs ls hy6_5a hy6_5b hy6_4a hy6_4b hin6_0 hin6_1 hmeas6 TH hS hl
      refine lv_iload hx hb dX12_kidBehind_6 (lv_at hl 0 rfl) ?_
      refine lv_sipush (v := 150) hx hb dX12_kidBehind_8 (by decide) ?_
      refine lv_icmp_ge (tgt := 92) hx hb dX12_kidBehind_11 (by decide) (fun hc1 => ?_) (fun hc1 => ?_)
      · have hf2 : 150 ≤ y6_5.toInt := by have z := (fa_le _ _).mp hc1; have : ((150 : Int32).toInt) = 150 := (by decide); omega
        refine lv_iload hx hb dX12_kidBehind_92 (lv_at hl 1 rfl) ?_
        exact tw_iret hx hb hr hlocks TH hS hex ⟨⟨_, rfl, (show (-1) ≤ Int32.toInt y6_4 from by  omega), (show Int32.toInt y6_4 ≤ 149 from by  omega), (by  have h150 : (y6_5.toInt).toNat = 150 := (by omega); rw [h150] at hin6_0; exact hin6_0), (by  have h150 : (y6_5.toInt).toNat = 150 := (by omega); rw [h150] at hin6_1; exact hin6_1)⟩, rfl, rfl, rfl⟩ (Nat.le_of_ble_eq_true rfl) (Nat.le_of_ble_eq_true rfl) dX12_kidBehind_94
      · have hf3 : ¬ (150 ≤ y6_5.toInt) := fun q => hc1 ((fa_le _ _).mpr (by have : ((150 : Int32).toInt) = 150 := (by decide); omega))
        refine lv_aload_n hx hb dX12_kidBehind_14 rfl (lv_at hl 2 rfl) ?_
        refine tw_get (ci := 12) (C := RX12) (T := TX12) (N := 64) hx hb hB cx_inX12 hown hK TH hm0 hk0 rfl ⟨by decide, rfl⟩ 16 (by decide) cw_1209 (fun _ h9 => h9) dX12_kidBehind_15 (fun hv => ?_)
        obtain ⟨xr4, hxr4, hmxr4, hkxr4⟩ : ∃ a : Nat, tw_fv E a0 16 = .ref a ∧ a ∈ L ∧ kp a = 316 := hv
        rw [hxr4]
        refine lv_iload_n hx hb dX12_kidBehind_18 rfl (lv_at hl 3 rfl) ?_
        refine tw_aald (k := 316) (t0 := 5) (n := 16) (lo := 326) (hi := 0) (ty := .boolean) hx hb hK TH hmxr4 hkxr4 (by decide) rfl rfl (i := x1) (vp_in_iff.mpr ⟨by  omega, by  omega⟩) dX12_kidBehind_19 (fun xr5 exr5 hmxr5 hkxr5 => ?_)
        have hkxr5 : kp xr5 = 326 := hkxr5
        refine lv_iload hx hb dX12_kidBehind_20 (lv_at hl 0 rfl) ?_
        refine tw_zald (k := 326) (t0 := 3) (n := 150) (lo := 0) (hi := 1) hx hb hK TH hmxr5 hkxr5 (by decide) rfl rfl (i := y6_5) (vp_in_iff.mpr ⟨by  omega, by  omega⟩) dX12_kidBehind_22 (fun hxe6a hxe6b => ?_)
        obtain ⟨xe6, exe6⟩ : ∃ z : Int32, tw_iv E xr5 (Int32.toNatClampNeg y6_5) = z := ⟨_, rfl⟩
        rw [exe6] at hxe6a hxe6b ⊢
        have hJ86 : ∀ (y86_4 : Int32) (H : Heap) (locs : List Loc) (ls : Array Slot), (-1) ≤ y86_4.toInt → y86_4.toInt ≤ 149 → (rt_kbk (rw_h E a0 (x1.toInt)) (rw_p E a0 (x1.toInt)) (rw_q E a0 (x1.toInt)) ((y6_5.toInt).toNat + 1) (x2.toInt) (x3.toInt) (y86_4.toInt)) → (y86_4.toInt = rt_kbf (rw_h E a0 (x1.toInt)) (rw_p E a0 (x1.toInt)) (rw_q E a0 (x1.toInt)) (x2.toInt) (x3.toInt) ((y6_5.toInt).toNat + 1)) → tw_H D cs kp L E A H → va_S A s.heap H locs → lv_has ls 6 [(5, .int y6_5), (4, .int y86_4), (0, .ref a0), (1, .int x1), (2, .int x2), (3, .int x3)] → W p l e { frames := 0, cells := 0, slots := 0, locals := 0 } s m [.ref a0, .int x1, .int x2, .int x3].toArray below meth c H locs 0 0 (MQ below (tw_Q D cs kp0 L0 (fun v kq Lq Eq => (∃ x : Int32, v = some (.int x) ∧ (-1) ≤ x.toInt ∧ x.toInt ≤ 149 ∧ (rt_kbk (rw_h E a0 x1.toInt) (rw_p E a0 x1.toInt) (rw_q E a0 x1.toInt) 150 x2.toInt x3.toInt x.toInt) ∧ (x.toInt = rt_kbf (rw_h E a0 x1.toInt) (rw_p E a0 x1.toInt) (rw_q E a0 x1.toInt) x2.toInt x3.toInt 150)) ∧ kp = kq ∧ L = Lq ∧ E = Eq) A) [.ref a0, .int x1, .int x2, .int x3].toArray s 0 0 A) (F0 m 86 ls []) := by
          intro y86_4 H locs ls hy86_4a hy86_4b hin86_0 hin86_1 TH hS hl
          obtain ⟨zi7, ezi7⟩ : ∃ z : Int32, z = y6_5 + Int32.ofInt 1 := ⟨_, rfl⟩
          have hzi7 : zi7.toInt = y6_5.toInt + 1 := by rw [ezi7]; have : ((Int32.ofInt 1).toInt) = 1 := (by decide);  exact (ia_add (by omega) (by omega)).trans (by omega)
          refine lv_iinc (v := zi7) (lv' := [(5, .int zi7), (4, .int y86_4), (0, .ref a0), (1, .int x1), (2, .int x2), (3, .int x3)]) hx hb dX12_kidBehind_86 hl (k := 0) rfl ezi7.symm (by decide) rfl (fun ls hl => ?_)
          refine lv_goto (tgt := 6) hx hb dX12_kidBehind_89 (by decide) ?_
          exact ih6 (n6 - 1) (by   omega) zi7 y86_4 _ _ ls (by omega) (by omega) (by omega) (by omega) (by  rw [show (zi7.toInt).toNat = (y6_5.toInt).toNat + 1 by omega]; exact hin86_0) (by  rw [show (zi7.toInt).toNat = (y6_5.toInt).toNat + 1 by omega]; exact hin86_1) (by   omega) TH hS (lv_sub hl [0, 1, 2, 3, 4, 5] rfl)
        refine lv_if_eq (tgt := 86) hx hb dX12_kidBehind_23 (by decide) (fun hc8 => ?_) (fun hc8 => ?_)
        · have hf9 : xe6.toInt = 0 := by have z := (fa_eq _ _).mp hc8; have : ((0 : Int32).toInt) = 0 := (by decide); omega
          exact hJ86 y6_4 _ _ ls (by omega) (by omega) (by  have rf_xe6 : rw_h E a0 (x1.toInt) (y6_5.toInt).toNat = xe6.toInt := rw_h_of (m := a0) (i := x1) (c := y6_5) hxr4 exr5 exe6; have hk5 : (((y6_5.toInt).toNat : Nat) : Int) = y6_5.toInt := (by omega); refine rt_kbk_step hin6_0 rfl ?_; (try rw [rf_xe6]); omega) (by  have rf_xe6 : rw_h E a0 (x1.toInt) (y6_5.toInt).toNat = xe6.toInt := rw_h_of (m := a0) (i := x1) (c := y6_5) hxr4 exr5 exe6; have hk5 : (((y6_5.toInt).toNat : Nat) : Int) = y6_5.toInt := (by omega); refine rt_kbf_step hin6_1 rfl ?_; (try rw [rf_xe6]); omega) TH hS (lv_sub hl [0, 1, 2, 3, 4, 5] rfl)
        · have hf10 : ¬ (xe6.toInt = 0) := fun q => hc8 ((fa_eq _ _).mpr (by have : ((0 : Int32).toInt) = 0 := (by decide); omega))
          refine lv_aload_n hx hb dX12_kidBehind_26 rfl (lv_at hl 2 rfl) ?_
          refine tw_get (ci := 12) (C := RX12) (T := TX12) (N := 64) hx hb hB cx_inX12 hown hK TH hm0 hk0 rfl ⟨by decide, rfl⟩ 18 (by decide) cw_1211 (fun _ h9 => h9) dX12_kidBehind_27 (fun hv => ?_)
          obtain ⟨xr11, hxr11, hmxr11, hkxr11⟩ : ∃ a : Nat, tw_fv E a0 18 = .ref a ∧ a ∈ L ∧ kp a = 318 := hv
          rw [hxr11]
          refine lv_iload_n hx hb dX12_kidBehind_30 rfl (lv_at hl 3 rfl) ?_
          refine tw_aald (k := 318) (t0 := 4) (n := 16) (lo := 328) (hi := 0) (ty := .int) hx hb hK TH hmxr11 hkxr11 (by decide) rfl rfl (i := x1) (vp_in_iff.mpr ⟨by  omega, by  omega⟩) dX12_kidBehind_31 (fun xr12 exr12 hmxr12 hkxr12 => ?_)
          have hkxr12 : kp xr12 = 328 := hkxr12
          refine lv_iload hx hb dX12_kidBehind_32 (lv_at hl 0 rfl) ?_
          refine tw_iald (k := 328) (t0 := 0) (n := 150) (lo := (-1)) (hi := 149) hx hb hK TH hmxr12 hkxr12 (by decide) rfl rfl (i := y6_5) (vp_in_iff.mpr ⟨by  omega, by  omega⟩) dX12_kidBehind_34 (fun hxe13a hxe13b => ?_)
          obtain ⟨xe13, exe13⟩ : ∃ z : Int32, tw_iv E xr12 (Int32.toNatClampNeg y6_5) = z := ⟨_, rfl⟩
          rw [exe13] at hxe13a hxe13b ⊢
          refine lv_iload_n hx hb dX12_kidBehind_35 rfl (lv_at hl 4 rfl) ?_
          refine lv_icmp_ne (tgt := 86) hx hb dX12_kidBehind_36 (by decide) (fun hc14 => ?_) (fun hc14 => ?_)
          · have hf15 : ¬ (xe13.toInt = x2.toInt) := fun q => hc14 ((fa_eq _ _).mpr (by  omega))
            exact hJ86 y6_4 _ _ ls (by omega) (by omega) (by  have rf_xe6 : rw_h E a0 (x1.toInt) (y6_5.toInt).toNat = xe6.toInt := rw_h_of (m := a0) (i := x1) (c := y6_5) hxr4 exr5 exe6; have rf_xe13 : rw_p E a0 (x1.toInt) (y6_5.toInt).toNat = xe13.toInt := rw_p_of (m := a0) (i := x1) (c := y6_5) hxr11 exr12 exe13; have hk5 : (((y6_5.toInt).toNat : Nat) : Int) = y6_5.toInt := (by omega); refine rt_kbk_step hin6_0 rfl ?_; (try rw [rf_xe6]); (try rw [rf_xe13]); omega) (by  have rf_xe6 : rw_h E a0 (x1.toInt) (y6_5.toInt).toNat = xe6.toInt := rw_h_of (m := a0) (i := x1) (c := y6_5) hxr4 exr5 exe6; have rf_xe13 : rw_p E a0 (x1.toInt) (y6_5.toInt).toNat = xe13.toInt := rw_p_of (m := a0) (i := x1) (c := y6_5) hxr11 exr12 exe13; have hk5 : (((y6_5.toInt).toNat : Nat) : Int) = y6_5.toInt := (by omega); refine rt_kbf_step hin6_1 rfl ?_; (try rw [rf_xe6]); (try rw [rf_xe13]); omega) TH hS (lv_sub hl [0, 1, 2, 3, 4, 5] rfl)
          · have hf16 : xe13.toInt = x2.toInt := by have z := (fa_eq _ _).mp hc14;  omega
            refine lv_aload_n hx hb dX12_kidBehind_39 rfl (lv_at hl 2 rfl) ?_
            refine tw_get (ci := 12) (C := RX12) (T := TX12) (N := 64) hx hb hB cx_inX12 hown hK TH hm0 hk0 rfl ⟨by decide, rfl⟩ 19 (by decide) cw_1212 (fun _ h9 => h9) dX12_kidBehind_40 (fun hv => ?_)
            obtain ⟨xr17, hxr17, hmxr17, hkxr17⟩ : ∃ a : Nat, tw_fv E a0 19 = .ref a ∧ a ∈ L ∧ kp a = 319 := hv
            rw [hxr17]
            refine lv_iload_n hx hb dX12_kidBehind_43 rfl (lv_at hl 3 rfl) ?_
            refine tw_aald (k := 319) (t0 := 4) (n := 16) (lo := 329) (hi := 0) (ty := .int) hx hb hK TH hmxr17 hkxr17 (by decide) rfl rfl (i := x1) (vp_in_iff.mpr ⟨by  omega, by  omega⟩) dX12_kidBehind_44 (fun xr18 exr18 hmxr18 hkxr18 => ?_)
            have hkxr18 : kp xr18 = 329 := hkxr18
            refine lv_iload hx hb dX12_kidBehind_45 (lv_at hl 0 rfl) ?_
            refine tw_iald (k := 329) (t0 := 0) (n := 150) (lo := (-2147483648)) (hi := 2147483647) hx hb hK TH hmxr18 hkxr18 (by decide) rfl rfl (i := y6_5) (vp_in_iff.mpr ⟨by  omega, by  omega⟩) dX12_kidBehind_47 (fun hxe19a hxe19b => ?_)
            obtain ⟨xe19, exe19⟩ : ∃ z : Int32, tw_iv E xr18 (Int32.toNatClampNeg y6_5) = z := ⟨_, rfl⟩
            rw [exe19] at hxe19a hxe19b ⊢
            refine lv_iload_n hx hb dX12_kidBehind_48 rfl (lv_at hl 5 rfl) ?_
            refine lv_icmp_gt (tgt := 55) hx hb dX12_kidBehind_49 (by decide) (fun hc20 => ?_) (fun hc20 => ?_)
            · have hf21 : x3.toInt < xe19.toInt := by have z := (fa_lt _ _).mp hc20;  omega
              refine lv_iload hx hb dX12_kidBehind_55 (lv_at hl 1 rfl) ?_
              refine lv_iconst (v := (-1)) hx hb dX12_kidBehind_57 (by decide) ?_
              refine lv_icmp_eq (tgt := 82) hx hb dX12_kidBehind_58 (by decide) (fun hc22 => ?_) (fun hc22 => ?_)
              · have hf23 : y6_4.toInt = (-1) := by have z := (fa_eq _ _).mp hc22; have : (((-1) : Int32).toInt) = (-1) := (by decide); omega
                refine lv_iload hx hb dX12_kidBehind_82 (lv_at hl 0 rfl) ?_
                refine lv_istore (lv' := [(4, .int y6_5), (5, .int y6_5), (0, .ref a0), (1, .int x1), (2, .int x2), (3, .int x3)]) hx hb dX12_kidBehind_84 hl (by decide) rfl (fun ls hl => ?_)
                exact hJ86 y6_5 _ _ ls (by omega) (by omega) (by  have rf_xe6 : rw_h E a0 (x1.toInt) (y6_5.toInt).toNat = xe6.toInt := rw_h_of (m := a0) (i := x1) (c := y6_5) hxr4 exr5 exe6; have rf_xe13 : rw_p E a0 (x1.toInt) (y6_5.toInt).toNat = xe13.toInt := rw_p_of (m := a0) (i := x1) (c := y6_5) hxr11 exr12 exe13; have rf_xe19 : rw_q E a0 (x1.toInt) (y6_5.toInt).toNat = xe19.toInt := rw_q_of (m := a0) (i := x1) (c := y6_5) hxr17 exr18 exe19; have hk5 : (((y6_5.toInt).toNat : Nat) : Int) = y6_5.toInt := (by omega); refine rt_kbk_step hin6_0 rfl ?_; (try rw [rf_xe6]); (try rw [rf_xe13]); (try rw [rf_xe19]); omega) (by  have rf_xe6 : rw_h E a0 (x1.toInt) (y6_5.toInt).toNat = xe6.toInt := rw_h_of (m := a0) (i := x1) (c := y6_5) hxr4 exr5 exe6; have rf_xe13 : rw_p E a0 (x1.toInt) (y6_5.toInt).toNat = xe13.toInt := rw_p_of (m := a0) (i := x1) (c := y6_5) hxr11 exr12 exe13; have rf_xe19 : rw_q E a0 (x1.toInt) (y6_5.toInt).toNat = xe19.toInt := rw_q_of (m := a0) (i := x1) (c := y6_5) hxr17 exr18 exe19; have hk5 : (((y6_5.toInt).toNat : Nat) : Int) = y6_5.toInt := (by omega); refine rt_kbf_step hin6_1 rfl ?_; (try rw [rf_xe6]); (try rw [rf_xe13]); (try rw [rf_xe19]); omega) TH hS (lv_sub hl [1, 0, 2, 3, 4, 5] rfl)
              · have hf24 : ¬ (y6_4.toInt = (-1)) := fun q => hc22 ((fa_eq _ _).mpr (by have : (((-1) : Int32).toInt) = (-1) := (by decide); omega))
                refine lv_aload_n hx hb dX12_kidBehind_61 rfl (lv_at hl 2 rfl) ?_
                refine tw_get (ci := 12) (C := RX12) (T := TX12) (N := 64) hx hb hB cx_inX12 hown hK TH hm0 hk0 rfl ⟨by decide, rfl⟩ 19 (by decide) cw_1212 (fun _ h9 => h9) dX12_kidBehind_62 (fun hv => ?_)
                rw [hxr17]
                refine lv_iload_n hx hb dX12_kidBehind_65 rfl (lv_at hl 3 rfl) ?_
                refine tw_aald (k := 319) (t0 := 4) (n := 16) (lo := 329) (hi := 0) (ty := .int) hx hb hK TH hmxr17 hkxr17 (by decide) rfl rfl (i := x1) (vp_in_iff.mpr ⟨by  omega, by  omega⟩) dX12_kidBehind_66 (fun xr25 exr25 hmxr25 hkxr25 => ?_)
                have ezxr25 : xr18 = xr25 := exr18.symm.trans exr25
                subst ezxr25
                refine lv_iload hx hb dX12_kidBehind_67 (lv_at hl 0 rfl) ?_
                refine tw_iald (k := 329) (t0 := 0) (n := 150) (lo := (-2147483648)) (hi := 2147483647) hx hb hK TH hmxr18 hkxr18 (by decide) rfl rfl (i := y6_5) (vp_in_iff.mpr ⟨by  omega, by  omega⟩) dX12_kidBehind_69 (fun hxe26a hxe26b => ?_)
                rw [exe19]
                refine lv_aload_n hx hb dX12_kidBehind_70 rfl (lv_at hl 2 rfl) ?_
                refine tw_get (ci := 12) (C := RX12) (T := TX12) (N := 64) hx hb hB cx_inX12 hown hK TH hm0 hk0 rfl ⟨by decide, rfl⟩ 19 (by decide) cw_1212 (fun _ h9 => h9) dX12_kidBehind_71 (fun hv => ?_)
                rw [hxr17]
                refine lv_iload_n hx hb dX12_kidBehind_74 rfl (lv_at hl 3 rfl) ?_
                refine tw_aald (k := 319) (t0 := 4) (n := 16) (lo := 329) (hi := 0) (ty := .int) hx hb hK TH hmxr17 hkxr17 (by decide) rfl rfl (i := x1) (vp_in_iff.mpr ⟨by  omega, by  omega⟩) dX12_kidBehind_75 (fun xr27 exr27 hmxr27 hkxr27 => ?_)
                have ezxr27 : xr18 = xr27 := exr18.symm.trans exr27
                subst ezxr27
                refine lv_iload hx hb dX12_kidBehind_76 (lv_at hl 1 rfl) ?_
                refine tw_iald (k := 329) (t0 := 0) (n := 150) (lo := (-2147483648)) (hi := 2147483647) hx hb hK TH hmxr18 hkxr18 (by decide) rfl rfl (i := y6_4) (vp_in_iff.mpr ⟨by  omega, by  omega⟩) dX12_kidBehind_78 (fun hxe28a hxe28b => ?_)
                obtain ⟨xe28, exe28⟩ : ∃ z : Int32, tw_iv E xr18 (Int32.toNatClampNeg y6_4) = z := ⟨_, rfl⟩
                rw [exe28] at hxe28a hxe28b ⊢
                refine lv_icmp_ge (tgt := 86) hx hb dX12_kidBehind_79 (by decide) (fun hc29 => ?_) (fun hc29 => ?_)
                · have hf30 : xe28.toInt ≤ xe19.toInt := by have z := (fa_le _ _).mp hc29;  omega
                  exact hJ86 y6_4 _ _ ls (by omega) (by omega) (by  have rf_xe6 : rw_h E a0 (x1.toInt) (y6_5.toInt).toNat = xe6.toInt := rw_h_of (m := a0) (i := x1) (c := y6_5) hxr4 exr5 exe6; have rf_xe13 : rw_p E a0 (x1.toInt) (y6_5.toInt).toNat = xe13.toInt := rw_p_of (m := a0) (i := x1) (c := y6_5) hxr11 exr12 exe13; have rf_xe19 : rw_q E a0 (x1.toInt) (y6_5.toInt).toNat = xe19.toInt := rw_q_of (m := a0) (i := x1) (c := y6_5) hxr17 exr18 exe19; have rf_xe28 : rw_q E a0 (x1.toInt) (y6_4.toInt).toNat = xe28.toInt := rw_q_of (m := a0) (i := x1) (c := y6_4) hxr17 exr18 exe28; have hk5 : (((y6_5.toInt).toNat : Nat) : Int) = y6_5.toInt := (by omega); refine rt_kbk_step hin6_0 rfl ?_; (try rw [rf_xe6]); (try rw [rf_xe13]); (try rw [rf_xe19]); (try rw [rf_xe28]); omega) (by  have rf_xe6 : rw_h E a0 (x1.toInt) (y6_5.toInt).toNat = xe6.toInt := rw_h_of (m := a0) (i := x1) (c := y6_5) hxr4 exr5 exe6; have rf_xe13 : rw_p E a0 (x1.toInt) (y6_5.toInt).toNat = xe13.toInt := rw_p_of (m := a0) (i := x1) (c := y6_5) hxr11 exr12 exe13; have rf_xe19 : rw_q E a0 (x1.toInt) (y6_5.toInt).toNat = xe19.toInt := rw_q_of (m := a0) (i := x1) (c := y6_5) hxr17 exr18 exe19; have rf_xe28 : rw_q E a0 (x1.toInt) (y6_4.toInt).toNat = xe28.toInt := rw_q_of (m := a0) (i := x1) (c := y6_4) hxr17 exr18 exe28; have hk5 : (((y6_5.toInt).toNat : Nat) : Int) = y6_5.toInt := (by omega); refine rt_kbf_step hin6_1 rfl ?_; (try rw [rf_xe6]); (try rw [rf_xe13]); (try rw [rf_xe19]); (try rw [rf_xe28]); omega) TH hS (lv_sub hl [0, 1, 2, 3, 4, 5] rfl)
                · have hf31 : ¬ (xe28.toInt ≤ xe19.toInt) := fun q => hc29 ((fa_le _ _).mpr (by  omega))
                  refine lv_iload hx hb dX12_kidBehind_82 (lv_at hl 0 rfl) ?_
                  refine lv_istore (lv' := [(4, .int y6_5), (5, .int y6_5), (0, .ref a0), (1, .int x1), (2, .int x2), (3, .int x3)]) hx hb dX12_kidBehind_84 hl (by decide) rfl (fun ls hl => ?_)
                  exact hJ86 y6_5 _ _ ls (by omega) (by omega) (by  have rf_xe6 : rw_h E a0 (x1.toInt) (y6_5.toInt).toNat = xe6.toInt := rw_h_of (m := a0) (i := x1) (c := y6_5) hxr4 exr5 exe6; have rf_xe13 : rw_p E a0 (x1.toInt) (y6_5.toInt).toNat = xe13.toInt := rw_p_of (m := a0) (i := x1) (c := y6_5) hxr11 exr12 exe13; have rf_xe19 : rw_q E a0 (x1.toInt) (y6_5.toInt).toNat = xe19.toInt := rw_q_of (m := a0) (i := x1) (c := y6_5) hxr17 exr18 exe19; have rf_xe28 : rw_q E a0 (x1.toInt) (y6_4.toInt).toNat = xe28.toInt := rw_q_of (m := a0) (i := x1) (c := y6_4) hxr17 exr18 exe28; have hk5 : (((y6_5.toInt).toNat : Nat) : Int) = y6_5.toInt := (by omega); refine rt_kbk_step hin6_0 rfl ?_; (try rw [rf_xe6]); (try rw [rf_xe13]); (try rw [rf_xe19]); (try rw [rf_xe28]); omega) (by  have rf_xe6 : rw_h E a0 (x1.toInt) (y6_5.toInt).toNat = xe6.toInt := rw_h_of (m := a0) (i := x1) (c := y6_5) hxr4 exr5 exe6; have rf_xe13 : rw_p E a0 (x1.toInt) (y6_5.toInt).toNat = xe13.toInt := rw_p_of (m := a0) (i := x1) (c := y6_5) hxr11 exr12 exe13; have rf_xe19 : rw_q E a0 (x1.toInt) (y6_5.toInt).toNat = xe19.toInt := rw_q_of (m := a0) (i := x1) (c := y6_5) hxr17 exr18 exe19; have rf_xe28 : rw_q E a0 (x1.toInt) (y6_4.toInt).toNat = xe28.toInt := rw_q_of (m := a0) (i := x1) (c := y6_4) hxr17 exr18 exe28; have hk5 : (((y6_5.toInt).toNat : Nat) : Int) = y6_5.toInt := (by omega); refine rt_kbf_step hin6_1 rfl ?_; (try rw [rf_xe6]); (try rw [rf_xe13]); (try rw [rf_xe19]); (try rw [rf_xe28]); omega) TH hS (lv_sub hl [1, 0, 2, 3, 4, 5] rfl)
            · have hf32 : ¬ (x3.toInt < xe19.toInt) := fun q => hc20 ((fa_lt _ _).mpr (by  omega))
              refine lv_goto (tgt := 86) hx hb dX12_kidBehind_52 (by decide) ?_
              exact hJ86 y6_4 _ _ ls (by omega) (by omega) (by  have rf_xe6 : rw_h E a0 (x1.toInt) (y6_5.toInt).toNat = xe6.toInt := rw_h_of (m := a0) (i := x1) (c := y6_5) hxr4 exr5 exe6; have rf_xe13 : rw_p E a0 (x1.toInt) (y6_5.toInt).toNat = xe13.toInt := rw_p_of (m := a0) (i := x1) (c := y6_5) hxr11 exr12 exe13; have rf_xe19 : rw_q E a0 (x1.toInt) (y6_5.toInt).toNat = xe19.toInt := rw_q_of (m := a0) (i := x1) (c := y6_5) hxr17 exr18 exe19; have hk5 : (((y6_5.toInt).toNat : Nat) : Int) = y6_5.toInt := (by omega); refine rt_kbk_step hin6_0 rfl ?_; (try rw [rf_xe6]); (try rw [rf_xe13]); (try rw [rf_xe19]); omega) (by  have rf_xe6 : rw_h E a0 (x1.toInt) (y6_5.toInt).toNat = xe6.toInt := rw_h_of (m := a0) (i := x1) (c := y6_5) hxr4 exr5 exe6; have rf_xe13 : rw_p E a0 (x1.toInt) (y6_5.toInt).toNat = xe13.toInt := rw_p_of (m := a0) (i := x1) (c := y6_5) hxr11 exr12 exe13; have rf_xe19 : rw_q E a0 (x1.toInt) (y6_5.toInt).toNat = xe19.toInt := rw_q_of (m := a0) (i := x1) (c := y6_5) hxr17 exr18 exe19; have hk5 : (((y6_5.toInt).toNat : Nat) : Int) = y6_5.toInt := (by omega); refine rt_kbf_step hin6_1 rfl ?_; (try rw [rf_xe6]); (try rw [rf_xe13]); (try rw [rf_xe19]); omega) TH hS (lv_sub hl [0, 1, 2, 3, 4, 5] rfl)
  exact hJ6 151 (0 : Int32) ((-1) : Int32) _ _ ls (by have : ((0 : Int32).toInt) = 0 := (by decide); omega) (by have : ((0 : Int32).toInt) = 0 := (by decide); omega) (by have : (((-1) : Int32).toInt) = (-1) := (by decide); omega) (by have : (((-1) : Int32).toInt) = (-1) := (by decide); omega) (by have : (((-1) : Int32).toInt) = (-1) := (by decide); have : ((0 : Int32).toInt) = 0 := (by decide); exact rt_kbk_zero (by omega) (by omega)) (by have : (((-1) : Int32).toInt) = (-1) := (by decide); have : ((0 : Int32).toInt) = 0 := (by decide); exact rfl) (by have : (((-1) : Int32).toInt) = (-1) := (by decide); have : ((0 : Int32).toInt) = 0 := (by decide);  omega) TH hS (lv_sub hl [0, 1, 2, 3, 4, 5] rfl)
set_option maxHeartbeats 4000000 in
set_option maxRecDepth 100000 in
theorem tX12_firstKid_vF (l : Launch) (D : va_G) (cs : Nat → ClassId) {kp : Nat → Nat} {L : List Nat} {E : Nat → va_E} (a0 : Nat) (x1 : Int32) (x2 : Int32) (hm0 : a0 ∈ L) (hk0 : kp a0 = 12) (hp1a : 0 ≤ x1.toInt) (hp1b : x1.toInt ≤ 15) (sz : Nat) : Met l yX12_firstKid (.code yX12_firstKid cX12_firstKid 3 (some .int) :: cx_big) { frames := 1, cells := 0, slots := 0, locals := 25 } (tw_P D cs kp L E [.ref a0, .int x1, .int x2] sz) (tw_Q D cs kp L (fun v kq Lq Eq => (∃ x : Int32, v = some (.int x) ∧ (-1) ≤ x.toInt ∧ x.toInt ≤ 149 ∧ (rt_kbk (rw_h E a0 x1.toInt) (rw_p E a0 x1.toInt) (rw_q E a0 x1.toInt) 150 x2.toInt (-1) x.toInt) ∧ (x.toInt = rt_fk (rw_h E a0 x1.toInt) (rw_p E a0 x1.toInt) (rw_q E a0 x1.toInt) x2.toInt)) ∧ kp = kq ∧ L = Lq ∧ E = Eq) (va_A (va_pl L E) sz)) 0 0 (va_A (va_pl L E) sz) := by
  refine tw_ofW (by decide) (Nat.le_of_ble_eq_true rfl) ?_
  intro p e s m below meth c A ls hx hb hr hml hB hown hlocks hK hN hA TH hS hl
  have hown : s.vm.findClass "TreeMergeModel" = some m.cls := hown
  have hl : lv_has ls 3 [(0, .ref a0), (1, .int x1), (2, .int x2)] := hl
  obtain ⟨kp0, ekp⟩ : ∃ z, z = kp := ⟨_, rfl⟩
  obtain ⟨L0, eL⟩ : ∃ z, z = L := ⟨_, rfl⟩
  rw [show tw_Q D cs kp L = tw_Q D cs kp0 L0 by rw [ekp, eL]]
  have hex : ∀ a : Nat, a ∈ L0 → a ∈ L ∧ kp a = kp0 a := fun a h => ⟨by rw [← eL]; exact h, by rw [ekp]⟩
  refine lv_aload_n hx hb dX12_firstKid_0 rfl (lv_at hl 0 rfl) ?_
  refine lv_iload_n hx hb dX12_firstKid_1 rfl (lv_at hl 1 rfl) ?_
  refine lv_iload_n hx hb dX12_firstKid_2 rfl (lv_at hl 2 rfl) ?_
  refine lv_iconst (v := (-1)) hx hb dX12_firstKid_3 (by decide) ?_
  refine tw_Vc (o := a0) (ci := 12) (n := 3) (post := (fun v kq Lq Eq => (∃ x : Int32, v = some (.int x) ∧ (-1) ≤ x.toInt ∧ x.toInt ≤ 149 ∧ (rt_kbk (rw_h E a0 x1.toInt) (rw_p E a0 x1.toInt) (rw_q E a0 x1.toInt) 150 x2.toInt ((-1) : Int32).toInt x.toInt) ∧ (x.toInt = rt_kbf (rw_h E a0 x1.toInt) (rw_p E a0 x1.toInt) (rw_q E a0 x1.toInt) x2.toInt ((-1) : Int32).toInt 150)) ∧ kp = kq ∧ L = Lq ∧ E = Eq)) (As := [.int x1, .int x2, .int (-1)]) (rest := []) ⟨hx, hb, hml, hown, hB⟩ (fun sz => tX12_kidBehind_vF l D cs a0 x1 x2 ((-1) : Int32) hm0 hk0 (by omega) (by omega) sz) cg_12_288_X12_kidBehind rfl rfl (by decide +kernel) ⟨Nat.le_of_ble_eq_true rfl, Nat.le_of_ble_eq_true rfl⟩ hK hN TH hS hA rfl hm0 hk0 (by decide) rfl hl.1 rfl (Nat.le_of_ble_eq_true rfl) dX12_firstKid_4 ⟨Nat.le_of_ble_eq_true rfl, Nat.le_of_ble_eq_true rfl⟩ (fun v1 kp1 L1 E1 H locs hq1 hx1 TH hS => ?_)
  obtain ⟨⟨xc2, rfl, hxc2a, hxc2b, hpoxc2_0, hpoxc2_1⟩, rfl, rfl, rfl⟩ := hq1
  refine W.eq (g2 := F0 m 7 ls [.int xc2]) rfl ?_
  exact tw_iret hx hb hr hlocks TH hS hex ⟨⟨_, rfl, (show (-1) ≤ Int32.toInt xc2 from by  omega), (show Int32.toInt xc2 ≤ 149 from by  omega), (by  have em1 : ((-1 : Int32).toInt) = -1 := (by decide); have q := hpoxc2_0; rw [em1] at q; exact q), (by  have em1 : ((-1 : Int32).toInt) = -1 := (by decide); have q := hpoxc2_1; rw [em1] at q; exact q)⟩, rfl, rfl, rfl⟩ (Nat.le_of_ble_eq_true rfl) (Nat.le_of_ble_eq_true rfl) dX12_firstKid_7
set_option maxHeartbeats 4000000 in
set_option maxRecDepth 100000 in
theorem tX12_nextKid_vF (l : Launch) (D : va_G) (cs : Nat → ClassId) {kp : Nat → Nat} {L : List Nat} {E : Nat → va_E} (a0 : Nat) (x1 : Int32) (x2 : Int32) (hm0 : a0 ∈ L) (hk0 : kp a0 = 12) (hp1a : 0 ≤ x1.toInt) (hp1b : x1.toInt ≤ 15) (hp2a : 0 ≤ x2.toInt) (hp2b : x2.toInt ≤ 149) (sz : Nat) : Met l yX12_nextKid (.code yX12_nextKid cX12_nextKid 3 (some .int) :: cx_big) { frames := 1, cells := 0, slots := 0, locals := 25 } (tw_P D cs kp L E [.ref a0, .int x1, .int x2] sz) (tw_Q D cs kp L (fun v kq Lq Eq => (∃ x : Int32, v = some (.int x) ∧ (-1) ≤ x.toInt ∧ x.toInt ≤ 149 ∧ (rt_kbk (rw_h E a0 x1.toInt) (rw_p E a0 x1.toInt) (rw_q E a0 x1.toInt) 150 (rw_p E a0 x1.toInt (x2.toInt).toNat) (rw_q E a0 x1.toInt (x2.toInt).toNat) x.toInt) ∧ (x.toInt = rt_nk (rw_h E a0 x1.toInt) (rw_p E a0 x1.toInt) (rw_q E a0 x1.toInt) x2.toInt)) ∧ kp = kq ∧ L = Lq ∧ E = Eq) (va_A (va_pl L E) sz)) 0 0 (va_A (va_pl L E) sz) := by
  refine tw_ofW (by decide) (Nat.le_of_ble_eq_true rfl) ?_
  intro p e s m below meth c A ls hx hb hr hml hB hown hlocks hK hN hA TH hS hl
  have hown : s.vm.findClass "TreeMergeModel" = some m.cls := hown
  have hl : lv_has ls 3 [(0, .ref a0), (1, .int x1), (2, .int x2)] := hl
  obtain ⟨kp0, ekp⟩ : ∃ z, z = kp := ⟨_, rfl⟩
  obtain ⟨L0, eL⟩ : ∃ z, z = L := ⟨_, rfl⟩
  rw [show tw_Q D cs kp L = tw_Q D cs kp0 L0 by rw [ekp, eL]]
  have hex : ∀ a : Nat, a ∈ L0 → a ∈ L ∧ kp a = kp0 a := fun a h => ⟨by rw [← eL]; exact h, by rw [ekp]⟩
  refine lv_aload_n hx hb dX12_nextKid_0 rfl (lv_at hl 0 rfl) ?_
  refine lv_iload_n hx hb dX12_nextKid_1 rfl (lv_at hl 1 rfl) ?_
  refine lv_aload_n hx hb dX12_nextKid_2 rfl (lv_at hl 0 rfl) ?_
  refine tw_get (ci := 12) (C := RX12) (T := TX12) (N := 64) hx hb hB cx_inX12 hown hK TH hm0 hk0 rfl ⟨by decide, rfl⟩ 18 (by decide) cw_1211 (fun _ h9 => h9) dX12_nextKid_3 (fun hv => ?_)
  obtain ⟨xr1, hxr1, hmxr1, hkxr1⟩ : ∃ a : Nat, tw_fv E a0 18 = .ref a ∧ a ∈ L ∧ kp a = 318 := hv
  rw [hxr1]
  refine lv_iload_n hx hb dX12_nextKid_6 rfl (lv_at hl 1 rfl) ?_
  refine tw_aald (k := 318) (t0 := 4) (n := 16) (lo := 328) (hi := 0) (ty := .int) hx hb hK TH hmxr1 hkxr1 (by decide) rfl rfl (i := x1) (vp_in_iff.mpr ⟨by  omega, by  omega⟩) dX12_nextKid_7 (fun xr2 exr2 hmxr2 hkxr2 => ?_)
  have hkxr2 : kp xr2 = 328 := hkxr2
  refine lv_iload_n hx hb dX12_nextKid_8 rfl (lv_at hl 2 rfl) ?_
  refine tw_iald (k := 328) (t0 := 0) (n := 150) (lo := (-1)) (hi := 149) hx hb hK TH hmxr2 hkxr2 (by decide) rfl rfl (i := x2) (vp_in_iff.mpr ⟨by  omega, by  omega⟩) dX12_nextKid_9 (fun hxe3a hxe3b => ?_)
  obtain ⟨xe3, exe3⟩ : ∃ z : Int32, tw_iv E xr2 (Int32.toNatClampNeg x2) = z := ⟨_, rfl⟩
  rw [exe3] at hxe3a hxe3b ⊢
  refine lv_aload_n hx hb dX12_nextKid_10 rfl (lv_at hl 0 rfl) ?_
  refine tw_get (ci := 12) (C := RX12) (T := TX12) (N := 64) hx hb hB cx_inX12 hown hK TH hm0 hk0 rfl ⟨by decide, rfl⟩ 19 (by decide) cw_1212 (fun _ h9 => h9) dX12_nextKid_11 (fun hv => ?_)
  obtain ⟨xr4, hxr4, hmxr4, hkxr4⟩ : ∃ a : Nat, tw_fv E a0 19 = .ref a ∧ a ∈ L ∧ kp a = 319 := hv
  rw [hxr4]
  refine lv_iload_n hx hb dX12_nextKid_14 rfl (lv_at hl 1 rfl) ?_
  refine tw_aald (k := 319) (t0 := 4) (n := 16) (lo := 329) (hi := 0) (ty := .int) hx hb hK TH hmxr4 hkxr4 (by decide) rfl rfl (i := x1) (vp_in_iff.mpr ⟨by  omega, by  omega⟩) dX12_nextKid_15 (fun xr5 exr5 hmxr5 hkxr5 => ?_)
  have hkxr5 : kp xr5 = 329 := hkxr5
  refine lv_iload_n hx hb dX12_nextKid_16 rfl (lv_at hl 2 rfl) ?_
  refine tw_iald (k := 329) (t0 := 0) (n := 150) (lo := (-2147483648)) (hi := 2147483647) hx hb hK TH hmxr5 hkxr5 (by decide) rfl rfl (i := x2) (vp_in_iff.mpr ⟨by  omega, by  omega⟩) dX12_nextKid_17 (fun hxe6a hxe6b => ?_)
  obtain ⟨xe6, exe6⟩ : ∃ z : Int32, tw_iv E xr5 (Int32.toNatClampNeg x2) = z := ⟨_, rfl⟩
  rw [exe6] at hxe6a hxe6b ⊢
  refine tw_Vc (o := a0) (ci := 12) (n := 3) (post := (fun v kq Lq Eq => (∃ x : Int32, v = some (.int x) ∧ (-1) ≤ x.toInt ∧ x.toInt ≤ 149 ∧ (rt_kbk (rw_h E a0 x1.toInt) (rw_p E a0 x1.toInt) (rw_q E a0 x1.toInt) 150 xe3.toInt xe6.toInt x.toInt) ∧ (x.toInt = rt_kbf (rw_h E a0 x1.toInt) (rw_p E a0 x1.toInt) (rw_q E a0 x1.toInt) xe3.toInt xe6.toInt 150)) ∧ kp = kq ∧ L = Lq ∧ E = Eq)) (As := [.int x1, .int xe3, .int xe6]) (rest := []) ⟨hx, hb, hml, hown, hB⟩ (fun sz => tX12_kidBehind_vF l D cs a0 x1 xe3 xe6 hm0 hk0 (by omega) (by omega) sz) cg_12_288_X12_kidBehind rfl rfl (by decide +kernel) ⟨Nat.le_of_ble_eq_true rfl, Nat.le_of_ble_eq_true rfl⟩ hK hN TH hS hA rfl hm0 hk0 (by decide) rfl hl.1 rfl (Nat.le_of_ble_eq_true rfl) dX12_nextKid_18 ⟨Nat.le_of_ble_eq_true rfl, Nat.le_of_ble_eq_true rfl⟩ (fun v7 kp7 L7 E7 H locs hq7 hx7 TH hS => ?_)
  obtain ⟨⟨xc8, rfl, hxc8a, hxc8b, hpoxc8_0, hpoxc8_1⟩, rfl, rfl, rfl⟩ := hq7
  refine W.eq (g2 := F0 m 21 ls [.int xc8]) rfl ?_
  exact tw_iret hx hb hr hlocks TH hS hex ⟨⟨_, rfl, (show (-1) ≤ Int32.toInt xc8 from by  omega), (show Int32.toInt xc8 ≤ 149 from by  omega), (by  have rf_xe3 : rw_p E a0 (x1.toInt) (x2.toInt).toNat = xe3.toInt := rw_p_of (m := a0) (i := x1) (c := x2) hxr1 exr2 exe3; have rf_xe6 : rw_q E a0 (x1.toInt) (x2.toInt).toNat = xe6.toInt := rw_q_of (m := a0) (i := x1) (c := x2) hxr4 exr5 exe6; rw [rf_xe3]; rw [rf_xe6]; exact hpoxc8_0), (by  have rf_xe3 : rw_p E a0 (x1.toInt) (x2.toInt).toNat = xe3.toInt := rw_p_of (m := a0) (i := x1) (c := x2) hxr1 exr2 exe3; have rf_xe6 : rw_q E a0 (x1.toInt) (x2.toInt).toNat = xe6.toInt := rw_q_of (m := a0) (i := x1) (c := x2) hxr4 exr5 exe6; unfold rt_nk; rw [rf_xe3]; rw [rf_xe6]; exact hpoxc8_1)⟩, rfl, rfl, rfl⟩ (Nat.le_of_ble_eq_true rfl) (Nat.le_of_ble_eq_true rfl) dX12_nextKid_21
set_option maxHeartbeats 4000000 in
set_option maxRecDepth 100000 in
theorem tX12_next_vF (l : Launch) (D : va_G) (cs : Nat → ClassId) {kp : Nat → Nat} {L : List Nat} {E : Nat → va_E} (a0 : Nat) (x1 : Int32) (x2 : Int32) (x3 : Int32) (hm0 : a0 ∈ L) (hk0 : kp a0 = 12) (hp1a : 0 ≤ x1.toInt) (hp1b : x1.toInt ≤ 15) (hp2a : 0 ≤ x2.toInt) (hp2b : x2.toInt ≤ 149) (hp3a : 0 ≤ x3.toInt) (hp3b : x3.toInt ≤ 149) (hpre0 : rw_h E a0 x1.toInt (x2.toInt).toNat ≠ 0) (hpre1 : rw_h E a0 x1.toInt (x3.toInt).toNat ≠ 0) (hpre2 : rw_p E a0 x1.toInt (x3.toInt).toNat = -1) (hg0 : rw_ok E a0 (x1.toInt)) (sz : Nat) : Met l yX12_next (.code yX12_next cX12_next 6 (some .int) :: cx_big) { frames := 2, cells := 0, slots := 0, locals := 47 } (tw_P D cs kp L E [.ref a0, .int x1, .int x2, .int x3] sz) (tw_Q D cs kp L (fun v kq Lq Eq => (∃ x : Int32, v = some (.int x) ∧ (-1) ≤ x.toInt ∧ x.toInt ≤ 149 ∧ (x.toInt = -1 ∨ (rw_h E a0 x1.toInt (x.toInt).toNat ≠ 0 ∧ rt_lt (rt_K (rw_p E a0 x1.toInt) (rw_q E a0 x1.toInt) x2.toInt) (rt_K (rw_p E a0 x1.toInt) (rw_q E a0 x1.toInt) x.toInt))) ∧ (x.toInt = rt_nxf (rw_h E a0 x1.toInt) (rw_p E a0 x1.toInt) (rw_q E a0 x1.toInt) x3.toInt x2.toInt)) ∧ kp = kq ∧ L = Lq ∧ E = Eq) (va_A (va_pl L E) sz)) 0 0 (va_A (va_pl L E) sz) := by
  refine tw_ofW (by decide) (Nat.le_of_ble_eq_true rfl) ?_
  intro p e s m below meth c A ls hx hb hr hml hB hown hlocks hK hN hA TH hS hl
  have hown : s.vm.findClass "TreeMergeModel" = some m.cls := hown
  have hl : lv_has ls 6 [(0, .ref a0), (1, .int x1), (2, .int x2), (3, .int x3)] := hl
  obtain ⟨kp0, ekp⟩ : ∃ z, z = kp := ⟨_, rfl⟩
  obtain ⟨L0, eL⟩ : ∃ z, z = L := ⟨_, rfl⟩
  rw [show tw_Q D cs kp L = tw_Q D cs kp0 L0 by rw [ekp, eL]]
  have hex : ∀ a : Nat, a ∈ L0 → a ∈ L ∧ kp a = kp0 a := fun a h => ⟨by rw [← eL]; exact h, by rw [ekp]⟩
  have htree : rt_tree (rw_h E a0 (x1.toInt)) (rw_p E a0 (x1.toInt)) (x3.toInt) := ⟨hg0, ⟨by omega, by omega, hpre1⟩, hpre2⟩
  refine lv_aload_n hx hb dX12_next_0 rfl (lv_at hl 0 rfl) ?_
  refine lv_iload_n hx hb dX12_next_1 rfl (lv_at hl 1 rfl) ?_
  refine lv_iload_n hx hb dX12_next_2 rfl (lv_at hl 2 rfl) ?_
  refine tw_Vc (o := a0) (ci := 12) (n := 2) (post := (fun v kq Lq Eq => (∃ x : Int32, v = some (.int x) ∧ (-1) ≤ x.toInt ∧ x.toInt ≤ 149 ∧ (rt_kbk (rw_h E a0 x1.toInt) (rw_p E a0 x1.toInt) (rw_q E a0 x1.toInt) 150 x2.toInt (-1) x.toInt) ∧ (x.toInt = rt_fk (rw_h E a0 x1.toInt) (rw_p E a0 x1.toInt) (rw_q E a0 x1.toInt) x2.toInt)) ∧ kp = kq ∧ L = Lq ∧ E = Eq)) (As := [.int x1, .int x2]) (rest := []) ⟨hx, hb, hml, hown, hB⟩ (fun sz => tX12_firstKid_vF l D cs a0 x1 x2 hm0 hk0 (by omega) (by omega) sz) cg_12_291_X12_firstKid rfl rfl (by decide +kernel) ⟨Nat.le_of_ble_eq_true rfl, Nat.le_of_ble_eq_true rfl⟩ hK hN TH hS hA rfl hm0 hk0 (by decide) rfl hl.1 rfl (Nat.le_of_ble_eq_true rfl) dX12_next_3 ⟨Nat.le_of_ble_eq_true rfl, Nat.le_of_ble_eq_true rfl⟩ (fun v1 kp1 L1 E1 H locs hq1 hx1 TH hS => ?_)
  obtain ⟨⟨xc2, rfl, hxc2a, hxc2b, hpoxc2_0, hpoxc2_1⟩, rfl, rfl, rfl⟩ := hq1
  refine W.eq (g2 := F0 m 6 ls [.int xc2]) rfl ?_
  refine lv_istore (lv' := [(4, .int xc2), (0, .ref a0), (1, .int x1), (2, .int x2), (3, .int x3)]) hx hb dX12_next_6 hl (by decide) rfl (fun ls hl => ?_)
  refine lv_iload_n hx hb dX12_next_8 rfl (lv_at hl 3 rfl) ?_
  refine lv_istore (lv' := [(5, .int x2), (4, .int xc2), (0, .ref a0), (1, .int x1), (2, .int x2), (3, .int x3)]) hx hb dX12_next_9 hl (by decide) rfl (fun ls hl => ?_)
  have hJ11 : ∀ (n11 : Nat) (y11_5 : Int32) (y11_4 : Int32) (H : Heap) (locs : List Loc) (ls : Array Slot), (-1) ≤ y11_5.toInt → y11_5.toInt ≤ 149 → (-1) ≤ y11_4.toInt → y11_4.toInt ≤ 149 → (nx_inv (rw_h E a0 (x1.toInt)) (rw_p E a0 (x1.toInt)) (rw_q E a0 (x1.toInt)) (x2.toInt) (y11_4.toInt) (y11_5.toInt)) → (nxf_inv (rw_h E a0 (x1.toInt)) (rw_p E a0 (x1.toInt)) (rw_q E a0 (x1.toInt)) (x3.toInt) (x2.toInt) (y11_4.toInt) (y11_5.toInt)) → (rt_dep (rw_p E a0 (x1.toInt)) (y11_5.toInt) : Int) ≤ (n11 : Int) → tw_H D cs kp L E A H → va_S A s.heap H locs → lv_has ls 6 [(5, .int y11_5), (4, .int y11_4), (0, .ref a0), (1, .int x1), (2, .int x2), (3, .int x3)] → W p l e { frames := 2, cells := 0, slots := 0, locals := 47 } s m [.ref a0, .int x1, .int x2, .int x3].toArray below meth c H locs 0 0 (MQ below (tw_Q D cs kp0 L0 (fun v kq Lq Eq => (∃ x : Int32, v = some (.int x) ∧ (-1) ≤ x.toInt ∧ x.toInt ≤ 149 ∧ (x.toInt = -1 ∨ (rw_h E a0 x1.toInt (x.toInt).toNat ≠ 0 ∧ rt_lt (rt_K (rw_p E a0 x1.toInt) (rw_q E a0 x1.toInt) x2.toInt) (rt_K (rw_p E a0 x1.toInt) (rw_q E a0 x1.toInt) x.toInt))) ∧ (x.toInt = rt_nxf (rw_h E a0 x1.toInt) (rw_p E a0 x1.toInt) (rw_q E a0 x1.toInt) x3.toInt x2.toInt)) ∧ kp = kq ∧ L = Lq ∧ E = Eq) A) [.ref a0, .int x1, .int x2, .int x3].toArray s 0 0 A) (F0 m 11 ls []) := by
    intro n11
    induction n11 using Nat.strongRecOn with
    | _ n11 ih11 =>
      intro y11_5 y11_4 H locs ls hy11_5a hy11_5b hy11_4a hy11_4b hin11_0 hin11_1 hmeas11 TH hS hl
      refine lv_iload hx hb dX12_next_11 (lv_at hl 1 rfl) ?_
      refine lv_iconst (v := (-1)) hx hb dX12_next_13 (by decide) ?_
      refine lv_icmp_ne (tgt := 46) hx hb dX12_next_14 (by decide) (fun hc3 => ?_) (fun hc3 => ?_)
      · have hf4 : ¬ (y11_4.toInt = (-1)) := fun q => hc3 ((fa_eq _ _).mpr (by have : (((-1) : Int32).toInt) = (-1) := (by decide); omega))
        refine lv_iload hx hb dX12_next_46 (lv_at hl 1 rfl) ?_
        exact tw_iret hx hb hr hlocks TH hS hex ⟨⟨_, rfl, (show (-1) ≤ Int32.toInt y11_4 from by  omega), (show Int32.toInt y11_4 ≤ 149 from by  omega), (by  rcases hin11_0.2.2 with q | q; exact Or.inl q; exact Or.inr ⟨q.2.2.1, q.2.2.2⟩), (by  exact nxf_done htree hin11_1 (by omega))⟩, rfl, rfl, rfl⟩ (Nat.le_of_ble_eq_true rfl) (Nat.le_of_ble_eq_true rfl) dX12_next_48
      · have hf5 : y11_4.toInt = (-1) := by have z := (fa_eq _ _).mp hc3; have : (((-1) : Int32).toInt) = (-1) := (by decide); omega
        refine lv_iload hx hb dX12_next_17 (lv_at hl 0 rfl) ?_
        refine lv_iload_n hx hb dX12_next_19 rfl (lv_at hl 5 rfl) ?_
        refine lv_icmp_eq (tgt := 46) hx hb dX12_next_20 (by decide) (fun hc6 => ?_) (fun hc6 => ?_)
        · have hf7 : y11_5.toInt = x3.toInt := by have z := (fa_eq _ _).mp hc6;  omega
          refine lv_iload hx hb dX12_next_46 (lv_at hl 1 rfl) ?_
          exact tw_iret hx hb hr hlocks TH hS hex ⟨⟨_, rfl, (show (-1) ≤ Int32.toInt y11_4 from by  omega), (show Int32.toInt y11_4 ≤ 149 from by  omega), (by  rcases hin11_0.2.2 with q | q; exact Or.inl q; exact Or.inr ⟨q.2.2.1, q.2.2.2⟩), (by  exact nxf_done htree hin11_1 (by omega))⟩, rfl, rfl, rfl⟩ (Nat.le_of_ble_eq_true rfl) (Nat.le_of_ble_eq_true rfl) dX12_next_48
        · have hf8 : ¬ (y11_5.toInt = x3.toInt) := fun q => hc6 ((fa_eq _ _).mpr (by  omega))
          have hu5 := hin11_0.2.1
          refine lv_aload_n hx hb dX12_next_23 rfl (lv_at hl 2 rfl) ?_
          refine lv_iload_n hx hb dX12_next_24 rfl (lv_at hl 3 rfl) ?_
          refine lv_iload hx hb dX12_next_25 (lv_at hl 0 rfl) ?_
          refine tw_Vc (o := a0) (ci := 12) (n := 2) (post := (fun v kq Lq Eq => (∃ x : Int32, v = some (.int x) ∧ (-1) ≤ x.toInt ∧ x.toInt ≤ 149 ∧ (rt_kbk (rw_h E a0 x1.toInt) (rw_p E a0 x1.toInt) (rw_q E a0 x1.toInt) 150 (rw_p E a0 x1.toInt (y11_5.toInt).toNat) (rw_q E a0 x1.toInt (y11_5.toInt).toNat) x.toInt) ∧ (x.toInt = rt_nk (rw_h E a0 x1.toInt) (rw_p E a0 x1.toInt) (rw_q E a0 x1.toInt) y11_5.toInt)) ∧ kp = kq ∧ L = Lq ∧ E = Eq)) (As := [.int x1, .int y11_5]) (rest := []) ⟨hx, hb, hml, hown, hB⟩ (fun sz => tX12_nextKid_vF l D cs a0 x1 y11_5 hm0 hk0 (by omega) (by omega) (by omega) (by omega) sz) cg_12_294_X12_nextKid rfl rfl (by decide +kernel) ⟨Nat.le_of_ble_eq_true rfl, Nat.le_of_ble_eq_true rfl⟩ hK hN TH hS hA rfl hm0 hk0 (by decide) rfl hl.1 rfl (Nat.le_of_ble_eq_true rfl) dX12_next_27 ⟨Nat.le_of_ble_eq_true rfl, Nat.le_of_ble_eq_true rfl⟩ (fun v9 kp9 L9 E9 H locs hq9 hx9 TH hS => ?_)
          obtain ⟨⟨xc10, rfl, hxc10a, hxc10b, hpoxc10_0, hpoxc10_1⟩, rfl, rfl, rfl⟩ := hq9
          refine W.eq (g2 := F0 m 30 ls [.int xc10]) rfl ?_
          refine lv_istore (lv' := [(4, .int xc10), (5, .int y11_5), (0, .ref a0), (1, .int x1), (2, .int x2), (3, .int x3)]) hx hb dX12_next_30 hl (by decide) rfl (fun ls hl => ?_)
          refine lv_aload_n hx hb dX12_next_32 rfl (lv_at hl 2 rfl) ?_
          refine tw_get (ci := 12) (C := RX12) (T := TX12) (N := 64) hx hb hB cx_inX12 hown hK TH hm0 hk0 rfl ⟨by decide, rfl⟩ 18 (by decide) cw_1211 (fun _ h9 => h9) dX12_next_33 (fun hv => ?_)
          obtain ⟨xr11, hxr11, hmxr11, hkxr11⟩ : ∃ a : Nat, tw_fv E a0 18 = .ref a ∧ a ∈ L ∧ kp a = 318 := hv
          rw [hxr11]
          refine lv_iload_n hx hb dX12_next_36 rfl (lv_at hl 3 rfl) ?_
          refine tw_aald (k := 318) (t0 := 4) (n := 16) (lo := 328) (hi := 0) (ty := .int) hx hb hK TH hmxr11 hkxr11 (by decide) rfl rfl (i := x1) (vp_in_iff.mpr ⟨by  omega, by  omega⟩) dX12_next_37 (fun xr12 exr12 hmxr12 hkxr12 => ?_)
          have hkxr12 : kp xr12 = 328 := hkxr12
          refine lv_iload hx hb dX12_next_38 (lv_at hl 1 rfl) ?_
          refine tw_iald (k := 328) (t0 := 0) (n := 150) (lo := (-1)) (hi := 149) hx hb hK TH hmxr12 hkxr12 (by decide) rfl rfl (i := y11_5) (vp_in_iff.mpr ⟨by  omega, by  omega⟩) dX12_next_40 (fun hxe13a hxe13b => ?_)
          obtain ⟨xe13, exe13⟩ : ∃ z : Int32, tw_iv E xr12 (Int32.toNatClampNeg y11_5) = z := ⟨_, rfl⟩
          rw [exe13] at hxe13a hxe13b ⊢
          refine lv_istore (lv' := [(5, .int xe13), (4, .int xc10), (0, .ref a0), (1, .int x1), (2, .int x2), (3, .int x3)]) hx hb dX12_next_41 hl (by decide) rfl (fun ls hl => ?_)
          refine lv_goto (tgt := 11) hx hb dX12_next_43 (by decide) ?_
          exact ih11 (n11 - 1) (by  have rf_xe13 : rw_p E a0 (x1.toInt) (y11_5.toInt).toNat = xe13.toInt := rw_p_of (m := a0) (i := x1) (c := y11_5) hxr11 exr12 exe13; have hd := rt_dep_up hg0.1 hg0.2.1 hin11_0.2.1.1 hin11_0.2.1.2.1 hin11_0.2.1.2.2; rw [rf_xe13] at hd;  omega) xe13 xc10 _ _ ls (by omega) (by omega) (by omega) (by omega) (by  have rf_xe13 : rw_p E a0 (x1.toInt) (y11_5.toInt).toNat = xe13.toInt := rw_p_of (m := a0) (i := x1) (c := y11_5) hxr11 exr12 exe13; exact nx_step hg0.1 hg0.2.1 hg0.2.2 (by omega) (by omega) hpre0 (by omega) (by omega) hpre1 hpre2 hin11_0 (by omega) hpoxc10_0 rf_xe13) (by  have rf_xe13 : rw_p E a0 (x1.toInt) (y11_5.toInt).toNat = xe13.toInt := rw_p_of (m := a0) (i := x1) (c := y11_5) hxr11 exr12 exe13; exact nxf_step htree hin11_1 hin11_0.2.1 (by omega) (by omega) hpoxc10_1 rf_xe13) (by  have rf_xe13 : rw_p E a0 (x1.toInt) (y11_5.toInt).toNat = xe13.toInt := rw_p_of (m := a0) (i := x1) (c := y11_5) hxr11 exr12 exe13; have hd := rt_dep_up hg0.1 hg0.2.1 hin11_0.2.1.1 hin11_0.2.1.2.1 hin11_0.2.1.2.2; rw [rf_xe13] at hd;  omega) TH hS (lv_sub hl [0, 1, 2, 3, 4, 5] rfl)
  exact hJ11 152 x2 xc2 _ _ ls (by omega) (by omega) (by omega) (by omega) (by  exact nx_init hg0.1 hg0.2.1 (by omega) (by omega) hpre0 hpoxc2_0) (by  exact nxf_init hpoxc2_1) (by  have := rt_dep_le (p := rw_p E a0 (x1.toInt)) (x2.toInt); omega) TH hS (lv_sub hl [0, 1, 2, 3, 4, 5] rfl)
set_option maxHeartbeats 4000000 in
set_option maxRecDepth 100000 in
theorem tX12_lines (l : Launch) (D : va_G) (cs : Nat → ClassId) {kp : Nat → Nat} {L : List Nat} {E : Nat → va_E} (a0 : Nat) (x1 : Int32) (hm0 : a0 ∈ L) (hk0 : kp a0 = 12) (hp1a : 0 ≤ x1.toInt) (hp1b : x1.toInt ≤ 11) (hg0 : row_ok E a0 (x1.toInt)) (sz : Nat) : Met l yX12_lines (.code yX12_lines cX12_lines 4 none :: cx_big) { frames := 3, cells := 0, slots := 0, locals := 72 } (tw_P D cs kp L E [.ref a0, .int x1] sz) (tw_Q D cs kp L (fun v kq Lq Eq => v = none ∧ kp = kq ∧ L = Lq ∧ tw_fr kp L [(12, 50)] [354, 358] E Eq ∧ (ls_ok Eq a0 x1.toInt) ∧ (∃ z0 : Int32, tw_fv Eq a0 50 = .int z0 ∧ (z0.toInt ≤ 40))) (va_A (va_pl L E) sz)) 0 0 (va_A (va_pl L E) sz) := by
  refine tw_ofW (by decide) (Nat.le_of_ble_eq_true rfl) ?_
  intro p e s m below meth c A ls hx hb hr hml hB hown hlocks hK hN hA TH hS hl
  have hown : s.vm.findClass "TreeMergeModel" = some m.cls := hown
  have hl : lv_has ls 4 [(0, .ref a0), (1, .int x1)] := hl
  obtain ⟨kp0, ekp⟩ : ∃ z, z = kp := ⟨_, rfl⟩
  obtain ⟨L0, eL⟩ : ∃ z, z = L := ⟨_, rfl⟩
  rw [show tw_Q D cs kp L = tw_Q D cs kp0 L0 by rw [ekp, eL]]
  have hex : ∀ a : Nat, a ∈ L0 → a ∈ L ∧ kp a = kp0 a := fun a h => ⟨by rw [← eL]; exact h, by rw [ekp]⟩
  have hF : tw_fr kp L [(12, 50)] [354, 358] E E := tw_fr.rf
  refine lv_aload_n hx hb dX12_lines_0 rfl (lv_at hl 0 rfl) ?_
  refine lv_iload_n hx hb dX12_lines_1 rfl (lv_at hl 1 rfl) ?_
  refine tw_Vc (o := a0) (ci := 12) (n := 1) (post := (fun v kq Lq Eq => (∃ x : Int32, v = some (.int x) ∧ (-1) ≤ x.toInt ∧ x.toInt ≤ 149 ∧ ((x.toInt = -1 ∧ rt_nr (rw_h E a0 x1.toInt) (rw_p E a0 x1.toInt) 150) ∨ (0 ≤ x.toInt ∧ x.toInt < 150 ∧ rw_h E a0 x1.toInt (x.toInt).toNat ≠ 0 ∧ rw_p E a0 x1.toInt (x.toInt).toNat = -1))) ∧ kp = kq ∧ L = Lq ∧ E = Eq)) (As := [.int x1]) (rest := []) ⟨hx, hb, hml, hown, hB⟩ (fun sz => tX12_root l D cs a0 x1 hm0 hk0 (by omega) (by omega) sz) cg_12_324_X12_root rfl rfl (by decide +kernel) ⟨Nat.le_of_ble_eq_true rfl, Nat.le_of_ble_eq_true rfl⟩ hK hN TH hS hA rfl hm0 hk0 (by decide) rfl hl.1 rfl (Nat.le_of_ble_eq_true rfl) dX12_lines_2 ⟨Nat.le_of_ble_eq_true rfl, Nat.le_of_ble_eq_true rfl⟩ (fun v1 kp1 L1 E1 H locs hq1 hx1 TH hS => ?_)
  obtain ⟨⟨xc2, rfl, hxc2a, hxc2b, hpoxc2_0⟩, rfl, rfl, rfl⟩ := hq1
  refine W.eq (g2 := F0 m 5 ls [.int xc2]) rfl ?_
  have hRO := hg0
  have hrt := row_root hg0 hpoxc2_0
  have hra := hrt.1
  have hrb := hrt.2.1
  have htree : rt_tree (rw_h E a0 (x1.toInt)) (rw_p E a0 (x1.toInt)) (xc2.toInt) := ⟨hg0.1, ⟨hrt.1, hrt.2.1, hrt.2.2.1⟩, hrt.2.2.2⟩
  have hm40 := rt_mu_40 hg0 hrt.1 hrt.2.1 hrt.2.2.1
  refine lv_istore_n (lv' := [(2, .int xc2), (0, .ref a0), (1, .int x1)]) hx hb dX12_lines_5 rfl hl (by decide) rfl (fun ls hl => ?_)
  refine lv_aload_n hx hb dX12_lines_6 rfl (lv_at hl 1 rfl) ?_
  refine lv_iconst (v := 0) hx hb dX12_lines_7 (by decide) ?_
  refine tw_put (ci := 12) (v := .int 0) (ty := .int) (C := RX12) (T := TX12) (N := 64) hx hb hB cx_inX12 tyX12 tyX12_ok nmX12 hown hK TH hS hm0 hk0 rfl ⟨by decide, rfl⟩ 50 (by decide) cw_1243 (fun _ h9 => h9) rfl (by decide +kernel) rfl rfl ⟨_, rfl, (show 0 ≤ Int32.toInt 0 from by have : ((0 : Int32).toInt) = 0 := (by decide); omega), (show Int32.toInt 0 ≤ 40 from by have : ((0 : Int32).toInt) = 0 := (by decide); omega)⟩ dX12_lines_8 (fun H locs E3 TH hS hmf7 hp4 hp5 => ?_)
  have hst6 : tw_fr kp L [(12, 50)] [] E E3 := tw_fr.put tw_fr.rf (fun _ => hk0) (by decide) hp4 hp5 (by decide)
  have hF := hF.tr hst6 (fun _ h => ⟨h, rfl⟩) (by decide) (by decide)
  have hg0 : row_ok E3 a0 (x1.toInt) := row_ok_fr TH hst6 hm0 hk0 (by decide) (by decide) (by omega) hg0
  have hsq0 : sq_ok E3 a0 E (x1.toInt) (xc2.toInt) (0) (xc2.toInt) := sq_zero rfl rfl
  refine lv_iload_n hx hb dX12_lines_11 rfl (lv_at hl 0 rfl) ?_
  refine lv_istore_n (lv' := [(3, .int xc2), (2, .int xc2), (0, .ref a0), (1, .int x1)]) hx hb dX12_lines_12 rfl hl (by decide) rfl (fun ls hl => ?_)
  have hJ13 : ∀ (n13 : Nat) (y13_3 : Int32) (w13_0_50 : Int32) (Eg13 : Nat → va_E) (H : Heap) (locs : List Loc) (ls : Array Slot), (-1) ≤ y13_3.toInt → y13_3.toInt ≤ 149 → (y13_3.toInt = -1 ∨ (0 ≤ y13_3.toInt ∧ y13_3.toInt < 150 ∧ rw_h E a0 (x1.toInt) (y13_3.toInt).toNat ≠ 0)) → (w13_0_50.toInt + (rt_mz (rw_h E a0 (x1.toInt)) (rw_p E a0 (x1.toInt)) (rw_q E a0 (x1.toInt)) (y13_3.toInt) : Int) ≤ 40) → (0 ≤ w13_0_50.toInt) → (rt_mz (rw_h E a0 (x1.toInt)) (rw_p E a0 (x1.toInt)) (rw_q E a0 (x1.toInt)) (y13_3.toInt) : Int) ≤ (n13 : Int) → tw_fv Eg13 a0 50 = .int w13_0_50 → tw_fr kp L [(12, 50)] [354, 358] E3 Eg13 → row_ok Eg13 a0 (x1.toInt) → sq_ok Eg13 a0 E (x1.toInt) (xc2.toInt) (w13_0_50.toInt) (y13_3.toInt) → tw_H D cs kp L Eg13 A H → va_S A s.heap H locs → lv_has ls 4 [(3, .int y13_3), (2, .int xc2), (0, .ref a0), (1, .int x1)] → W p l e { frames := 3, cells := 0, slots := 0, locals := 72 } s m [.ref a0, .int x1].toArray below meth c H locs 0 0 (MQ below (tw_Q D cs kp0 L0 (fun v kq Lq Eq => v = none ∧ kp = kq ∧ L = Lq ∧ tw_fr kp L [(12, 50)] [354, 358] E Eq ∧ (ls_ok Eq a0 x1.toInt) ∧ (∃ z0 : Int32, tw_fv Eq a0 50 = .int z0 ∧ (z0.toInt ≤ 40))) A) [.ref a0, .int x1].toArray s 0 0 A) (F0 m 13 ls []) := by
    intro n13
    induction n13 using Nat.strongRecOn with
    | _ n13 ih13 =>
      intro y13_3 w13_0_50 Eg13 H locs ls hy13_3a hy13_3b hin13_0 hin13_1 hin13_2 hmeas13 hfm13_0 hG13 hcg13_0 hcg13_1 TH hS hl
      have hF := hF.tr hG13 (fun _ h => ⟨h, rfl⟩) (by decide) (by decide)
      refine lv_iload_n hx hb dX12_lines_13 rfl (lv_at hl 0 rfl) ?_
      refine lv_iconst (v := (-1)) hx hb dX12_lines_14 (by decide) ?_
      refine lv_icmp_eq (tgt := 59) hx hb dX12_lines_15 (by decide) (fun hc8 => ?_) (fun hc8 => ?_)
      · have hf9 : y13_3.toInt = (-1) := by have z := (fa_eq _ _).mp hc8; have : (((-1) : Int32).toInt) = (-1) := (by decide); omega
        exact tw_vret hx hb hr hlocks TH hS hex ⟨rfl, rfl, rfl, hF, (by  have fh := rw_h_fr TH hF hm0 hk0 (by decide) (by decide) (by decide) (i := x1.toInt) (by omega); have fp := rw_p_fr TH hF hm0 hk0 (by decide) (by decide) (by decide) (i := x1.toInt) (by omega); have fq := rw_q_fr TH hF hm0 hk0 (by decide) (by decide) (by decide) (i := x1.toInt) (by omega); exact ls_done htree hcg13_1 (by omega) (tw_fi_of hfm13_0) fh fp fq), ⟨w13_0_50, hfm13_0, by  omega⟩⟩ (Nat.le_of_ble_eq_true rfl) (Nat.le_of_ble_eq_true rfl) dX12_lines_59
      · have hf10 : ¬ (y13_3.toInt = (-1)) := fun q => hc8 ((fa_eq _ _).mpr (by have : (((-1) : Int32).toInt) = (-1) := (by decide); omega))
        have hn3 := hin13_0.resolve_left (by omega)
        have hz3 : (rt_mz (rw_h E a0 (x1.toInt)) (rw_p E a0 (x1.toInt)) (rw_q E a0 (x1.toInt)) (y13_3.toInt) : Int) ≥ 1 := (by unfold rt_mz; rw [if_neg (by omega)]; omega)
        refine lv_aload_n hx hb dX12_lines_18 rfl (lv_at hl 2 rfl) ?_
        refine tw_get (ci := 12) (C := RX12) (T := TX12) (N := 64) hx hb hB cx_inX12 hown hK TH hm0 hk0 rfl ⟨by decide, rfl⟩ 45 (by decide) cw_1238 (fun _ h9 => h9) dX12_lines_19 (fun hv => ?_)
        obtain ⟨xr11, hxr11, hmxr11, hkxr11⟩ : ∃ a : Nat, tw_fv Eg13 a0 45 = .ref a ∧ a ∈ L ∧ kp a = 354 := hv
        rw [hxr11]
        refine lv_aload_n hx hb dX12_lines_22 rfl (lv_at hl 2 rfl) ?_
        refine tw_get (ci := 12) (C := RX12) (T := TX12) (N := 64) hx hb hB cx_inX12 hown hK TH hm0 hk0 rfl ⟨by decide, rfl⟩ 50 (by decide) cw_1243 (fun _ h9 => h9) dX12_lines_23 (fun hv => ?_)
        rw [hfm13_0]
        refine lv_iload_n hx hb dX12_lines_26 rfl (lv_at hl 0 rfl) ?_
        refine tw_iast (k := 354) (n := 40) (lo := 0) (hi := 149) hx hb hK TH hS hmxr11 hkxr11 (by decide) rfl (i := w13_0_50) (x := y13_3) (vp_in_iff.mpr ⟨by  omega, by  omega⟩) (by omega) (by omega) dX12_lines_27 (fun H locs E12 TH hS hp13 hp14 hp15 => ?_)
        have hst16 : tw_fr kp L [] [354] Eg13 E12 := tw_fr.ast tw_fr.rf (fun _ => hkxr11) hp13 hp14 (by decide)
        have hF := hF.tr hst16 (fun _ h => ⟨h, rfl⟩) (by decide) (by decide)
        have hG13 := hG13.tr hst16 (fun _ h => ⟨h, rfl⟩) (by decide) (by decide)
        have hmf17 : tw_fv E12 a0 50 = .int w13_0_50 := (hst16.1 a0 50 hm0 (by rw [hk0]; decide)).trans hfm13_0
        have hmf18 : tw_fv E12 a0 45 = .ref xr11 := (hst16.1 a0 45 hm0 (by rw [hk0]; decide)).trans hxr11
        have hcg13_0 : row_ok E12 a0 (x1.toInt) := row_ok_fr TH hst16 hm0 hk0 (by decide) (by decide) (by omega) hcg13_0
        have hgn19 : sqa_ok E12 a0 E (x1.toInt) (xc2.toInt) (w13_0_50.toInt) (y13_3.toInt) := sq_a (sq_ok_cast (by omega) hcg13_1) (fun j => (by have w := tw_el_st hxr11 hp13 hp14 hp15 j; rw [w]; (by_cases e : j = (w13_0_50.toInt).toNat; (rw [if_pos ⟨rfl, e⟩, if_pos e]); (rw [if_neg (fun y => e y.2), if_neg e])))) (tw_el_fr TH hst16 hm0 hk0 (by decide) (by decide) (k := 49) rfl (by decide) (by decide) (by decide)) (by omega)
        refine lv_aload_n hx hb dX12_lines_28 rfl (lv_at hl 2 rfl) ?_
        refine tw_get (ci := 12) (C := RX12) (T := TX12) (N := 64) hx hb hB cx_inX12 hown hK TH hm0 hk0 rfl ⟨by decide, rfl⟩ 49 (by decide) cw_1242 (fun _ h9 => h9) dX12_lines_29 (fun hv => ?_)
        obtain ⟨xr20, hxr20, hmxr20, hkxr20⟩ : ∃ a : Nat, tw_fv E12 a0 49 = .ref a ∧ a ∈ L ∧ kp a = 358 := hv
        rw [hxr20]
        refine lv_iload_n hx hb dX12_lines_32 rfl (lv_at hl 0 rfl) ?_
        refine lv_aload_n hx hb dX12_lines_33 rfl (lv_at hl 2 rfl) ?_
        refine tw_get (ci := 12) (C := RX12) (T := TX12) (N := 64) hx hb hB cx_inX12 hown hK TH hm0 hk0 rfl ⟨by decide, rfl⟩ 50 (by decide) cw_1243 (fun _ h9 => h9) dX12_lines_34 (fun hv => ?_)
        rw [hmf17]
        refine tw_iast (k := 358) (n := 150) (lo := 0) (hi := 39) hx hb hK TH hS hmxr20 hkxr20 (by decide) rfl (i := y13_3) (x := w13_0_50) (vp_in_iff.mpr ⟨by  omega, by  omega⟩) (by omega) (by omega) dX12_lines_37 (fun H locs E21 TH hS hp22 hp23 hp24 => ?_)
        have hst25 : tw_fr kp L [] [358] E12 E21 := tw_fr.ast tw_fr.rf (fun _ => hkxr20) hp22 hp23 (by decide)
        have hF := hF.tr hst25 (fun _ h => ⟨h, rfl⟩) (by decide) (by decide)
        have hG13 := hG13.tr hst25 (fun _ h => ⟨h, rfl⟩) (by decide) (by decide)
        have hmf26 : tw_fv E21 a0 50 = .int w13_0_50 := (hst25.1 a0 50 hm0 (by rw [hk0]; decide)).trans hmf17
        have hmf27 : tw_fv E21 a0 45 = .ref xr11 := (hst25.1 a0 45 hm0 (by rw [hk0]; decide)).trans hmf18
        have hmf28 : tw_fv E21 a0 49 = .ref xr20 := (hst25.1 a0 49 hm0 (by rw [hk0]; decide)).trans hxr20
        have hcg13_0 : row_ok E21 a0 (x1.toInt) := row_ok_fr TH hst25 hm0 hk0 (by decide) (by decide) (by omega) hcg13_0
        have hgn29 : sqb_ok E21 a0 E (x1.toInt) (xc2.toInt) (w13_0_50.toInt) (y13_3.toInt) := sq_b htree hgn19 (tw_el_fr TH hst25 hm0 hk0 (by decide) (by decide) (k := 45) rfl (by decide) (by decide) (by decide)) (fun j => (by have w := tw_el_st hxr20 hp22 hp23 hp24 j; rw [w]; (by_cases e : j = (y13_3.toInt).toNat; (rw [if_pos ⟨rfl, e⟩, if_pos e]); (rw [if_neg (fun y => e y.2), if_neg e]))))
        refine lv_aload_n hx hb dX12_lines_38 rfl (lv_at hl 2 rfl) ?_
        refine lv_dup hx hb dX12_lines_39 rfl ?_
        refine tw_get (ci := 12) (C := RX12) (T := TX12) (N := 64) hx hb hB cx_inX12 hown hK TH hm0 hk0 rfl ⟨by decide, rfl⟩ 50 (by decide) cw_1243 (fun _ h9 => h9) dX12_lines_40 (fun hv => ?_)
        rw [hmf26]
        refine lv_iconst (v := 1) hx hb dX12_lines_43 (by decide) ?_
        refine lv_iadd hx hb dX12_lines_44 ?_
        refine lv_topi (fun zi30 ezi30 => ?_)
        have hzi30 : zi30.toInt = w13_0_50.toInt + 1 := by rw [ezi30]; have : ((1 : Int32).toInt) = 1 := (by decide); have := ia_lo w13_0_50; have := ia_hi w13_0_50; exact (ia_add (by omega) (by omega)).trans (by omega)
        refine tw_put (ci := 12) (v := .int zi30) (ty := .int) (C := RX12) (T := TX12) (N := 64) hx hb hB cx_inX12 tyX12 tyX12_ok nmX12 hown hK TH hS hm0 hk0 rfl ⟨by decide, rfl⟩ 50 (by decide) cw_1243 (fun _ h9 => h9) rfl (by decide +kernel) rfl rfl ⟨_, rfl, (show 0 ≤ Int32.toInt zi30 from by  omega), (show Int32.toInt zi30 ≤ 40 from by  omega)⟩ dX12_lines_45 (fun H locs E31 TH hS hmf35 hp32 hp33 => ?_)
        have hst34 : tw_fr kp L [(12, 50)] [] E21 E31 := tw_fr.put tw_fr.rf (fun _ => hk0) (by decide) hp32 hp33 (by decide)
        have hF := hF.tr hst34 (fun _ h => ⟨h, rfl⟩) (by decide) (by decide)
        have hG13 := hG13.tr hst34 (fun _ h => ⟨h, rfl⟩) (by decide) (by decide)
        have hmf36 : tw_fv E31 a0 45 = .ref xr11 := (hst34.1 a0 45 hm0 (by rw [hk0]; decide)).trans hmf27
        have hmf37 : tw_fv E31 a0 49 = .ref xr20 := (hst34.1 a0 49 hm0 (by rw [hk0]; decide)).trans hmf28
        have hcg13_0 : row_ok E31 a0 (x1.toInt) := row_ok_fr TH hst34 hm0 hk0 (by decide) (by decide) (by omega) hcg13_0
        have hgn29 : sqb_ok E31 a0 E (x1.toInt) (xc2.toInt) (w13_0_50.toInt) (y13_3.toInt) := sqb_ok_fr TH hst34 hm0 hk0 (by decide) (by decide) hgn29
        refine lv_aload_n hx hb dX12_lines_48 rfl (lv_at hl 2 rfl) ?_
        refine lv_iload_n hx hb dX12_lines_49 rfl (lv_at hl 3 rfl) ?_
        refine lv_iload_n hx hb dX12_lines_50 rfl (lv_at hl 0 rfl) ?_
        refine lv_iload_n hx hb dX12_lines_51 rfl (lv_at hl 1 rfl) ?_
        refine tw_Vc (o := a0) (ci := 12) (n := 3) (post := (fun v kq Lq Eq => (∃ x : Int32, v = some (.int x) ∧ (-1) ≤ x.toInt ∧ x.toInt ≤ 149 ∧ (x.toInt = -1 ∨ (rw_h E31 a0 x1.toInt (x.toInt).toNat ≠ 0 ∧ rt_lt (rt_K (rw_p E31 a0 x1.toInt) (rw_q E31 a0 x1.toInt) y13_3.toInt) (rt_K (rw_p E31 a0 x1.toInt) (rw_q E31 a0 x1.toInt) x.toInt))) ∧ (x.toInt = rt_nxf (rw_h E31 a0 x1.toInt) (rw_p E31 a0 x1.toInt) (rw_q E31 a0 x1.toInt) xc2.toInt y13_3.toInt)) ∧ kp = kq ∧ L = Lq ∧ E31 = Eq)) (As := [.int x1, .int y13_3, .int xc2]) (rest := []) ⟨hx, hb, hml, hown, hB⟩ (fun sz => tX12_next_vF l D cs a0 x1 y13_3 xc2 hm0 hk0 (by omega) (by omega) (by omega) (by omega) (by omega) (by omega) (by  have fh := rw_h_fr TH hF hm0 hk0 (by decide) (by decide) (by decide) (i := x1.toInt) (by omega); have fp := rw_p_fr TH hF hm0 hk0 (by decide) (by decide) (by decide) (i := x1.toInt) (by omega); have fq := rw_q_fr TH hF hm0 hk0 (by decide) (by decide) (by decide) (i := x1.toInt) (by omega); rw [fh]; exact hn3.2.2) (by  have fh := rw_h_fr TH hF hm0 hk0 (by decide) (by decide) (by decide) (i := x1.toInt) (by omega); have fp := rw_p_fr TH hF hm0 hk0 (by decide) (by decide) (by decide) (i := x1.toInt) (by omega); have fq := rw_q_fr TH hF hm0 hk0 (by decide) (by decide) (by decide) (i := x1.toInt) (by omega); rw [fh]; exact hrt.2.2.1) (by  have fh := rw_h_fr TH hF hm0 hk0 (by decide) (by decide) (by decide) (i := x1.toInt) (by omega); have fp := rw_p_fr TH hF hm0 hk0 (by decide) (by decide) (by decide) (i := x1.toInt) (by omega); have fq := rw_q_fr TH hF hm0 hk0 (by decide) (by decide) (by decide) (i := x1.toInt) (by omega); rw [fp]; exact hrt.2.2.2) hcg13_0.1 sz) cg_12_278_X12_next rfl rfl (by decide +kernel) ⟨Nat.le_of_ble_eq_true rfl, Nat.le_of_ble_eq_true rfl⟩ hK hN TH hS hA rfl hm0 hk0 (by decide) rfl hl.1 rfl (Nat.le_of_ble_eq_true rfl) dX12_lines_52 ⟨Nat.le_of_ble_eq_true rfl, Nat.le_of_ble_eq_true rfl⟩ (fun v38 kp38 L38 E38 H locs hq38 hx38 TH hS => ?_)
        obtain ⟨⟨xc39, rfl, hxc39a, hxc39b, hpoxc39_0, hpoxc39_1⟩, rfl, rfl, rfl⟩ := hq38
        refine W.eq (g2 := F0 m 55 ls [.int xc39]) rfl ?_
        refine lv_istore_n (lv' := [(3, .int xc39), (2, .int xc2), (0, .ref a0), (1, .int x1)]) hx hb dX12_lines_55 rfl hl (by decide) rfl (fun ls hl => ?_)
        have fh := rw_h_fr TH hF hm0 hk0 (by decide) (by decide) (by decide) (i := x1.toInt) (by omega)
        have fp := rw_p_fr TH hF hm0 hk0 (by decide) (by decide) (by decide) (i := x1.toInt) (by omega)
        have fq := rw_q_fr TH hF hm0 hk0 (by decide) (by decide) (by decide) (i := x1.toInt) (by omega)
        have hnf := hpoxc39_1
        rw [fh, fp, fq] at hnf
        have hnl := hpoxc39_0
        rw [fh, fp, fq] at hnl
        have hsq56 : sq_ok E31 a0 E (x1.toInt) (xc2.toInt) (zi30.toInt) (xc39.toInt) := sq_n hgn29 (by omega) hnf
        refine lv_goto (tgt := 13) hx hb dX12_lines_56 (by decide) ?_
        exact ih13 (n13 - 1) (by  have hn3 := hin13_0.resolve_left (by omega); have hfall := rt_mz_fall (h := rw_h E a0 (x1.toInt)) (p := rw_p E a0 (x1.toInt)) (q := rw_q E a0 (x1.toInt)) (n := y13_3.toInt) (c := xc39.toInt) hn3.1 (by rcases hnl with q | q; exact Or.inl q; (by_cases hz : xc39.toInt = -1; exact Or.inl hz; exact Or.inr ⟨by omega, by omega, q.1, q.2⟩));  omega) xc39 zi30 _ _ _ ls (by omega) (by omega) (by  rcases hnl with q | q; exact Or.inl q; (by_cases hz : xc39.toInt = -1; exact Or.inl hz; exact Or.inr ⟨by omega, by omega, q.1⟩)) (by  have hn3 := hin13_0.resolve_left (by omega); have hfall := rt_mz_fall (h := rw_h E a0 (x1.toInt)) (p := rw_p E a0 (x1.toInt)) (q := rw_q E a0 (x1.toInt)) (n := y13_3.toInt) (c := xc39.toInt) hn3.1 (by rcases hnl with q | q; exact Or.inl q; (by_cases hz : xc39.toInt = -1; exact Or.inl hz; exact Or.inr ⟨by omega, by omega, q.1, q.2⟩)); omega) (by  omega) (by  have hn3 := hin13_0.resolve_left (by omega); have hfall := rt_mz_fall (h := rw_h E a0 (x1.toInt)) (p := rw_p E a0 (x1.toInt)) (q := rw_q E a0 (x1.toInt)) (n := y13_3.toInt) (c := xc39.toInt) hn3.1 (by rcases hnl with q | q; exact Or.inl q; (by_cases hz : xc39.toInt = -1; exact Or.inl hz; exact Or.inr ⟨by omega, by omega, q.1, q.2⟩));  omega) hmf35 hG13 hcg13_0 (sq_ok_cast (by  omega) hsq56) TH hS (lv_sub hl [0, 1, 2, 3] rfl)
  exact hJ13 152 xc2 (0 : Int32) _ _ _ ls (by omega) (by omega) (by have : ((0 : Int32).toInt) = 0 := (by decide); exact Or.inr ⟨by omega, by omega, hrt.2.2.1⟩) (by have : ((0 : Int32).toInt) = 0 := (by decide); unfold rt_mz; rw [if_neg (by omega)]; omega) (by have : ((0 : Int32).toInt) = 0 := (by decide); omega) (by have : ((0 : Int32).toInt) = 0 := (by decide); have := rt_mz_le (h := rw_h E a0 (x1.toInt)) (p := rw_p E a0 (x1.toInt)) (q := rw_q E a0 (x1.toInt)) (n := xc2.toInt); omega) hmf7 tw_fr.rf hg0 (sq_ok_cast (by have : ((0 : Int32).toInt) = 0 := (by decide); omega) hsq0) TH hS (lv_sub hl [0, 1, 2, 3] rfl)
set_option maxHeartbeats 4000000 in
set_option maxRecDepth 100000 in
theorem tX12_pairs_vF (l : Launch) (D : va_G) (cs : Nat → ClassId) {kp : Nat → Nat} {L : List Nat} {E : Nat → va_E} (a0 : Nat) (x1 : Int32) (x2 : Int32) (hm0 : a0 ∈ L) (hk0 : kp a0 = 12) (hp1a : 0 ≤ x1.toInt) (hp1b : x1.toInt ≤ 39) (hp2a : 0 ≤ x2.toInt) (hp2b : x2.toInt ≤ 23) (sz : Nat) : Met l yX12_pairs (.code yX12_pairs cX12_pairs 3 none :: cx_big) { frames := 0, cells := 0, slots := 0, locals := 0 } (tw_P D cs kp L E [.ref a0, .int x1, .int x2] sz) (tw_Q D cs kp L (fun v kq Lq Eq => v = none ∧ kp = kq ∧ L = Lq ∧ tw_fr kp L [] [355, 356] E Eq ∧ (∀ j : Nat, tw_el Eq a0 46 j = if j = (x1.toInt).toNat then x2.toInt else tw_el E a0 46 j) ∧ (∀ j : Nat, tw_el Eq a0 47 j = if j = (x2.toInt).toNat then x1.toInt else tw_el E a0 47 j)) (va_A (va_pl L E) sz)) 0 0 (va_A (va_pl L E) sz) := by
  refine tw_ofW (by decide) (Nat.le_of_ble_eq_true rfl) ?_
  intro p e s m below meth c A ls hx hb hr hml hB hown hlocks hK hN hA TH hS hl
  have hown : s.vm.findClass "TreeMergeModel" = some m.cls := hown
  have hl : lv_has ls 3 [(0, .ref a0), (1, .int x1), (2, .int x2)] := hl
  obtain ⟨kp0, ekp⟩ : ∃ z, z = kp := ⟨_, rfl⟩
  obtain ⟨L0, eL⟩ : ∃ z, z = L := ⟨_, rfl⟩
  rw [show tw_Q D cs kp L = tw_Q D cs kp0 L0 by rw [ekp, eL]]
  have hex : ∀ a : Nat, a ∈ L0 → a ∈ L ∧ kp a = kp0 a := fun a h => ⟨by rw [← eL]; exact h, by rw [ekp]⟩
  have hF : tw_fr kp L [] [355, 356] E E := tw_fr.rf
  have hfn46 : p46_ok E a0 (tw_el E a0 46) := fun _ => rfl
  have hfn47 : p47_ok E a0 (tw_el E a0 47) := fun _ => rfl
  refine lv_aload_n hx hb dX12_pairs_0 rfl (lv_at hl 0 rfl) ?_
  refine tw_get (ci := 12) (C := RX12) (T := TX12) (N := 64) hx hb hB cx_inX12 hown hK TH hm0 hk0 rfl ⟨by decide, rfl⟩ 46 (by decide) cw_1239 (fun _ h9 => h9) dX12_pairs_1 (fun hv => ?_)
  obtain ⟨xr1, hxr1, hmxr1, hkxr1⟩ : ∃ a : Nat, tw_fv E a0 46 = .ref a ∧ a ∈ L ∧ kp a = 355 := hv
  rw [hxr1]
  refine lv_iload_n hx hb dX12_pairs_4 rfl (lv_at hl 1 rfl) ?_
  refine lv_iload_n hx hb dX12_pairs_5 rfl (lv_at hl 2 rfl) ?_
  refine tw_iast (k := 355) (n := 40) (lo := (-1)) (hi := 23) hx hb hK TH hS hmxr1 hkxr1 (by decide) rfl (i := x1) (x := x2) (vp_in_iff.mpr ⟨by  omega, by  omega⟩) (by omega) (by omega) dX12_pairs_6 (fun H locs E2 TH hS hp3 hp4 hp5 => ?_)
  have hst6 : tw_fr kp L [] [355] E E2 := tw_fr.ast tw_fr.rf (fun _ => hkxr1) hp3 hp4 (by decide)
  have hF := hF.tr hst6 (fun _ h => ⟨h, rfl⟩) (by decide) (by decide)
  have hmf7 : tw_fv E2 a0 46 = .ref xr1 := (hst6.1 a0 46 hm0 (by rw [hk0]; decide)).trans hxr1
  have hfn46_o := hfn46
  have hfn47_o := hfn47
  have hfn46 : p46_ok E2 a0 (fun j => if j = (x1.toInt).toNat then x2.toInt else (tw_el E a0 46) j) := (fun j => (by have w := tw_el_st hxr1 hp3 hp4 hp5 j; rw [w]; show _ = (if j = (x1.toInt).toNat then x2.toInt else (tw_el E a0 46) j); (by_cases e : j = (x1.toInt).toNat; (rw [if_pos ⟨rfl, e⟩, if_pos e]); (rw [if_neg (fun y => e y.2), if_neg e]; (try exact hfn46_o j)))))
  have hfn47 : p47_ok E2 a0 (tw_el E a0 47) := p47_ok_fr TH hst6 hm0 hk0 (by decide) (by decide) hfn47
  refine lv_aload_n hx hb dX12_pairs_7 rfl (lv_at hl 0 rfl) ?_
  refine tw_get (ci := 12) (C := RX12) (T := TX12) (N := 64) hx hb hB cx_inX12 hown hK TH hm0 hk0 rfl ⟨by decide, rfl⟩ 47 (by decide) cw_1240 (fun _ h9 => h9) dX12_pairs_8 (fun hv => ?_)
  obtain ⟨xr8, hxr8, hmxr8, hkxr8⟩ : ∃ a : Nat, tw_fv E2 a0 47 = .ref a ∧ a ∈ L ∧ kp a = 356 := hv
  rw [hxr8]
  refine lv_iload_n hx hb dX12_pairs_11 rfl (lv_at hl 2 rfl) ?_
  refine lv_iload_n hx hb dX12_pairs_12 rfl (lv_at hl 1 rfl) ?_
  refine tw_iast (k := 356) (n := 24) (lo := (-1)) (hi := 39) hx hb hK TH hS hmxr8 hkxr8 (by decide) rfl (i := x2) (x := x1) (vp_in_iff.mpr ⟨by  omega, by  omega⟩) (by omega) (by omega) dX12_pairs_13 (fun H locs E9 TH hS hp10 hp11 hp12 => ?_)
  have hst13 : tw_fr kp L [] [356] E2 E9 := tw_fr.ast tw_fr.rf (fun _ => hkxr8) hp10 hp11 (by decide)
  have hF := hF.tr hst13 (fun _ h => ⟨h, rfl⟩) (by decide) (by decide)
  have hmf14 : tw_fv E9 a0 46 = .ref xr1 := (hst13.1 a0 46 hm0 (by rw [hk0]; decide)).trans hmf7
  have hmf15 : tw_fv E9 a0 47 = .ref xr8 := (hst13.1 a0 47 hm0 (by rw [hk0]; decide)).trans hxr8
  have hfn46_o := hfn46
  have hfn47_o := hfn47
  have hfn46 : p46_ok E9 a0 (fun j => if j = (x1.toInt).toNat then x2.toInt else (tw_el E a0 46) j) := p46_ok_fr TH hst13 hm0 hk0 (by decide) (by decide) hfn46
  have hfn47 : p47_ok E9 a0 (fun j => if j = (x2.toInt).toNat then x1.toInt else (tw_el E a0 47) j) := (fun j => (by have w := tw_el_st hxr8 hp10 hp11 hp12 j; rw [w]; show _ = (if j = (x2.toInt).toNat then x1.toInt else (tw_el E a0 47) j); (by_cases e : j = (x2.toInt).toNat; (rw [if_pos ⟨rfl, e⟩, if_pos e]); (rw [if_neg (fun y => e y.2), if_neg e]; (try exact hfn47_o j)))))
  exact tw_vret hx hb hr hlocks TH hS hex ⟨rfl, rfl, rfl, hF, (by  exact hfn46), (by  exact hfn47)⟩ (Nat.le_of_ble_eq_true rfl) (Nat.le_of_ble_eq_true rfl) dX12_pairs_14
set_option maxHeartbeats 4000000 in
set_option maxRecDepth 100000 in
theorem tX12_isSameFree (l : Launch) (D : va_G) (cs : Nat → ClassId) (dd : Nat) : ∀ {kp : Nat → Nat} {L : List Nat} {E : Nat → va_E} (a0 : Nat) (x1 : Int32) (x2 : Int32) (x3 : Int32) (hm0 : a0 ∈ L) (hk0 : kp a0 = 12) (hp1a : 0 ≤ x1.toInt) (hp1b : x1.toInt ≤ 11) (hp2a : 0 ≤ x2.toInt) (hp2b : x2.toInt ≤ 149) (hp3a : 0 ≤ x3.toInt) (hp3b : x3.toInt ≤ 23) (hpre0 : rw_h E a0 x1.toInt (x2.toInt).toNat ≠ 0) (hpre1 : (rt_mu (rw_h E a0 x1.toInt) (rw_p E a0 x1.toInt) (rw_q E a0 x1.toInt) x2.toInt : Int) + 1 ≤ (dd : Int)) (hg0 : rw_ok E a0 (x1.toInt)) (hg1 : tt_ok E a0) (sz : Nat), Met l yX12_isSameFree (.code yX12_isSameFree cX12_isSameFree 6 (some .boolean) :: cx_big) { frames := dd + 2, cells := 0, slots := 0, locals := 25 * (dd) + 67 } (tw_P D cs kp L E [.ref a0, .int x1, .int x2, .int x3] sz) (tw_Q D cs kp L (fun v kq Lq Eq => (∃ x : Int32, v = some (.int x) ∧ 0 ≤ x.toInt ∧ x.toInt ≤ 1 ∧ (x.toInt ≠ 0 → sf_ok E a0 x1.toInt x2.toInt x3.toInt)) ∧ kp = kq ∧ L = Lq ∧ E = Eq) (va_A (va_pl L E) sz)) 0 0 (va_A (va_pl L E) sz) := by
  induction dd with
  | zero =>
    intro kp L E a0 x1 x2 x3 hm0 hk0 hp1a hp1b hp2a hp2b hp3a hp3b hpre0 hpre1 hg0 hg1 sz
    exfalso
    omega
  | succ dd ih =>
    intro kp L E a0 x1 x2 x3 hm0 hk0 hp1a hp1b hp2a hp2b hp3a hp3b hpre0 hpre1 hg0 hg1 sz
    refine tw_ofW (by decide) (Nat.le_of_ble_eq_true rfl) ?_
    intro p e s m below meth c A ls hx hb hr hml hB hown hlocks hK hN hA TH hS hl
    have hown : s.vm.findClass "TreeMergeModel" = some m.cls := hown
    have hl : lv_has ls 6 [(0, .ref a0), (1, .int x1), (2, .int x2), (3, .int x3)] := hl
    obtain ⟨kp0, ekp⟩ : ∃ z, z = kp := ⟨_, rfl⟩
    obtain ⟨L0, eL⟩ : ∃ z, z = L := ⟨_, rfl⟩
    rw [show tw_Q D cs kp L = tw_Q D cs kp0 L0 by rw [ekp, eL]]
    have hex : ∀ a : Nat, a ∈ L0 → a ∈ L ∧ kp a = kp0 a := fun a h => ⟨by rw [← eL]; exact h, by rw [ekp]⟩
    have hTT := hg1
    refine lv_aload_n hx hb dX12_isSameFree_0 rfl (lv_at hl 0 rfl) ?_
    refine tw_get (ci := 12) (C := RX12) (T := TX12) (N := 64) hx hb hB cx_inX12 hown hK TH hm0 hk0 rfl ⟨by decide, rfl⟩ 46 (by decide) cw_1239 (fun _ h9 => h9) dX12_isSameFree_1 (fun hv => ?_)
    obtain ⟨xr1, hxr1, hmxr1, hkxr1⟩ : ∃ a : Nat, tw_fv E a0 46 = .ref a ∧ a ∈ L ∧ kp a = 355 := hv
    rw [hxr1]
    refine lv_aload_n hx hb dX12_isSameFree_4 rfl (lv_at hl 0 rfl) ?_
    refine tw_get (ci := 12) (C := RX12) (T := TX12) (N := 64) hx hb hB cx_inX12 hown hK TH hm0 hk0 rfl ⟨by decide, rfl⟩ 49 (by decide) cw_1242 (fun _ h9 => h9) dX12_isSameFree_5 (fun hv => ?_)
    obtain ⟨xr2, hxr2, hmxr2, hkxr2⟩ : ∃ a : Nat, tw_fv E a0 49 = .ref a ∧ a ∈ L ∧ kp a = 358 := hv
    rw [hxr2]
    refine lv_iload_n hx hb dX12_isSameFree_8 rfl (lv_at hl 2 rfl) ?_
    refine tw_iald (k := 358) (t0 := 0) (n := 150) (lo := 0) (hi := 39) hx hb hK TH hmxr2 hkxr2 (by decide) rfl rfl (i := x2) (vp_in_iff.mpr ⟨by  omega, by  omega⟩) dX12_isSameFree_9 (fun hxe3a hxe3b => ?_)
    obtain ⟨xe3, exe3⟩ : ∃ z : Int32, tw_iv E xr2 (Int32.toNatClampNeg x2) = z := ⟨_, rfl⟩
    rw [exe3] at hxe3a hxe3b ⊢
    refine tw_iald (k := 355) (t0 := 0) (n := 40) (lo := (-1)) (hi := 23) hx hb hK TH hmxr1 hkxr1 (by decide) rfl rfl (i := xe3) (vp_in_iff.mpr ⟨by  omega, by  omega⟩) dX12_isSameFree_10 (fun hxe4a hxe4b => ?_)
    obtain ⟨xe4, exe4⟩ : ∃ z : Int32, tw_iv E xr1 (Int32.toNatClampNeg xe3) = z := ⟨_, rfl⟩
    rw [exe4] at hxe4a hxe4b ⊢
    refine lv_iconst (v := (-1)) hx hb dX12_isSameFree_11 (by decide) ?_
    refine lv_icmp_ne (tgt := 61) hx hb dX12_isSameFree_12 (by decide) (fun hc5 => ?_) (fun hc5 => ?_)
    · have hf6 : ¬ (xe4.toInt = (-1)) := fun q => hc5 ((fa_eq _ _).mpr (by have : (((-1) : Int32).toInt) = (-1) := (by decide); omega))
      refine lv_iconst (v := 0) hx hb dX12_isSameFree_61 (by decide) ?_
      exact tw_zret hx hb hr hlocks (by decide) TH hS hex ⟨⟨_, rfl, (show 0 ≤ Int32.toInt 0 from by have : ((0 : Int32).toInt) = 0 := (by decide); omega), (show Int32.toInt 0 ≤ 1 from by have : ((0 : Int32).toInt) = 0 := (by decide); omega), (by have : ((0 : Int32).toInt) = 0 := (by decide); intro q; exfalso; exact q (by decide))⟩, rfl, rfl, rfl⟩ ((by first | exact Nat.le_of_ble_eq_true rfl | (dsimp only; omega) | omega)) ((by first | exact Nat.le_of_ble_eq_true rfl | (dsimp only; omega) | omega)) dX12_isSameFree_62
    · have hf7 : xe4.toInt = (-1) := by have z := (fa_eq _ _).mp hc5; have : (((-1) : Int32).toInt) = (-1) := (by decide); omega
      refine lv_aload_n hx hb dX12_isSameFree_15 rfl (lv_at hl 0 rfl) ?_
      refine tw_get (ci := 12) (C := RX12) (T := TX12) (N := 64) hx hb hB cx_inX12 hown hK TH hm0 hk0 rfl ⟨by decide, rfl⟩ 47 (by decide) cw_1240 (fun _ h9 => h9) dX12_isSameFree_16 (fun hv => ?_)
      obtain ⟨xr8, hxr8, hmxr8, hkxr8⟩ : ∃ a : Nat, tw_fv E a0 47 = .ref a ∧ a ∈ L ∧ kp a = 356 := hv
      rw [hxr8]
      refine lv_iload_n hx hb dX12_isSameFree_19 rfl (lv_at hl 3 rfl) ?_
      refine tw_iald (k := 356) (t0 := 0) (n := 24) (lo := (-1)) (hi := 39) hx hb hK TH hmxr8 hkxr8 (by decide) rfl rfl (i := x3) (vp_in_iff.mpr ⟨by  omega, by  omega⟩) dX12_isSameFree_20 (fun hxe9a hxe9b => ?_)
      obtain ⟨xe9, exe9⟩ : ∃ z : Int32, tw_iv E xr8 (Int32.toNatClampNeg x3) = z := ⟨_, rfl⟩
      rw [exe9] at hxe9a hxe9b ⊢
      refine lv_iconst (v := (-1)) hx hb dX12_isSameFree_21 (by decide) ?_
      refine lv_icmp_ne (tgt := 61) hx hb dX12_isSameFree_22 (by decide) (fun hc10 => ?_) (fun hc10 => ?_)
      · have hf11 : ¬ (xe9.toInt = (-1)) := fun q => hc10 ((fa_eq _ _).mpr (by have : (((-1) : Int32).toInt) = (-1) := (by decide); omega))
        refine lv_iconst (v := 0) hx hb dX12_isSameFree_61 (by decide) ?_
        exact tw_zret hx hb hr hlocks (by decide) TH hS hex ⟨⟨_, rfl, (show 0 ≤ Int32.toInt 0 from by have : ((0 : Int32).toInt) = 0 := (by decide); omega), (show Int32.toInt 0 ≤ 1 from by have : ((0 : Int32).toInt) = 0 := (by decide); omega), (by have : ((0 : Int32).toInt) = 0 := (by decide); intro q; exfalso; exact q (by decide))⟩, rfl, rfl, rfl⟩ ((by first | exact Nat.le_of_ble_eq_true rfl | (dsimp only; omega) | omega)) ((by first | exact Nat.le_of_ble_eq_true rfl | (dsimp only; omega) | omega)) dX12_isSameFree_62
      · have hf12 : xe9.toInt = (-1) := by have z := (fa_eq _ _).mp hc10; have : (((-1) : Int32).toInt) = (-1) := (by decide); omega
        refine lv_aload_n hx hb dX12_isSameFree_25 rfl (lv_at hl 0 rfl) ?_
        refine tw_get (ci := 12) (C := RX12) (T := TX12) (N := 64) hx hb hB cx_inX12 hown hK TH hm0 hk0 rfl ⟨by decide, rfl⟩ 20 (by decide) cw_1213 (fun _ h9 => h9) dX12_isSameFree_26 (fun hv => ?_)
        obtain ⟨xr13, hxr13, hmxr13, hkxr13⟩ : ∃ a : Nat, tw_fv E a0 20 = .ref a ∧ a ∈ L ∧ kp a = 330 := hv
        rw [hxr13]
        refine lv_iload_n hx hb dX12_isSameFree_29 rfl (lv_at hl 2 rfl) ?_
        refine tw_iald (k := 330) (t0 := 0) (n := 150) (lo := 0) (hi := 9) hx hb hK TH hmxr13 hkxr13 (by decide) rfl rfl (i := x2) (vp_in_iff.mpr ⟨by  omega, by  omega⟩) dX12_isSameFree_30 (fun hxe14a hxe14b => ?_)
        obtain ⟨xe14, exe14⟩ : ∃ z : Int32, tw_iv E xr13 (Int32.toNatClampNeg x2) = z := ⟨_, rfl⟩
        rw [exe14] at hxe14a hxe14b ⊢
        refine lv_aload_n hx hb dX12_isSameFree_31 rfl (lv_at hl 0 rfl) ?_
        refine tw_get (ci := 12) (C := RX12) (T := TX12) (N := 64) hx hb hB cx_inX12 hown hK TH hm0 hk0 rfl ⟨by decide, rfl⟩ 22 (by decide) cw_1215 (fun _ h9 => h9) dX12_isSameFree_32 (fun hv => ?_)
        obtain ⟨xr15, hxr15, hmxr15, hkxr15⟩ : ∃ a : Nat, tw_fv E a0 22 = .ref a ∧ a ∈ L ∧ kp a = 332 := hv
        rw [hxr15]
        refine lv_iload_n hx hb dX12_isSameFree_35 rfl (lv_at hl 3 rfl) ?_
        refine tw_iald (k := 332) (t0 := 0) (n := 24) (lo := 0) (hi := 9) hx hb hK TH hmxr15 hkxr15 (by decide) rfl rfl (i := x3) (vp_in_iff.mpr ⟨by  omega, by  omega⟩) dX12_isSameFree_36 (fun hxe16a hxe16b => ?_)
        obtain ⟨xe16, exe16⟩ : ∃ z : Int32, tw_iv E xr15 (Int32.toNatClampNeg x3) = z := ⟨_, rfl⟩
        rw [exe16] at hxe16a hxe16b ⊢
        refine lv_icmp_ne (tgt := 61) hx hb dX12_isSameFree_37 (by decide) (fun hc17 => ?_) (fun hc17 => ?_)
        · have hf18 : ¬ (xe14.toInt = xe16.toInt) := fun q => hc17 ((fa_eq _ _).mpr (by  omega))
          refine lv_iconst (v := 0) hx hb dX12_isSameFree_61 (by decide) ?_
          exact tw_zret hx hb hr hlocks (by decide) TH hS hex ⟨⟨_, rfl, (show 0 ≤ Int32.toInt 0 from by have : ((0 : Int32).toInt) = 0 := (by decide); omega), (show Int32.toInt 0 ≤ 1 from by have : ((0 : Int32).toInt) = 0 := (by decide); omega), (by have : ((0 : Int32).toInt) = 0 := (by decide); intro q; exfalso; exact q (by decide))⟩, rfl, rfl, rfl⟩ ((by first | exact Nat.le_of_ble_eq_true rfl | (dsimp only; omega) | omega)) ((by first | exact Nat.le_of_ble_eq_true rfl | (dsimp only; omega) | omega)) dX12_isSameFree_62
        · have hf19 : xe14.toInt = xe16.toInt := by have z := (fa_eq _ _).mp hc17;  omega
          refine lv_aload_n hx hb dX12_isSameFree_40 rfl (lv_at hl 0 rfl) ?_
          refine tw_get (ci := 12) (C := RX12) (T := TX12) (N := 64) hx hb hB cx_inX12 hown hK TH hm0 hk0 rfl ⟨by decide, rfl⟩ 17 (by decide) cw_1210 (fun _ h9 => h9) dX12_isSameFree_41 (fun hv => ?_)
          obtain ⟨xr20, hxr20, hmxr20, hkxr20⟩ : ∃ a : Nat, tw_fv E a0 17 = .ref a ∧ a ∈ L ∧ kp a = 317 := hv
          rw [hxr20]
          refine lv_iload_n hx hb dX12_isSameFree_44 rfl (lv_at hl 1 rfl) ?_
          refine tw_aald (k := 317) (t0 := 6) (n := 16) (lo := 327) (hi := 0) (ty := .long) hx hb hK TH hmxr20 hkxr20 (by decide) rfl rfl (i := x1) (vp_in_iff.mpr ⟨by  omega, by  omega⟩) dX12_isSameFree_45 (fun xr21 exr21 hmxr21 hkxr21 => ?_)
          have hkxr21 : kp xr21 = 327 := hkxr21
          refine lv_iload_n hx hb dX12_isSameFree_46 rfl (lv_at hl 2 rfl) ?_
          refine tw_lald2 (k := 327) (n := 150) (lo := 0) (hi := 0) hx hb hK TH hmxr21 hkxr21 (by decide) rfl (i := x2) (vp_in_iff.mpr ⟨by  omega, by  omega⟩) dX12_isSameFree_47 (fun xl22 exl22 => ?_)
          refine lv_aload_n hx hb dX12_isSameFree_48 rfl (lv_at hl 0 rfl) ?_
          refine tw_get (ci := 12) (C := RX12) (T := TX12) (N := 64) hx hb hB cx_inX12 hown hK TH hm0 hk0 rfl ⟨by decide, rfl⟩ 17 (by decide) cw_1210 (fun _ h9 => h9) dX12_isSameFree_49 (fun hv => ?_)
          rw [hxr20]
          refine lv_bipush (v := 15) hx hb dX12_isSameFree_52 (by decide) ?_
          refine tw_aald (k := 317) (t0 := 6) (n := 16) (lo := 327) (hi := 0) (ty := .long) hx hb hK TH hmxr20 hkxr20 (by decide) rfl rfl (i := 15) (vp_in_iff.mpr ⟨by have : ((15 : Int32).toInt) = 15 := (by decide); omega, by have : ((15 : Int32).toInt) = 15 := (by decide); omega⟩) dX12_isSameFree_54 (fun xr23 exr23 hmxr23 hkxr23 => ?_)
          have hkxr23 : kp xr23 = 327 := hkxr23
          refine lv_iload_n hx hb dX12_isSameFree_55 rfl (lv_at hl 3 rfl) ?_
          refine tw_lald2 (k := 327) (n := 150) (lo := 0) (hi := 0) hx hb hK TH hmxr23 hkxr23 (by decide) rfl (i := x3) (vp_in_iff.mpr ⟨by  omega, by  omega⟩) dX12_isSameFree_56 (fun xl24 exl24 => ?_)
          refine W.lcmp hx hb dX12_isSameFree_57 ?_
          have hzi25 := ia_lc xl22 xl24
          generalize lg_cmp xl22 xl24 = zi25 at hzi25 ⊢
          refine lv_if_eq (tgt := 63) hx hb dX12_isSameFree_58 (by decide) (fun hc26 => ?_) (fun hc26 => ?_)
          · have hf27 : zi25.toInt = 0 := by have z := (fa_eq _ _).mp hc26; have : ((0 : Int32).toInt) = 0 := (by decide); omega
            have rf_xe3 : tw_el E a0 49 (x2.toInt).toNat = xe3.toInt := (by rw [tw_el_of hxr2]; exact congrArg Int32.toInt exe3)
            have rf_xe4 : tw_el E a0 46 (xe3.toInt).toNat = xe4.toInt := (by rw [tw_el_of hxr1]; exact congrArg Int32.toInt exe4)
            have rf_xe9 : tw_el E a0 47 (x3.toInt).toNat = xe9.toInt := (by rw [tw_el_of hxr8]; exact congrArg Int32.toInt exe9)
            have rf_xe14 : tw_el E a0 20 (x2.toInt).toNat = xe14.toInt := (by rw [tw_el_of hxr13]; exact congrArg Int32.toInt exe14)
            have rf_xe16 : tw_el E a0 22 (x3.toInt).toNat = xe16.toInt := (by rw [tw_el_of hxr15]; exact congrArg Int32.toInt exe16)
            have hpa : pa_f E a0 (x2.toInt) = -1 := (by show tw_el E a0 46 (tw_el E a0 49 (x2.toInt).toNat).toNat = -1; rw [rf_xe3, rf_xe4]; omega)
            refine lv_aload_n hx hb dX12_isSameFree_63 rfl (lv_at hl 0 rfl) ?_
            refine lv_iload_n hx hb dX12_isSameFree_64 rfl (lv_at hl 1 rfl) ?_
            refine lv_iload_n hx hb dX12_isSameFree_65 rfl (lv_at hl 2 rfl) ?_
            refine tw_Vc (o := a0) (ci := 12) (n := 2) (post := (fun v kq Lq Eq => (∃ x : Int32, v = some (.int x) ∧ (-1) ≤ x.toInt ∧ x.toInt ≤ 149 ∧ (rt_kbk (rw_h E a0 x1.toInt) (rw_p E a0 x1.toInt) (rw_q E a0 x1.toInt) 150 x2.toInt (-1) x.toInt) ∧ (x.toInt = rt_fk (rw_h E a0 x1.toInt) (rw_p E a0 x1.toInt) (rw_q E a0 x1.toInt) x2.toInt)) ∧ kp = kq ∧ L = Lq ∧ E = Eq)) (As := [.int x1, .int x2]) (rest := []) ⟨hx, hb, hml, hown, hB⟩ (fun sz => tX12_firstKid_vF l D cs a0 x1 x2 hm0 hk0 (by omega) (by omega) sz) cg_12_291_X12_firstKid rfl rfl (by decide +kernel) ⟨(by first | exact Nat.le_of_ble_eq_true rfl | (dsimp only; omega) | omega), (by first | exact Nat.le_of_ble_eq_true rfl | (dsimp only; omega) | omega)⟩ hK hN TH hS hA rfl hm0 hk0 (by decide) rfl hl.1 rfl ((by first | exact Nat.le_of_ble_eq_true rfl | (dsimp only; omega) | omega)) dX12_isSameFree_66 ⟨(by first | exact Nat.le_of_ble_eq_true rfl | (dsimp only; omega) | omega), (by first | exact Nat.le_of_ble_eq_true rfl | (dsimp only; omega) | omega)⟩ (fun v28 kp28 L28 E28 H locs hq28 hx28 TH hS => ?_)
            obtain ⟨⟨xc29, rfl, hxc29a, hxc29b, hpoxc29_0, hpoxc29_1⟩, rfl, rfl, rfl⟩ := hq28
            refine W.eq (g2 := F0 m 69 ls [.int xc29]) rfl ?_
            refine lv_istore (lv' := [(4, .int xc29), (0, .ref a0), (1, .int x1), (2, .int x2), (3, .int x3)]) hx hb dX12_isSameFree_69 hl (by decide) rfl (fun ls hl => ?_)
            refine lv_aload_n hx hb dX12_isSameFree_71 rfl (lv_at hl 1 rfl) ?_
            refine lv_bipush (v := 15) hx hb dX12_isSameFree_72 (by decide) ?_
            refine lv_iload_n hx hb dX12_isSameFree_74 rfl (lv_at hl 4 rfl) ?_
            refine tw_Vc (o := a0) (ci := 12) (n := 2) (post := (fun v kq Lq Eq => (∃ x : Int32, v = some (.int x) ∧ (-1) ≤ x.toInt ∧ x.toInt ≤ 149 ∧ (rt_kbk (rw_h E a0 (15 : Int32).toInt) (rw_p E a0 (15 : Int32).toInt) (rw_q E a0 (15 : Int32).toInt) 150 x3.toInt (-1) x.toInt) ∧ (x.toInt = rt_fk (rw_h E a0 (15 : Int32).toInt) (rw_p E a0 (15 : Int32).toInt) (rw_q E a0 (15 : Int32).toInt) x3.toInt)) ∧ kp = kq ∧ L = Lq ∧ E = Eq)) (As := [.int 15, .int x3]) (rest := []) ⟨hx, hb, hml, hown, hB⟩ (fun sz => tX12_firstKid_vF l D cs a0 (15 : Int32) x3 hm0 hk0 (by have : ((15 : Int32).toInt) = 15 := (by decide); omega) (by have : ((15 : Int32).toInt) = 15 := (by decide); omega) sz) cg_12_291_X12_firstKid rfl rfl (by decide +kernel) ⟨(by first | exact Nat.le_of_ble_eq_true rfl | (dsimp only; omega) | omega), (by first | exact Nat.le_of_ble_eq_true rfl | (dsimp only; omega) | omega)⟩ hK hN TH hS hA rfl hm0 hk0 (by decide) rfl hl.1 rfl ((by first | exact Nat.le_of_ble_eq_true rfl | (dsimp only; omega) | omega)) dX12_isSameFree_75 ⟨(by first | exact Nat.le_of_ble_eq_true rfl | (dsimp only; omega) | omega), (by first | exact Nat.le_of_ble_eq_true rfl | (dsimp only; omega) | omega)⟩ (fun v30 kp30 L30 E30 H locs hq30 hx30 TH hS => ?_)
            obtain ⟨⟨xc31, rfl, hxc31a, hxc31b, hpoxc31_0, hpoxc31_1⟩, rfl, rfl, rfl⟩ := hq30
            refine W.eq (g2 := F0 m 78 ls [.int xc31]) rfl ?_
            refine lv_istore (lv' := [(5, .int xc31), (4, .int xc29), (0, .ref a0), (1, .int x1), (2, .int x2), (3, .int x3)]) hx hb dX12_isSameFree_78 hl (by decide) rfl (fun ls hl => ?_)
            have hJ80 : ∀ (n80 : Nat) (y80_5 : Int32) (y80_4 : Int32) (H : Heap) (locs : List Loc) (ls : Array Slot), (-1) ≤ y80_5.toInt → y80_5.toInt ≤ 149 → (-1) ≤ y80_4.toInt → y80_4.toInt ≤ 149 → (kd_is (rw_h E a0 (x1.toInt)) (rw_p E a0 (x1.toInt)) (x2.toInt) (y80_4.toInt)) → (kd_is (rw_h E a0 15) (rw_p E a0 15) (x3.toInt) (y80_5.toInt)) → ((∃ k : Nat, sfk (rw_h E a0 (x1.toInt)) (rw_p E a0 (x1.toInt)) (rw_q E a0 (x1.toInt)) (rw_h E a0 15) (rw_p E a0 15) (rw_q E a0 15) (pa_f E a0) k (y80_4.toInt) (y80_5.toInt)) → ∃ k : Nat, sfk (rw_h E a0 (x1.toInt)) (rw_p E a0 (x1.toInt)) (rw_q E a0 (x1.toInt)) (rw_h E a0 15) (rw_p E a0 15) (rw_q E a0 15) (pa_f E a0) k (rt_fk (rw_h E a0 (x1.toInt)) (rw_p E a0 (x1.toInt)) (rw_q E a0 (x1.toInt)) (x2.toInt)) (rt_fk (rw_h E a0 15) (rw_p E a0 15) (rw_q E a0 15) (x3.toInt))) → (rt_kz (rw_h E a0 (x1.toInt)) (rw_p E a0 (x1.toInt)) (rw_q E a0 (x1.toInt)) (x2.toInt) (y80_4.toInt) : Int) ≤ (n80 : Int) → tw_H D cs kp L E A H → va_S A s.heap H locs → lv_has ls 6 [(5, .int y80_5), (4, .int y80_4), (0, .ref a0), (1, .int x1), (2, .int x2), (3, .int x3)] → W p l e { frames := dd + 1 + 2, cells := 0, slots := 0, locals := 25 * (dd + 1) + 67 } s m [.ref a0, .int x1, .int x2, .int x3].toArray below meth c H locs 0 0 (MQ below (tw_Q D cs kp0 L0 (fun v kq Lq Eq => (∃ x : Int32, v = some (.int x) ∧ 0 ≤ x.toInt ∧ x.toInt ≤ 1 ∧ (x.toInt ≠ 0 → sf_ok E a0 x1.toInt x2.toInt x3.toInt)) ∧ kp = kq ∧ L = Lq ∧ E = Eq) A) [.ref a0, .int x1, .int x2, .int x3].toArray s 0 0 A) (F0 m 80 ls []) := by
              intro n80
              induction n80 using Nat.strongRecOn with
              | _ n80 ih80 =>
                intro y80_5 y80_4 H locs ls hy80_5a hy80_5b hy80_4a hy80_4b hin80_0 hin80_1 hin80_2 hmeas80 TH hS hl
                refine lv_iload hx hb dX12_isSameFree_80 (lv_at hl 1 rfl) ?_
                refine lv_iconst (v := (-1)) hx hb dX12_isSameFree_82 (by decide) ?_
                refine lv_icmp_eq (tgt := 128) hx hb dX12_isSameFree_83 (by decide) (fun hc32 => ?_) (fun hc32 => ?_)
                · have hf33 : y80_4.toInt = (-1) := by have z := (fa_eq _ _).mp hc32; have : (((-1) : Int32).toInt) = (-1) := (by decide); omega
                  refine lv_iload hx hb dX12_isSameFree_128 (lv_at hl 1 rfl) ?_
                  refine lv_iconst (v := (-1)) hx hb dX12_isSameFree_130 (by decide) ?_
                  refine lv_icmp_ne (tgt := 144) hx hb dX12_isSameFree_131 (by decide) (fun hc34 => ?_) (fun hc34 => ?_)
                  · have hf35 : ¬ (y80_4.toInt = (-1)) := fun q => hc34 ((fa_eq _ _).mpr (by have : (((-1) : Int32).toInt) = (-1) := (by decide); omega))
                    exfalso; omega
                  · have hf36 : y80_4.toInt = (-1) := by have z := (fa_eq _ _).mp hc34; have : (((-1) : Int32).toInt) = (-1) := (by decide); omega
                    refine lv_iload hx hb dX12_isSameFree_134 (lv_at hl 0 rfl) ?_
                    refine lv_iconst (v := (-1)) hx hb dX12_isSameFree_136 (by decide) ?_
                    refine lv_icmp_ne (tgt := 144) hx hb dX12_isSameFree_137 (by decide) (fun hc37 => ?_) (fun hc37 => ?_)
                    · have hf38 : ¬ (y80_5.toInt = (-1)) := fun q => hc37 ((fa_eq _ _).mpr (by have : (((-1) : Int32).toInt) = (-1) := (by decide); omega))
                      refine lv_iconst (v := 0) hx hb dX12_isSameFree_144 (by decide) ?_
                      exact tw_zret hx hb hr hlocks (by decide) TH hS hex ⟨⟨_, rfl, (show 0 ≤ Int32.toInt 0 from by have : ((0 : Int32).toInt) = 0 := (by decide); omega), (show Int32.toInt 0 ≤ 1 from by have : ((0 : Int32).toInt) = 0 := (by decide); omega), (by have : ((0 : Int32).toInt) = 0 := (by decide); intro q; exfalso; exact q (by decide))⟩, rfl, rfl, rfl⟩ ((by first | exact Nat.le_of_ble_eq_true rfl | (dsimp only; omega) | omega)) ((by first | exact Nat.le_of_ble_eq_true rfl | (dsimp only; omega) | omega)) dX12_isSameFree_145
                    · have hf39 : y80_5.toInt = (-1) := by have z := (fa_eq _ _).mp hc37; have : (((-1) : Int32).toInt) = (-1) := (by decide); omega
                      refine lv_iconst (v := 1) hx hb dX12_isSameFree_140 (by decide) ?_
                      refine lv_goto (tgt := 145) hx hb dX12_isSameFree_141 (by decide) ?_
                      exact tw_zret hx hb hr hlocks (by decide) TH hS hex ⟨⟨_, rfl, (show 0 ≤ Int32.toInt 1 from by have : ((1 : Int32).toInt) = 1 := (by decide); omega), (show Int32.toInt 1 ≤ 1 from by have : ((1 : Int32).toInt) = 1 := (by decide); omega), (by have : ((1 : Int32).toInt) = 1 := (by decide); intro _; exact ⟨hpa, hin80_2 (sfk_end (by omega) (by omega))⟩)⟩, rfl, rfl, rfl⟩ ((by first | exact Nat.le_of_ble_eq_true rfl | (dsimp only; omega) | omega)) ((by first | exact Nat.le_of_ble_eq_true rfl | (dsimp only; omega) | omega)) dX12_isSameFree_145
                · have hf40 : ¬ (y80_4.toInt = (-1)) := fun q => hc32 ((fa_eq _ _).mpr (by have : (((-1) : Int32).toInt) = (-1) := (by decide); omega))
                  refine lv_iload hx hb dX12_isSameFree_86 (lv_at hl 0 rfl) ?_
                  refine lv_iconst (v := (-1)) hx hb dX12_isSameFree_88 (by decide) ?_
                  refine lv_icmp_eq (tgt := 128) hx hb dX12_isSameFree_89 (by decide) (fun hc41 => ?_) (fun hc41 => ?_)
                  · have hf42 : y80_5.toInt = (-1) := by have z := (fa_eq _ _).mp hc41; have : (((-1) : Int32).toInt) = (-1) := (by decide); omega
                    refine lv_iload hx hb dX12_isSameFree_128 (lv_at hl 1 rfl) ?_
                    refine lv_iconst (v := (-1)) hx hb dX12_isSameFree_130 (by decide) ?_
                    refine lv_icmp_ne (tgt := 144) hx hb dX12_isSameFree_131 (by decide) (fun hc43 => ?_) (fun hc43 => ?_)
                    · have hf44 : ¬ (y80_4.toInt = (-1)) := fun q => hc43 ((fa_eq _ _).mpr (by have : (((-1) : Int32).toInt) = (-1) := (by decide); omega))
                      refine lv_iconst (v := 0) hx hb dX12_isSameFree_144 (by decide) ?_
                      exact tw_zret hx hb hr hlocks (by decide) TH hS hex ⟨⟨_, rfl, (show 0 ≤ Int32.toInt 0 from by have : ((0 : Int32).toInt) = 0 := (by decide); omega), (show Int32.toInt 0 ≤ 1 from by have : ((0 : Int32).toInt) = 0 := (by decide); omega), (by have : ((0 : Int32).toInt) = 0 := (by decide); intro q; exfalso; exact q (by decide))⟩, rfl, rfl, rfl⟩ ((by first | exact Nat.le_of_ble_eq_true rfl | (dsimp only; omega) | omega)) ((by first | exact Nat.le_of_ble_eq_true rfl | (dsimp only; omega) | omega)) dX12_isSameFree_145
                    · have hf45 : y80_4.toInt = (-1) := by have z := (fa_eq _ _).mp hc43; have : (((-1) : Int32).toInt) = (-1) := (by decide); omega
                      exfalso; omega
                  · have hf46 : ¬ (y80_5.toInt = (-1)) := fun q => hc41 ((fa_eq _ _).mpr (by have : (((-1) : Int32).toInt) = (-1) := (by decide); omega))
                    have hkc4 := hin80_0.resolve_left (by omega)
                    have hkd5 := tt_kid hTT (by omega) hin80_1 (by omega)
                    refine lv_aload_n hx hb dX12_isSameFree_92 rfl (lv_at hl 2 rfl) ?_
                    refine lv_iload_n hx hb dX12_isSameFree_93 rfl (lv_at hl 3 rfl) ?_
                    refine lv_iload hx hb dX12_isSameFree_94 (lv_at hl 1 rfl) ?_
                    refine lv_iload hx hb dX12_isSameFree_96 (lv_at hl 0 rfl) ?_
                    refine tw_Vc (o := a0) (ci := 12) (n := 3) (post := (fun v kq Lq Eq => (∃ x : Int32, v = some (.int x) ∧ 0 ≤ x.toInt ∧ x.toInt ≤ 1 ∧ (x.toInt ≠ 0 → sf_ok E a0 x1.toInt y80_4.toInt y80_5.toInt)) ∧ kp = kq ∧ L = Lq ∧ E = Eq)) (As := [.int x1, .int y80_4, .int y80_5]) (rest := []) ⟨hx, hb, hml, hown, hB⟩ (fun sz => ih a0 x1 y80_4 y80_5 hm0 hk0 (by omega) (by omega) (by omega) (by omega) (by omega) (by omega) (by  exact (hin80_0.resolve_left (by omega)).2.2.2.1) (by  have hkc := hin80_0.resolve_left (by omega); have w := rt_mu_kid (q := rw_q E a0 (x1.toInt)) hg0.1 hg0.2.1 hkc; omega) hg0 hg1 sz) cg_12_376_X12_isSameFree rfl rfl (by decide +kernel) ⟨(by first | exact Nat.le_of_ble_eq_true rfl | (dsimp only; omega) | omega), (by first | exact Nat.le_of_ble_eq_true rfl | (dsimp only; omega) | omega)⟩ hK hN TH hS hA rfl hm0 hk0 (by decide) rfl hl.1 rfl ((by first | exact Nat.le_of_ble_eq_true rfl | (dsimp only; omega) | omega)) dX12_isSameFree_98 ⟨(by first | exact Nat.le_of_ble_eq_true rfl | (dsimp only; omega) | omega), (by first | exact Nat.le_of_ble_eq_true rfl | (dsimp only; omega) | omega)⟩ (fun v47 kp47 L47 E47 H locs hq47 hx47 TH hS => ?_)
                    obtain ⟨⟨xc48, rfl, hxc48a, hxc48b, hpoxc48_0⟩, rfl, rfl, rfl⟩ := hq47
                    refine W.eq (g2 := F0 m 101 ls [.int xc48]) rfl ?_
                    refine lv_if_ne (tgt := 106) hx hb dX12_isSameFree_101 (by decide) (fun hc49 => ?_) (fun hc49 => ?_)
                    · have hf50 : ¬ (xc48.toInt = 0) := fun q => hc49 ((fa_eq _ _).mpr (by have : ((0 : Int32).toInt) = 0 := (by decide); omega))
                      refine lv_aload_n hx hb dX12_isSameFree_106 rfl (lv_at hl 2 rfl) ?_
                      refine lv_iload_n hx hb dX12_isSameFree_107 rfl (lv_at hl 3 rfl) ?_
                      refine lv_iload hx hb dX12_isSameFree_108 (lv_at hl 1 rfl) ?_
                      refine tw_Vc (o := a0) (ci := 12) (n := 2) (post := (fun v kq Lq Eq => (∃ x : Int32, v = some (.int x) ∧ (-1) ≤ x.toInt ∧ x.toInt ≤ 149 ∧ (rt_kbk (rw_h E a0 x1.toInt) (rw_p E a0 x1.toInt) (rw_q E a0 x1.toInt) 150 (rw_p E a0 x1.toInt (y80_4.toInt).toNat) (rw_q E a0 x1.toInt (y80_4.toInt).toNat) x.toInt) ∧ (x.toInt = rt_nk (rw_h E a0 x1.toInt) (rw_p E a0 x1.toInt) (rw_q E a0 x1.toInt) y80_4.toInt)) ∧ kp = kq ∧ L = Lq ∧ E = Eq)) (As := [.int x1, .int y80_4]) (rest := []) ⟨hx, hb, hml, hown, hB⟩ (fun sz => tX12_nextKid_vF l D cs a0 x1 y80_4 hm0 hk0 (by omega) (by omega) (by omega) (by omega) sz) cg_12_294_X12_nextKid rfl rfl (by decide +kernel) ⟨(by first | exact Nat.le_of_ble_eq_true rfl | (dsimp only; omega) | omega), (by first | exact Nat.le_of_ble_eq_true rfl | (dsimp only; omega) | omega)⟩ hK hN TH hS hA rfl hm0 hk0 (by decide) rfl hl.1 rfl ((by first | exact Nat.le_of_ble_eq_true rfl | (dsimp only; omega) | omega)) dX12_isSameFree_110 ⟨(by first | exact Nat.le_of_ble_eq_true rfl | (dsimp only; omega) | omega), (by first | exact Nat.le_of_ble_eq_true rfl | (dsimp only; omega) | omega)⟩ (fun v51 kp51 L51 E51 H locs hq51 hx51 TH hS => ?_)
                      obtain ⟨⟨xc52, rfl, hxc52a, hxc52b, hpoxc52_0, hpoxc52_1⟩, rfl, rfl, rfl⟩ := hq51
                      refine W.eq (g2 := F0 m 113 ls [.int xc52]) rfl ?_
                      refine lv_istore (lv' := [(4, .int xc52), (5, .int y80_5), (0, .ref a0), (1, .int x1), (2, .int x2), (3, .int x3)]) hx hb dX12_isSameFree_113 hl (by decide) rfl (fun ls hl => ?_)
                      refine lv_aload_n hx hb dX12_isSameFree_115 rfl (lv_at hl 2 rfl) ?_
                      refine lv_bipush (v := 15) hx hb dX12_isSameFree_116 (by decide) ?_
                      refine lv_iload hx hb dX12_isSameFree_118 (lv_at hl 1 rfl) ?_
                      refine tw_Vc (o := a0) (ci := 12) (n := 2) (post := (fun v kq Lq Eq => (∃ x : Int32, v = some (.int x) ∧ (-1) ≤ x.toInt ∧ x.toInt ≤ 149 ∧ (rt_kbk (rw_h E a0 (15 : Int32).toInt) (rw_p E a0 (15 : Int32).toInt) (rw_q E a0 (15 : Int32).toInt) 150 (rw_p E a0 (15 : Int32).toInt (y80_5.toInt).toNat) (rw_q E a0 (15 : Int32).toInt (y80_5.toInt).toNat) x.toInt) ∧ (x.toInt = rt_nk (rw_h E a0 (15 : Int32).toInt) (rw_p E a0 (15 : Int32).toInt) (rw_q E a0 (15 : Int32).toInt) y80_5.toInt)) ∧ kp = kq ∧ L = Lq ∧ E = Eq)) (As := [.int 15, .int y80_5]) (rest := []) ⟨hx, hb, hml, hown, hB⟩ (fun sz => tX12_nextKid_vF l D cs a0 (15 : Int32) y80_5 hm0 hk0 (by have : ((15 : Int32).toInt) = 15 := (by decide); omega) (by have : ((15 : Int32).toInt) = 15 := (by decide); omega) (by omega) (by omega) sz) cg_12_294_X12_nextKid rfl rfl (by decide +kernel) ⟨(by first | exact Nat.le_of_ble_eq_true rfl | (dsimp only; omega) | omega), (by first | exact Nat.le_of_ble_eq_true rfl | (dsimp only; omega) | omega)⟩ hK hN TH hS hA rfl hm0 hk0 (by decide) rfl hl.1 rfl ((by first | exact Nat.le_of_ble_eq_true rfl | (dsimp only; omega) | omega)) dX12_isSameFree_120 ⟨(by first | exact Nat.le_of_ble_eq_true rfl | (dsimp only; omega) | omega), (by first | exact Nat.le_of_ble_eq_true rfl | (dsimp only; omega) | omega)⟩ (fun v53 kp53 L53 E53 H locs hq53 hx53 TH hS => ?_)
                      obtain ⟨⟨xc54, rfl, hxc54a, hxc54b, hpoxc54_0, hpoxc54_1⟩, rfl, rfl, rfl⟩ := hq53
                      refine W.eq (g2 := F0 m 123 ls [.int xc54]) rfl ?_
                      refine lv_istore (lv' := [(5, .int xc54), (4, .int xc52), (0, .ref a0), (1, .int x1), (2, .int x2), (3, .int x3)]) hx hb dX12_isSameFree_123 hl (by decide) rfl (fun ls hl => ?_)
                      refine lv_goto (tgt := 80) hx hb dX12_isSameFree_125 (by decide) ?_
                      exact ih80 (n80 - 1) (by  have hkc := hin80_0.resolve_left (by omega); have q := hpoxc52_0; rw [hkc.2.2.2.2] at q; have hfall := rt_kz_fall hkc.1 hkc.2.2 q;  omega) xc54 xc52 _ _ ls (by omega) (by omega) (by omega) (by omega) (by  have hkc := hin80_0.resolve_left (by omega); have q := hpoxc52_0; rw [hkc.2.2.2.2] at q; exact kd_is_of q) (by  have e15 : ((15 : Int32).toInt) = 15 := (by decide); have hkd := hin80_1.resolve_left (by omega); have q := hpoxc54_0; rw [e15, hkd.2.2.2.2] at q; exact kd_is_of q) (by  have e15 : ((15 : Int32).toInt) = 15 := (by decide); have q1 := hpoxc52_1; have q2 := hpoxc54_1; rw [e15] at q2; rw [q1, q2]; intro hz; have hsf := hpoxc48_0 (by omega); exact hin80_2 (sfk_join (by omega) (by omega) hsf.1 hsf.2 hz)) (by  have hkc := hin80_0.resolve_left (by omega); have q := hpoxc52_0; rw [hkc.2.2.2.2] at q; have hfall := rt_kz_fall hkc.1 hkc.2.2 q;  omega) TH hS (lv_sub hl [0, 1, 2, 3, 4, 5] rfl)
                    · have hf55 : xc48.toInt = 0 := by have z := (fa_eq _ _).mp hc49; have : ((0 : Int32).toInt) = 0 := (by decide); omega
                      refine lv_iconst (v := 0) hx hb dX12_isSameFree_104 (by decide) ?_
                      exact tw_zret hx hb hr hlocks (by decide) TH hS hex ⟨⟨_, rfl, (show 0 ≤ Int32.toInt 0 from by have : ((0 : Int32).toInt) = 0 := (by decide); omega), (show Int32.toInt 0 ≤ 1 from by have : ((0 : Int32).toInt) = 0 := (by decide); omega), (by have : ((0 : Int32).toInt) = 0 := (by decide); intro q; exfalso; exact q (by decide))⟩, rfl, rfl, rfl⟩ ((by first | exact Nat.le_of_ble_eq_true rfl | (dsimp only; omega) | omega)) ((by first | exact Nat.le_of_ble_eq_true rfl | (dsimp only; omega) | omega)) dX12_isSameFree_105
            exact hJ80 151 xc31 xc29 _ _ ls (by omega) (by omega) (by omega) (by omega) (by  exact kd_is_of hpoxc29_0) (by  have e15 : ((15 : Int32).toInt) = 15 := (by decide); have q := hpoxc31_0; rw [e15] at q; exact kd_is_of q) (by  have e15 : ((15 : Int32).toInt) = 15 := (by decide); have q1 := hpoxc29_1; have q2 := hpoxc31_1; rw [e15] at q2; rw [q1, q2]; exact id) (by  have := rt_kz_le (h := rw_h E a0 (x1.toInt)) (p := rw_p E a0 (x1.toInt)) (q := rw_q E a0 (x1.toInt)) (n := x2.toInt) (c := xc29.toInt); omega) TH hS (lv_sub hl [0, 1, 2, 3, 4, 5] rfl)
          · have hf56 : ¬ (zi25.toInt = 0) := fun q => hc26 ((fa_eq _ _).mpr (by have : ((0 : Int32).toInt) = 0 := (by decide); omega))
            refine lv_iconst (v := 0) hx hb dX12_isSameFree_61 (by decide) ?_
            exact tw_zret hx hb hr hlocks (by decide) TH hS hex ⟨⟨_, rfl, (show 0 ≤ Int32.toInt 0 from by have : ((0 : Int32).toInt) = 0 := (by decide); omega), (show Int32.toInt 0 ≤ 1 from by have : ((0 : Int32).toInt) = 0 := (by decide); omega), (by have : ((0 : Int32).toInt) = 0 := (by decide); intro q; exfalso; exact q (by decide))⟩, rfl, rfl, rfl⟩ ((by first | exact Nat.le_of_ble_eq_true rfl | (dsimp only; omega) | omega)) ((by first | exact Nat.le_of_ble_eq_true rfl | (dsimp only; omega) | omega)) dX12_isSameFree_62
set_option maxHeartbeats 4000000 in
set_option maxRecDepth 100000 in
theorem tX12_pairsAll (l : Launch) (D : va_G) (cs : Nat → ClassId) (dd : Nat) : ∀ {kp : Nat → Nat} {L : List Nat} {E : Nat → va_E} (a0 : Nat) (x1 : Int32) (x2 : Int32) (x3 : Int32) (hm0 : a0 ∈ L) (hk0 : kp a0 = 12) (hp1a : 0 ≤ x1.toInt) (hp1b : x1.toInt ≤ 11) (hp2a : 0 ≤ x2.toInt) (hp2b : x2.toInt ≤ 149) (hp3a : 1 ≤ x3.toInt) (hp3b : x3.toInt ≤ 23) (hpre0 : rw_h E a0 x1.toInt (x2.toInt).toNat ≠ 0) (hpre1 : (rt_mu (rw_h E a0 x1.toInt) (rw_p E a0 x1.toInt) (rw_q E a0 x1.toInt) x2.toInt : Int) + 1 ≤ (dd : Int)) (hpre2 : vx_ok E a0 x2.toInt) (hpre3 : sf_ok E a0 x1.toInt x2.toInt x3.toInt) (hg0 : rw_ok E a0 (x1.toInt)) (hg1 : ls_ok E a0 (x1.toInt)) (hg2 : tt_ok E a0) (hg3 : pi_ok E a0) (sz : Nat), Met l yX12_pairsAll (.code yX12_pairsAll cX12_pairsAll 6 none :: cx_big) { frames := dd + 2, cells := 0, slots := 0, locals := 25 * (dd) + 67 } (tw_P D cs kp L E [.ref a0, .int x1, .int x2, .int x3] sz) (tw_Q D cs kp L (fun v kq Lq Eq => v = none ∧ kp = kq ∧ L = Lq ∧ tw_fr kp L [] [355, 356] E Eq ∧ (∀ x : Int, vx_ok E a0 x → (∀ j : Nat, rt_up (rw_p E a0 x1.toInt) j x ≠ x2.toInt) → pa_f Eq a0 x = pa_f E a0 x) ∧ pi_ok Eq a0) (va_A (va_pl L E) sz)) 0 0 (va_A (va_pl L E) sz) := by
  induction dd with
  | zero =>
    intro kp L E a0 x1 x2 x3 hm0 hk0 hp1a hp1b hp2a hp2b hp3a hp3b hpre0 hpre1 hpre2 hpre3 hg0 hg1 hg2 hg3 sz
    exfalso
    omega
  | succ dd ih =>
    intro kp L E a0 x1 x2 x3 hm0 hk0 hp1a hp1b hp2a hp2b hp3a hp3b hpre0 hpre1 hpre2 hpre3 hg0 hg1 hg2 hg3 sz
    refine tw_ofW (by decide) (Nat.le_of_ble_eq_true rfl) ?_
    intro p e s m below meth c A ls hx hb hr hml hB hown hlocks hK hN hA TH hS hl
    have hown : s.vm.findClass "TreeMergeModel" = some m.cls := hown
    have hl : lv_has ls 6 [(0, .ref a0), (1, .int x1), (2, .int x2), (3, .int x3)] := hl
    obtain ⟨kp0, ekp⟩ : ∃ z, z = kp := ⟨_, rfl⟩
    obtain ⟨L0, eL⟩ : ∃ z, z = L := ⟨_, rfl⟩
    rw [show tw_Q D cs kp L = tw_Q D cs kp0 L0 by rw [ekp, eL]]
    have hex : ∀ a : Nat, a ∈ L0 → a ∈ L ∧ kp a = kp0 a := fun a h => ⟨by rw [← eL]; exact h, by rw [ekp]⟩
    have hF : tw_fr kp L [] [355, 356] E E := tw_fr.rf
    have hRW := hg0
    refine lv_aload_n hx hb dX12_pairsAll_0 rfl (lv_at hl 0 rfl) ?_
    refine lv_aload_n hx hb dX12_pairsAll_1 rfl (lv_at hl 0 rfl) ?_
    refine tw_get (ci := 12) (C := RX12) (T := TX12) (N := 64) hx hb hB cx_inX12 hown hK TH hm0 hk0 rfl ⟨by decide, rfl⟩ 49 (by decide) cw_1242 (fun _ h9 => h9) dX12_pairsAll_2 (fun hv => ?_)
    obtain ⟨xr1, hxr1, hmxr1, hkxr1⟩ : ∃ a : Nat, tw_fv E a0 49 = .ref a ∧ a ∈ L ∧ kp a = 358 := hv
    rw [hxr1]
    refine lv_iload_n hx hb dX12_pairsAll_5 rfl (lv_at hl 2 rfl) ?_
    refine tw_iald (k := 358) (t0 := 0) (n := 150) (lo := 0) (hi := 39) hx hb hK TH hmxr1 hkxr1 (by decide) rfl rfl (i := x2) (vp_in_iff.mpr ⟨by  omega, by  omega⟩) dX12_pairsAll_6 (fun hxe2a hxe2b => ?_)
    obtain ⟨xe2, exe2⟩ : ∃ z : Int32, tw_iv E xr1 (Int32.toNatClampNeg x2) = z := ⟨_, rfl⟩
    rw [exe2] at hxe2a hxe2b ⊢
    refine lv_iload_n hx hb dX12_pairsAll_7 rfl (lv_at hl 3 rfl) ?_
    have rf_xe2 : tw_el E a0 49 (x2.toInt).toNat = xe2.toInt := (by rw [tw_el_of hxr1]; exact congrArg Int32.toInt exe2)
    have hLS := hg1
    have hTT := hg2
    have hnd := ls_vx hLS hpre2
    have hxz : ls_x E a0 (x2.toInt) = xe2.toInt := rf_xe2
    have hv4 := hpre2.2.2.2.1
    rw [hxz] at hv4
    have hpz : tw_el E a0 46 (xe2.toInt).toNat = -1 := (by have w := hpre3.1; unfold pa_f at w; rw [rf_xe2] at w; exact w)
    refine tw_Vc (o := a0) (ci := 12) (n := 2) (post := (fun v kq Lq Eq => v = none ∧ kp = kq ∧ L = Lq ∧ tw_fr kp L [] [355, 356] E Eq ∧ (∀ j : Nat, tw_el Eq a0 46 j = if j = (xe2.toInt).toNat then x3.toInt else tw_el E a0 46 j) ∧ (∀ j : Nat, tw_el Eq a0 47 j = if j = (x3.toInt).toNat then xe2.toInt else tw_el E a0 47 j))) (As := [.int xe2, .int x3]) (rest := []) ⟨hx, hb, hml, hown, hB⟩ (fun sz => tX12_pairs_vF l D cs a0 xe2 x3 hm0 hk0 (by omega) (by omega) (by omega) (by omega) sz) cg_12_369_X12_pairs rfl rfl (by decide +kernel) ⟨(by first | exact Nat.le_of_ble_eq_true rfl | (dsimp only; omega) | omega), (by first | exact Nat.le_of_ble_eq_true rfl | (dsimp only; omega) | omega)⟩ hK hN TH hS hA rfl hm0 hk0 (by decide) rfl hl.1 rfl ((by first | exact Nat.le_of_ble_eq_true rfl | (dsimp only; omega) | omega)) dX12_pairsAll_8 ⟨(by first | exact Nat.le_of_ble_eq_true rfl | (dsimp only; omega) | omega), (by first | exact Nat.le_of_ble_eq_true rfl | (dsimp only; omega) | omega)⟩ (fun v3 kp3 L3 E3 H locs hq3 hx3 TH hS => ?_)
    obtain ⟨rfl, rfl, rfl, hst3, hpoxc4_0, hpoxc4_1⟩ := hq3
    have hF := hF.tr hst3 (fun _ h => ⟨h, rfl⟩) (by decide) (by decide)
    have hmf5 : tw_fv E3 a0 49 = .ref xr1 := (hst3.1 a0 49 hm0 (by rw [hk0]; decide)).trans hxr1
    have hg0_o := hg0
    have hg1_o := hg1
    have hg2_o := hg2
    have hg3_o := hg3
    have hg0 : rw_ok E3 a0 (x1.toInt) := rw_ok_fr TH hst3 hm0 hk0 (by decide) (by decide) (by omega) hg0
    have hg1 : ls_ok E3 a0 (x1.toInt) := ls_ok_fr TH hst3 hm0 hk0 (by decide) (by decide) (by omega) hg1
    have hg2 : tt_ok E3 a0 := tt_ok_fr TH hst3 hm0 hk0 (by decide) (by decide) hg2
    have hg3 : pi_ok E3 a0 := pi_pair (a := xe2.toInt) (b := x3.toInt) hg3_o (by omega) hv4 (by omega) hpz hpoxc4_0 hpoxc4_1 (tw_fi_fr hst3 hm0 hk0 (by decide)) (tw_fi_fr hst3 hm0 hk0 (by decide))
    refine W.eq (g2 := F0 m 11 ls []) rfl ?_
    have h46 := hpoxc4_0
    rw [← hxz] at h46
    have hsm0 := sm_of TH hF hm0 hk0 (by decide) (by decide) (i := x1.toInt) (by omega)
    refine lv_aload_n hx hb dX12_pairsAll_11 rfl (lv_at hl 0 rfl) ?_
    refine lv_bipush (v := 15) hx hb dX12_pairsAll_12 (by decide) ?_
    refine lv_iload_n hx hb dX12_pairsAll_14 rfl (lv_at hl 3 rfl) ?_
    refine tw_Vc (o := a0) (ci := 12) (n := 2) (post := (fun v kq Lq Eq => (∃ x : Int32, v = some (.int x) ∧ (-1) ≤ x.toInt ∧ x.toInt ≤ 149 ∧ (rt_kbk (rw_h E3 a0 (15 : Int32).toInt) (rw_p E3 a0 (15 : Int32).toInt) (rw_q E3 a0 (15 : Int32).toInt) 150 x3.toInt (-1) x.toInt) ∧ (x.toInt = rt_fk (rw_h E3 a0 (15 : Int32).toInt) (rw_p E3 a0 (15 : Int32).toInt) (rw_q E3 a0 (15 : Int32).toInt) x3.toInt)) ∧ kp = kq ∧ L = Lq ∧ E3 = Eq)) (As := [.int 15, .int x3]) (rest := []) ⟨hx, hb, hml, hown, hB⟩ (fun sz => tX12_firstKid_vF l D cs a0 (15 : Int32) x3 hm0 hk0 (by have : ((15 : Int32).toInt) = 15 := (by decide); omega) (by have : ((15 : Int32).toInt) = 15 := (by decide); omega) sz) cg_12_291_X12_firstKid rfl rfl (by decide +kernel) ⟨(by first | exact Nat.le_of_ble_eq_true rfl | (dsimp only; omega) | omega), (by first | exact Nat.le_of_ble_eq_true rfl | (dsimp only; omega) | omega)⟩ hK hN TH hS hA rfl hm0 hk0 (by decide) rfl hl.1 rfl ((by first | exact Nat.le_of_ble_eq_true rfl | (dsimp only; omega) | omega)) dX12_pairsAll_15 ⟨(by first | exact Nat.le_of_ble_eq_true rfl | (dsimp only; omega) | omega), (by first | exact Nat.le_of_ble_eq_true rfl | (dsimp only; omega) | omega)⟩ (fun v6 kp6 L6 E6 H locs hq6 hx6 TH hS => ?_)
    obtain ⟨⟨xc7, rfl, hxc7a, hxc7b, hpoxc7_0, hpoxc7_1⟩, rfl, rfl, rfl⟩ := hq6
    refine W.eq (g2 := F0 m 18 ls [.int xc7]) rfl ?_
    refine lv_istore (lv' := [(4, .int xc7), (0, .ref a0), (1, .int x1), (2, .int x2), (3, .int x3)]) hx hb dX12_pairsAll_18 hl (by decide) rfl (fun ls hl => ?_)
    refine lv_aload_n hx hb dX12_pairsAll_20 rfl (lv_at hl 1 rfl) ?_
    refine lv_iload_n hx hb dX12_pairsAll_21 rfl (lv_at hl 2 rfl) ?_
    refine lv_iload_n hx hb dX12_pairsAll_22 rfl (lv_at hl 3 rfl) ?_
    refine tw_Vc (o := a0) (ci := 12) (n := 2) (post := (fun v kq Lq Eq => (∃ x : Int32, v = some (.int x) ∧ (-1) ≤ x.toInt ∧ x.toInt ≤ 149 ∧ (rt_kbk (rw_h E3 a0 x1.toInt) (rw_p E3 a0 x1.toInt) (rw_q E3 a0 x1.toInt) 150 x2.toInt (-1) x.toInt) ∧ (x.toInt = rt_fk (rw_h E3 a0 x1.toInt) (rw_p E3 a0 x1.toInt) (rw_q E3 a0 x1.toInt) x2.toInt)) ∧ kp = kq ∧ L = Lq ∧ E3 = Eq)) (As := [.int x1, .int x2]) (rest := []) ⟨hx, hb, hml, hown, hB⟩ (fun sz => tX12_firstKid_vF l D cs a0 x1 x2 hm0 hk0 (by omega) (by omega) sz) cg_12_291_X12_firstKid rfl rfl (by decide +kernel) ⟨(by first | exact Nat.le_of_ble_eq_true rfl | (dsimp only; omega) | omega), (by first | exact Nat.le_of_ble_eq_true rfl | (dsimp only; omega) | omega)⟩ hK hN TH hS hA rfl hm0 hk0 (by decide) rfl hl.1 rfl ((by first | exact Nat.le_of_ble_eq_true rfl | (dsimp only; omega) | omega)) dX12_pairsAll_23 ⟨(by first | exact Nat.le_of_ble_eq_true rfl | (dsimp only; omega) | omega), (by first | exact Nat.le_of_ble_eq_true rfl | (dsimp only; omega) | omega)⟩ (fun v8 kp8 L8 E8 H locs hq8 hx8 TH hS => ?_)
    obtain ⟨⟨xc9, rfl, hxc9a, hxc9b, hpoxc9_0, hpoxc9_1⟩, rfl, rfl, rfl⟩ := hq8
    refine W.eq (g2 := F0 m 26 ls [.int xc9]) rfl ?_
    refine lv_istore (lv' := [(5, .int xc9), (4, .int xc7), (0, .ref a0), (1, .int x1), (2, .int x2), (3, .int x3)]) hx hb dX12_pairsAll_26 hl (by decide) rfl (fun ls hl => ?_)
    have hJ28 : ∀ (n28 : Nat) (y28_5 : Int32) (y28_4 : Int32) (Eg28 : Nat → va_E) (H : Heap) (locs : List Loc) (ls : Array Slot), (-1) ≤ y28_5.toInt → y28_5.toInt ≤ 149 → (-1) ≤ y28_4.toInt → y28_4.toInt ≤ 149 → (pl_inv E Eg28 a0 (x1.toInt) (x2.toInt) (x3.toInt) (y28_5.toInt) (y28_4.toInt)) → (rt_kz (rw_h E a0 (x1.toInt)) (rw_p E a0 (x1.toInt)) (rw_q E a0 (x1.toInt)) (x2.toInt) (y28_5.toInt) : Int) ≤ (n28 : Int) → tw_fr kp L [] [355, 356] E3 Eg28 → rw_ok Eg28 a0 (x1.toInt) → ls_ok Eg28 a0 (x1.toInt) → tt_ok Eg28 a0 → pi_ok Eg28 a0 → tw_H D cs kp L Eg28 A H → va_S A s.heap H locs → lv_has ls 6 [(5, .int y28_5), (4, .int y28_4), (0, .ref a0), (1, .int x1), (2, .int x2)] → W p l e { frames := dd + 1 + 2, cells := 0, slots := 0, locals := 25 * (dd + 1) + 67 } s m [.ref a0, .int x1, .int x2, .int x3].toArray below meth c H locs 0 0 (MQ below (tw_Q D cs kp0 L0 (fun v kq Lq Eq => v = none ∧ kp = kq ∧ L = Lq ∧ tw_fr kp L [] [355, 356] E Eq ∧ (∀ x : Int, vx_ok E a0 x → (∀ j : Nat, rt_up (rw_p E a0 x1.toInt) j x ≠ x2.toInt) → pa_f Eq a0 x = pa_f E a0 x) ∧ pi_ok Eq a0) A) [.ref a0, .int x1, .int x2, .int x3].toArray s 0 0 A) (F0 m 28 ls []) := by
      intro n28
      induction n28 using Nat.strongRecOn with
      | _ n28 ih28 =>
        intro y28_5 y28_4 Eg28 H locs ls hy28_5a hy28_5b hy28_4a hy28_4b hin28_0 hmeas28 hG28 hg0 hg1 hg2 hg3 TH hS hl
        have hF := hF.tr hG28 (fun _ h => ⟨h, rfl⟩) (by decide) (by decide)
        have hmf10 : tw_fv Eg28 a0 49 = .ref xr1 := (hG28.1 a0 49 hm0 (by rw [hk0]; decide)).trans hmf5
        refine lv_iload hx hb dX12_pairsAll_28 (lv_at hl 0 rfl) ?_
        refine lv_iconst (v := (-1)) hx hb dX12_pairsAll_30 (by decide) ?_
        refine lv_icmp_eq (tgt := 65) hx hb dX12_pairsAll_31 (by decide) (fun hc11 => ?_) (fun hc11 => ?_)
        · have hf12 : y28_5.toInt = (-1) := by have z := (fa_eq _ _).mp hc11; have : (((-1) : Int32).toInt) = (-1) := (by decide); omega
          exact tw_vret hx hb hr hlocks TH hS hex ⟨rfl, rfl, rfl, hF, (by  exact hin28_0.2.2.2.2), hg3⟩ ((by first | exact Nat.le_of_ble_eq_true rfl | (dsimp only; omega) | omega)) ((by first | exact Nat.le_of_ble_eq_true rfl | (dsimp only; omega) | omega)) dX12_pairsAll_65
        · have hf13 : ¬ (y28_5.toInt = (-1)) := fun q => hc11 ((fa_eq _ _).mpr (by have : (((-1) : Int32).toInt) = (-1) := (by decide); omega))
          have hsm1 := sm_of TH hF hm0 hk0 (by decide) (by decide) (i := x1.toInt) (by omega)
          have hcl := pl_call hin28_0 (by omega) hsm1
          have hd1 := hcl.1
          have hkd := tt_kid hTT (by omega) hin28_0.2.2.2.1 hd1
          have hkd1 := hkd.1
          have hkd2 := hkd.2
          have hkc := hin28_0.1.resolve_left (by omega)
          have hmk := rt_mu_kid (q := rw_q E a0 (x1.toInt)) hRW.1 hRW.2.1 hkc
          refine lv_aload_n hx hb dX12_pairsAll_34 rfl (lv_at hl 2 rfl) ?_
          refine lv_iload_n hx hb dX12_pairsAll_35 rfl (lv_at hl 3 rfl) ?_
          refine lv_iload hx hb dX12_pairsAll_36 (lv_at hl 0 rfl) ?_
          refine lv_iload hx hb dX12_pairsAll_38 (lv_at hl 1 rfl) ?_
          refine tw_Vc (o := a0) (ci := 12) (n := 3) (post := (fun v kq Lq Eq => v = none ∧ kp = kq ∧ L = Lq ∧ tw_fr kp L [] [355, 356] Eg28 Eq ∧ (∀ x : Int, vx_ok Eg28 a0 x → (∀ j : Nat, rt_up (rw_p Eg28 a0 x1.toInt) j x ≠ y28_5.toInt) → pa_f Eq a0 x = pa_f Eg28 a0 x) ∧ pi_ok Eq a0)) (As := [.int x1, .int y28_5, .int y28_4]) (rest := []) ⟨hx, hb, hml, hown, hB⟩ (fun sz => ih a0 x1 y28_5 y28_4 hm0 hk0 (by omega) (by omega) (by omega) (by omega) (by omega) (by omega) (by  rw [hsm1.1.1]; exact hkc.2.2.2.1) (by  rw [hsm1.1.1, hsm1.1.2.1, hsm1.1.2.2]; omega) (by  exact hcl.2.1) (by  exact hcl.2.2) hg0 hg1 hg2 hg3 sz) cg_12_379_X12_pairsAll rfl rfl (by decide +kernel) ⟨(by first | exact Nat.le_of_ble_eq_true rfl | (dsimp only; omega) | omega), (by first | exact Nat.le_of_ble_eq_true rfl | (dsimp only; omega) | omega)⟩ hK hN TH hS hA rfl hm0 hk0 (by decide) rfl hl.1 rfl ((by first | exact Nat.le_of_ble_eq_true rfl | (dsimp only; omega) | omega)) dX12_pairsAll_40 ⟨(by first | exact Nat.le_of_ble_eq_true rfl | (dsimp only; omega) | omega), (by first | exact Nat.le_of_ble_eq_true rfl | (dsimp only; omega) | omega)⟩ (fun v14 kp14 L14 E14 H locs hq14 hx14 TH hS => ?_)
          obtain ⟨rfl, rfl, rfl, hst14, hpoxc15_0, hgpxc15_0⟩ := hq14
          have hF := hF.tr hst14 (fun _ h => ⟨h, rfl⟩) (by decide) (by decide)
          have hG28 := hG28.tr hst14 (fun _ h => ⟨h, rfl⟩) (by decide) (by decide)
          have hmf16 : tw_fv E14 a0 49 = .ref xr1 := (hst14.1 a0 49 hm0 (by rw [hk0]; decide)).trans hmf10
          have hg0 : rw_ok E14 a0 (x1.toInt) := rw_ok_fr TH hst14 hm0 hk0 (by decide) (by decide) (by omega) hg0
          have hg1 : ls_ok E14 a0 (x1.toInt) := ls_ok_fr TH hst14 hm0 hk0 (by decide) (by decide) (by omega) hg1
          have hg2 : tt_ok E14 a0 := tt_ok_fr TH hst14 hm0 hk0 (by decide) (by decide) hg2
          refine W.eq (g2 := F0 m 43 ls []) rfl ?_
          have hpl := hpoxc15_0
          have hsm2 := sm_of TH hF hm0 hk0 (by decide) (by decide) (i := x1.toInt) (by omega)
          refine lv_aload_n hx hb dX12_pairsAll_43 rfl (lv_at hl 2 rfl) ?_
          refine lv_bipush (v := 15) hx hb dX12_pairsAll_44 (by decide) ?_
          refine lv_iload hx hb dX12_pairsAll_46 (lv_at hl 1 rfl) ?_
          refine tw_Vc (o := a0) (ci := 12) (n := 2) (post := (fun v kq Lq Eq => (∃ x : Int32, v = some (.int x) ∧ (-1) ≤ x.toInt ∧ x.toInt ≤ 149 ∧ (rt_kbk (rw_h E14 a0 (15 : Int32).toInt) (rw_p E14 a0 (15 : Int32).toInt) (rw_q E14 a0 (15 : Int32).toInt) 150 (rw_p E14 a0 (15 : Int32).toInt (y28_4.toInt).toNat) (rw_q E14 a0 (15 : Int32).toInt (y28_4.toInt).toNat) x.toInt) ∧ (x.toInt = rt_nk (rw_h E14 a0 (15 : Int32).toInt) (rw_p E14 a0 (15 : Int32).toInt) (rw_q E14 a0 (15 : Int32).toInt) y28_4.toInt)) ∧ kp = kq ∧ L = Lq ∧ E14 = Eq)) (As := [.int 15, .int y28_4]) (rest := []) ⟨hx, hb, hml, hown, hB⟩ (fun sz => tX12_nextKid_vF l D cs a0 (15 : Int32) y28_4 hm0 hk0 (by have : ((15 : Int32).toInt) = 15 := (by decide); omega) (by have : ((15 : Int32).toInt) = 15 := (by decide); omega) (by omega) (by omega) sz) cg_12_294_X12_nextKid rfl rfl (by decide +kernel) ⟨(by first | exact Nat.le_of_ble_eq_true rfl | (dsimp only; omega) | omega), (by first | exact Nat.le_of_ble_eq_true rfl | (dsimp only; omega) | omega)⟩ hK hN TH hS hA rfl hm0 hk0 (by decide) rfl hl.1 rfl ((by first | exact Nat.le_of_ble_eq_true rfl | (dsimp only; omega) | omega)) dX12_pairsAll_48 ⟨(by first | exact Nat.le_of_ble_eq_true rfl | (dsimp only; omega) | omega), (by first | exact Nat.le_of_ble_eq_true rfl | (dsimp only; omega) | omega)⟩ (fun v17 kp17 L17 E17 H locs hq17 hx17 TH hS => ?_)
          obtain ⟨⟨xc18, rfl, hxc18a, hxc18b, hpoxc18_0, hpoxc18_1⟩, rfl, rfl, rfl⟩ := hq17
          refine W.eq (g2 := F0 m 51 ls [.int xc18]) rfl ?_
          refine lv_istore (lv' := [(4, .int xc18), (5, .int y28_5), (0, .ref a0), (1, .int x1), (2, .int x2)]) hx hb dX12_pairsAll_51 hl (by decide) rfl (fun ls hl => ?_)
          refine lv_aload_n hx hb dX12_pairsAll_53 rfl (lv_at hl 2 rfl) ?_
          refine lv_iload_n hx hb dX12_pairsAll_54 rfl (lv_at hl 3 rfl) ?_
          refine lv_iload hx hb dX12_pairsAll_55 (lv_at hl 1 rfl) ?_
          refine tw_Vc (o := a0) (ci := 12) (n := 2) (post := (fun v kq Lq Eq => (∃ x : Int32, v = some (.int x) ∧ (-1) ≤ x.toInt ∧ x.toInt ≤ 149 ∧ (rt_kbk (rw_h E14 a0 x1.toInt) (rw_p E14 a0 x1.toInt) (rw_q E14 a0 x1.toInt) 150 (rw_p E14 a0 x1.toInt (y28_5.toInt).toNat) (rw_q E14 a0 x1.toInt (y28_5.toInt).toNat) x.toInt) ∧ (x.toInt = rt_nk (rw_h E14 a0 x1.toInt) (rw_p E14 a0 x1.toInt) (rw_q E14 a0 x1.toInt) y28_5.toInt)) ∧ kp = kq ∧ L = Lq ∧ E14 = Eq)) (As := [.int x1, .int y28_5]) (rest := []) ⟨hx, hb, hml, hown, hB⟩ (fun sz => tX12_nextKid_vF l D cs a0 x1 y28_5 hm0 hk0 (by omega) (by omega) (by omega) (by omega) sz) cg_12_294_X12_nextKid rfl rfl (by decide +kernel) ⟨(by first | exact Nat.le_of_ble_eq_true rfl | (dsimp only; omega) | omega), (by first | exact Nat.le_of_ble_eq_true rfl | (dsimp only; omega) | omega)⟩ hK hN TH hS hA rfl hm0 hk0 (by decide) rfl hl.1 rfl ((by first | exact Nat.le_of_ble_eq_true rfl | (dsimp only; omega) | omega)) dX12_pairsAll_57 ⟨(by first | exact Nat.le_of_ble_eq_true rfl | (dsimp only; omega) | omega), (by first | exact Nat.le_of_ble_eq_true rfl | (dsimp only; omega) | omega)⟩ (fun v19 kp19 L19 E19 H locs hq19 hx19 TH hS => ?_)
          obtain ⟨⟨xc20, rfl, hxc20a, hxc20b, hpoxc20_0, hpoxc20_1⟩, rfl, rfl, rfl⟩ := hq19
          refine W.eq (g2 := F0 m 60 ls [.int xc20]) rfl ?_
          refine lv_istore (lv' := [(5, .int xc20), (4, .int xc18), (0, .ref a0), (1, .int x1), (2, .int x2)]) hx hb dX12_pairsAll_60 hl (by decide) rfl (fun ls hl => ?_)
          refine lv_goto (tgt := 28) hx hb dX12_pairsAll_62 (by decide) ?_
          exact ih28 (n28 - 1) (by  have q := hpoxc20_0; rw [hsm2.1.1, hsm2.1.2.1, hsm2.1.2.2, hkc.2.2.2.2] at q; have hfall := rt_kz_fall hkc.1 hkc.2.2 q;  omega) xc20 xc18 _ _ _ ls (by omega) (by omega) (by omega) (by omega) (by  have e15 : ((15 : Int32).toInt) = 15 := (by decide); have q1 := hpoxc20_1; have q2 := hpoxc18_1; rw [e15] at q2; rw [hsm2.1.1, hsm2.1.2.1, hsm2.1.2.2] at q1; rw [hsm2.2.1.1, hsm2.2.1.2.1, hsm2.2.1.2.2] at q2; exact pl_next hLS hnd hin28_0 (by omega) hsm1 hpl q1 q2) (by  have q := hpoxc20_0; rw [hsm2.1.1, hsm2.1.2.1, hsm2.1.2.2, hkc.2.2.2.2] at q; have hfall := rt_kz_fall hkc.1 hkc.2.2 q;  omega) hG28 hg0 hg1 hg2 hgpxc15_0 TH hS (lv_sub hl [0, 1, 2, 3, 4] rfl)
    exact hJ28 151 xc9 xc7 _ _ _ ls (by omega) (by omega) (by omega) (by omega) (by  have e15 : ((15 : Int32).toInt) = 15 := (by decide); have q1 := hpoxc9_1; have q2 := hpoxc7_1; rw [e15] at q2; rw [hsm0.1.1, hsm0.1.2.1, hsm0.1.2.2] at q1; rw [hsm0.2.1.1, hsm0.2.1.2.1, hsm0.2.1.2.2] at q2; exact pl_init hLS hpre2 hpre3 h46 hsm0 q1 q2) (by  have := rt_kz_le (h := rw_h E a0 (x1.toInt)) (p := rw_p E a0 (x1.toInt)) (q := rw_q E a0 (x1.toInt)) (n := x2.toInt) (c := xc9.toInt); omega) tw_fr.rf hg0 hg1 hg2 hg3 TH hS (lv_sub hl [0, 1, 2, 3, 4] rfl)
