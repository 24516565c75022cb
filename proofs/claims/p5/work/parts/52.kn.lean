theorem cg_12_230_X12_isAlike : GoodIn cx_big (wsV "TreeMergeModel" 230 "TreeMergeModel" yX12_isAlike (.code yX12_isAlike cX12_isAlike 5 (some .boolean) :: cx_big)) := cx_gV cw_1519 cw_1521 cp_84 cw_13 cw_1522
set_option maxHeartbeats 4000000 in
set_option maxRecDepth 100000 in
theorem tX12_isAlike_vG (l : Launch) (D : va_G) (cs : Nat → ClassId) {kp : Nat → Nat} {L : List Nat} {E : Nat → va_E} (a0 : Nat) (x1 : Int32) (x2 : Int32) (x3 : Int32) (hm0 : a0 ∈ L) (hk0 : kp a0 = 12) (hp1a : 0 ≤ x1.toInt) (hp1b : x1.toInt ≤ 500) (hp2a : 0 ≤ x2.toInt) (hp2b : x2.toInt ≤ 500) (hp3a : 0 ≤ x3.toInt) (hp3b : x3.toInt ≤ 500) (hpre0 : x1.toInt + x3.toInt ≤ 500) (hpre1 : x2.toInt + x3.toInt ≤ 500) (sz : Nat) : Met l yX12_isAlike (.code yX12_isAlike cX12_isAlike 5 (some .boolean) :: cx_big) { frames := 0, cells := 0, slots := 0, locals := 0 } (tw_P D cs kp L E [.ref a0, .int x1, .int x2, .int x3] sz) (tw_Q D cs kp L (fun v kq Lq Eq => (∃ x : Int32, v = some (.int x) ∧ 0 ≤ x.toInt ∧ x.toInt ≤ 1 ∧ (x.toInt ≠ 0 ↔ al_ok (tw_el E a0 5) x1.toInt x2.toInt x3.toInt)) ∧ kp = kq ∧ L = Lq ∧ E = Eq) (va_A (va_pl L E) sz)) 0 0 (va_A (va_pl L E) sz) := by
  refine tw_ofW (by decide) (Nat.le_of_ble_eq_true rfl) ?_
  intro p e s m below meth c A ls hx hb hr hml hB hown hlocks hK hN hA TH hS hl
  have hown : s.vm.findClass "TreeMergeModel" = some m.cls := hown
  have hl : lv_has ls 5 [(0, .ref a0), (1, .int x1), (2, .int x2), (3, .int x3)] := hl
  obtain ⟨kp0, ekp⟩ : ∃ z, z = kp := ⟨_, rfl⟩
  obtain ⟨L0, eL⟩ : ∃ z, z = L := ⟨_, rfl⟩
  rw [show tw_Q D cs kp L = tw_Q D cs kp0 L0 by rw [ekp, eL]]
  have hex : ∀ a : Nat, a ∈ L0 → a ∈ L ∧ kp a = kp0 a := fun a h => ⟨by rw [← eL]; exact h, by rw [ekp]⟩
  refine lv_iconst (v := 0) hx hb dX12_isAlike_0 (by decide) ?_
  refine lv_istore (lv' := [(4, .int 0), (0, .ref a0), (1, .int x1), (2, .int x2), (3, .int x3)]) hx hb dX12_isAlike_1 hl (by decide) rfl (fun ls hl => ?_)
  have hJ3 : ∀ (n3 : Nat) (y3_4 : Int32) (H : Heap) (locs : List Loc) (ls : Array Slot), 0 ≤ y3_4.toInt → y3_4.toInt ≤ 500 → (al_ok (tw_el E a0 5) (x1.toInt) (x2.toInt) (y3_4.toInt)) → 500 - y3_4.toInt ≤ (n3 : Int) → tw_H D cs kp L E A H → va_S A s.heap H locs → lv_has ls 5 [(4, .int y3_4), (0, .ref a0), (1, .int x1), (2, .int x2), (3, .int x3)] → W p l e { frames := 0, cells := 0, slots := 0, locals := 0 } s m [.ref a0, .int x1, .int x2, .int x3].toArray below meth c H locs 0 0 (MQ below (tw_Q D cs kp0 L0 (fun v kq Lq Eq => (∃ x : Int32, v = some (.int x) ∧ 0 ≤ x.toInt ∧ x.toInt ≤ 1 ∧ (x.toInt ≠ 0 ↔ al_ok (tw_el E a0 5) x1.toInt x2.toInt x3.toInt)) ∧ kp = kq ∧ L = Lq ∧ E = Eq) A) [.ref a0, .int x1, .int x2, .int x3].toArray s 0 0 A) (F0 m 3 ls []) := by
    intro n3
    induction n3 using Nat.strongRecOn with
    | _ n3 ih3 =>
      intro y3_4 H locs ls hy3_4a hy3_4b hin3_0 hmeas3 TH hS hl
      refine lv_iload hx hb dX12_isAlike_3 (lv_at hl 0 rfl) ?_
      refine lv_iload_n hx hb dX12_isAlike_5 rfl (lv_at hl 4 rfl) ?_
      refine lv_icmp_ge (tgt := 38) hx hb dX12_isAlike_6 (by decide) (fun hc1 => ?_) (fun hc1 => ?_)
      · have hf2 : x3.toInt ≤ y3_4.toInt := by have z := (fa_le _ _).mp hc1;  omega
        refine lv_iconst (v := 1) hx hb dX12_isAlike_38 (by decide) ?_
        exact tw_zret hx hb hr hlocks (by decide) TH hS hex ⟨⟨_, rfl, (show 0 ≤ Int32.toInt 1 from by have : ((1 : Int32).toInt) = 1 := (by decide); omega), (show Int32.toInt 1 ≤ 1 from by have : ((1 : Int32).toInt) = 1 := (by decide); omega), (by have : ((1 : Int32).toInt) = 1 := (by decide); refine ⟨fun _ i hi => hin3_0 i (by omega), fun _ => by decide⟩)⟩, rfl, rfl, rfl⟩ (Nat.le_of_ble_eq_true rfl) (Nat.le_of_ble_eq_true rfl) dX12_isAlike_39
      · have hf3 : ¬ (x3.toInt ≤ y3_4.toInt) := fun q => hc1 ((fa_le _ _).mpr (by  omega))
        refine lv_aload_n hx hb dX12_isAlike_9 rfl (lv_at hl 1 rfl) ?_
        refine tw_get (ci := 12) (C := RX12) (T := TX12) (N := 64) hx hb hB cx_inX12 hown hK TH hm0 hk0 rfl ⟨by decide, rfl⟩ 5 (by decide) cw_1198 (fun _ h9 => h9) dX12_isAlike_10 (fun hv => ?_)
        obtain ⟨xr4, hxr4, hmxr4, hkxr4⟩ : ∃ a : Nat, tw_fv E a0 5 = .ref a ∧ a ∈ L ∧ kp a = 301 := hv
        rw [hxr4]
        refine lv_iload_n hx hb dX12_isAlike_13 rfl (lv_at hl 2 rfl) ?_
        refine lv_iload hx hb dX12_isAlike_14 (lv_at hl 0 rfl) ?_
        refine lv_iadd hx hb dX12_isAlike_16 ?_
        refine lv_topi (fun zi5 ezi5 => ?_)
        have hzi5 : zi5.toInt = x1.toInt + y3_4.toInt := by rw [ezi5];  have := ia_lo x1; have := ia_hi x1; have := ia_lo y3_4; have := ia_hi y3_4; exact (ia_add (by omega) (by omega)).trans (by omega)
        refine tw_bald (k := 301) (t0 := 2) (n := 500) (lo := (-128)) (hi := 127) hx hb hK TH hmxr4 hkxr4 (by decide) rfl rfl (i := zi5) (vp_in_iff.mpr ⟨by  omega, by  omega⟩) dX12_isAlike_17 (fun hxe6a hxe6b => ?_)
        obtain ⟨xe6, exe6⟩ : ∃ z : Int32, tw_iv E xr4 (Int32.toNatClampNeg zi5) = z := ⟨_, rfl⟩
        rw [exe6] at hxe6a hxe6b ⊢
        refine lv_aload_n hx hb dX12_isAlike_18 rfl (lv_at hl 1 rfl) ?_
        refine tw_get (ci := 12) (C := RX12) (T := TX12) (N := 64) hx hb hB cx_inX12 hown hK TH hm0 hk0 rfl ⟨by decide, rfl⟩ 5 (by decide) cw_1198 (fun _ h9 => h9) dX12_isAlike_19 (fun hv => ?_)
        rw [hxr4]
        refine lv_iload_n hx hb dX12_isAlike_22 rfl (lv_at hl 3 rfl) ?_
        refine lv_iload hx hb dX12_isAlike_23 (lv_at hl 0 rfl) ?_
        refine lv_iadd hx hb dX12_isAlike_25 ?_
        refine lv_topi (fun zi7 ezi7 => ?_)
        have hzi7 : zi7.toInt = x2.toInt + y3_4.toInt := by rw [ezi7];  have := ia_lo x2; have := ia_hi x2; have := ia_lo y3_4; have := ia_hi y3_4; exact (ia_add (by omega) (by omega)).trans (by omega)
        refine tw_bald (k := 301) (t0 := 2) (n := 500) (lo := (-128)) (hi := 127) hx hb hK TH hmxr4 hkxr4 (by decide) rfl rfl (i := zi7) (vp_in_iff.mpr ⟨by  omega, by  omega⟩) dX12_isAlike_26 (fun hxe8a hxe8b => ?_)
        obtain ⟨xe8, exe8⟩ : ∃ z : Int32, tw_iv E xr4 (Int32.toNatClampNeg zi7) = z := ⟨_, rfl⟩
        rw [exe8] at hxe8a hxe8b ⊢
        refine lv_icmp_eq (tgt := 32) hx hb dX12_isAlike_27 (by decide) (fun hc9 => ?_) (fun hc9 => ?_)
        · have hf10 : xe6.toInt = xe8.toInt := by have z := (fa_eq _ _).mp hc9;  omega
          obtain ⟨zi11, ezi11⟩ : ∃ z : Int32, z = y3_4 + Int32.ofInt 1 := ⟨_, rfl⟩
          have hzi11 : zi11.toInt = y3_4.toInt + 1 := by rw [ezi11]; have : ((Int32.ofInt 1).toInt) = 1 := (by decide);  exact (ia_add (by omega) (by omega)).trans (by omega)
          refine lv_iinc (v := zi11) (lv' := [(4, .int zi11), (0, .ref a0), (1, .int x1), (2, .int x2), (3, .int x3)]) hx hb dX12_isAlike_32 hl (k := 0) rfl ezi11.symm (by decide) rfl (fun ls hl => ?_)
          refine lv_goto (tgt := 3) hx hb dX12_isAlike_35 (by decide) ?_
          exact ih3 (n3 - 1) (by   omega) zi11 _ _ ls (by omega) (by omega) (by  have l1 : tw_el E a0 5 (zi5.toInt).toNat = xe6.toInt := (by rw [tw_el_of hxr4]; exact congrArg Int32.toInt exe6); have l2 : tw_el E a0 5 (zi7.toInt).toNat = xe8.toInt := (by rw [tw_el_of hxr4]; exact congrArg Int32.toInt exe8); refine al_push hin3_0 (by omega) (by omega) ?_; rw [show (x1.toInt + y3_4.toInt).toNat = (zi5.toInt).toNat by omega, show (x2.toInt + y3_4.toInt).toNat = (zi7.toInt).toNat by omega, l1, l2]; omega) (by   omega) TH hS (lv_sub hl [0, 1, 2, 3, 4] rfl)
        · have hf12 : ¬ (xe6.toInt = xe8.toInt) := fun q => hc9 ((fa_eq _ _).mpr (by  omega))
          refine lv_iconst (v := 0) hx hb dX12_isAlike_30 (by decide) ?_
          exact tw_zret hx hb hr hlocks (by decide) TH hS hex ⟨⟨_, rfl, (show 0 ≤ Int32.toInt 0 from by have : ((0 : Int32).toInt) = 0 := (by decide); omega), (show Int32.toInt 0 ≤ 1 from by have : ((0 : Int32).toInt) = 0 := (by decide); omega), (by have : ((0 : Int32).toInt) = 0 := (by decide); have l1 : tw_el E a0 5 (zi5.toInt).toNat = xe6.toInt := (by rw [tw_el_of hxr4]; exact congrArg Int32.toInt exe6); have l2 : tw_el E a0 5 (zi7.toInt).toNat = xe8.toInt := (by rw [tw_el_of hxr4]; exact congrArg Int32.toInt exe8); refine ⟨fun q => absurd (show ((0 : Int32).toInt) = 0 from by decide) q, fun z => ?_⟩; exfalso; have w := z (y3_4.toInt).toNat (by omega); rw [show (x1.toInt + (((y3_4.toInt).toNat : Nat) : Int)).toNat = (zi5.toInt).toNat by omega, show (x2.toInt + (((y3_4.toInt).toNat : Nat) : Int)).toNat = (zi7.toInt).toNat by omega, l1, l2] at w; omega)⟩, rfl, rfl, rfl⟩ (Nat.le_of_ble_eq_true rfl) (Nat.le_of_ble_eq_true rfl) dX12_isAlike_31
  exact hJ3 501 (0 : Int32) _ _ ls (by have : ((0 : Int32).toInt) = 0 := (by decide); omega) (by have : ((0 : Int32).toInt) = 0 := (by decide); omega) (by have : ((0 : Int32).toInt) = 0 := (by decide); intro i hi; exact absurd hi (by omega)) (by have : ((0 : Int32).toInt) = 0 := (by decide);  omega) TH hS (lv_sub hl [0, 1, 2, 3, 4] rfl)
set_option maxHeartbeats 4000000 in
set_option maxRecDepth 100000 in
theorem tX12_kindNamed (l : Launch) (D : va_G) (cs : Nat → ClassId) {kp : Nat → Nat} {L : List Nat} {E : Nat → va_E} (a0 : Nat) (x1 : Int32) (x2 : Int32) (fv0_1 : Int32) (fv0_15 : Int32) (hm0 : a0 ∈ L) (hk0 : kp a0 = 12) (hp1a : 0 ≤ x1.toInt) (hp1b : x1.toInt ≤ 500) (hp2a : 0 ≤ x2.toInt) (hp2b : x2.toInt ≤ 500) (hfv0_1 : tw_fv E a0 1 = .int fv0_1) (hfv0_15 : tw_fv E a0 15 = .int fv0_15) (hpre0 : x1.toInt + x2.toInt ≤ fv0_1.toInt) (hg0 : gt_ok E a0) (hg1 : gk_ok E a0) (sz : Nat) : Met l yX12_kindNamed (.code yX12_kindNamed cX12_kindNamed 4 (some .int) :: cx_big) { frames := 1, cells := 0, slots := 0, locals := 24 } (tw_P D cs kp L E [.ref a0, .int x1, .int x2] sz) (tw_Q D cs kp L (fun v kq Lq Eq => (∃ x : Int32, v = some (.int x) ∧ (-1) ≤ x.toInt ∧ x.toInt ≤ 9 ∧ (x.toInt = -1 ↔ ¬ gy_nm (tw_el E a0 0) (kp_ E a0 fv0_15.toInt) (x1.toInt, x1.toInt + x2.toInt))) ∧ kp = kq ∧ L = Lq ∧ E = Eq) (va_A (va_pl L E) sz)) 0 0 (va_A (va_pl L E) sz) := by
  refine tw_ofW (by decide) (Nat.le_of_ble_eq_true rfl) ?_
  intro p e s m below meth c A ls hx hb hr hml hB hown hlocks hK hN hA TH hS hl
  have hown : s.vm.findClass "TreeMergeModel" = some m.cls := hown
  have hl : lv_has ls 4 [(0, .ref a0), (1, .int x1), (2, .int x2)] := hl
  obtain ⟨kp0, ekp⟩ : ∃ z, z = kp := ⟨_, rfl⟩
  obtain ⟨L0, eL⟩ : ∃ z, z = L := ⟨_, rfl⟩
  rw [show tw_Q D cs kp L = tw_Q D cs kp0 L0 by rw [ekp, eL]]
  have hex : ∀ a : Nat, a ∈ L0 → a ∈ L ∧ kp a = kp0 a := fun a h => ⟨by rw [← eL]; exact h, by rw [ekp]⟩
  obtain ⟨qfv0_1, hqfv0_1, hqfv0_1a, hqfv0_1b⟩ := tw_rd TH hm0 hk0 (by decide) (by decide) (k := 1) rfl
  have eqfv0_1 : qfv0_1 = fv0_1 := by have q := hqfv0_1.symm.trans hfv0_1; injection q
  rw [eqfv0_1] at hqfv0_1a hqfv0_1b
  obtain ⟨qfv0_15, hqfv0_15, hqfv0_15a, hqfv0_15b⟩ := tw_rd TH hm0 hk0 (by decide) (by decide) (k := 15) rfl
  have eqfv0_15 : qfv0_15 = fv0_15 := by have q := hqfv0_15.symm.trans hfv0_15; injection q
  rw [eqfv0_15] at hqfv0_15a hqfv0_15b
  refine lv_iconst (v := 0) hx hb dX12_kindNamed_0 (by decide) ?_
  refine lv_istore_n (lv' := [(3, .int 0), (0, .ref a0), (1, .int x1), (2, .int x2)]) hx hb dX12_kindNamed_1 rfl hl (by decide) rfl (fun ls hl => ?_)
  have hJ2 : ∀ (n2 : Nat) (y2_3 : Int32) (H : Heap) (locs : List Loc) (ls : Array Slot), 0 ≤ y2_3.toInt → y2_3.toInt ≤ 10 → (nn_ok (tw_el E a0 5) (tw_el E a0 6) (tw_el E a0 7) (x1.toInt) (x2.toInt) (y2_3.toInt)) → (y2_3.toInt ≤ fv0_15.toInt) → 10 - y2_3.toInt ≤ (n2 : Int) → tw_H D cs kp L E A H → va_S A s.heap H locs → lv_has ls 4 [(3, .int y2_3), (0, .ref a0), (1, .int x1), (2, .int x2)] → W p l e { frames := 1, cells := 0, slots := 0, locals := 24 } s m [.ref a0, .int x1, .int x2].toArray below meth c H locs 0 0 (MQ below (tw_Q D cs kp0 L0 (fun v kq Lq Eq => (∃ x : Int32, v = some (.int x) ∧ (-1) ≤ x.toInt ∧ x.toInt ≤ 9 ∧ (x.toInt = -1 ↔ ¬ gy_nm (tw_el E a0 0) (kp_ E a0 fv0_15.toInt) (x1.toInt, x1.toInt + x2.toInt))) ∧ kp = kq ∧ L = Lq ∧ E = Eq) A) [.ref a0, .int x1, .int x2].toArray s 0 0 A) (F0 m 2 ls []) := by
    intro n2
    induction n2 using Nat.strongRecOn with
    | _ n2 ih2 =>
      intro y2_3 H locs ls hy2_3a hy2_3b hin2_0 hin2_1 hmeas2 TH hS hl
      refine lv_iload_n hx hb dX12_kindNamed_2 rfl (lv_at hl 0 rfl) ?_
      refine lv_aload_n hx hb dX12_kindNamed_3 rfl (lv_at hl 1 rfl) ?_
      refine tw_get (ci := 12) (C := RX12) (T := TX12) (N := 64) hx hb hB cx_inX12 hown hK TH hm0 hk0 rfl ⟨by decide, rfl⟩ 15 (by decide) cw_1208 (fun _ h9 => h9) dX12_kindNamed_4 (fun hv => ?_)
      rw [hfv0_15]
      refine lv_icmp_ge (tgt := 43) hx hb dX12_kindNamed_7 (by decide) (fun hc1 => ?_) (fun hc1 => ?_)
      · have hf2 : fv0_15.toInt ≤ y2_3.toInt := by have z := (fa_le _ _).mp hc1;  omega
        refine lv_iconst (v := (-1)) hx hb dX12_kindNamed_43 (by decide) ?_
        exact tw_iret hx hb hr hlocks TH hS hex ⟨⟨_, rfl, (show (-1) ≤ Int32.toInt (-1) from by have : (((-1) : Int32).toInt) = (-1) := (by decide); omega), (show Int32.toInt (-1) ≤ 9 from by have : (((-1) : Int32).toInt) = (-1) := (by decide); omega), (by have : (((-1) : Int32).toInt) = (-1) := (by decide); rw [← tw_fi_of hfv0_15]; refine kn_iff hg0 hg1 (by omega) (by rw [tw_fi_of hfv0_1]; omega) ?_; rw [tw_fi_of hfv0_15]; exact Or.inl ⟨by decide, fun j hj => hin2_0 j (by omega)⟩)⟩, rfl, rfl, rfl⟩ (Nat.le_of_ble_eq_true rfl) (Nat.le_of_ble_eq_true rfl) dX12_kindNamed_44
      · have hf3 : ¬ (fv0_15.toInt ≤ y2_3.toInt) := fun q => hc1 ((fa_le _ _).mpr (by  omega))
        refine lv_aload_n hx hb dX12_kindNamed_10 rfl (lv_at hl 1 rfl) ?_
        refine tw_get (ci := 12) (C := RX12) (T := TX12) (N := 64) hx hb hB cx_inX12 hown hK TH hm0 hk0 rfl ⟨by decide, rfl⟩ 7 (by decide) cw_1200 (fun _ h9 => h9) dX12_kindNamed_11 (fun hv => ?_)
        obtain ⟨xr4, hxr4, hmxr4, hkxr4⟩ : ∃ a : Nat, tw_fv E a0 7 = .ref a ∧ a ∈ L ∧ kp a = 303 := hv
        rw [hxr4]
        refine lv_iload_n hx hb dX12_kindNamed_14 rfl (lv_at hl 0 rfl) ?_
        refine tw_iald (k := 303) (t0 := 0) (n := 10) (lo := 0) (hi := 500) hx hb hK TH hmxr4 hkxr4 (by decide) rfl rfl (i := y2_3) (vp_in_iff.mpr ⟨by  omega, by  omega⟩) dX12_kindNamed_15 (fun hxe5a hxe5b => ?_)
        obtain ⟨xe5, exe5⟩ : ∃ z : Int32, tw_iv E xr4 (Int32.toNatClampNeg y2_3) = z := ⟨_, rfl⟩
        rw [exe5] at hxe5a hxe5b ⊢
        refine lv_iload_n hx hb dX12_kindNamed_16 rfl (lv_at hl 3 rfl) ?_
        refine lv_icmp_ne (tgt := 37) hx hb dX12_kindNamed_17 (by decide) (fun hc6 => ?_) (fun hc6 => ?_)
        · have hf7 : ¬ (xe5.toInt = x2.toInt) := fun q => hc6 ((fa_eq _ _).mpr (by  omega))
          obtain ⟨zi8, ezi8⟩ : ∃ z : Int32, z = y2_3 + Int32.ofInt 1 := ⟨_, rfl⟩
          have hzi8 : zi8.toInt = y2_3.toInt + 1 := by rw [ezi8]; have : ((Int32.ofInt 1).toInt) = 1 := (by decide);  exact (ia_add (by omega) (by omega)).trans (by omega)
          refine lv_iinc (v := zi8) (lv' := [(3, .int zi8), (0, .ref a0), (1, .int x1), (2, .int x2)]) hx hb dX12_kindNamed_37 hl (k := 0) rfl ezi8.symm (by decide) rfl (fun ls hl => ?_)
          refine lv_goto (tgt := 2) hx hb dX12_kindNamed_40 (by decide) ?_
          exact ih2 (n2 - 1) (by   omega) zi8 _ _ ls (by omega) (by omega) (by  have rf_xe5 : tw_el E a0 7 (y2_3.toInt).toNat = xe5.toInt := (by rw [tw_el_of hxr4]; exact congrArg Int32.toInt exe5); refine nn_push hin2_0 (by omega) (by omega) (fun z => ?_); have z1 := z.1; rw [rf_xe5] at z1; omega) (by  omega) (by   omega) TH hS (lv_sub hl [0, 1, 2, 3] rfl)
        · have hf9 : xe5.toInt = x2.toInt := by have z := (fa_eq _ _).mp hc6;  omega
          refine lv_aload_n hx hb dX12_kindNamed_20 rfl (lv_at hl 1 rfl) ?_
          refine lv_aload_n hx hb dX12_kindNamed_21 rfl (lv_at hl 1 rfl) ?_
          refine tw_get (ci := 12) (C := RX12) (T := TX12) (N := 64) hx hb hB cx_inX12 hown hK TH hm0 hk0 rfl ⟨by decide, rfl⟩ 6 (by decide) cw_1199 (fun _ h9 => h9) dX12_kindNamed_22 (fun hv => ?_)
          obtain ⟨xr10, hxr10, hmxr10, hkxr10⟩ : ∃ a : Nat, tw_fv E a0 6 = .ref a ∧ a ∈ L ∧ kp a = 302 := hv
          rw [hxr10]
          refine lv_iload_n hx hb dX12_kindNamed_25 rfl (lv_at hl 0 rfl) ?_
          refine tw_iald (k := 302) (t0 := 0) (n := 10) (lo := 0) (hi := 500) hx hb hK TH hmxr10 hkxr10 (by decide) rfl rfl (i := y2_3) (vp_in_iff.mpr ⟨by  omega, by  omega⟩) dX12_kindNamed_26 (fun hxe11a hxe11b => ?_)
          obtain ⟨xe11, exe11⟩ : ∃ z : Int32, tw_iv E xr10 (Int32.toNatClampNeg y2_3) = z := ⟨_, rfl⟩
          rw [exe11] at hxe11a hxe11b ⊢
          refine lv_iload_n hx hb dX12_kindNamed_27 rfl (lv_at hl 2 rfl) ?_
          refine lv_iload_n hx hb dX12_kindNamed_28 rfl (lv_at hl 3 rfl) ?_
          have rf_xe5 : tw_el E a0 7 (y2_3.toInt).toNat = xe5.toInt := (by rw [tw_el_of hxr4]; exact congrArg Int32.toInt exe5)
          have rf_xe11 : tw_el E a0 6 (y2_3.toInt).toNat = xe11.toInt := (by rw [tw_el_of hxr10]; exact congrArg Int32.toInt exe11)
          have hg29 := hg1 (y2_3.toInt).toNat (by rw [tw_fi_of hfv0_15]; omega)
          rw [rf_xe11, rf_xe5, tw_fi_of hfv0_1] at hg29
          refine tw_Vc (o := a0) (ci := 12) (n := 3) (post := (fun v kq Lq Eq => (∃ x : Int32, v = some (.int x) ∧ 0 ≤ x.toInt ∧ x.toInt ≤ 1 ∧ (x.toInt ≠ 0 ↔ al_ok (tw_el E a0 5) xe11.toInt x1.toInt x2.toInt)) ∧ kp = kq ∧ L = Lq ∧ E = Eq)) (As := [.int xe11, .int x1, .int x2]) (rest := []) ⟨hx, hb, hml, hown, hB⟩ (fun sz => tX12_isAlike_vG l D cs a0 xe11 x1 x2 hm0 hk0 (by omega) (by omega) (by omega) (by omega) (by omega) (by omega) (by  omega) (by  omega) sz) cg_12_230_X12_isAlike rfl rfl (by decide +kernel) ⟨Nat.le_of_ble_eq_true rfl, Nat.le_of_ble_eq_true rfl⟩ hK hN TH hS hA rfl hm0 hk0 (by decide) rfl hl.1 rfl (Nat.le_of_ble_eq_true rfl) dX12_kindNamed_29 ⟨Nat.le_of_ble_eq_true rfl, Nat.le_of_ble_eq_true rfl⟩ (fun v12 kp12 L12 E12 H locs hq12 hx12 TH hS => ?_)
          obtain ⟨⟨xc13, rfl, hxc13a, hxc13b, hpoxc13_0⟩, rfl, rfl, rfl⟩ := hq12
          refine W.eq (g2 := F0 m 32 ls [.int xc13]) rfl ?_
          refine lv_if_eq (tgt := 37) hx hb dX12_kindNamed_32 (by decide) (fun hc14 => ?_) (fun hc14 => ?_)
          · have hf15 : xc13.toInt = 0 := by have z := (fa_eq _ _).mp hc14; have : ((0 : Int32).toInt) = 0 := (by decide); omega
            obtain ⟨zi16, ezi16⟩ : ∃ z : Int32, z = y2_3 + Int32.ofInt 1 := ⟨_, rfl⟩
            have hzi16 : zi16.toInt = y2_3.toInt + 1 := by rw [ezi16]; have : ((Int32.ofInt 1).toInt) = 1 := (by decide);  exact (ia_add (by omega) (by omega)).trans (by omega)
            refine lv_iinc (v := zi16) (lv' := [(3, .int zi16), (0, .ref a0), (1, .int x1), (2, .int x2)]) hx hb dX12_kindNamed_37 hl (k := 0) rfl ezi16.symm (by decide) rfl (fun ls hl => ?_)
            refine lv_goto (tgt := 2) hx hb dX12_kindNamed_40 (by decide) ?_
            exact ih2 (n2 - 1) (by   omega) zi16 _ _ ls (by omega) (by omega) (by  have rf_xe5 : tw_el E a0 7 (y2_3.toInt).toNat = xe5.toInt := (by rw [tw_el_of hxr4]; exact congrArg Int32.toInt exe5); have rf_xe11 : tw_el E a0 6 (y2_3.toInt).toNat = xe11.toInt := (by rw [tw_el_of hxr10]; exact congrArg Int32.toInt exe11); refine nn_push hin2_0 (by omega) (by omega) (fun z => ?_); have z1 := z.1; rw [rf_xe5] at z1; have z2 := z.2; rw [rf_xe11] at z2; have w := hpoxc13_0.2 z2; omega) (by  omega) (by   omega) TH hS (lv_sub hl [0, 1, 2, 3] rfl)
          · have hf17 : ¬ (xc13.toInt = 0) := fun q => hc14 ((fa_eq _ _).mpr (by have : ((0 : Int32).toInt) = 0 := (by decide); omega))
            refine lv_iload_n hx hb dX12_kindNamed_35 rfl (lv_at hl 0 rfl) ?_
            exact tw_iret hx hb hr hlocks TH hS hex ⟨⟨_, rfl, (show (-1) ≤ Int32.toInt y2_3 from by  omega), (show Int32.toInt y2_3 ≤ 9 from by  omega), (by  rw [← tw_fi_of hfv0_15]; refine kn_iff hg0 hg1 (by omega) (by rw [tw_fi_of hfv0_1]; omega) ?_; rw [tw_fi_of hfv0_15]; have rf_xe5 : tw_el E a0 7 (y2_3.toInt).toNat = xe5.toInt := (by rw [tw_el_of hxr4]; exact congrArg Int32.toInt exe5); have rf_xe11 : tw_el E a0 6 (y2_3.toInt).toNat = xe11.toInt := (by rw [tw_el_of hxr10]; exact congrArg Int32.toInt exe11); refine Or.inr ⟨by omega, (y2_3.toInt).toNat, by omega, by rw [rf_xe5]; omega, ?_⟩; rw [rf_xe11]; have w := hpoxc13_0.1 (by omega); exact w)⟩, rfl, rfl, rfl⟩ (Nat.le_of_ble_eq_true rfl) (Nat.le_of_ble_eq_true rfl) dX12_kindNamed_36
  exact hJ2 11 (0 : Int32) _ _ ls (by have : ((0 : Int32).toInt) = 0 := (by decide); omega) (by have : ((0 : Int32).toInt) = 0 := (by decide); omega) (by have : ((0 : Int32).toInt) = 0 := (by decide); intro j hj; exact absurd hj (by omega)) (by have : ((0 : Int32).toInt) = 0 := (by decide); omega) (by have : ((0 : Int32).toInt) = 0 := (by decide);  omega) TH hS (lv_sub hl [0, 1, 2, 3] rfl)
