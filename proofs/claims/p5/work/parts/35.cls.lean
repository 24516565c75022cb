set_option maxHeartbeats 4000000 in
set_option maxRecDepth 100000 in
theorem tX2_isNamed (l : Launch) (D : va_G) (cs : Nat → ClassId) {kp : Nat → Nat} {L : List Nat} {E : Nat → va_E} (a0 : Nat) (x1 : Int32) (a2 : Nat) (x3 : Int32) (x4 : Int32) (hm0 : a0 ∈ L) (hk0 : kp a0 = 2) (hp1a : 0 ≤ x1.toInt) (hp1b : x1.toInt ≤ 9) (hm2 : a2 ∈ L) (hk2 : kp a2 = 100) (hp3a : 0 ≤ x3.toInt) (hp3b : x3.toInt ≤ 500) (hp4a : 0 ≤ x4.toInt) (hp4b : x4.toInt ≤ 500) (sz : Nat) : Met l yX2_isNamed (.code yX2_isNamed cX2_isNamed 7 (some .boolean) :: cx_big) { frames := 0, cells := 0, slots := 0, locals := 0 } (tw_P D cs kp L E [.ref a0, .int x1, .ref a2, .int x3, .int x4] sz) (tw_Q D cs kp L (fun v kq Lq Eq => (∃ x : Int32, v = some (.int x) ∧ 0 ≤ x.toInt ∧ x.toInt ≤ 1) ∧ kp = kq ∧ L = Lq ∧ E = Eq) (va_A (va_pl L E) sz)) 0 0 (va_A (va_pl L E) sz) := by
  refine tw_ofW (by decide) (Nat.le_of_ble_eq_true rfl) ?_
  intro p e s m below meth c A ls hx hb hr hml hB hown hlocks hK hN hA TH hS hl
  have hown : s.vm.findClass "TreeMerge$Grammar" = some m.cls := hown
  have hl : lv_has ls 7 [(0, .ref a0), (1, .int x1), (2, .ref a2), (3, .int x3), (4, .int x4)] := hl
  obtain ⟨kp0, ekp⟩ : ∃ z, z = kp := ⟨_, rfl⟩
  obtain ⟨L0, eL⟩ : ∃ z, z = L := ⟨_, rfl⟩
  rw [show tw_Q D cs kp L = tw_Q D cs kp0 L0 by rw [ekp, eL]]
  have hex : ∀ a : Nat, a ∈ L0 → a ∈ L ∧ kp a = kp0 a := fun a h => ⟨by rw [← eL]; exact h, by rw [ekp]⟩
  refine lv_aload_n hx hb dX2_isNamed_0 rfl (lv_at hl 0 rfl) ?_
  refine tw_get (ci := 2) (C := RX2) (T := TX2) (N := 13) hx hb hB cx_inX2 hown hK TH hm0 hk0 rfl ⟨by decide, rfl⟩ 2 (by decide) cw_70 (fun _ h9 => h9) dX2_isNamed_1 (fun hv => ?_)
  obtain ⟨xr1, hxr1, hmxr1, hkxr1⟩ : ∃ a : Nat, tw_fv E a0 2 = .ref a ∧ a ∈ L ∧ kp a = 130 := hv
  rw [hxr1]
  refine lv_iload_n hx hb dX2_isNamed_4 rfl (lv_at hl 1 rfl) ?_
  refine tw_iald (k := 130) (t0 := 0) (n := 10) (lo := 0) (hi := 500) hx hb hK TH hmxr1 hkxr1 (by decide) rfl rfl (i := x1) (vp_in_iff.mpr ⟨by  omega, by  omega⟩) dX2_isNamed_5 (fun hxe2a hxe2b => ?_)
  obtain ⟨xe2, exe2⟩ : ∃ z : Int32, tw_iv E xr1 (Int32.toNatClampNeg x1) = z := ⟨_, rfl⟩
  rw [exe2] at hxe2a hxe2b ⊢
  refine lv_iload_n hx hb dX2_isNamed_6 rfl (lv_at hl 3 rfl) ?_
  refine lv_isub hx hb dX2_isNamed_7 ?_
  refine lv_topi (fun zi3 ezi3 => ?_)
  have hzi3 : zi3.toInt = xe2.toInt - x3.toInt := by rw [ezi3];  have := ia_lo xe2; have := ia_hi xe2; have := ia_lo x3; have := ia_hi x3; exact (ia_sub (by omega) (by omega)).trans (by omega)
  refine lv_istore (lv' := [(5, .int zi3), (0, .ref a0), (1, .int x1), (2, .ref a2), (3, .int x3), (4, .int x4)]) hx hb dX2_isNamed_8 hl (by decide) rfl (fun ls hl => ?_)
  refine lv_aload_n hx hb dX2_isNamed_10 rfl (lv_at hl 1 rfl) ?_
  refine tw_get (ci := 2) (C := RX2) (T := TX2) (N := 13) hx hb hB cx_inX2 hown hK TH hm0 hk0 rfl ⟨by decide, rfl⟩ 3 (by decide) cw_72 (fun _ h9 => h9) dX2_isNamed_11 (fun hv => ?_)
  obtain ⟨xr4, hxr4, hmxr4, hkxr4⟩ : ∃ a : Nat, tw_fv E a0 3 = .ref a ∧ a ∈ L ∧ kp a = 137 := hv
  rw [hxr4]
  refine lv_iload_n hx hb dX2_isNamed_14 rfl (lv_at hl 2 rfl) ?_
  refine tw_iald (k := 137) (t0 := 0) (n := 10) (lo := 0) (hi := 500) hx hb hK TH hmxr4 hkxr4 (by decide) rfl rfl (i := x1) (vp_in_iff.mpr ⟨by  omega, by  omega⟩) dX2_isNamed_15 (fun hxe5a hxe5b => ?_)
  obtain ⟨xe5, exe5⟩ : ∃ z : Int32, tw_iv E xr4 (Int32.toNatClampNeg x1) = z := ⟨_, rfl⟩
  rw [exe5] at hxe5a hxe5b ⊢
  refine lv_iload hx hb dX2_isNamed_16 (lv_at hl 5 rfl) ?_
  refine lv_isub hx hb dX2_isNamed_18 ?_
  refine lv_topi (fun zi6 ezi6 => ?_)
  have hzi6 : zi6.toInt = xe5.toInt - x4.toInt := by rw [ezi6];  have := ia_lo xe5; have := ia_hi xe5; have := ia_lo x4; have := ia_hi x4; exact (ia_sub (by omega) (by omega)).trans (by omega)
  refine lv_iload hx hb dX2_isNamed_19 (lv_at hl 0 rfl) ?_
  refine lv_icmp_eq (tgt := 26) hx hb dX2_isNamed_21 (by decide) (fun hc7 => ?_) (fun hc7 => ?_)
  · have hf8 : zi6.toInt = zi3.toInt := by have z := (fa_eq _ _).mp hc7;  omega
    refine lv_iload_n hx hb dX2_isNamed_26 rfl (lv_at hl 4 rfl) ?_
    refine lv_istore (lv' := [(6, .int x3), (5, .int zi3), (0, .ref a0), (1, .int x1), (2, .ref a2), (3, .int x3), (4, .int x4)]) hx hb dX2_isNamed_27 hl (by decide) rfl (fun ls hl => ?_)
    have hJ29 : ∀ (n29 : Nat) (y29_6 : Int32) (H : Heap) (locs : List Loc) (ls : Array Slot), 0 ≤ y29_6.toInt → y29_6.toInt ≤ 500 → (x3.toInt ≤ y29_6.toInt) → 500 - y29_6.toInt ≤ (n29 : Int) → tw_H D cs kp L E A H → va_S A s.heap H locs → lv_has ls 7 [(6, .int y29_6), (5, .int zi3), (0, .ref a0), (2, .ref a2), (3, .int x3), (4, .int x4)] → W p l e { frames := 0, cells := 0, slots := 0, locals := 0 } s m [.ref a0, .int x1, .ref a2, .int x3, .int x4].toArray below meth c H locs 0 0 (MQ below (tw_Q D cs kp0 L0 (fun v kq Lq Eq => (∃ x : Int32, v = some (.int x) ∧ 0 ≤ x.toInt ∧ x.toInt ≤ 1) ∧ kp = kq ∧ L = Lq ∧ E = Eq) A) [.ref a0, .int x1, .ref a2, .int x3, .int x4].toArray s 0 0 A) (F0 m 29 ls []) := by
      intro n29
      induction n29 using Nat.strongRecOn with
      | _ n29 ih29 =>
        intro y29_6 H locs ls hy29_6a hy29_6b hin29_0 hmeas29 TH hS hl
        refine lv_iload hx hb dX2_isNamed_29 (lv_at hl 0 rfl) ?_
        refine lv_iload hx hb dX2_isNamed_31 (lv_at hl 5 rfl) ?_
        refine lv_icmp_ge (tgt := 61) hx hb dX2_isNamed_33 (by decide) (fun hc9 => ?_) (fun hc9 => ?_)
        · have hf10 : x4.toInt ≤ y29_6.toInt := by have z := (fa_le _ _).mp hc9;  omega
          refine lv_iconst (v := 1) hx hb dX2_isNamed_61 (by decide) ?_
          exact tw_zret hx hb hr hlocks (by decide) TH hS hex ⟨⟨_, rfl, (show 0 ≤ Int32.toInt 1 from by have : ((1 : Int32).toInt) = 1 := (by decide); omega), (show Int32.toInt 1 ≤ 1 from by have : ((1 : Int32).toInt) = 1 := (by decide); omega)⟩, rfl, rfl, rfl⟩ (Nat.le_of_ble_eq_true rfl) (Nat.le_of_ble_eq_true rfl) dX2_isNamed_62
        · have hf11 : ¬ (x4.toInt ≤ y29_6.toInt) := fun q => hc9 ((fa_le _ _).mpr (by  omega))
          refine lv_aload_n hx hb dX2_isNamed_36 rfl (lv_at hl 3 rfl) ?_
          refine lv_iload hx hb dX2_isNamed_37 (lv_at hl 0 rfl) ?_
          refine tw_iald (k := 100) (t0 := 0) (n := 500) (lo := 0) (hi := 255) hx hb hK TH hm2 hk2 (by decide) rfl rfl (i := y29_6) (vp_in_iff.mpr ⟨by  omega, by  omega⟩) dX2_isNamed_39 (fun hxe12a hxe12b => ?_)
          obtain ⟨xe12, exe12⟩ : ∃ z : Int32, tw_iv E a2 (Int32.toNatClampNeg y29_6) = z := ⟨_, rfl⟩
          rw [exe12] at hxe12a hxe12b ⊢
          refine lv_aload_n hx hb dX2_isNamed_40 rfl (lv_at hl 2 rfl) ?_
          refine tw_get (ci := 2) (C := RX2) (T := TX2) (N := 13) hx hb hB cx_inX2 hown hK TH hm0 hk0 rfl ⟨by decide, rfl⟩ 0 (by decide) cw_66 (fun _ h9 => h9) dX2_isNamed_41 (fun hv => ?_)
          obtain ⟨xr13, hxr13, hmxr13, hkxr13⟩ : ∃ a : Nat, tw_fv E a0 0 = .ref a ∧ a ∈ L ∧ kp a = 100 := hv
          rw [hxr13]
          refine lv_iload hx hb dX2_isNamed_44 (lv_at hl 0 rfl) ?_
          refine lv_iload hx hb dX2_isNamed_46 (lv_at hl 1 rfl) ?_
          refine lv_iadd hx hb dX2_isNamed_48 ?_
          refine lv_topi (fun zi14 ezi14 => ?_)
          have hzi14 : zi14.toInt = y29_6.toInt + zi3.toInt := by rw [ezi14];  have := ia_lo y29_6; have := ia_hi y29_6; have := ia_lo zi3; have := ia_hi zi3; exact (ia_add (by omega) (by omega)).trans (by omega)
          refine tw_iald (k := 100) (t0 := 0) (n := 500) (lo := 0) (hi := 255) hx hb hK TH hmxr13 hkxr13 (by decide) rfl rfl (i := zi14) (vp_in_iff.mpr ⟨by  omega, by  omega⟩) dX2_isNamed_49 (fun hxe15a hxe15b => ?_)
          obtain ⟨xe15, exe15⟩ : ∃ z : Int32, tw_iv E xr13 (Int32.toNatClampNeg zi14) = z := ⟨_, rfl⟩
          rw [exe15] at hxe15a hxe15b ⊢
          refine lv_icmp_eq (tgt := 55) hx hb dX2_isNamed_50 (by decide) (fun hc16 => ?_) (fun hc16 => ?_)
          · have hf17 : xe12.toInt = xe15.toInt := by have z := (fa_eq _ _).mp hc16;  omega
            obtain ⟨zi18, ezi18⟩ : ∃ z : Int32, z = y29_6 + Int32.ofInt 1 := ⟨_, rfl⟩
            have hzi18 : zi18.toInt = y29_6.toInt + 1 := by rw [ezi18]; have : ((Int32.ofInt 1).toInt) = 1 := (by decide);  exact (ia_add (by omega) (by omega)).trans (by omega)
            refine lv_iinc (v := zi18) (lv' := [(6, .int zi18), (5, .int zi3), (0, .ref a0), (2, .ref a2), (3, .int x3), (4, .int x4)]) hx hb dX2_isNamed_55 hl (k := 0) rfl ezi18.symm (by decide) rfl (fun ls hl => ?_)
            refine lv_goto (tgt := 29) hx hb dX2_isNamed_58 (by decide) ?_
            exact ih29 (n29 - 1) (by   omega) zi18 _ _ ls (by omega) (by omega) (by  omega) (by   omega) TH hS (lv_sub hl [0, 1, 2, 3, 4, 5] rfl)
          · have hf19 : ¬ (xe12.toInt = xe15.toInt) := fun q => hc16 ((fa_eq _ _).mpr (by  omega))
            refine lv_iconst (v := 0) hx hb dX2_isNamed_53 (by decide) ?_
            exact tw_zret hx hb hr hlocks (by decide) TH hS hex ⟨⟨_, rfl, (show 0 ≤ Int32.toInt 0 from by have : ((0 : Int32).toInt) = 0 := (by decide); omega), (show Int32.toInt 0 ≤ 1 from by have : ((0 : Int32).toInt) = 0 := (by decide); omega)⟩, rfl, rfl, rfl⟩ (Nat.le_of_ble_eq_true rfl) (Nat.le_of_ble_eq_true rfl) dX2_isNamed_54
    exact hJ29 501 x3 _ _ ls (by omega) (by omega) (by  omega) (by   omega) TH hS (lv_sub hl [0, 1, 2, 4, 5, 6] rfl)
  · have hf20 : ¬ (zi6.toInt = zi3.toInt) := fun q => hc7 ((fa_eq _ _).mpr (by  omega))
    refine lv_iconst (v := 0) hx hb dX2_isNamed_24 (by decide) ?_
    exact tw_zret hx hb hr hlocks (by decide) TH hS hex ⟨⟨_, rfl, (show 0 ≤ Int32.toInt 0 from by have : ((0 : Int32).toInt) = 0 := (by decide); omega), (show Int32.toInt 0 ≤ 1 from by have : ((0 : Int32).toInt) = 0 := (by decide); omega)⟩, rfl, rfl, rfl⟩ (Nat.le_of_ble_eq_true rfl) (Nat.le_of_ble_eq_true rfl) dX2_isNamed_25
set_option maxHeartbeats 4000000 in
set_option maxRecDepth 100000 in
theorem tX2_kindOf (l : Launch) (D : va_G) (cs : Nat → ClassId) {kp : Nat → Nat} {L : List Nat} {E : Nat → va_E} (a0 : Nat) (a1 : Nat) (x2 : Int32) (x3 : Int32) (hm0 : a0 ∈ L) (hk0 : kp a0 = 2) (hm1 : a1 ∈ L) (hk1 : kp a1 = 100) (hp2a : 0 ≤ x2.toInt) (hp2b : x2.toInt ≤ 500) (hp3a : 0 ≤ x3.toInt) (hp3b : x3.toInt ≤ 500) (sz : Nat) : Met l yX2_kindOf (.code yX2_kindOf cX2_kindOf 5 (some .int) :: cx_big) { frames := 1, cells := 0, slots := 0, locals := 26 } (tw_P D cs kp L E [.ref a0, .ref a1, .int x2, .int x3] sz) (tw_Q D cs kp L (fun v kq Lq Eq => (∃ x : Int32, v = some (.int x) ∧ (-1) ≤ x.toInt ∧ x.toInt ≤ 9) ∧ kp = kq ∧ L = Lq ∧ E = Eq) (va_A (va_pl L E) sz)) 0 0 (va_A (va_pl L E) sz) := by
  refine tw_ofW (by decide) (Nat.le_of_ble_eq_true rfl) ?_
  intro p e s m below meth c A ls hx hb hr hml hB hown hlocks hK hN hA TH hS hl
  have hown : s.vm.findClass "TreeMerge$Grammar" = some m.cls := hown
  have hl : lv_has ls 5 [(0, .ref a0), (1, .ref a1), (2, .int x2), (3, .int x3)] := hl
  obtain ⟨kp0, ekp⟩ : ∃ z, z = kp := ⟨_, rfl⟩
  obtain ⟨L0, eL⟩ : ∃ z, z = L := ⟨_, rfl⟩
  rw [show tw_Q D cs kp L = tw_Q D cs kp0 L0 by rw [ekp, eL]]
  have hex : ∀ a : Nat, a ∈ L0 → a ∈ L ∧ kp a = kp0 a := fun a h => ⟨by rw [← eL]; exact h, by rw [ekp]⟩
  refine lv_iconst (v := 0) hx hb dX2_kindOf_0 (by decide) ?_
  refine lv_istore (lv' := [(4, .int 0), (0, .ref a0), (1, .ref a1), (2, .int x2), (3, .int x3)]) hx hb dX2_kindOf_1 hl (by decide) rfl (fun ls hl => ?_)
  have hJ3 : ∀ (n3 : Nat) (y3_4 : Int32) (H : Heap) (locs : List Loc) (ls : Array Slot), 0 ≤ y3_4.toInt → y3_4.toInt ≤ 10 → 10 - y3_4.toInt ≤ (n3 : Int) → tw_H D cs kp L E A H → va_S A s.heap H locs → lv_has ls 5 [(4, .int y3_4), (0, .ref a0), (1, .ref a1), (2, .int x2), (3, .int x3)] → W p l e { frames := 1, cells := 0, slots := 0, locals := 26 } s m [.ref a0, .ref a1, .int x2, .int x3].toArray below meth c H locs 0 0 (MQ below (tw_Q D cs kp0 L0 (fun v kq Lq Eq => (∃ x : Int32, v = some (.int x) ∧ (-1) ≤ x.toInt ∧ x.toInt ≤ 9) ∧ kp = kq ∧ L = Lq ∧ E = Eq) A) [.ref a0, .ref a1, .int x2, .int x3].toArray s 0 0 A) (F0 m 3 ls []) := by
    intro n3
    induction n3 using Nat.strongRecOn with
    | _ n3 ih3 =>
      intro y3_4 H locs ls hy3_4a hy3_4b hmeas3 TH hS hl
      refine lv_iload hx hb dX2_kindOf_3 (lv_at hl 0 rfl) ?_
      refine lv_aload_n hx hb dX2_kindOf_5 rfl (lv_at hl 1 rfl) ?_
      refine tw_get (ci := 2) (C := RX2) (T := TX2) (N := 13) hx hb hB cx_inX2 hown hK TH hm0 hk0 rfl ⟨by decide, rfl⟩ 1 (by decide) cw_68 (fun _ h9 => h9) dX2_kindOf_6 (fun hv => ?_)
      obtain ⟨xi1, hxi1, hxi1a, hxi1b⟩ : ∃ x : Int32, tw_fv E a0 1 = .int x ∧ 0 ≤ x.toInt ∧ x.toInt ≤ 10 := hv
      rw [hxi1]
      refine lv_icmp_ge (tgt := 33) hx hb dX2_kindOf_9 (by decide) (fun hc2 => ?_) (fun hc2 => ?_)
      · have hf3 : xi1.toInt ≤ y3_4.toInt := by have z := (fa_le _ _).mp hc2;  omega
        refine lv_iconst (v := (-1)) hx hb dX2_kindOf_33 (by decide) ?_
        exact tw_iret hx hb hr hlocks TH hS hex ⟨⟨_, rfl, (show (-1) ≤ Int32.toInt (-1) from by have : (((-1) : Int32).toInt) = (-1) := (by decide); omega), (show Int32.toInt (-1) ≤ 9 from by have : (((-1) : Int32).toInt) = (-1) := (by decide); omega)⟩, rfl, rfl, rfl⟩ (Nat.le_of_ble_eq_true rfl) (Nat.le_of_ble_eq_true rfl) dX2_kindOf_34
      · have hf4 : ¬ (xi1.toInt ≤ y3_4.toInt) := fun q => hc2 ((fa_le _ _).mpr (by  omega))
        refine lv_aload_n hx hb dX2_kindOf_12 rfl (lv_at hl 1 rfl) ?_
        refine lv_iload hx hb dX2_kindOf_13 (lv_at hl 0 rfl) ?_
        refine lv_aload_n hx hb dX2_kindOf_15 rfl (lv_at hl 2 rfl) ?_
        refine lv_iload_n hx hb dX2_kindOf_16 rfl (lv_at hl 3 rfl) ?_
        refine lv_iload_n hx hb dX2_kindOf_17 rfl (lv_at hl 4 rfl) ?_
        refine tw_Vc (o := a0) (ci := 2) (n := 4) (post := (fun v kq Lq Eq => (∃ x : Int32, v = some (.int x) ∧ 0 ≤ x.toInt ∧ x.toInt ≤ 1) ∧ kp = kq ∧ L = Lq ∧ E = Eq)) (As := [.int y3_4, .ref a1, .int x2, .int x3]) (rest := []) ⟨hx, hb, hml, hown, hB⟩ (fun sz => tX2_isNamed l D cs a0 y3_4 a1 x2 x3 hm0 hk0 (by omega) (by omega) hm1 hk1 (by omega) (by omega) (by omega) (by omega) sz) cg_2_102_X2_isNamed rfl rfl (by decide +kernel) ⟨Nat.le_of_ble_eq_true rfl, Nat.le_of_ble_eq_true rfl⟩ hK hN TH hS hA rfl hm0 hk0 (by decide) rfl hl.1 rfl (Nat.le_of_ble_eq_true rfl) dX2_kindOf_18 ⟨Nat.le_of_ble_eq_true rfl, Nat.le_of_ble_eq_true rfl⟩ (fun v5 kp5 L5 E5 H locs hq5 hx5 TH hS => ?_)
        obtain ⟨⟨xc6, rfl, hxc6a, hxc6b⟩, rfl, rfl, rfl⟩ := hq5
        refine W.eq (g2 := F0 m 21 ls [.int xc6]) rfl ?_
        refine lv_if_eq (tgt := 27) hx hb dX2_kindOf_21 (by decide) (fun hc7 => ?_) (fun hc7 => ?_)
        · have hf8 : xc6.toInt = 0 := by have z := (fa_eq _ _).mp hc7; have : ((0 : Int32).toInt) = 0 := (by decide); omega
          obtain ⟨zi9, ezi9⟩ : ∃ z : Int32, z = y3_4 + Int32.ofInt 1 := ⟨_, rfl⟩
          have hzi9 : zi9.toInt = y3_4.toInt + 1 := by rw [ezi9]; have : ((Int32.ofInt 1).toInt) = 1 := (by decide);  exact (ia_add (by omega) (by omega)).trans (by omega)
          refine lv_iinc (v := zi9) (lv' := [(4, .int zi9), (0, .ref a0), (1, .ref a1), (2, .int x2), (3, .int x3)]) hx hb dX2_kindOf_27 hl (k := 0) rfl ezi9.symm (by decide) rfl (fun ls hl => ?_)
          refine lv_goto (tgt := 3) hx hb dX2_kindOf_30 (by decide) ?_
          exact ih3 (n3 - 1) (by   omega) zi9 _ _ ls (by omega) (by omega) (by   omega) TH hS (lv_sub hl [0, 1, 2, 3, 4] rfl)
        · have hf10 : ¬ (xc6.toInt = 0) := fun q => hc7 ((fa_eq _ _).mpr (by have : ((0 : Int32).toInt) = 0 := (by decide); omega))
          refine lv_iload hx hb dX2_kindOf_24 (lv_at hl 0 rfl) ?_
          exact tw_iret hx hb hr hlocks TH hS hex ⟨⟨_, rfl, (show (-1) ≤ Int32.toInt y3_4 from by  omega), (show Int32.toInt y3_4 ≤ 9 from by  omega)⟩, rfl, rfl, rfl⟩ (Nat.le_of_ble_eq_true rfl) (Nat.le_of_ble_eq_true rfl) dX2_kindOf_26
  exact hJ3 11 (0 : Int32) _ _ ls (by have : ((0 : Int32).toInt) = 0 := (by decide); omega) (by have : ((0 : Int32).toInt) = 0 := (by decide); omega) (by have : ((0 : Int32).toInt) = 0 := (by decide);  omega) TH hS (lv_sub hl [0, 1, 2, 3, 4] rfl)
set_option maxHeartbeats 4000000 in
set_option maxRecDepth 100000 in
theorem tX2_kindAt (l : Launch) (D : va_G) (cs : Nat → ClassId) {kp : Nat → Nat} {L : List Nat} {E : Nat → va_E} (a0 : Nat) (a1 : Nat) (hm0 : a0 ∈ L) (hk0 : kp a0 = 2) (hm1 : a1 ∈ L) (hk1 : kp a1 = 9) (sz : Nat) : Met l yX2_kindAt (.code yX2_kindAt cX2_kindAt 2 (some .int) :: cx_big) { frames := 2, cells := 0, slots := 0, locals := 50 } (tw_P D cs kp L E [.ref a0, .ref a1] sz) (tw_Q D cs kp L (fun v kq Lq Eq => (∃ x : Int32, v = some (.int x) ∧ (-1) ≤ x.toInt ∧ x.toInt ≤ 9) ∧ kp = kq ∧ L = Lq ∧ E = Eq) (va_A (va_pl L E) sz)) 0 0 (va_A (va_pl L E) sz) := by
  refine tw_ofW (by decide) (Nat.le_of_ble_eq_true rfl) ?_
  intro p e s m below meth c A ls hx hb hr hml hB hown hlocks hK hN hA TH hS hl
  have hown : s.vm.findClass "TreeMerge$Grammar" = some m.cls := hown
  have hl : lv_has ls 2 [(0, .ref a0), (1, .ref a1)] := hl
  obtain ⟨kp0, ekp⟩ : ∃ z, z = kp := ⟨_, rfl⟩
  obtain ⟨L0, eL⟩ : ∃ z, z = L := ⟨_, rfl⟩
  rw [show tw_Q D cs kp L = tw_Q D cs kp0 L0 by rw [ekp, eL]]
  have hex : ∀ a : Nat, a ∈ L0 → a ∈ L ∧ kp a = kp0 a := fun a h => ⟨by rw [← eL]; exact h, by rw [ekp]⟩
  refine lv_aload_n hx hb dX2_kindAt_0 rfl (lv_at hl 0 rfl) ?_
  refine lv_aload_n hx hb dX2_kindAt_1 rfl (lv_at hl 1 rfl) ?_
  refine tw_get (ci := 9) (C := RX9) (T := TX9) (N := 5) hx hb hB cx_inX9 hown hK TH hm1 hk1 rfl ⟨by decide, rfl⟩ 0 (by decide) cw_35 (fun _ h9 => h9) dX2_kindAt_2 (fun hv => ?_)
  obtain ⟨xr1, hxr1, hmxr1, hkxr1⟩ : ∃ a : Nat, tw_fv E a1 0 = .ref a ∧ a ∈ L ∧ kp a = 100 := hv
  rw [hxr1]
  refine lv_aload_n hx hb dX2_kindAt_5 rfl (lv_at hl 1 rfl) ?_
  refine tw_get (ci := 9) (C := RX9) (T := TX9) (N := 5) hx hb hB cx_inX9 hown hK TH hm1 hk1 rfl ⟨by decide, rfl⟩ 3 (by decide) cw_44 (fun _ h9 => h9) dX2_kindAt_6 (fun hv => ?_)
  obtain ⟨xi2, hxi2, hxi2a, hxi2b⟩ : ∃ x : Int32, tw_fv E a1 3 = .int x ∧ 0 ≤ x.toInt ∧ x.toInt ≤ 500 := hv
  rw [hxi2]
  refine lv_aload_n hx hb dX2_kindAt_9 rfl (lv_at hl 1 rfl) ?_
  refine tw_get (ci := 9) (C := RX9) (T := TX9) (N := 5) hx hb hB cx_inX9 hown hK TH hm1 hk1 rfl ⟨by decide, rfl⟩ 4 (by decide) cw_47 (fun _ h9 => h9) dX2_kindAt_10 (fun hv => ?_)
  obtain ⟨xi3, hxi3, hxi3a, hxi3b⟩ : ∃ x : Int32, tw_fv E a1 4 = .int x ∧ 0 ≤ x.toInt ∧ x.toInt ≤ 500 := hv
  rw [hxi3]
  refine tw_Vc (o := a0) (ci := 2) (n := 3) (post := (fun v kq Lq Eq => (∃ x : Int32, v = some (.int x) ∧ (-1) ≤ x.toInt ∧ x.toInt ≤ 9) ∧ kp = kq ∧ L = Lq ∧ E = Eq)) (As := [.ref xr1, .int xi2, .int xi3]) (rest := []) ⟨hx, hb, hml, hown, hB⟩ (fun sz => tX2_kindOf l D cs a0 xr1 xi2 xi3 hm0 hk0 hmxr1 hkxr1 (by omega) (by omega) (by omega) (by omega) sz) cg_2_98_X2_kindOf rfl rfl (by decide +kernel) ⟨Nat.le_of_ble_eq_true rfl, Nat.le_of_ble_eq_true rfl⟩ hK hN TH hS hA rfl hm0 hk0 (by decide) rfl hl.1 rfl (Nat.le_of_ble_eq_true rfl) dX2_kindAt_13 ⟨Nat.le_of_ble_eq_true rfl, Nat.le_of_ble_eq_true rfl⟩ (fun v4 kp4 L4 E4 H locs hq4 hx4 TH hS => ?_)
  obtain ⟨⟨xc5, rfl, hxc5a, hxc5b⟩, rfl, rfl, rfl⟩ := hq4
  refine W.eq (g2 := F0 m 16 ls [.int xc5]) rfl ?_
  exact tw_iret hx hb hr hlocks TH hS hex ⟨⟨_, rfl, (show (-1) ≤ Int32.toInt xc5 from by  omega), (show Int32.toInt xc5 ≤ 9 from by  omega)⟩, rfl, rfl, rfl⟩ (Nat.le_of_ble_eq_true rfl) (Nat.le_of_ble_eq_true rfl) dX2_kindAt_16
set_option maxHeartbeats 4000000 in
set_option maxRecDepth 100000 in
theorem tX2_resolveItems (l : Launch) (D : va_G) (cs : Nat → ClassId) {kp : Nat → Nat} {L : List Nat} {E : Nat → va_E} (a0 : Nat) (hm0 : a0 ∈ L) (hk0 : kp a0 = 2) (sz : Nat) : Met l yX2_resolveItems (.code yX2_resolveItems cX2_resolveItems 2 (some .int) :: cx_big) { frames := 2, cells := 0, slots := 0, locals := 50 } (tw_P D cs kp L E [.ref a0] sz) (tw_Q D cs kp L (fun v kq Lq Eq => (∃ x : Int32, v = some (.int x) ∧ (-1) ≤ x.toInt ∧ x.toInt ≤ 500) ∧ kp = kq ∧ L = Lq ∧ tw_fr kp L [] [133] E Eq) (va_A (va_pl L E) sz)) 0 0 (va_A (va_pl L E) sz) := by
  refine tw_ofW (by decide) (Nat.le_of_ble_eq_true rfl) ?_
  intro p e s m below meth c A ls hx hb hr hml hB hown hlocks hK hN hA TH hS hl
  have hown : s.vm.findClass "TreeMerge$Grammar" = some m.cls := hown
  have hl : lv_has ls 2 [(0, .ref a0)] := hl
  obtain ⟨kp0, ekp⟩ : ∃ z, z = kp := ⟨_, rfl⟩
  obtain ⟨L0, eL⟩ : ∃ z, z = L := ⟨_, rfl⟩
  rw [show tw_Q D cs kp L = tw_Q D cs kp0 L0 by rw [ekp, eL]]
  have hex : ∀ a : Nat, a ∈ L0 → a ∈ L ∧ kp a = kp0 a := fun a h => ⟨by rw [← eL]; exact h, by rw [ekp]⟩
  have hF : tw_fr kp L [] [133] E E := tw_fr.rf
  refine lv_iconst (v := 0) hx hb dX2_resolveItems_0 (by decide) ?_
  refine lv_istore_n (lv' := [(1, .int 0), (0, .ref a0)]) hx hb dX2_resolveItems_1 rfl hl (by decide) rfl (fun ls hl => ?_)
  have hJ2 : ∀ (n2 : Nat) (y2_1 : Int32) (Eg2 : Nat → va_E) (H : Heap) (locs : List Loc) (ls : Array Slot), 0 ≤ y2_1.toInt → y2_1.toInt ≤ 500 → 500 - y2_1.toInt ≤ (n2 : Int) → tw_fr kp L [] [133] E Eg2 → tw_H D cs kp L Eg2 A H → va_S A s.heap H locs → lv_has ls 2 [(1, .int y2_1), (0, .ref a0)] → W p l e { frames := 2, cells := 0, slots := 0, locals := 50 } s m [.ref a0].toArray below meth c H locs 0 0 (MQ below (tw_Q D cs kp0 L0 (fun v kq Lq Eq => (∃ x : Int32, v = some (.int x) ∧ (-1) ≤ x.toInt ∧ x.toInt ≤ 500) ∧ kp = kq ∧ L = Lq ∧ tw_fr kp L [] [133] E Eq) A) [.ref a0].toArray s 0 0 A) (F0 m 2 ls []) := by
    intro n2
    induction n2 using Nat.strongRecOn with
    | _ n2 ih2 =>
      intro y2_1 Eg2 H locs ls hy2_1a hy2_1b hmeas2 hG2 TH hS hl
      have hF := hF.tr hG2 (fun _ h => ⟨h, rfl⟩) (by decide) (by decide)
      refine lv_iload_n hx hb dX2_resolveItems_2 rfl (lv_at hl 0 rfl) ?_
      refine lv_aload_n hx hb dX2_resolveItems_3 rfl (lv_at hl 1 rfl) ?_
      refine tw_get (ci := 2) (C := RX2) (T := TX2) (N := 13) hx hb hB cx_inX2 hown hK TH hm0 hk0 rfl ⟨by decide, rfl⟩ 7 (by decide) cw_77 (fun _ h9 => h9) dX2_resolveItems_4 (fun hv => ?_)
      obtain ⟨xi1, hxi1, hxi1a, hxi1b⟩ : ∃ x : Int32, tw_fv Eg2 a0 7 = .int x ∧ 0 ≤ x.toInt ∧ x.toInt ≤ 500 := hv
      rw [hxi1]
      refine lv_icmp_ge (tgt := 59) hx hb dX2_resolveItems_7 (by decide) (fun hc2 => ?_) (fun hc2 => ?_)
      · have hf3 : xi1.toInt ≤ y2_1.toInt := by have z := (fa_le _ _).mp hc2;  omega
        refine lv_iconst (v := (-1)) hx hb dX2_resolveItems_59 (by decide) ?_
        exact tw_iret hx hb hr hlocks TH hS hex ⟨⟨_, rfl, (show (-1) ≤ Int32.toInt (-1) from by have : (((-1) : Int32).toInt) = (-1) := (by decide); omega), (show Int32.toInt (-1) ≤ 500 from by have : (((-1) : Int32).toInt) = (-1) := (by decide); omega)⟩, rfl, rfl, hF⟩ (Nat.le_of_ble_eq_true rfl) (Nat.le_of_ble_eq_true rfl) dX2_resolveItems_60
      · have hf4 : ¬ (xi1.toInt ≤ y2_1.toInt) := fun q => hc2 ((fa_le _ _).mpr (by  omega))
        refine lv_aload_n hx hb dX2_resolveItems_10 rfl (lv_at hl 1 rfl) ?_
        refine tw_get (ci := 2) (C := RX2) (T := TX2) (N := 13) hx hb hB cx_inX2 hown hK TH hm0 hk0 rfl ⟨by decide, rfl⟩ 10 (by decide) cw_80 (fun _ h9 => h9) dX2_resolveItems_11 (fun hv => ?_)
        obtain ⟨xr5, hxr5, hmxr5, hkxr5⟩ : ∃ a : Nat, tw_fv Eg2 a0 10 = .ref a ∧ a ∈ L ∧ kp a = 133 := hv
        rw [hxr5]
        refine lv_iload_n hx hb dX2_resolveItems_14 rfl (lv_at hl 0 rfl) ?_
        refine lv_aload_n hx hb dX2_resolveItems_15 rfl (lv_at hl 1 rfl) ?_
        refine lv_aload_n hx hb dX2_resolveItems_16 rfl (lv_at hl 1 rfl) ?_
        refine tw_get (ci := 2) (C := RX2) (T := TX2) (N := 13) hx hb hB cx_inX2 hown hK TH hm0 hk0 rfl ⟨by decide, rfl⟩ 0 (by decide) cw_66 (fun _ h9 => h9) dX2_resolveItems_17 (fun hv => ?_)
        obtain ⟨xr6, hxr6, hmxr6, hkxr6⟩ : ∃ a : Nat, tw_fv Eg2 a0 0 = .ref a ∧ a ∈ L ∧ kp a = 100 := hv
        rw [hxr6]
        refine lv_aload_n hx hb dX2_resolveItems_20 rfl (lv_at hl 1 rfl) ?_
        refine tw_get (ci := 2) (C := RX2) (T := TX2) (N := 13) hx hb hB cx_inX2 hown hK TH hm0 hk0 rfl ⟨by decide, rfl⟩ 8 (by decide) cw_78 (fun _ h9 => h9) dX2_resolveItems_21 (fun hv => ?_)
        obtain ⟨xr7, hxr7, hmxr7, hkxr7⟩ : ∃ a : Nat, tw_fv Eg2 a0 8 = .ref a ∧ a ∈ L ∧ kp a = 132 := hv
        rw [hxr7]
        refine lv_iload_n hx hb dX2_resolveItems_24 rfl (lv_at hl 0 rfl) ?_
        refine tw_iald (k := 132) (t0 := 0) (n := 500) (lo := 0) (hi := 500) hx hb hK TH hmxr7 hkxr7 (by decide) rfl rfl (i := y2_1) (vp_in_iff.mpr ⟨by  omega, by  omega⟩) dX2_resolveItems_25 (fun hxe8a hxe8b => ?_)
        obtain ⟨xe8, exe8⟩ : ∃ z : Int32, tw_iv Eg2 xr7 (Int32.toNatClampNeg y2_1) = z := ⟨_, rfl⟩
        rw [exe8] at hxe8a hxe8b ⊢
        refine lv_aload_n hx hb dX2_resolveItems_26 rfl (lv_at hl 1 rfl) ?_
        refine tw_get (ci := 2) (C := RX2) (T := TX2) (N := 13) hx hb hB cx_inX2 hown hK TH hm0 hk0 rfl ⟨by decide, rfl⟩ 9 (by decide) cw_79 (fun _ h9 => h9) dX2_resolveItems_27 (fun hv => ?_)
        obtain ⟨xr9, hxr9, hmxr9, hkxr9⟩ : ∃ a : Nat, tw_fv Eg2 a0 9 = .ref a ∧ a ∈ L ∧ kp a = 139 := hv
        rw [hxr9]
        refine lv_iload_n hx hb dX2_resolveItems_30 rfl (lv_at hl 0 rfl) ?_
        refine tw_iald (k := 139) (t0 := 0) (n := 500) (lo := 0) (hi := 500) hx hb hK TH hmxr9 hkxr9 (by decide) rfl rfl (i := y2_1) (vp_in_iff.mpr ⟨by  omega, by  omega⟩) dX2_resolveItems_31 (fun hxe10a hxe10b => ?_)
        obtain ⟨xe10, exe10⟩ : ∃ z : Int32, tw_iv Eg2 xr9 (Int32.toNatClampNeg y2_1) = z := ⟨_, rfl⟩
        rw [exe10] at hxe10a hxe10b ⊢
        refine tw_Vc (o := a0) (ci := 2) (n := 3) (post := (fun v kq Lq Eq => (∃ x : Int32, v = some (.int x) ∧ (-1) ≤ x.toInt ∧ x.toInt ≤ 9) ∧ kp = kq ∧ L = Lq ∧ Eg2 = Eq)) (As := [.ref xr6, .int xe8, .int xe10]) (rest := [.int y2_1, .ref xr5]) ⟨hx, hb, hml, hown, hB⟩ (fun sz => tX2_kindOf l D cs a0 xr6 xe8 xe10 hm0 hk0 hmxr6 hkxr6 (by omega) (by omega) (by omega) (by omega) sz) cg_2_98_X2_kindOf rfl rfl (by decide +kernel) ⟨Nat.le_of_ble_eq_true rfl, Nat.le_of_ble_eq_true rfl⟩ hK hN TH hS hA rfl hm0 hk0 (by decide) rfl hl.1 rfl (Nat.le_of_ble_eq_true rfl) dX2_resolveItems_32 ⟨Nat.le_of_ble_eq_true rfl, Nat.le_of_ble_eq_true rfl⟩ (fun v11 kp11 L11 E11 H locs hq11 hx11 TH hS => ?_)
        obtain ⟨⟨xc12, rfl, hxc12a, hxc12b⟩, rfl, rfl, rfl⟩ := hq11
        refine W.eq (g2 := F0 m 35 ls [.int xc12, .int y2_1, .ref xr5]) rfl ?_
        refine tw_iast (k := 133) (n := 500) (lo := (-1)) (hi := 9) hx hb hK TH hS hmxr5 hkxr5 (by decide) rfl (i := y2_1) (x := xc12) (vp_in_iff.mpr ⟨by  omega, by  omega⟩) (by omega) (by omega) dX2_resolveItems_35 (fun H locs E13 TH hS hp14 hp15 hp16 => ?_)
        have hst17 : tw_fr kp L [] [133] Eg2 E13 := tw_fr.ast tw_fr.rf (fun _ => hkxr5) hp14 hp15 (by decide)
        have hF := hF.tr hst17 (fun _ h => ⟨h, rfl⟩) (by decide) (by decide)
        have hG2 := hG2.tr hst17 (fun _ h => ⟨h, rfl⟩) (by decide) (by decide)
        have hmf18 : tw_fv E13 a0 7 = .int xi1 := (hst17.1 a0 7 hm0 (by rw [hk0]; decide)).trans hxi1
        have hmf19 : tw_fv E13 a0 10 = .ref xr5 := (hst17.1 a0 10 hm0 (by rw [hk0]; decide)).trans hxr5
        have hmf20 : tw_fv E13 a0 0 = .ref xr6 := (hst17.1 a0 0 hm0 (by rw [hk0]; decide)).trans hxr6
        have hmf21 : tw_fv E13 a0 8 = .ref xr7 := (hst17.1 a0 8 hm0 (by rw [hk0]; decide)).trans hxr7
        have hmf22 : tw_fv E13 a0 9 = .ref xr9 := (hst17.1 a0 9 hm0 (by rw [hk0]; decide)).trans hxr9
        refine lv_aload_n hx hb dX2_resolveItems_36 rfl (lv_at hl 1 rfl) ?_
        refine tw_get (ci := 2) (C := RX2) (T := TX2) (N := 13) hx hb hB cx_inX2 hown hK TH hm0 hk0 rfl ⟨by decide, rfl⟩ 10 (by decide) cw_80 (fun _ h9 => h9) dX2_resolveItems_37 (fun hv => ?_)
        rw [hmf19]
        refine lv_iload_n hx hb dX2_resolveItems_40 rfl (lv_at hl 0 rfl) ?_
        refine tw_iald (k := 133) (t0 := 0) (n := 500) (lo := (-1)) (hi := 9) hx hb hK TH hmxr5 hkxr5 (by decide) rfl rfl (i := y2_1) (vp_in_iff.mpr ⟨by  omega, by  omega⟩) dX2_resolveItems_41 (fun hxe23a hxe23b => ?_)
        obtain ⟨xe23, exe23⟩ : ∃ z : Int32, tw_iv E13 xr5 (Int32.toNatClampNeg y2_1) = z := ⟨_, rfl⟩
        rw [exe23] at hxe23a hxe23b ⊢
        refine lv_iconst (v := (-1)) hx hb dX2_resolveItems_42 (by decide) ?_
        refine lv_icmp_ne (tgt := 53) hx hb dX2_resolveItems_43 (by decide) (fun hc24 => ?_) (fun hc24 => ?_)
        · have hf25 : ¬ (xe23.toInt = (-1)) := fun q => hc24 ((fa_eq _ _).mpr (by have : (((-1) : Int32).toInt) = (-1) := (by decide); omega))
          obtain ⟨zi26, ezi26⟩ : ∃ z : Int32, z = y2_1 + Int32.ofInt 1 := ⟨_, rfl⟩
          have hzi26 : zi26.toInt = y2_1.toInt + 1 := by rw [ezi26]; have : ((Int32.ofInt 1).toInt) = 1 := (by decide);  exact (ia_add (by omega) (by omega)).trans (by omega)
          refine lv_iinc (v := zi26) (lv' := [(1, .int zi26), (0, .ref a0)]) hx hb dX2_resolveItems_53 hl (k := 0) rfl ezi26.symm (by decide) rfl (fun ls hl => ?_)
          refine lv_goto (tgt := 2) hx hb dX2_resolveItems_56 (by decide) ?_
          exact ih2 (n2 - 1) (by   omega) zi26 _ _ _ ls (by omega) (by omega) (by   omega) hG2 TH hS (lv_sub hl [0, 1] rfl)
        · have hf27 : xe23.toInt = (-1) := by have z := (fa_eq _ _).mp hc24; have : (((-1) : Int32).toInt) = (-1) := (by decide); omega
          refine lv_aload_n hx hb dX2_resolveItems_46 rfl (lv_at hl 1 rfl) ?_
          refine tw_get (ci := 2) (C := RX2) (T := TX2) (N := 13) hx hb hB cx_inX2 hown hK TH hm0 hk0 rfl ⟨by decide, rfl⟩ 8 (by decide) cw_78 (fun _ h9 => h9) dX2_resolveItems_47 (fun hv => ?_)
          rw [hmf21]
          refine lv_iload_n hx hb dX2_resolveItems_50 rfl (lv_at hl 0 rfl) ?_
          refine tw_iald (k := 132) (t0 := 0) (n := 500) (lo := 0) (hi := 500) hx hb hK TH hmxr7 hkxr7 (by decide) rfl rfl (i := y2_1) (vp_in_iff.mpr ⟨by  omega, by  omega⟩) dX2_resolveItems_51 (fun hxe28a hxe28b => ?_)
          obtain ⟨xe28, exe28⟩ : ∃ z : Int32, tw_iv E13 xr7 (Int32.toNatClampNeg y2_1) = z := ⟨_, rfl⟩
          rw [exe28] at hxe28a hxe28b ⊢
          exact tw_iret hx hb hr hlocks TH hS hex ⟨⟨_, rfl, (show (-1) ≤ Int32.toInt xe28 from by  omega), (show Int32.toInt xe28 ≤ 500 from by  omega)⟩, rfl, rfl, hF⟩ (Nat.le_of_ble_eq_true rfl) (Nat.le_of_ble_eq_true rfl) dX2_resolveItems_52
  exact hJ2 501 (0 : Int32) _ _ _ ls (by have : ((0 : Int32).toInt) = 0 := (by decide); omega) (by have : ((0 : Int32).toInt) = 0 := (by decide); omega) (by have : ((0 : Int32).toInt) = 0 := (by decide);  omega) tw_fr.rf TH hS (lv_sub hl [0, 1] rfl)
set_option maxHeartbeats 4000000 in
set_option maxRecDepth 100000 in
theorem tX0_find (l : Launch) (D : va_G) (cs : Nat → ClassId) {kp : Nat → Nat} {L : List Nat} {E : Nat → va_E} (a0 : Nat) (x1 : Int32) (hm0 : a0 ∈ L) (hk0 : kp a0 = 0) (sz : Nat) : Met l yX0_find (.code yX0_find cX0_find 2 (some .int) :: cx_big) { frames := 1, cells := 0, slots := 0, locals := 22 } (tw_P D cs kp L E [.ref a0, .int x1] sz) (tw_Q D cs kp L (fun v kq Lq Eq => (∃ x : Int32, v = some (.int x) ∧ (-1) ≤ x.toInt ∧ x.toInt ≤ 39 ∧ (x.toInt ≠ -1 → -1 ≤ x1.toInt ∧ x1.toInt ≤ 149)) ∧ kp = kq ∧ L = Lq ∧ E = Eq) (va_A (va_pl L E) sz)) 0 0 (va_A (va_pl L E) sz) := by
  refine tw_ofW (by decide) (Nat.le_of_ble_eq_true rfl) ?_
  intro p e s m below meth c A ls hx hb hr hml hB hown hlocks hK hN hA TH hS hl
  have hown : s.vm.findClass "TreeMerge$Draft" = some m.cls := hown
  have hl : lv_has ls 2 [(0, .ref a0), (1, .int x1)] := hl
  obtain ⟨kp0, ekp⟩ : ∃ z, z = kp := ⟨_, rfl⟩
  obtain ⟨L0, eL⟩ : ∃ z, z = L := ⟨_, rfl⟩
  rw [show tw_Q D cs kp L = tw_Q D cs kp0 L0 by rw [ekp, eL]]
  have hex : ∀ a : Nat, a ∈ L0 → a ∈ L ∧ kp a = kp0 a := fun a h => ⟨by rw [← eL]; exact h, by rw [ekp]⟩
  refine lv_aload_n hx hb dX0_find_0 rfl (lv_at hl 0 rfl) ?_
  refine tw_get (ci := 0) (C := RX0) (T := TX0) (N := 4) hx hb hB cx_inX0 hown hK TH hm0 hk0 rfl ⟨by decide, rfl⟩ 0 (by decide) cw_256 (fun _ h9 => h9) dX0_find_1 (fun hv => ?_)
  obtain ⟨xi1, hxi1, hxi1a, hxi1b⟩ : ∃ x : Int32, tw_fv E a0 0 = .int x ∧ 0 ≤ x.toInt ∧ x.toInt ≤ 1 := hv
  rw [hxi1]
  refine lv_if_eq (tgt := 18) hx hb dX0_find_4 (by decide) (fun hc2 => ?_) (fun hc2 => ?_)
  · have hf3 : xi1.toInt = 0 := by have z := (fa_eq _ _).mp hc2; have : ((0 : Int32).toInt) = 0 := (by decide); omega
    refine lv_iconst (v := (-1)) hx hb dX0_find_18 (by decide) ?_
    exact tw_iret hx hb hr hlocks TH hS hex ⟨⟨_, rfl, (show (-1) ≤ Int32.toInt (-1) from by have : (((-1) : Int32).toInt) = (-1) := (by decide); omega), (show Int32.toInt (-1) ≤ 39 from by have : (((-1) : Int32).toInt) = (-1) := (by decide); omega), (by have : (((-1) : Int32).toInt) = (-1) := (by decide); omega)⟩, rfl, rfl, rfl⟩ (Nat.le_of_ble_eq_true rfl) (Nat.le_of_ble_eq_true rfl) dX0_find_19
  · have hf4 : ¬ (xi1.toInt = 0) := fun q => hc2 ((fa_eq _ _).mpr (by have : ((0 : Int32).toInt) = 0 := (by decide); omega))
    refine lv_aload_n hx hb dX0_find_7 rfl (lv_at hl 0 rfl) ?_
    refine tw_get (ci := 0) (C := RX0) (T := TX0) (N := 4) hx hb hB cx_inX0 hown hK TH hm0 hk0 rfl ⟨by decide, rfl⟩ 2 (by decide) cw_259 (fun _ h9 => h9) dX0_find_8 (fun hv => ?_)
    obtain ⟨xr5, hxr5, hmxr5, hkxr5⟩ : ∃ a : Nat, tw_fv E a0 2 = .ref a ∧ a ∈ L ∧ kp a = 10 := hv
    rw [hxr5]
    refine lv_iload_n hx hb dX0_find_11 rfl (lv_at hl 1 rfl) ?_
    refine tw_Vc (o := xr5) (ci := 10) (n := 1) (post := (fun v kq Lq Eq => (∃ x : Int32, v = some (.int x) ∧ (-1) ≤ x.toInt ∧ x.toInt ≤ 39 ∧ (x.toInt ≠ -1 → -1 ≤ x1.toInt ∧ x1.toInt ≤ 149)) ∧ kp = kq ∧ L = Lq ∧ E = Eq)) (As := [.int x1]) (rest := []) ⟨hx, hb, hml, hown, hB⟩ (fun sz => tX10_find l D cs xr5 x1 hmxr5 hkxr5 sz) cg_0_25_X10_find rfl rfl (by decide +kernel) ⟨Nat.le_of_ble_eq_true rfl, Nat.le_of_ble_eq_true rfl⟩ hK hN TH hS hA rfl hmxr5 hkxr5 (by decide) rfl hl.1 rfl (Nat.le_of_ble_eq_true rfl) dX0_find_12 ⟨Nat.le_of_ble_eq_true rfl, Nat.le_of_ble_eq_true rfl⟩ (fun v6 kp6 L6 E6 H locs hq6 hx6 TH hS => ?_)
    obtain ⟨⟨xc7, rfl, hxc7a, hxc7b, hpoxc7_0⟩, rfl, rfl, rfl⟩ := hq6
    refine W.eq (g2 := F0 m 15 ls [.int xc7]) rfl ?_
    refine lv_goto (tgt := 19) hx hb dX0_find_15 (by decide) ?_
    exact tw_iret hx hb hr hlocks TH hS hex ⟨⟨_, rfl, (show (-1) ≤ Int32.toInt xc7 from by  omega), (show Int32.toInt xc7 ≤ 39 from by  omega), (by  omega)⟩, rfl, rfl, rfl⟩ (Nat.le_of_ble_eq_true rfl) (Nat.le_of_ble_eq_true rfl) dX0_find_19
set_option maxHeartbeats 4000000 in
set_option maxRecDepth 100000 in
theorem tX0_hasPlace (l : Launch) (D : va_G) (cs : Nat → ClassId) {kp : Nat → Nat} {L : List Nat} {E : Nat → va_E} (a0 : Nat) (x1 : Int32) (x2 : Int32) (x3 : Int32) (a4 : Nat) (hm0 : a0 ∈ L) (hk0 : kp a0 = 0) (hp1a : 0 ≤ x1.toInt) (hp1b : x1.toInt ≤ 39) (hp3a : (-1) ≤ x3.toInt) (hp3b : x3.toInt ≤ 39) (hm4 : a4 ∈ L) (hk4 : kp a4 = 2) (sz : Nat) : Met l yX0_hasPlace (.code yX0_hasPlace cX0_hasPlace 6 (some .boolean) :: cx_big) { frames := 2, cells := 0, slots := 0, locals := 42 } (tw_P D cs kp L E [.ref a0, .int x1, .int x2, .int x3, .ref a4] sz) (tw_Q D cs kp L (fun v kq Lq Eq => (∃ x : Int32, v = some (.int x) ∧ 0 ≤ x.toInt ∧ x.toInt ≤ 1) ∧ kp = kq ∧ L = Lq ∧ E = Eq) (va_A (va_pl L E) sz)) 0 0 (va_A (va_pl L E) sz) := by
  refine tw_ofW (by decide) (Nat.le_of_ble_eq_true rfl) ?_
  intro p e s m below meth c A ls hx hb hr hml hB hown hlocks hK hN hA TH hS hl
  have hown : s.vm.findClass "TreeMerge$Draft" = some m.cls := hown
  have hl : lv_has ls 6 [(0, .ref a0), (1, .int x1), (2, .int x2), (3, .int x3), (4, .ref a4)] := hl
  obtain ⟨kp0, ekp⟩ : ∃ z, z = kp := ⟨_, rfl⟩
  obtain ⟨L0, eL⟩ : ∃ z, z = L := ⟨_, rfl⟩
  rw [show tw_Q D cs kp L = tw_Q D cs kp0 L0 by rw [ekp, eL]]
  have hex : ∀ a : Nat, a ∈ L0 → a ∈ L ∧ kp a = kp0 a := fun a h => ⟨by rw [← eL]; exact h, by rw [ekp]⟩
  refine lv_aload hx hb dX0_hasPlace_0 (lv_at hl 4 rfl) ?_
  refine lv_aload_n hx hb dX0_hasPlace_2 rfl (lv_at hl 0 rfl) ?_
  refine tw_get (ci := 0) (C := RX0) (T := TX0) (N := 4) hx hb hB cx_inX0 hown hK TH hm0 hk0 rfl ⟨by decide, rfl⟩ 2 (by decide) cw_259 (fun _ h9 => h9) dX0_hasPlace_3 (fun hv => ?_)
  obtain ⟨xr1, hxr1, hmxr1, hkxr1⟩ : ∃ a : Nat, tw_fv E a0 2 = .ref a ∧ a ∈ L ∧ kp a = 10 := hv
  rw [hxr1]
  refine tw_get (ci := 10) (C := RX10) (T := TX10) (N := 8) hx hb hB cx_inX10 hown hK TH hmxr1 hkxr1 rfl ⟨by decide, rfl⟩ 5 (by decide) cw_139 (fun _ h9 => h9) dX0_hasPlace_6 (fun hv => ?_)
  obtain ⟨xr2, hxr2, hmxr2, hkxr2⟩ : ∃ a : Nat, tw_fv E xr1 5 = .ref a ∧ a ∈ L ∧ kp a = 114 := hv
  rw [hxr2]
  refine lv_iload_n hx hb dX0_hasPlace_9 rfl (lv_at hl 1 rfl) ?_
  refine tw_iald (k := 114) (t0 := 0) (n := 40) (lo := (-1)) (hi := 9) hx hb hK TH hmxr2 hkxr2 (by decide) rfl rfl (i := x1) (vp_in_iff.mpr ⟨by  omega, by  omega⟩) dX0_hasPlace_10 (fun hxe3a hxe3b => ?_)
  obtain ⟨xe3, exe3⟩ : ∃ z : Int32, tw_iv E xr2 (Int32.toNatClampNeg x1) = z := ⟨_, rfl⟩
  rw [exe3] at hxe3a hxe3b ⊢
  refine tw_Vc (o := a4) (ci := 2) (n := 1) (post := (fun v kq Lq Eq => (∃ x : Int32, v = some (.int x) ∧ 0 ≤ x.toInt ∧ x.toInt ≤ 1) ∧ kp = kq ∧ L = Lq ∧ E = Eq)) (As := [.int xe3]) (rest := []) ⟨hx, hb, hml, hown, hB⟩ (fun sz => tX2_isSet l D cs a4 xe3 hm4 hk4 sz) cg_0_33_X2_isSet rfl rfl (by decide +kernel) ⟨Nat.le_of_ble_eq_true rfl, Nat.le_of_ble_eq_true rfl⟩ hK hN TH hS hA rfl hm4 hk4 (by decide) rfl hl.1 rfl (Nat.le_of_ble_eq_true rfl) dX0_hasPlace_11 ⟨Nat.le_of_ble_eq_true rfl, Nat.le_of_ble_eq_true rfl⟩ (fun v4 kp4 L4 E4 H locs hq4 hx4 TH hS => ?_)
  obtain ⟨⟨xc5, rfl, hxc5a, hxc5b⟩, rfl, rfl, rfl⟩ := hq4
  refine W.eq (g2 := F0 m 14 ls [.int xc5]) rfl ?_
  refine lv_if_eq (tgt := 19) hx hb dX0_hasPlace_14 (by decide) (fun hc6 => ?_) (fun hc6 => ?_)
  · have hf7 : xc5.toInt = 0 := by have z := (fa_eq _ _).mp hc6; have : ((0 : Int32).toInt) = 0 := (by decide); omega
    refine lv_aload_n hx hb dX0_hasPlace_19 rfl (lv_at hl 0 rfl) ?_
    refine tw_get (ci := 0) (C := RX0) (T := TX0) (N := 4) hx hb hB cx_inX0 hown hK TH hm0 hk0 rfl ⟨by decide, rfl⟩ 2 (by decide) cw_259 (fun _ h9 => h9) dX0_hasPlace_20 (fun hv => ?_)
    rw [hxr1]
    refine lv_iload_n hx hb dX0_hasPlace_23 rfl (lv_at hl 1 rfl) ?_
    refine tw_Vc (o := xr1) (ci := 10) (n := 1) (post := (fun v kq Lq Eq => (∃ x : Int32, v = some (.int x)) ∧ kp = kq ∧ L = Lq ∧ E = Eq)) (As := [.int x1]) (rest := []) ⟨hx, hb, hml, hown, hB⟩ (fun sz => tX10_childCount l D cs xr1 x1 hmxr1 hkxr1 (by omega) (by omega) sz) cg_0_39_X10_childCount rfl rfl (by decide +kernel) ⟨Nat.le_of_ble_eq_true rfl, Nat.le_of_ble_eq_true rfl⟩ hK hN TH hS hA rfl hmxr1 hkxr1 (by decide) rfl hl.1 rfl (Nat.le_of_ble_eq_true rfl) dX0_hasPlace_24 ⟨Nat.le_of_ble_eq_true rfl, Nat.le_of_ble_eq_true rfl⟩ (fun v8 kp8 L8 E8 H locs hq8 hx8 TH hS => ?_)
    obtain ⟨⟨xc9, rfl⟩, rfl, rfl, rfl⟩ := hq8
    refine W.eq (g2 := F0 m 27 ls [.int xc9]) rfl ?_
    refine lv_istore (lv' := [(5, .int xc9), (0, .ref a0), (1, .int x1), (2, .int x2), (3, .int x3), (4, .ref a4)]) hx hb dX0_hasPlace_27 hl (by decide) rfl (fun ls hl => ?_)
    refine lv_iload_n hx hb dX0_hasPlace_29 rfl (lv_at hl 4 rfl) ?_
    refine lv_iconst (v := (-1)) hx hb dX0_hasPlace_30 (by decide) ?_
    refine lv_icmp_eq (tgt := 50) hx hb dX0_hasPlace_31 (by decide) (fun hc10 => ?_) (fun hc10 => ?_)
    · have hf11 : x3.toInt = (-1) := by have z := (fa_eq _ _).mp hc10; have : (((-1) : Int32).toInt) = (-1) := (by decide); omega
      refine lv_iload_n hx hb dX0_hasPlace_50 rfl (lv_at hl 3 rfl) ?_
      refine lv_if_lt (tgt := 64) hx hb dX0_hasPlace_51 (by decide) (fun hc12 => ?_) (fun hc12 => ?_)
      · have hf13 : x2.toInt < 0 := by have z := (fa_lt _ _).mp hc12; have : ((0 : Int32).toInt) = 0 := (by decide); omega
        refine lv_iconst (v := 0) hx hb dX0_hasPlace_64 (by decide) ?_
        exact tw_zret hx hb hr hlocks (by decide) TH hS hex ⟨⟨_, rfl, (show 0 ≤ Int32.toInt 0 from by have : ((0 : Int32).toInt) = 0 := (by decide); omega), (show Int32.toInt 0 ≤ 1 from by have : ((0 : Int32).toInt) = 0 := (by decide); omega)⟩, rfl, rfl, rfl⟩ (Nat.le_of_ble_eq_true rfl) (Nat.le_of_ble_eq_true rfl) dX0_hasPlace_65
      · have hf14 : ¬ (x2.toInt < 0) := fun q => hc12 ((fa_lt _ _).mpr (by have : ((0 : Int32).toInt) = 0 := (by decide); omega))
        refine lv_iload_n hx hb dX0_hasPlace_54 rfl (lv_at hl 3 rfl) ?_
        refine lv_iload hx hb dX0_hasPlace_55 (lv_at hl 0 rfl) ?_
        refine lv_icmp_gt (tgt := 64) hx hb dX0_hasPlace_57 (by decide) (fun hc15 => ?_) (fun hc15 => ?_)
        · have hf16 : xc9.toInt < x2.toInt := by have z := (fa_lt _ _).mp hc15;  omega
          refine lv_iconst (v := 0) hx hb dX0_hasPlace_64 (by decide) ?_
          exact tw_zret hx hb hr hlocks (by decide) TH hS hex ⟨⟨_, rfl, (show 0 ≤ Int32.toInt 0 from by have : ((0 : Int32).toInt) = 0 := (by decide); omega), (show Int32.toInt 0 ≤ 1 from by have : ((0 : Int32).toInt) = 0 := (by decide); omega)⟩, rfl, rfl, rfl⟩ (Nat.le_of_ble_eq_true rfl) (Nat.le_of_ble_eq_true rfl) dX0_hasPlace_65
        · have hf17 : ¬ (xc9.toInt < x2.toInt) := fun q => hc15 ((fa_lt _ _).mpr (by  omega))
          refine lv_iconst (v := 1) hx hb dX0_hasPlace_60 (by decide) ?_
          refine lv_goto (tgt := 65) hx hb dX0_hasPlace_61 (by decide) ?_
          exact tw_zret hx hb hr hlocks (by decide) TH hS hex ⟨⟨_, rfl, (show 0 ≤ Int32.toInt 1 from by have : ((1 : Int32).toInt) = 1 := (by decide); omega), (show Int32.toInt 1 ≤ 1 from by have : ((1 : Int32).toInt) = 1 := (by decide); omega)⟩, rfl, rfl, rfl⟩ (Nat.le_of_ble_eq_true rfl) (Nat.le_of_ble_eq_true rfl) dX0_hasPlace_65
    · have hf18 : ¬ (x3.toInt = (-1)) := fun q => hc10 ((fa_eq _ _).mpr (by have : (((-1) : Int32).toInt) = (-1) := (by decide); omega))
      refine lv_aload_n hx hb dX0_hasPlace_34 rfl (lv_at hl 1 rfl) ?_
      refine tw_get (ci := 0) (C := RX0) (T := TX0) (N := 4) hx hb hB cx_inX0 hown hK TH hm0 hk0 rfl ⟨by decide, rfl⟩ 2 (by decide) cw_259 (fun _ h9 => h9) dX0_hasPlace_35 (fun hv => ?_)
      rw [hxr1]
      refine tw_get (ci := 10) (C := RX10) (T := TX10) (N := 8) hx hb hB cx_inX10 hown hK TH hmxr1 hkxr1 rfl ⟨by decide, rfl⟩ 3 (by decide) cw_131 (fun _ h9 => h9) dX0_hasPlace_38 (fun hv => ?_)
      obtain ⟨xr19, hxr19, hmxr19, hkxr19⟩ : ∃ a : Nat, tw_fv E xr1 3 = .ref a ∧ a ∈ L ∧ kp a = 112 := hv
      rw [hxr19]
      refine lv_iload_n hx hb dX0_hasPlace_41 rfl (lv_at hl 4 rfl) ?_
      refine tw_iald (k := 112) (t0 := 0) (n := 40) (lo := (-1)) (hi := 39) hx hb hK TH hmxr19 hkxr19 (by decide) rfl rfl (i := x3) (vp_in_iff.mpr ⟨by  omega, by  omega⟩) dX0_hasPlace_42 (fun hxe20a hxe20b => ?_)
      obtain ⟨xe20, exe20⟩ : ∃ z : Int32, tw_iv E xr19 (Int32.toNatClampNeg x3) = z := ⟨_, rfl⟩
      rw [exe20] at hxe20a hxe20b ⊢
      refine lv_iload_n hx hb dX0_hasPlace_43 rfl (lv_at hl 2 rfl) ?_
      refine lv_icmp_ne (tgt := 50) hx hb dX0_hasPlace_44 (by decide) (fun hc21 => ?_) (fun hc21 => ?_)
      · have hf22 : ¬ (xe20.toInt = x1.toInt) := fun q => hc21 ((fa_eq _ _).mpr (by  omega))
        refine lv_iload_n hx hb dX0_hasPlace_50 rfl (lv_at hl 3 rfl) ?_
        refine lv_if_lt (tgt := 64) hx hb dX0_hasPlace_51 (by decide) (fun hc23 => ?_) (fun hc23 => ?_)
        · have hf24 : x2.toInt < 0 := by have z := (fa_lt _ _).mp hc23; have : ((0 : Int32).toInt) = 0 := (by decide); omega
          refine lv_iconst (v := 0) hx hb dX0_hasPlace_64 (by decide) ?_
          exact tw_zret hx hb hr hlocks (by decide) TH hS hex ⟨⟨_, rfl, (show 0 ≤ Int32.toInt 0 from by have : ((0 : Int32).toInt) = 0 := (by decide); omega), (show Int32.toInt 0 ≤ 1 from by have : ((0 : Int32).toInt) = 0 := (by decide); omega)⟩, rfl, rfl, rfl⟩ (Nat.le_of_ble_eq_true rfl) (Nat.le_of_ble_eq_true rfl) dX0_hasPlace_65
        · have hf25 : ¬ (x2.toInt < 0) := fun q => hc23 ((fa_lt _ _).mpr (by have : ((0 : Int32).toInt) = 0 := (by decide); omega))
          refine lv_iload_n hx hb dX0_hasPlace_54 rfl (lv_at hl 3 rfl) ?_
          refine lv_iload hx hb dX0_hasPlace_55 (lv_at hl 0 rfl) ?_
          refine lv_icmp_gt (tgt := 64) hx hb dX0_hasPlace_57 (by decide) (fun hc26 => ?_) (fun hc26 => ?_)
          · have hf27 : xc9.toInt < x2.toInt := by have z := (fa_lt _ _).mp hc26;  omega
            refine lv_iconst (v := 0) hx hb dX0_hasPlace_64 (by decide) ?_
            exact tw_zret hx hb hr hlocks (by decide) TH hS hex ⟨⟨_, rfl, (show 0 ≤ Int32.toInt 0 from by have : ((0 : Int32).toInt) = 0 := (by decide); omega), (show Int32.toInt 0 ≤ 1 from by have : ((0 : Int32).toInt) = 0 := (by decide); omega)⟩, rfl, rfl, rfl⟩ (Nat.le_of_ble_eq_true rfl) (Nat.le_of_ble_eq_true rfl) dX0_hasPlace_65
          · have hf28 : ¬ (xc9.toInt < x2.toInt) := fun q => hc26 ((fa_lt _ _).mpr (by  omega))
            refine lv_iconst (v := 1) hx hb dX0_hasPlace_60 (by decide) ?_
            refine lv_goto (tgt := 65) hx hb dX0_hasPlace_61 (by decide) ?_
            exact tw_zret hx hb hr hlocks (by decide) TH hS hex ⟨⟨_, rfl, (show 0 ≤ Int32.toInt 1 from by have : ((1 : Int32).toInt) = 1 := (by decide); omega), (show Int32.toInt 1 ≤ 1 from by have : ((1 : Int32).toInt) = 1 := (by decide); omega)⟩, rfl, rfl, rfl⟩ (Nat.le_of_ble_eq_true rfl) (Nat.le_of_ble_eq_true rfl) dX0_hasPlace_65
      · have hf29 : xe20.toInt = x1.toInt := by have z := (fa_eq _ _).mp hc21;  omega
        obtain ⟨zi30, ezi30⟩ : ∃ z : Int32, z = xc9 + Int32.ofInt (-1) := ⟨_, rfl⟩
        refine lv_iinc (v := zi30) (lv' := [(5, .int zi30), (0, .ref a0), (1, .int x1), (2, .int x2), (3, .int x3), (4, .ref a4)]) hx hb dX0_hasPlace_47 hl (k := 0) rfl ezi30.symm (by decide) rfl (fun ls hl => ?_)
        refine lv_iload_n hx hb dX0_hasPlace_50 rfl (lv_at hl 3 rfl) ?_
        refine lv_if_lt (tgt := 64) hx hb dX0_hasPlace_51 (by decide) (fun hc31 => ?_) (fun hc31 => ?_)
        · have hf32 : x2.toInt < 0 := by have z := (fa_lt _ _).mp hc31; have : ((0 : Int32).toInt) = 0 := (by decide); omega
          refine lv_iconst (v := 0) hx hb dX0_hasPlace_64 (by decide) ?_
          exact tw_zret hx hb hr hlocks (by decide) TH hS hex ⟨⟨_, rfl, (show 0 ≤ Int32.toInt 0 from by have : ((0 : Int32).toInt) = 0 := (by decide); omega), (show Int32.toInt 0 ≤ 1 from by have : ((0 : Int32).toInt) = 0 := (by decide); omega)⟩, rfl, rfl, rfl⟩ (Nat.le_of_ble_eq_true rfl) (Nat.le_of_ble_eq_true rfl) dX0_hasPlace_65
        · have hf33 : ¬ (x2.toInt < 0) := fun q => hc31 ((fa_lt _ _).mpr (by have : ((0 : Int32).toInt) = 0 := (by decide); omega))
          refine lv_iload_n hx hb dX0_hasPlace_54 rfl (lv_at hl 3 rfl) ?_
          refine lv_iload hx hb dX0_hasPlace_55 (lv_at hl 0 rfl) ?_
          refine lv_icmp_gt (tgt := 64) hx hb dX0_hasPlace_57 (by decide) (fun hc34 => ?_) (fun hc34 => ?_)
          · have hf35 : zi30.toInt < x2.toInt := by have z := (fa_lt _ _).mp hc34;  omega
            refine lv_iconst (v := 0) hx hb dX0_hasPlace_64 (by decide) ?_
            exact tw_zret hx hb hr hlocks (by decide) TH hS hex ⟨⟨_, rfl, (show 0 ≤ Int32.toInt 0 from by have : ((0 : Int32).toInt) = 0 := (by decide); omega), (show Int32.toInt 0 ≤ 1 from by have : ((0 : Int32).toInt) = 0 := (by decide); omega)⟩, rfl, rfl, rfl⟩ (Nat.le_of_ble_eq_true rfl) (Nat.le_of_ble_eq_true rfl) dX0_hasPlace_65
          · have hf36 : ¬ (zi30.toInt < x2.toInt) := fun q => hc34 ((fa_lt _ _).mpr (by  omega))
            refine lv_iconst (v := 1) hx hb dX0_hasPlace_60 (by decide) ?_
            refine lv_goto (tgt := 65) hx hb dX0_hasPlace_61 (by decide) ?_
            exact tw_zret hx hb hr hlocks (by decide) TH hS hex ⟨⟨_, rfl, (show 0 ≤ Int32.toInt 1 from by have : ((1 : Int32).toInt) = 1 := (by decide); omega), (show Int32.toInt 1 ≤ 1 from by have : ((1 : Int32).toInt) = 1 := (by decide); omega)⟩, rfl, rfl, rfl⟩ (Nat.le_of_ble_eq_true rfl) (Nat.le_of_ble_eq_true rfl) dX0_hasPlace_65
  · have hf37 : ¬ (xc5.toInt = 0) := fun q => hc6 ((fa_eq _ _).mpr (by have : ((0 : Int32).toInt) = 0 := (by decide); omega))
    refine lv_iconst (v := 1) hx hb dX0_hasPlace_17 (by decide) ?_
    exact tw_zret hx hb hr hlocks (by decide) TH hS hex ⟨⟨_, rfl, (show 0 ≤ Int32.toInt 1 from by have : ((1 : Int32).toInt) = 1 := (by decide); omega), (show Int32.toInt 1 ≤ 1 from by have : ((1 : Int32).toInt) = 1 := (by decide); omega)⟩, rfl, rfl, rfl⟩ (Nat.le_of_ble_eq_true rfl) (Nat.le_of_ble_eq_true rfl) dX0_hasPlace_18
set_option maxHeartbeats 4000000 in
set_option maxRecDepth 100000 in
theorem tX0_insert (l : Launch) (D : va_G) (cs : Nat → ClassId) {kp : Nat → Nat} {L : List Nat} {E : Nat → va_E} (a0 : Nat) (x1 : Int32) (x2 : Int32) (x3 : Int32) (x4 : Int32) (x5 : Int64) (hm0 : a0 ∈ L) (hk0 : kp a0 = 0) (hp1a : (-1) ≤ x1.toInt) (hp1b : x1.toInt ≤ 149) (hp2a : (-1) ≤ x2.toInt) (hp2b : x2.toInt ≤ 149) (hp4a : (-1) ≤ x4.toInt) (hp4b : x4.toInt ≤ 9) (sz : Nat) : Met l yX0_insert (.code yX0_insert cX0_insert 7 none :: cx_big) { frames := 2, cells := 0, slots := 0, locals := 49 } (tw_P D cs kp L E [.ref a0, .int x1, .int x2, .int x3, .int x4, .long x5] sz) (tw_Q D cs kp L (fun v kq Lq Eq => v = none ∧ kp = kq ∧ L = Lq ∧ tw_fr kp L [(10, 0)] [102, 110, 111, 114] E Eq) (va_A (va_pl L E) sz)) 0 0 (va_A (va_pl L E) sz) := by
  refine tw_ofW (by decide) (Nat.le_of_ble_eq_true rfl) ?_
  intro p e s m below meth c A ls hx hb hr hml hB hown hlocks hK hN hA TH hS hl
  have hown : s.vm.findClass "TreeMerge$Draft" = some m.cls := hown
  have hl : lv_has ls 7 [(0, .ref a0), (1, .int x1), (2, .int x2), (3, .int x3), (4, .int x4), (5, .long x5)] := hl
  obtain ⟨kp0, ekp⟩ : ∃ z, z = kp := ⟨_, rfl⟩
  obtain ⟨L0, eL⟩ : ∃ z, z = L := ⟨_, rfl⟩
  rw [show tw_Q D cs kp L = tw_Q D cs kp0 L0 by rw [ekp, eL]]
  have hex : ∀ a : Nat, a ∈ L0 → a ∈ L ∧ kp a = kp0 a := fun a h => ⟨by rw [← eL]; exact h, by rw [ekp]⟩
  have hF : tw_fr kp L [(10, 0)] [102, 110, 111, 114] E E := tw_fr.rf
  refine lv_aload_n hx hb dX0_insert_0 rfl (lv_at hl 0 rfl) ?_
  refine tw_get (ci := 0) (C := RX0) (T := TX0) (N := 4) hx hb hB cx_inX0 hown hK TH hm0 hk0 rfl ⟨by decide, rfl⟩ 2 (by decide) cw_259 (fun _ h9 => h9) dX0_insert_1 (fun hv => ?_)
  obtain ⟨xr1, hxr1, hmxr1, hkxr1⟩ : ∃ a : Nat, tw_fv E a0 2 = .ref a ∧ a ∈ L ∧ kp a = 10 := hv
  rw [hxr1]
  refine lv_aload_n hx hb dX0_insert_4 rfl (lv_at hl 0 rfl) ?_
  refine tw_get (ci := 0) (C := RX0) (T := TX0) (N := 4) hx hb hB cx_inX0 hown hK TH hm0 hk0 rfl ⟨by decide, rfl⟩ 2 (by decide) cw_259 (fun _ h9 => h9) dX0_insert_5 (fun hv => ?_)
  rw [hxr1]
  refine lv_iload_n hx hb dX0_insert_8 rfl (lv_at hl 2 rfl) ?_
  refine lv_iload_n hx hb dX0_insert_9 rfl (lv_at hl 3 rfl) ?_
  refine tw_Vc (o := xr1) (ci := 10) (n := 2) (post := (fun v kq Lq Eq => (∃ x : Int32, v = some (.int x) ∧ (-1) ≤ x.toInt ∧ x.toInt ≤ 40) ∧ kp = kq ∧ L = Lq ∧ E = Eq)) (As := [.int x2, .int x3]) (rest := [.ref xr1]) ⟨hx, hb, hml, hown, hB⟩ (fun sz => tX10_childIndex l D cs xr1 x2 x3 hmxr1 hkxr1 sz) cg_0_45_X10_childIndex rfl rfl (by decide +kernel) ⟨Nat.le_of_ble_eq_true rfl, Nat.le_of_ble_eq_true rfl⟩ hK hN TH hS hA rfl hmxr1 hkxr1 (by decide) rfl hl.1 rfl (Nat.le_of_ble_eq_true rfl) dX0_insert_10 ⟨Nat.le_of_ble_eq_true rfl, Nat.le_of_ble_eq_true rfl⟩ (fun v2 kp2 L2 E2 H locs hq2 hx2 TH hS => ?_)
  obtain ⟨⟨xc3, rfl, hxc3a, hxc3b⟩, rfl, rfl, rfl⟩ := hq2
  refine W.eq (g2 := F0 m 13 ls [.int xc3, .ref xr1]) rfl ?_
  refine lv_iload_n hx hb dX0_insert_13 rfl (lv_at hl 1 rfl) ?_
  refine lv_iload_n hx hb dX0_insert_14 rfl (lv_at hl 2 rfl) ?_
  refine lv_iload hx hb dX0_insert_15 (lv_at hl 4 rfl) ?_
  refine lv_lload hx hb dX0_insert_17 (lv_at hl 5 rfl) ?_
  refine tw_Vc (o := xr1) (ci := 10) (n := 5) (post := (fun v kq Lq Eq => v = none ∧ kp = kq ∧ L = Lq ∧ tw_fr kp L [(10, 0)] [102, 110, 111, 114] E Eq)) (As := [.int xc3, .int x1, .int x2, .int x4, .long x5]) (rest := []) ⟨hx, hb, hml, hown, hB⟩ (fun sz => tX10_insert l D cs xr1 xc3 x1 x2 x4 x5 hmxr1 hkxr1 (by omega) (by omega) (by omega) (by omega) (by omega) (by omega) sz) cg_0_49_X10_insert rfl rfl (by decide +kernel) ⟨Nat.le_of_ble_eq_true rfl, Nat.le_of_ble_eq_true rfl⟩ hK hN TH hS hA rfl hmxr1 hkxr1 (by decide) rfl hl.1 rfl (Nat.le_of_ble_eq_true rfl) dX0_insert_19 ⟨Nat.le_of_ble_eq_true rfl, Nat.le_of_ble_eq_true rfl⟩ (fun v4 kp4 L4 E4 H locs hq4 hx4 TH hS => ?_)
  obtain ⟨rfl, rfl, rfl, hst4⟩ := hq4
  have hF := hF.tr hst4 (fun _ h => ⟨h, rfl⟩) (by decide) (by decide)
  have hmf6 : tw_fv E4 a0 2 = .ref xr1 := (hst4.1 a0 2 hm0 (by rw [hk0]; decide)).trans hxr1
  refine W.eq (g2 := F0 m 22 ls []) rfl ?_
  exact tw_vret hx hb hr hlocks TH hS hex ⟨rfl, rfl, rfl, hF⟩ (Nat.le_of_ble_eq_true rfl) (Nat.le_of_ble_eq_true rfl) dX0_insert_22
set_option maxHeartbeats 4000000 in
set_option maxRecDepth 100000 in
theorem tX0_cut (l : Launch) (D : va_G) (cs : Nat → ClassId) {kp : Nat → Nat} {L : List Nat} {E : Nat → va_E} (a0 : Nat) (x1 : Int32) (hm0 : a0 ∈ L) (hk0 : kp a0 = 0) (sz : Nat) : Met l yX0_cut (.code yX0_cut cX0_cut 2 none :: cx_big) { frames := 2, cells := 0, slots := 0, locals := 44 } (tw_P D cs kp L E [.ref a0, .int x1] sz) (tw_Q D cs kp L (fun v kq Lq Eq => v = none ∧ kp = kq ∧ L = Lq ∧ tw_fr kp L [(10, 0)] [102, 110, 111, 114] E Eq) (va_A (va_pl L E) sz)) 0 0 (va_A (va_pl L E) sz) := by
  refine tw_ofW (by decide) (Nat.le_of_ble_eq_true rfl) ?_
  intro p e s m below meth c A ls hx hb hr hml hB hown hlocks hK hN hA TH hS hl
  have hown : s.vm.findClass "TreeMerge$Draft" = some m.cls := hown
  have hl : lv_has ls 2 [(0, .ref a0), (1, .int x1)] := hl
  obtain ⟨kp0, ekp⟩ : ∃ z, z = kp := ⟨_, rfl⟩
  obtain ⟨L0, eL⟩ : ∃ z, z = L := ⟨_, rfl⟩
  rw [show tw_Q D cs kp L = tw_Q D cs kp0 L0 by rw [ekp, eL]]
  have hex : ∀ a : Nat, a ∈ L0 → a ∈ L ∧ kp a = kp0 a := fun a h => ⟨by rw [← eL]; exact h, by rw [ekp]⟩
  have hF : tw_fr kp L [(10, 0)] [102, 110, 111, 114] E E := tw_fr.rf
  refine lv_aload_n hx hb dX0_cut_0 rfl (lv_at hl 0 rfl) ?_
  refine tw_get (ci := 0) (C := RX0) (T := TX0) (N := 4) hx hb hB cx_inX0 hown hK TH hm0 hk0 rfl ⟨by decide, rfl⟩ 2 (by decide) cw_259 (fun _ h9 => h9) dX0_cut_1 (fun hv => ?_)
  obtain ⟨xr1, hxr1, hmxr1, hkxr1⟩ : ∃ a : Nat, tw_fv E a0 2 = .ref a ∧ a ∈ L ∧ kp a = 10 := hv
  rw [hxr1]
  refine lv_iload_n hx hb dX0_cut_4 rfl (lv_at hl 1 rfl) ?_
  refine tw_Vc (o := xr1) (ci := 10) (n := 1) (post := (fun v kq Lq Eq => v = none ∧ kp = kq ∧ L = Lq ∧ tw_fr kp L [(10, 0)] [102, 110, 111, 114] E Eq)) (As := [.int x1]) (rest := []) ⟨hx, hb, hml, hown, hB⟩ (fun sz => tX10_cut l D cs xr1 x1 hmxr1 hkxr1 sz) cg_0_53_X10_cut rfl rfl (by decide +kernel) ⟨Nat.le_of_ble_eq_true rfl, Nat.le_of_ble_eq_true rfl⟩ hK hN TH hS hA rfl hmxr1 hkxr1 (by decide) rfl hl.1 rfl (Nat.le_of_ble_eq_true rfl) dX0_cut_5 ⟨Nat.le_of_ble_eq_true rfl, Nat.le_of_ble_eq_true rfl⟩ (fun v2 kp2 L2 E2 H locs hq2 hx2 TH hS => ?_)
  obtain ⟨rfl, rfl, rfl, hst2⟩ := hq2
  have hF := hF.tr hst2 (fun _ h => ⟨h, rfl⟩) (by decide) (by decide)
  have hmf4 : tw_fv E2 a0 2 = .ref xr1 := (hst2.1 a0 2 hm0 (by rw [hk0]; decide)).trans hxr1
  refine W.eq (g2 := F0 m 8 ls []) rfl ?_
  exact tw_vret hx hb hr hlocks TH hS hex ⟨rfl, rfl, rfl, hF⟩ (Nat.le_of_ble_eq_true rfl) (Nat.le_of_ble_eq_true rfl) dX0_cut_8
set_option maxHeartbeats 4000000 in
set_option maxRecDepth 100000 in
theorem tX0_arrange (l : Launch) (D : va_G) (cs : Nat → ClassId) {kp : Nat → Nat} {L : List Nat} {E : Nat → va_E} (a0 : Nat) (a1 : Nat) (hm0 : a0 ∈ L) (hk0 : kp a0 = 0) (hm1 : a1 ∈ L) (hk1 : kp a1 = 2) (sz : Nat) : Met l yX0_arrange (.code yX0_arrange cX0_arrange 2 none :: cx_big) { frames := 3, cells := 0, slots := 0, locals := 76 } (tw_P D cs kp L E [.ref a0, .ref a1] sz) (tw_Q D cs kp L (fun v kq Lq Eq => v = none ∧ kp = kq ∧ L = Lq ∧ tw_fr kp L [(10, 0)] [102, 110, 111, 112, 113, 114, 115] E Eq) (va_A (va_pl L E) sz)) 0 0 (va_A (va_pl L E) sz) := by
  refine tw_ofW (by decide) (Nat.le_of_ble_eq_true rfl) ?_
  intro p e s m below meth c A ls hx hb hr hml hB hown hlocks hK hN hA TH hS hl
  have hown : s.vm.findClass "TreeMerge$Draft" = some m.cls := hown
  have hl : lv_has ls 2 [(0, .ref a0), (1, .ref a1)] := hl
  obtain ⟨kp0, ekp⟩ : ∃ z, z = kp := ⟨_, rfl⟩
  obtain ⟨L0, eL⟩ : ∃ z, z = L := ⟨_, rfl⟩
  rw [show tw_Q D cs kp L = tw_Q D cs kp0 L0 by rw [ekp, eL]]
  have hex : ∀ a : Nat, a ∈ L0 → a ∈ L ∧ kp a = kp0 a := fun a h => ⟨by rw [← eL]; exact h, by rw [ekp]⟩
  have hF : tw_fr kp L [(10, 0)] [102, 110, 111, 112, 113, 114, 115] E E := tw_fr.rf
  refine lv_aload_n hx hb dX0_arrange_0 rfl (lv_at hl 0 rfl) ?_
  refine tw_get (ci := 0) (C := RX0) (T := TX0) (N := 4) hx hb hB cx_inX0 hown hK TH hm0 hk0 rfl ⟨by decide, rfl⟩ 3 (by decide) cw_261 (fun _ h9 => h9) dX0_arrange_1 (fun hv => ?_)
  obtain ⟨xr1, hxr1, hmxr1, hkxr1⟩ : ∃ a : Nat, tw_fv E a0 3 = .ref a ∧ a ∈ L ∧ kp a = 10 := hv
  rw [hxr1]
  refine lv_aload_n hx hb dX0_arrange_4 rfl (lv_at hl 0 rfl) ?_
  refine tw_get (ci := 0) (C := RX0) (T := TX0) (N := 4) hx hb hB cx_inX0 hown hK TH hm0 hk0 rfl ⟨by decide, rfl⟩ 2 (by decide) cw_259 (fun _ h9 => h9) dX0_arrange_5 (fun hv => ?_)
  obtain ⟨xr2, hxr2, hmxr2, hkxr2⟩ : ∃ a : Nat, tw_fv E a0 2 = .ref a ∧ a ∈ L ∧ kp a = 10 := hv
  rw [hxr2]
  refine tw_Vc (o := xr1) (ci := 10) (n := 1) (post := (fun v kq Lq Eq => v = none ∧ kp = kq ∧ L = Lq ∧ tw_fr kp L [(10, 0)] [102, 110, 111, 112, 113, 114, 115] E Eq)) (As := [.ref xr2]) (rest := []) ⟨hx, hb, hml, hown, hB⟩ (fun sz => tX10_copy l D cs xr1 xr2 hmxr1 hkxr1 hmxr2 hkxr2 sz) cg_0_57_X10_copy rfl rfl (by decide +kernel) ⟨Nat.le_of_ble_eq_true rfl, Nat.le_of_ble_eq_true rfl⟩ hK hN TH hS hA rfl hmxr1 hkxr1 (by decide) rfl hl.1 rfl (Nat.le_of_ble_eq_true rfl) dX0_arrange_8 ⟨Nat.le_of_ble_eq_true rfl, Nat.le_of_ble_eq_true rfl⟩ (fun v3 kp3 L3 E3 H locs hq3 hx3 TH hS => ?_)
  obtain ⟨rfl, rfl, rfl, hst3⟩ := hq3
  have hF := hF.tr hst3 (fun _ h => ⟨h, rfl⟩) (by decide) (by decide)
  have hmf5 : tw_fv E3 a0 3 = .ref xr1 := (hst3.1 a0 3 hm0 (by rw [hk0]; decide)).trans hxr1
  have hmf6 : tw_fv E3 a0 2 = .ref xr2 := (hst3.1 a0 2 hm0 (by rw [hk0]; decide)).trans hxr2
  refine W.eq (g2 := F0 m 11 ls []) rfl ?_
  refine lv_aload_n hx hb dX0_arrange_11 rfl (lv_at hl 0 rfl) ?_
  refine tw_get (ci := 0) (C := RX0) (T := TX0) (N := 4) hx hb hB cx_inX0 hown hK TH hm0 hk0 rfl ⟨by decide, rfl⟩ 2 (by decide) cw_259 (fun _ h9 => h9) dX0_arrange_12 (fun hv => ?_)
  rw [hmf6]
  refine lv_aload_n hx hb dX0_arrange_15 rfl (lv_at hl 0 rfl) ?_
  refine tw_get (ci := 0) (C := RX0) (T := TX0) (N := 4) hx hb hB cx_inX0 hown hK TH hm0 hk0 rfl ⟨by decide, rfl⟩ 3 (by decide) cw_261 (fun _ h9 => h9) dX0_arrange_16 (fun hv => ?_)
  rw [hmf5]
  refine lv_aload_n hx hb dX0_arrange_19 rfl (lv_at hl 1 rfl) ?_
  refine tw_Vc (o := xr2) (ci := 10) (n := 2) (post := (fun v kq Lq Eq => v = none ∧ kp = kq ∧ L = Lq ∧ tw_fr kp L [(10, 0)] [102, 110, 111, 112, 113, 114] E3 Eq)) (As := [.ref xr1, .ref a1]) (rest := []) ⟨hx, hb, hml, hown, hB⟩ (fun sz => tX10_arrange l D cs xr2 xr1 a1 hmxr2 hkxr2 hmxr1 hkxr1 hm1 hk1 sz) cg_0_61_X10_arrange rfl rfl (by decide +kernel) ⟨Nat.le_of_ble_eq_true rfl, Nat.le_of_ble_eq_true rfl⟩ hK hN TH hS hA rfl hmxr2 hkxr2 (by decide) rfl hl.1 rfl (Nat.le_of_ble_eq_true rfl) dX0_arrange_20 ⟨Nat.le_of_ble_eq_true rfl, Nat.le_of_ble_eq_true rfl⟩ (fun v7 kp7 L7 E7 H locs hq7 hx7 TH hS => ?_)
  obtain ⟨rfl, rfl, rfl, hst7⟩ := hq7
  have hF := hF.tr hst7 (fun _ h => ⟨h, rfl⟩) (by decide) (by decide)
  have hmf9 : tw_fv E7 a0 3 = .ref xr1 := (hst7.1 a0 3 hm0 (by rw [hk0]; decide)).trans hmf5
  have hmf10 : tw_fv E7 a0 2 = .ref xr2 := (hst7.1 a0 2 hm0 (by rw [hk0]; decide)).trans hmf6
  refine W.eq (g2 := F0 m 23 ls []) rfl ?_
  exact tw_vret hx hb hr hlocks TH hS hex ⟨rfl, rfl, rfl, hF⟩ (Nat.le_of_ble_eq_true rfl) (Nat.le_of_ble_eq_true rfl) dX0_arrange_23
set_option maxHeartbeats 4000000 in
set_option maxRecDepth 100000 in
theorem tX7_rowOf (l : Launch) (D : va_G) (cs : Nat → ClassId) {kp : Nat → Nat} {L : List Nat} {E : Nat → va_E} (x0 : Int32) (x1 : Int32)  (sz : Nat) : Met l yX7_rowOf (.code yX7_rowOf cX7_rowOf 3 (some .int) :: cx_big) { frames := 0, cells := 0, slots := 0, locals := 0 } (tw_P D cs kp L E [.int x0, .int x1] sz) (tw_Q D cs kp L (fun v kq Lq Eq => (∃ x : Int32, v = some (.int x) ∧ (-1) ≤ x.toInt ∧ x.toInt ≤ 449) ∧ kp = kq ∧ L = Lq ∧ E = Eq) (va_A (va_pl L E) sz)) 0 0 (va_A (va_pl L E) sz) := by
  refine tw_ofW (by decide) (Nat.le_of_ble_eq_true rfl) ?_
  intro p e s m below meth c A ls hx hb hr hml hB hown hlocks hK hN hA TH hS hl
  have hown : s.vm.findClass "TreeMerge$Settled" = some m.cls := hown
  have hl : lv_has ls 3 [(0, .int x0), (1, .int x1)] := hl
  obtain ⟨kp0, ekp⟩ : ∃ z, z = kp := ⟨_, rfl⟩
  obtain ⟨L0, eL⟩ : ∃ z, z = L := ⟨_, rfl⟩
  rw [show tw_Q D cs kp L = tw_Q D cs kp0 L0 by rw [ekp, eL]]
  have hex : ∀ a : Nat, a ∈ L0 → a ∈ L ∧ kp a = kp0 a := fun a h => ⟨by rw [← eL]; exact h, by rw [ekp]⟩
  refine lv_iload_n hx hb dX7_rowOf_0 rfl (lv_at hl 0 rfl) ?_
  refine lv_if_lt (tgt := 25) hx hb dX7_rowOf_1 (by decide) (fun hc1 => ?_) (fun hc1 => ?_)
  · have hf2 : x0.toInt < 0 := by have z := (fa_lt _ _).mp hc1; have : ((0 : Int32).toInt) = 0 := (by decide); omega
    refine lv_iconst (v := 0) hx hb dX7_rowOf_25 (by decide) ?_
    refine lv_istore_n (lv' := [(2, .int 0), (0, .int x0), (1, .int x1)]) hx hb dX7_rowOf_26 rfl hl (by decide) rfl (fun ls hl => ?_)
    refine lv_iload_n hx hb dX7_rowOf_27 rfl (lv_at hl 0 rfl) ?_
    refine lv_if_eq (tgt := 41) hx hb dX7_rowOf_28 (by decide) (fun hc3 => ?_) (fun hc3 => ?_)
    · have hf4 : 0 = 0 := by have z := (fa_eq _ _).mp hc3; have : ((0 : Int32).toInt) = 0 := (by decide); omega
      refine lv_iconst (v := (-1)) hx hb dX7_rowOf_41 (by decide) ?_
      exact tw_iret hx hb hr hlocks TH hS hex ⟨⟨_, rfl, (show (-1) ≤ Int32.toInt (-1) from by have : (((-1) : Int32).toInt) = (-1) := (by decide); omega), (show Int32.toInt (-1) ≤ 449 from by have : (((-1) : Int32).toInt) = (-1) := (by decide); omega)⟩, rfl, rfl, rfl⟩ (Nat.le_of_ble_eq_true rfl) (Nat.le_of_ble_eq_true rfl) dX7_rowOf_42
    · have hf5 : ¬ (0 = 0) := fun q => hc3 ((fa_eq _ _).mpr (by have : ((0 : Int32).toInt) = 0 := (by decide); omega))
      exfalso; omega
  · have hf6 : ¬ (x0.toInt < 0) := fun q => hc1 ((fa_lt _ _).mpr (by have : ((0 : Int32).toInt) = 0 := (by decide); omega))
    refine lv_iload_n hx hb dX7_rowOf_4 rfl (lv_at hl 0 rfl) ?_
    refine lv_sipush (v := 150) hx hb dX7_rowOf_5 (by decide) ?_
    refine lv_icmp_ge (tgt := 25) hx hb dX7_rowOf_8 (by decide) (fun hc7 => ?_) (fun hc7 => ?_)
    · have hf8 : 150 ≤ x0.toInt := by have z := (fa_le _ _).mp hc7; have : ((150 : Int32).toInt) = 150 := (by decide); omega
      refine lv_iconst (v := 0) hx hb dX7_rowOf_25 (by decide) ?_
      refine lv_istore_n (lv' := [(2, .int 0), (0, .int x0), (1, .int x1)]) hx hb dX7_rowOf_26 rfl hl (by decide) rfl (fun ls hl => ?_)
      refine lv_iload_n hx hb dX7_rowOf_27 rfl (lv_at hl 0 rfl) ?_
      refine lv_if_eq (tgt := 41) hx hb dX7_rowOf_28 (by decide) (fun hc9 => ?_) (fun hc9 => ?_)
      · have hf10 : 0 = 0 := by have z := (fa_eq _ _).mp hc9; have : ((0 : Int32).toInt) = 0 := (by decide); omega
        refine lv_iconst (v := (-1)) hx hb dX7_rowOf_41 (by decide) ?_
        exact tw_iret hx hb hr hlocks TH hS hex ⟨⟨_, rfl, (show (-1) ≤ Int32.toInt (-1) from by have : (((-1) : Int32).toInt) = (-1) := (by decide); omega), (show Int32.toInt (-1) ≤ 449 from by have : (((-1) : Int32).toInt) = (-1) := (by decide); omega)⟩, rfl, rfl, rfl⟩ (Nat.le_of_ble_eq_true rfl) (Nat.le_of_ble_eq_true rfl) dX7_rowOf_42
      · have hf11 : ¬ (0 = 0) := fun q => hc9 ((fa_eq _ _).mpr (by have : ((0 : Int32).toInt) = 0 := (by decide); omega))
        exfalso; omega
    · have hf12 : ¬ (150 ≤ x0.toInt) := fun q => hc7 ((fa_le _ _).mpr (by have : ((150 : Int32).toInt) = 150 := (by decide); omega))
      refine lv_iload_n hx hb dX7_rowOf_11 rfl (lv_at hl 1 rfl) ?_
      refine lv_iconst (v := 1) hx hb dX7_rowOf_12 (by decide) ?_
      refine lv_icmp_lt (tgt := 25) hx hb dX7_rowOf_13 (by decide) (fun hc13 => ?_) (fun hc13 => ?_)
      · have hf14 : x1.toInt < 1 := by have z := (fa_lt _ _).mp hc13; have : ((1 : Int32).toInt) = 1 := (by decide); omega
        refine lv_iconst (v := 0) hx hb dX7_rowOf_25 (by decide) ?_
        refine lv_istore_n (lv' := [(2, .int 0), (0, .int x0), (1, .int x1)]) hx hb dX7_rowOf_26 rfl hl (by decide) rfl (fun ls hl => ?_)
        refine lv_iload_n hx hb dX7_rowOf_27 rfl (lv_at hl 0 rfl) ?_
        refine lv_if_eq (tgt := 41) hx hb dX7_rowOf_28 (by decide) (fun hc15 => ?_) (fun hc15 => ?_)
        · have hf16 : 0 = 0 := by have z := (fa_eq _ _).mp hc15; have : ((0 : Int32).toInt) = 0 := (by decide); omega
          refine lv_iconst (v := (-1)) hx hb dX7_rowOf_41 (by decide) ?_
          exact tw_iret hx hb hr hlocks TH hS hex ⟨⟨_, rfl, (show (-1) ≤ Int32.toInt (-1) from by have : (((-1) : Int32).toInt) = (-1) := (by decide); omega), (show Int32.toInt (-1) ≤ 449 from by have : (((-1) : Int32).toInt) = (-1) := (by decide); omega)⟩, rfl, rfl, rfl⟩ (Nat.le_of_ble_eq_true rfl) (Nat.le_of_ble_eq_true rfl) dX7_rowOf_42
        · have hf17 : ¬ (0 = 0) := fun q => hc15 ((fa_eq _ _).mpr (by have : ((0 : Int32).toInt) = 0 := (by decide); omega))
          exfalso; omega
      · have hf18 : ¬ (x1.toInt < 1) := fun q => hc13 ((fa_lt _ _).mpr (by have : ((1 : Int32).toInt) = 1 := (by decide); omega))
        refine lv_iload_n hx hb dX7_rowOf_16 rfl (lv_at hl 1 rfl) ?_
        refine lv_iconst (v := 3) hx hb dX7_rowOf_17 (by decide) ?_
        refine lv_icmp_gt (tgt := 25) hx hb dX7_rowOf_18 (by decide) (fun hc19 => ?_) (fun hc19 => ?_)
        · have hf20 : 3 < x1.toInt := by have z := (fa_lt _ _).mp hc19; have : ((3 : Int32).toInt) = 3 := (by decide); omega
          refine lv_iconst (v := 0) hx hb dX7_rowOf_25 (by decide) ?_
          refine lv_istore_n (lv' := [(2, .int 0), (0, .int x0), (1, .int x1)]) hx hb dX7_rowOf_26 rfl hl (by decide) rfl (fun ls hl => ?_)
          refine lv_iload_n hx hb dX7_rowOf_27 rfl (lv_at hl 0 rfl) ?_
          refine lv_if_eq (tgt := 41) hx hb dX7_rowOf_28 (by decide) (fun hc21 => ?_) (fun hc21 => ?_)
          · have hf22 : 0 = 0 := by have z := (fa_eq _ _).mp hc21; have : ((0 : Int32).toInt) = 0 := (by decide); omega
            refine lv_iconst (v := (-1)) hx hb dX7_rowOf_41 (by decide) ?_
            exact tw_iret hx hb hr hlocks TH hS hex ⟨⟨_, rfl, (show (-1) ≤ Int32.toInt (-1) from by have : (((-1) : Int32).toInt) = (-1) := (by decide); omega), (show Int32.toInt (-1) ≤ 449 from by have : (((-1) : Int32).toInt) = (-1) := (by decide); omega)⟩, rfl, rfl, rfl⟩ (Nat.le_of_ble_eq_true rfl) (Nat.le_of_ble_eq_true rfl) dX7_rowOf_42
          · have hf23 : ¬ (0 = 0) := fun q => hc21 ((fa_eq _ _).mpr (by have : ((0 : Int32).toInt) = 0 := (by decide); omega))
            exfalso; omega
        · have hf24 : ¬ (3 < x1.toInt) := fun q => hc19 ((fa_lt _ _).mpr (by have : ((3 : Int32).toInt) = 3 := (by decide); omega))
          refine lv_iconst (v := 1) hx hb dX7_rowOf_21 (by decide) ?_
          refine lv_goto (tgt := 26) hx hb dX7_rowOf_22 (by decide) ?_
          refine lv_istore_n (lv' := [(2, .int 1), (0, .int x0), (1, .int x1)]) hx hb dX7_rowOf_26 rfl hl (by decide) rfl (fun ls hl => ?_)
          refine lv_iload_n hx hb dX7_rowOf_27 rfl (lv_at hl 0 rfl) ?_
          refine lv_if_eq (tgt := 41) hx hb dX7_rowOf_28 (by decide) (fun hc25 => ?_) (fun hc25 => ?_)
          · have hf26 : 1 = 0 := by have z := (fa_eq _ _).mp hc25; have : ((0 : Int32).toInt) = 0 := (by decide); have : ((1 : Int32).toInt) = 1 := (by decide); omega
            exfalso; omega
          · have hf27 : ¬ (1 = 0) := fun q => hc25 ((fa_eq _ _).mpr (by have : ((0 : Int32).toInt) = 0 := (by decide); have : ((1 : Int32).toInt) = 1 := (by decide); omega))
            refine lv_iload_n hx hb dX7_rowOf_31 rfl (lv_at hl 1 rfl) ?_
            refine lv_iconst (v := 3) hx hb dX7_rowOf_32 (by decide) ?_
            refine lv_imul hx hb dX7_rowOf_33 ?_
            refine lv_topi (fun zi28 ezi28 => ?_)
            have hzi28 : zi28.toInt = x0.toInt * 3 := by rw [ezi28]; exact (ia_mul (by have hc : ((3 : Int32).toInt) = 3 := (by decide); rw [hc]; omega) (by have hc : ((3 : Int32).toInt) = 3 := (by decide); rw [hc]; omega)).trans (by have hc : ((3 : Int32).toInt) = 3 := (by decide); rw [hc])
            refine lv_iload_n hx hb dX7_rowOf_34 rfl (lv_at hl 2 rfl) ?_
            refine lv_iadd hx hb dX7_rowOf_35 ?_
            refine lv_topi (fun zi29 ezi29 => ?_)
            have hzi29 : zi29.toInt = zi28.toInt + x1.toInt := by rw [ezi29];  have := ia_lo zi28; have := ia_hi zi28; have := ia_lo x1; have := ia_hi x1; exact (ia_add (by omega) (by omega)).trans (by omega)
            refine lv_iconst (v := 1) hx hb dX7_rowOf_36 (by decide) ?_
            refine lv_isub hx hb dX7_rowOf_37 ?_
            refine lv_topi (fun zi30 ezi30 => ?_)
            have hzi30 : zi30.toInt = zi29.toInt - 1 := by rw [ezi30]; have : ((1 : Int32).toInt) = 1 := (by decide); have := ia_lo zi29; have := ia_hi zi29; exact (ia_sub (by omega) (by omega)).trans (by omega)
            refine lv_goto (tgt := 42) hx hb dX7_rowOf_38 (by decide) ?_
            exact tw_iret hx hb hr hlocks TH hS hex ⟨⟨_, rfl, (show (-1) ≤ Int32.toInt zi30 from by  omega), (show Int32.toInt zi30 ≤ 449 from by  omega)⟩, rfl, rfl, rfl⟩ (Nat.le_of_ble_eq_true rfl) (Nat.le_of_ble_eq_true rfl) dX7_rowOf_42
set_option maxHeartbeats 4000000 in
set_option maxRecDepth 100000 in
theorem tX7_set (l : Launch) (D : va_G) (cs : Nat → ClassId) {kp : Nat → Nat} {L : List Nat} {E : Nat → va_E} (a0 : Nat) (x1 : Int32) (x2 : Int32) (x3 : Int32) (hm0 : a0 ∈ L) (hk0 : kp a0 = 7) (hp3a : (-1) ≤ x3.toInt) (hp3b : x3.toInt ≤ 11) (sz : Nat) : Met l yX7_set (.code yX7_set cX7_set 5 none :: cx_big) { frames := 1, cells := 0, slots := 0, locals := 22 } (tw_P D cs kp L E [.ref a0, .int x1, .int x2, .int x3] sz) (tw_Q D cs kp L (fun v kq Lq Eq => v = none ∧ kp = kq ∧ L = Lq ∧ tw_fr kp L [(7, 0)] [120] E Eq) (va_A (va_pl L E) sz)) 0 0 (va_A (va_pl L E) sz) := by
  refine tw_ofW (by decide) (Nat.le_of_ble_eq_true rfl) ?_
  intro p e s m below meth c A ls hx hb hr hml hB hown hlocks hK hN hA TH hS hl
  have hown : s.vm.findClass "TreeMerge$Settled" = some m.cls := hown
  have hl : lv_has ls 5 [(0, .ref a0), (1, .int x1), (2, .int x2), (3, .int x3)] := hl
  obtain ⟨kp0, ekp⟩ : ∃ z, z = kp := ⟨_, rfl⟩
  obtain ⟨L0, eL⟩ : ∃ z, z = L := ⟨_, rfl⟩
  rw [show tw_Q D cs kp L = tw_Q D cs kp0 L0 by rw [ekp, eL]]
  have hex : ∀ a : Nat, a ∈ L0 → a ∈ L ∧ kp a = kp0 a := fun a h => ⟨by rw [← eL]; exact h, by rw [ekp]⟩
  have hF : tw_fr kp L [(7, 0)] [120] E E := tw_fr.rf
  refine lv_iload_n hx hb dX7_set_0 rfl (lv_at hl 1 rfl) ?_
  refine lv_iload_n hx hb dX7_set_1 rfl (lv_at hl 2 rfl) ?_
  refine tw_Sc (n := 2) (post := (fun v kq Lq Eq => (∃ x : Int32, v = some (.int x) ∧ (-1) ≤ x.toInt ∧ x.toInt ≤ 449) ∧ kp = kq ∧ L = Lq ∧ E = Eq)) (As := [.int x1, .int x2]) (rest := []) ⟨hx, hb, hml, hown, hB⟩ (fun sz => tX7_rowOf l D cs x1 x2  sz) cg_7_15_X7_rowOf rfl rfl (by decide +kernel) ⟨Nat.le_of_ble_eq_true rfl, Nat.le_of_ble_eq_true rfl⟩ hK hN TH hS hA rfl hl.1 rfl (Nat.le_of_ble_eq_true rfl) dX7_set_2 ⟨Nat.le_of_ble_eq_true rfl, Nat.le_of_ble_eq_true rfl⟩ (fun v1 kp1 L1 E1 H locs hq1 hx1 TH hS => ?_)
  obtain ⟨⟨xc2, rfl, hxc2a, hxc2b⟩, rfl, rfl, rfl⟩ := hq1
  refine W.eq (g2 := F0 m 5 ls [.int xc2]) rfl ?_
  refine lv_istore (lv' := [(4, .int xc2), (0, .ref a0), (1, .int x1), (2, .int x2), (3, .int x3)]) hx hb dX7_set_5 hl (by decide) rfl (fun ls hl => ?_)
  refine lv_iload hx hb dX7_set_7 (lv_at hl 0 rfl) ?_
  refine lv_iconst (v := (-1)) hx hb dX7_set_9 (by decide) ?_
  refine lv_icmp_ne (tgt := 14) hx hb dX7_set_10 (by decide) (fun hc3 => ?_) (fun hc3 => ?_)
  · have hf4 : ¬ (xc2.toInt = (-1)) := fun q => hc3 ((fa_eq _ _).mpr (by have : (((-1) : Int32).toInt) = (-1) := (by decide); omega))
    refine lv_aload_n hx hb dX7_set_14 rfl (lv_at hl 1 rfl) ?_
    refine tw_get (ci := 7) (C := RX7) (T := TX7) (N := 2) hx hb hB cx_inX7 hown hK TH hm0 hk0 rfl ⟨by decide, rfl⟩ 1 (by decide) cw_279 (fun _ h9 => h9) dX7_set_15 (fun hv => ?_)
    obtain ⟨xr5, hxr5, hmxr5, hkxr5⟩ : ∃ a : Nat, tw_fv E a0 1 = .ref a ∧ a ∈ L ∧ kp a = 120 := hv
    rw [hxr5]
    refine lv_iload hx hb dX7_set_18 (lv_at hl 0 rfl) ?_
    refine tw_iald (k := 120) (t0 := 0) (n := 450) (lo := 0) (hi := 12) hx hb hK TH hmxr5 hkxr5 (by decide) rfl rfl (i := xc2) (vp_in_iff.mpr ⟨by  omega, by  omega⟩) dX7_set_20 (fun hxe6a hxe6b => ?_)
    obtain ⟨xe6, exe6⟩ : ∃ z : Int32, tw_iv E xr5 (Int32.toNatClampNeg xc2) = z := ⟨_, rfl⟩
    rw [exe6] at hxe6a hxe6b ⊢
    refine lv_if_ne (tgt := 34) hx hb dX7_set_21 (by decide) (fun hc7 => ?_) (fun hc7 => ?_)
    · have hf8 : ¬ (xe6.toInt = 0) := fun q => hc7 ((fa_eq _ _).mpr (by have : ((0 : Int32).toInt) = 0 := (by decide); omega))
      refine lv_aload_n hx hb dX7_set_34 rfl (lv_at hl 1 rfl) ?_
      refine tw_get (ci := 7) (C := RX7) (T := TX7) (N := 2) hx hb hB cx_inX7 hown hK TH hm0 hk0 rfl ⟨by decide, rfl⟩ 1 (by decide) cw_279 (fun _ h9 => h9) dX7_set_35 (fun hv => ?_)
      rw [hxr5]
      refine lv_iload hx hb dX7_set_38 (lv_at hl 0 rfl) ?_
      refine lv_iload_n hx hb dX7_set_40 rfl (lv_at hl 4 rfl) ?_
      refine lv_iconst (v := 1) hx hb dX7_set_41 (by decide) ?_
      refine lv_iadd hx hb dX7_set_42 ?_
      refine lv_topi (fun zi9 ezi9 => ?_)
      have hzi9 : zi9.toInt = x3.toInt + 1 := by rw [ezi9]; have : ((1 : Int32).toInt) = 1 := (by decide); have := ia_lo x3; have := ia_hi x3; exact (ia_add (by omega) (by omega)).trans (by omega)
      refine tw_iast (k := 120) (n := 450) (lo := 0) (hi := 12) hx hb hK TH hS hmxr5 hkxr5 (by decide) rfl (i := xc2) (x := zi9) (vp_in_iff.mpr ⟨by  omega, by  omega⟩) (by omega) (by omega) dX7_set_43 (fun H locs E10 TH hS hp11 hp12 hp13 => ?_)
      have hst14 : tw_fr kp L [] [120] E E10 := tw_fr.ast tw_fr.rf (fun _ => hkxr5) hp11 hp12 (by decide)
      have hF := hF.tr hst14 (fun _ h => ⟨h, rfl⟩) (by decide) (by decide)
      have hmf15 : tw_fv E10 a0 1 = .ref xr5 := (hst14.1 a0 1 hm0 (by rw [hk0]; decide)).trans hxr5
      exact tw_vret hx hb hr hlocks TH hS hex ⟨rfl, rfl, rfl, hF⟩ (Nat.le_of_ble_eq_true rfl) (Nat.le_of_ble_eq_true rfl) dX7_set_44
    · have hf16 : xe6.toInt = 0 := by have z := (fa_eq _ _).mp hc7; have : ((0 : Int32).toInt) = 0 := (by decide); omega
      refine lv_aload_n hx hb dX7_set_24 rfl (lv_at hl 1 rfl) ?_
      refine lv_dup hx hb dX7_set_25 rfl ?_
      refine tw_get (ci := 7) (C := RX7) (T := TX7) (N := 2) hx hb hB cx_inX7 hown hK TH hm0 hk0 rfl ⟨by decide, rfl⟩ 0 (by decide) cw_277 (fun _ h9 => h9) dX7_set_26 (fun hv => ?_)
      obtain ⟨xi17, hxi17, hxi17a, hxi17b⟩ : ∃ x : Int32, tw_fv E a0 0 = .int x ∧ (-2147483648) ≤ x.toInt ∧ x.toInt ≤ 2147483647 := hv
      rw [hxi17]
      refine lv_iconst (v := 1) hx hb dX7_set_29 (by decide) ?_
      refine lv_iadd hx hb dX7_set_30 ?_
      refine lv_topi (fun zi18 ezi18 => ?_)
      refine tw_put (ci := 7) (v := .int zi18) (ty := .int) (C := RX7) (T := TX7) (N := 2) hx hb hB cx_inX7 tyX7 tyX7_ok nmX7 hown hK TH hS hm0 hk0 rfl ⟨by decide, rfl⟩ 0 (by decide) cw_277 (fun _ h9 => h9) rfl (by decide +kernel) rfl rfl ⟨_, rfl, (ia_lo _), (ia_hi _)⟩ dX7_set_31 (fun H locs E19 TH hS hmf23 hp20 hp21 => ?_)
      have hst22 : tw_fr kp L [(7, 0)] [] E E19 := tw_fr.put tw_fr.rf (fun _ => hk0) (by decide) hp20 hp21 (by decide)
      have hF := hF.tr hst22 (fun _ h => ⟨h, rfl⟩) (by decide) (by decide)
      have hmf24 : tw_fv E19 a0 1 = .ref xr5 := (hst22.1 a0 1 hm0 (by rw [hk0]; decide)).trans hxr5
      refine lv_aload_n hx hb dX7_set_34 rfl (lv_at hl 1 rfl) ?_
      refine tw_get (ci := 7) (C := RX7) (T := TX7) (N := 2) hx hb hB cx_inX7 hown hK TH hm0 hk0 rfl ⟨by decide, rfl⟩ 1 (by decide) cw_279 (fun _ h9 => h9) dX7_set_35 (fun hv => ?_)
      rw [hmf24]
      refine lv_iload hx hb dX7_set_38 (lv_at hl 0 rfl) ?_
      refine lv_iload_n hx hb dX7_set_40 rfl (lv_at hl 4 rfl) ?_
      refine lv_iconst (v := 1) hx hb dX7_set_41 (by decide) ?_
      refine lv_iadd hx hb dX7_set_42 ?_
      refine lv_topi (fun zi25 ezi25 => ?_)
      have hzi25 : zi25.toInt = x3.toInt + 1 := by rw [ezi25]; have : ((1 : Int32).toInt) = 1 := (by decide); have := ia_lo x3; have := ia_hi x3; exact (ia_add (by omega) (by omega)).trans (by omega)
      refine tw_iast (k := 120) (n := 450) (lo := 0) (hi := 12) hx hb hK TH hS hmxr5 hkxr5 (by decide) rfl (i := xc2) (x := zi25) (vp_in_iff.mpr ⟨by  omega, by  omega⟩) (by omega) (by omega) dX7_set_43 (fun H locs E26 TH hS hp27 hp28 hp29 => ?_)
      have hst30 : tw_fr kp L [] [120] E19 E26 := tw_fr.ast tw_fr.rf (fun _ => hkxr5) hp27 hp28 (by decide)
      have hF := hF.tr hst30 (fun _ h => ⟨h, rfl⟩) (by decide) (by decide)
      have hmf31 : tw_fv E26 a0 1 = .ref xr5 := (hst30.1 a0 1 hm0 (by rw [hk0]; decide)).trans hmf24
      have hmf32 : tw_fv E26 a0 0 = .int zi18 := (hst30.1 a0 0 hm0 (by rw [hk0]; decide)).trans hmf23
      exact tw_vret hx hb hr hlocks TH hS hex ⟨rfl, rfl, rfl, hF⟩ (Nat.le_of_ble_eq_true rfl) (Nat.le_of_ble_eq_true rfl) dX7_set_44
  · have hf33 : xc2.toInt = (-1) := by have z := (fa_eq _ _).mp hc3; have : (((-1) : Int32).toInt) = (-1) := (by decide); omega
    exact tw_vret hx hb hr hlocks TH hS hex ⟨rfl, rfl, rfl, hF⟩ (Nat.le_of_ble_eq_true rfl) (Nat.le_of_ble_eq_true rfl) dX7_set_13
set_option maxHeartbeats 4000000 in
set_option maxRecDepth 100000 in
theorem tX7_editionFor (l : Launch) (D : va_G) (cs : Nat → ClassId) {kp : Nat → Nat} {L : List Nat} {E : Nat → va_E} (a0 : Nat) (x1 : Int32) (x2 : Int32) (hm0 : a0 ∈ L) (hk0 : kp a0 = 7) (sz : Nat) : Met l yX7_editionFor (.code yX7_editionFor cX7_editionFor 4 (some .int) :: cx_big) { frames := 1, cells := 0, slots := 0, locals := 22 } (tw_P D cs kp L E [.ref a0, .int x1, .int x2] sz) (tw_Q D cs kp L (fun v kq Lq Eq => (∃ x : Int32, v = some (.int x) ∧ (-1) ≤ x.toInt ∧ x.toInt ≤ 11) ∧ kp = kq ∧ L = Lq ∧ E = Eq) (va_A (va_pl L E) sz)) 0 0 (va_A (va_pl L E) sz) := by
  refine tw_ofW (by decide) (Nat.le_of_ble_eq_true rfl) ?_
  intro p e s m below meth c A ls hx hb hr hml hB hown hlocks hK hN hA TH hS hl
  have hown : s.vm.findClass "TreeMerge$Settled" = some m.cls := hown
  have hl : lv_has ls 4 [(0, .ref a0), (1, .int x1), (2, .int x2)] := hl
  obtain ⟨kp0, ekp⟩ : ∃ z, z = kp := ⟨_, rfl⟩
  obtain ⟨L0, eL⟩ : ∃ z, z = L := ⟨_, rfl⟩
  rw [show tw_Q D cs kp L = tw_Q D cs kp0 L0 by rw [ekp, eL]]
  have hex : ∀ a : Nat, a ∈ L0 → a ∈ L ∧ kp a = kp0 a := fun a h => ⟨by rw [← eL]; exact h, by rw [ekp]⟩
  refine lv_iload_n hx hb dX7_editionFor_0 rfl (lv_at hl 1 rfl) ?_
  refine lv_iload_n hx hb dX7_editionFor_1 rfl (lv_at hl 2 rfl) ?_
  refine tw_Sc (n := 2) (post := (fun v kq Lq Eq => (∃ x : Int32, v = some (.int x) ∧ (-1) ≤ x.toInt ∧ x.toInt ≤ 449) ∧ kp = kq ∧ L = Lq ∧ E = Eq)) (As := [.int x1, .int x2]) (rest := []) ⟨hx, hb, hml, hown, hB⟩ (fun sz => tX7_rowOf l D cs x1 x2  sz) cg_7_15_X7_rowOf rfl rfl (by decide +kernel) ⟨Nat.le_of_ble_eq_true rfl, Nat.le_of_ble_eq_true rfl⟩ hK hN TH hS hA rfl hl.1 rfl (Nat.le_of_ble_eq_true rfl) dX7_editionFor_2 ⟨Nat.le_of_ble_eq_true rfl, Nat.le_of_ble_eq_true rfl⟩ (fun v1 kp1 L1 E1 H locs hq1 hx1 TH hS => ?_)
  obtain ⟨⟨xc2, rfl, hxc2a, hxc2b⟩, rfl, rfl, rfl⟩ := hq1
  refine W.eq (g2 := F0 m 5 ls [.int xc2]) rfl ?_
  refine lv_istore_n (lv' := [(3, .int xc2), (0, .ref a0), (1, .int x1), (2, .int x2)]) hx hb dX7_editionFor_5 rfl hl (by decide) rfl (fun ls hl => ?_)
  refine lv_iload_n hx hb dX7_editionFor_6 rfl (lv_at hl 0 rfl) ?_
  refine lv_iconst (v := (-1)) hx hb dX7_editionFor_7 (by decide) ?_
  refine lv_icmp_ne (tgt := 15) hx hb dX7_editionFor_8 (by decide) (fun hc3 => ?_) (fun hc3 => ?_)
  · have hf4 : ¬ (xc2.toInt = (-1)) := fun q => hc3 ((fa_eq _ _).mpr (by have : (((-1) : Int32).toInt) = (-1) := (by decide); omega))
    refine lv_aload_n hx hb dX7_editionFor_15 rfl (lv_at hl 1 rfl) ?_
    refine tw_get (ci := 7) (C := RX7) (T := TX7) (N := 2) hx hb hB cx_inX7 hown hK TH hm0 hk0 rfl ⟨by decide, rfl⟩ 1 (by decide) cw_279 (fun _ h9 => h9) dX7_editionFor_16 (fun hv => ?_)
    obtain ⟨xr5, hxr5, hmxr5, hkxr5⟩ : ∃ a : Nat, tw_fv E a0 1 = .ref a ∧ a ∈ L ∧ kp a = 120 := hv
    rw [hxr5]
    refine lv_iload_n hx hb dX7_editionFor_19 rfl (lv_at hl 0 rfl) ?_
    refine tw_iald (k := 120) (t0 := 0) (n := 450) (lo := 0) (hi := 12) hx hb hK TH hmxr5 hkxr5 (by decide) rfl rfl (i := xc2) (vp_in_iff.mpr ⟨by  omega, by  omega⟩) dX7_editionFor_20 (fun hxe6a hxe6b => ?_)
    obtain ⟨xe6, exe6⟩ : ∃ z : Int32, tw_iv E xr5 (Int32.toNatClampNeg xc2) = z := ⟨_, rfl⟩
    rw [exe6] at hxe6a hxe6b ⊢
    refine lv_iconst (v := 1) hx hb dX7_editionFor_21 (by decide) ?_
    refine lv_isub hx hb dX7_editionFor_22 ?_
    refine lv_topi (fun zi7 ezi7 => ?_)
    have hzi7 : zi7.toInt = xe6.toInt - 1 := by rw [ezi7]; have : ((1 : Int32).toInt) = 1 := (by decide); have := ia_lo xe6; have := ia_hi xe6; exact (ia_sub (by omega) (by omega)).trans (by omega)
    exact tw_iret hx hb hr hlocks TH hS hex ⟨⟨_, rfl, (show (-1) ≤ Int32.toInt zi7 from by  omega), (show Int32.toInt zi7 ≤ 11 from by  omega)⟩, rfl, rfl, rfl⟩ (Nat.le_of_ble_eq_true rfl) (Nat.le_of_ble_eq_true rfl) dX7_editionFor_23
  · have hf8 : xc2.toInt = (-1) := by have z := (fa_eq _ _).mp hc3; have : (((-1) : Int32).toInt) = (-1) := (by decide); omega
    refine lv_iconst (v := (-1)) hx hb dX7_editionFor_11 (by decide) ?_
    refine lv_goto (tgt := 23) hx hb dX7_editionFor_12 (by decide) ?_
    exact tw_iret hx hb hr hlocks TH hS hex ⟨⟨_, rfl, (show (-1) ≤ Int32.toInt (-1) from by have : (((-1) : Int32).toInt) = (-1) := (by decide); omega), (show Int32.toInt (-1) ≤ 11 from by have : (((-1) : Int32).toInt) = (-1) := (by decide); omega)⟩, rfl, rfl, rfl⟩ (Nat.le_of_ble_eq_true rfl) (Nat.le_of_ble_eq_true rfl) dX7_editionFor_23
set_option maxHeartbeats 4000000 in
set_option maxRecDepth 100000 in
theorem tX7_clear (l : Launch) (D : va_G) (cs : Nat → ClassId) {kp : Nat → Nat} {L : List Nat} {E : Nat → va_E} (a0 : Nat) (hm0 : a0 ∈ L) (hk0 : kp a0 = 7) (sz : Nat) : Met l yX7_clear (.code yX7_clear cX7_clear 2 none :: cx_big) { frames := 0, cells := 0, slots := 0, locals := 0 } (tw_P D cs kp L E [.ref a0] sz) (tw_Q D cs kp L (fun v kq Lq Eq => v = none ∧ kp = kq ∧ L = Lq ∧ tw_fr kp L [(7, 0)] [120] E Eq) (va_A (va_pl L E) sz)) 0 0 (va_A (va_pl L E) sz) := by
  refine tw_ofW (by decide) (Nat.le_of_ble_eq_true rfl) ?_
  intro p e s m below meth c A ls hx hb hr hml hB hown hlocks hK hN hA TH hS hl
  have hown : s.vm.findClass "TreeMerge$Settled" = some m.cls := hown
  have hl : lv_has ls 2 [(0, .ref a0)] := hl
  obtain ⟨kp0, ekp⟩ : ∃ z, z = kp := ⟨_, rfl⟩
  obtain ⟨L0, eL⟩ : ∃ z, z = L := ⟨_, rfl⟩
  rw [show tw_Q D cs kp L = tw_Q D cs kp0 L0 by rw [ekp, eL]]
  have hex : ∀ a : Nat, a ∈ L0 → a ∈ L ∧ kp a = kp0 a := fun a h => ⟨by rw [← eL]; exact h, by rw [ekp]⟩
  have hF : tw_fr kp L [(7, 0)] [120] E E := tw_fr.rf
  refine lv_aload_n hx hb dX7_clear_0 rfl (lv_at hl 0 rfl) ?_
  refine lv_iconst (v := 0) hx hb dX7_clear_1 (by decide) ?_
  refine tw_put (ci := 7) (v := .int 0) (ty := .int) (C := RX7) (T := TX7) (N := 2) hx hb hB cx_inX7 tyX7 tyX7_ok nmX7 hown hK TH hS hm0 hk0 rfl ⟨by decide, rfl⟩ 0 (by decide) cw_277 (fun _ h9 => h9) rfl (by decide +kernel) rfl rfl ⟨_, rfl, (ia_lo _), (ia_hi _)⟩ dX7_clear_2 (fun H locs E1 TH hS hmf5 hp2 hp3 => ?_)
  have hst4 : tw_fr kp L [(7, 0)] [] E E1 := tw_fr.put tw_fr.rf (fun _ => hk0) (by decide) hp2 hp3 (by decide)
  have hF := hF.tr hst4 (fun _ h => ⟨h, rfl⟩) (by decide) (by decide)
  refine lv_iconst (v := 0) hx hb dX7_clear_5 (by decide) ?_
  refine lv_istore_n (lv' := [(1, .int 0), (0, .ref a0)]) hx hb dX7_clear_6 rfl hl (by decide) rfl (fun ls hl => ?_)
  have hJ7 : ∀ (n7 : Nat) (y7_1 : Int32) (Eg7 : Nat → va_E) (H : Heap) (locs : List Loc) (ls : Array Slot), 0 ≤ y7_1.toInt → y7_1.toInt ≤ 450 → 450 - y7_1.toInt ≤ (n7 : Int) → tw_fr kp L [] [120] E1 Eg7 → tw_H D cs kp L Eg7 A H → va_S A s.heap H locs → lv_has ls 2 [(1, .int y7_1), (0, .ref a0)] → W p l e { frames := 0, cells := 0, slots := 0, locals := 0 } s m [.ref a0].toArray below meth c H locs 0 0 (MQ below (tw_Q D cs kp0 L0 (fun v kq Lq Eq => v = none ∧ kp = kq ∧ L = Lq ∧ tw_fr kp L [(7, 0)] [120] E Eq) A) [.ref a0].toArray s 0 0 A) (F0 m 7 ls []) := by
    intro n7
    induction n7 using Nat.strongRecOn with
    | _ n7 ih7 =>
      intro y7_1 Eg7 H locs ls hy7_1a hy7_1b hmeas7 hG7 TH hS hl
      have hF := hF.tr hG7 (fun _ h => ⟨h, rfl⟩) (by decide) (by decide)
      have hmf6 : tw_fv Eg7 a0 0 = .int 0 := (hG7.1 a0 0 hm0 (by rw [hk0]; decide)).trans hmf5
      refine lv_iload_n hx hb dX7_clear_7 rfl (lv_at hl 0 rfl) ?_
      refine lv_aload_n hx hb dX7_clear_8 rfl (lv_at hl 1 rfl) ?_
      refine tw_get (ci := 7) (C := RX7) (T := TX7) (N := 2) hx hb hB cx_inX7 hown hK TH hm0 hk0 rfl ⟨by decide, rfl⟩ 1 (by decide) cw_279 (fun _ h9 => h9) dX7_clear_9 (fun hv => ?_)
      obtain ⟨xr7, hxr7, hmxr7, hkxr7⟩ : ∃ a : Nat, tw_fv Eg7 a0 1 = .ref a ∧ a ∈ L ∧ kp a = 120 := hv
      rw [hxr7]
      refine tw_alen (v := 450) (ty := .int) hx hb hK TH hmxr7 hkxr7 (by decide) rfl rfl dX7_clear_12 ?_
      refine lv_icmp_ge (tgt := 29) hx hb dX7_clear_13 (by decide) (fun hc8 => ?_) (fun hc8 => ?_)
      · have hf9 : 450 ≤ y7_1.toInt := by have z := (fa_le _ _).mp hc8; have : ((450 : Int32).toInt) = 450 := (by decide); omega
        exact tw_vret hx hb hr hlocks TH hS hex ⟨rfl, rfl, rfl, hF⟩ (Nat.le_of_ble_eq_true rfl) (Nat.le_of_ble_eq_true rfl) dX7_clear_29
      · have hf10 : ¬ (450 ≤ y7_1.toInt) := fun q => hc8 ((fa_le _ _).mpr (by have : ((450 : Int32).toInt) = 450 := (by decide); omega))
        refine lv_aload_n hx hb dX7_clear_16 rfl (lv_at hl 1 rfl) ?_
        refine tw_get (ci := 7) (C := RX7) (T := TX7) (N := 2) hx hb hB cx_inX7 hown hK TH hm0 hk0 rfl ⟨by decide, rfl⟩ 1 (by decide) cw_279 (fun _ h9 => h9) dX7_clear_17 (fun hv => ?_)
        rw [hxr7]
        refine lv_iload_n hx hb dX7_clear_20 rfl (lv_at hl 0 rfl) ?_
        refine lv_iconst (v := 0) hx hb dX7_clear_21 (by decide) ?_
        refine tw_iast (k := 120) (n := 450) (lo := 0) (hi := 12) hx hb hK TH hS hmxr7 hkxr7 (by decide) rfl (i := y7_1) (x := 0) (vp_in_iff.mpr ⟨by  omega, by  omega⟩) (by have : ((0 : Int32).toInt) = 0 := (by decide); omega) (by have : ((0 : Int32).toInt) = 0 := (by decide); omega) dX7_clear_22 (fun H locs E11 TH hS hp12 hp13 hp14 => ?_)
        have hst15 : tw_fr kp L [] [120] Eg7 E11 := tw_fr.ast tw_fr.rf (fun _ => hkxr7) hp12 hp13 (by decide)
        have hF := hF.tr hst15 (fun _ h => ⟨h, rfl⟩) (by decide) (by decide)
        have hG7 := hG7.tr hst15 (fun _ h => ⟨h, rfl⟩) (by decide) (by decide)
        have hmf16 : tw_fv E11 a0 0 = .int 0 := (hst15.1 a0 0 hm0 (by rw [hk0]; decide)).trans hmf6
        have hmf17 : tw_fv E11 a0 1 = .ref xr7 := (hst15.1 a0 1 hm0 (by rw [hk0]; decide)).trans hxr7
        obtain ⟨zi18, ezi18⟩ : ∃ z : Int32, z = y7_1 + Int32.ofInt 1 := ⟨_, rfl⟩
        have hzi18 : zi18.toInt = y7_1.toInt + 1 := by rw [ezi18]; have : ((Int32.ofInt 1).toInt) = 1 := (by decide);  exact (ia_add (by omega) (by omega)).trans (by omega)
        refine lv_iinc (v := zi18) (lv' := [(1, .int zi18), (0, .ref a0)]) hx hb dX7_clear_23 hl (k := 0) rfl ezi18.symm (by decide) rfl (fun ls hl => ?_)
        refine lv_goto (tgt := 7) hx hb dX7_clear_26 (by decide) ?_
        exact ih7 (n7 - 1) (by   omega) zi18 _ _ _ ls (by omega) (by omega) (by   omega) hG7 TH hS (lv_sub hl [0, 1] rfl)
  exact hJ7 451 (0 : Int32) _ _ _ ls (by have : ((0 : Int32).toInt) = 0 := (by decide); omega) (by have : ((0 : Int32).toInt) = 0 := (by decide); omega) (by have : ((0 : Int32).toInt) = 0 := (by decide);  omega) tw_fr.rf TH hS (lv_sub hl [0, 1] rfl)
set_option maxHeartbeats 4000000 in
set_option maxRecDepth 100000 in
theorem tX8_load (l : Launch) (D : va_G) (cs : Nat → ClassId) {kp : Nat → Nat} {L : List Nat} {E : Nat → va_E} (a0 : Nat) (a1 : Nat) (x2 : Int32) (hm0 : a0 ∈ L) (hk0 : kp a0 = 8) (hm1 : a1 ∈ L) (hk1 : kp a1 = 10) (hp2a : (-1) ≤ x2.toInt) (hp2b : x2.toInt ≤ 11) (sz : Nat) : Met l yX8_load (.code yX8_load cX8_load 5 none :: cx_big) { frames := 0, cells := 0, slots := 0, locals := 0 } (tw_P D cs kp L E [.ref a0, .ref a1, .int x2] sz) (tw_Q D cs kp L (fun v kq Lq Eq => v = none ∧ kp = kq ∧ L = Lq ∧ tw_fr kp L [(8, 0), (8, 1)] [170] E Eq) (va_A (va_pl L E) sz)) 0 0 (va_A (va_pl L E) sz) := by
  refine tw_ofW (by decide) (Nat.le_of_ble_eq_true rfl) ?_
  intro p e s m below meth c A ls hx hb hr hml hB hown hlocks hK hN hA TH hS hl
  have hown : s.vm.findClass "TreeMerge$Side" = some m.cls := hown
  have hl : lv_has ls 5 [(0, .ref a0), (1, .ref a1), (2, .int x2)] := hl
  obtain ⟨kp0, ekp⟩ : ∃ z, z = kp := ⟨_, rfl⟩
  obtain ⟨L0, eL⟩ : ∃ z, z = L := ⟨_, rfl⟩
  rw [show tw_Q D cs kp L = tw_Q D cs kp0 L0 by rw [ekp, eL]]
  have hex : ∀ a : Nat, a ∈ L0 → a ∈ L ∧ kp a = kp0 a := fun a h => ⟨by rw [← eL]; exact h, by rw [ekp]⟩
  have hF : tw_fr kp L [(8, 0), (8, 1)] [170] E E := tw_fr.rf
  refine lv_aload_n hx hb dX8_load_0 rfl (lv_at hl 0 rfl) ?_
  refine lv_aload_n hx hb dX8_load_1 rfl (lv_at hl 1 rfl) ?_
  refine tw_put (ci := 8) (v := .ref a1) (ty := .object "TreeMerge$Tree") (C := RX8) (T := TX8) (N := 4) hx hb hB cx_inX8 tyX8 tyX8_ok nmX8 hown hK TH hS hm0 hk0 rfl ⟨by decide, rfl⟩ 0 (by decide) cw_299 (fun _ h9 => h9) rfl (by decide +kernel) rfl rfl ⟨_, rfl, hm1, hk1⟩ dX8_load_2 (fun H locs E1 TH hS hmf5 hp2 hp3 => ?_)
  have hst4 : tw_fr kp L [(8, 0)] [] E E1 := tw_fr.put tw_fr.rf (fun _ => hk0) (by decide) hp2 hp3 (by decide)
  have hF := hF.tr hst4 (fun _ h => ⟨h, rfl⟩) (by decide) (by decide)
  refine lv_aload_n hx hb dX8_load_5 rfl (lv_at hl 0 rfl) ?_
  refine lv_iload_n hx hb dX8_load_6 rfl (lv_at hl 2 rfl) ?_
  refine tw_put (ci := 8) (v := .int x2) (ty := .int) (C := RX8) (T := TX8) (N := 4) hx hb hB cx_inX8 tyX8 tyX8_ok nmX8 hown hK TH hS hm0 hk0 rfl ⟨by decide, rfl⟩ 1 (by decide) cw_300 (fun _ h9 => h9) rfl (by decide +kernel) rfl rfl ⟨_, rfl, (show (-1) ≤ Int32.toInt x2 from by  omega), (show Int32.toInt x2 ≤ 11 from by  omega)⟩ dX8_load_7 (fun H locs E6 TH hS hmf10 hp7 hp8 => ?_)
  have hst9 : tw_fr kp L [(8, 1)] [] E1 E6 := tw_fr.put tw_fr.rf (fun _ => hk0) (by decide) hp7 hp8 (by decide)
  have hF := hF.tr hst9 (fun _ h => ⟨h, rfl⟩) (by decide) (by decide)
  have hmf11 : tw_fv E6 a0 0 = .ref a1 := (hst9.1 a0 0 hm0 (by rw [hk0]; decide)).trans hmf5
  refine lv_iconst (v := 0) hx hb dX8_load_10 (by decide) ?_
  refine lv_istore_n (lv' := [(3, .int 0), (0, .ref a0), (1, .ref a1), (2, .int x2)]) hx hb dX8_load_11 rfl hl (by decide) rfl (fun ls hl => ?_)
  have hJ12 : ∀ (n12 : Nat) (y12_3 : Int32) (Eg12 : Nat → va_E) (H : Heap) (locs : List Loc) (ls : Array Slot), 0 ≤ y12_3.toInt → y12_3.toInt ≤ 150 → 150 - y12_3.toInt ≤ (n12 : Int) → tw_fr kp L [] [170] E6 Eg12 → tw_H D cs kp L Eg12 A H → va_S A s.heap H locs → lv_has ls 5 [(3, .int y12_3), (0, .ref a0)] → W p l e { frames := 0, cells := 0, slots := 0, locals := 0 } s m [.ref a0, .ref a1, .int x2].toArray below meth c H locs 0 0 (MQ below (tw_Q D cs kp0 L0 (fun v kq Lq Eq => v = none ∧ kp = kq ∧ L = Lq ∧ tw_fr kp L [(8, 0), (8, 1)] [170] E Eq) A) [.ref a0, .ref a1, .int x2].toArray s 0 0 A) (F0 m 12 ls []) := by
    intro n12
    induction n12 using Nat.strongRecOn with
    | _ n12 ih12 =>
      intro y12_3 Eg12 H locs ls hy12_3a hy12_3b hmeas12 hG12 TH hS hl
      have hF := hF.tr hG12 (fun _ h => ⟨h, rfl⟩) (by decide) (by decide)
      have hmf12 : tw_fv Eg12 a0 0 = .ref a1 := (hG12.1 a0 0 hm0 (by rw [hk0]; decide)).trans hmf11
      have hmf13 : tw_fv Eg12 a0 1 = .int x2 := (hG12.1 a0 1 hm0 (by rw [hk0]; decide)).trans hmf10
      refine lv_iload_n hx hb dX8_load_12 rfl (lv_at hl 0 rfl) ?_
      refine lv_sipush (v := 150) hx hb dX8_load_13 (by decide) ?_
      refine lv_icmp_ge (tgt := 32) hx hb dX8_load_16 (by decide) (fun hc14 => ?_) (fun hc14 => ?_)
      · have hf15 : 150 ≤ y12_3.toInt := by have z := (fa_le _ _).mp hc14; have : ((150 : Int32).toInt) = 150 := (by decide); omega
        refine lv_iconst (v := 0) hx hb dX8_load_32 (by decide) ?_
        refine lv_istore_n (lv' := [(3, .int 0), (0, .ref a0)]) hx hb dX8_load_33 rfl hl (by decide) rfl (fun ls hl => ?_)
        have hJ34 : ∀ (n34 : Nat) (y34_3 : Int32) (Eg34 : Nat → va_E) (H : Heap) (locs : List Loc) (ls : Array Slot), 0 ≤ y34_3.toInt → y34_3.toInt ≤ 40 → 40 - y34_3.toInt ≤ (n34 : Int) → tw_fr kp L [] [170] Eg12 Eg34 → tw_H D cs kp L Eg34 A H → va_S A s.heap H locs → lv_has ls 5 [(3, .int y34_3), (0, .ref a0)] → W p l e { frames := 0, cells := 0, slots := 0, locals := 0 } s m [.ref a0, .ref a1, .int x2].toArray below meth c H locs 0 0 (MQ below (tw_Q D cs kp0 L0 (fun v kq Lq Eq => v = none ∧ kp = kq ∧ L = Lq ∧ tw_fr kp L [(8, 0), (8, 1)] [170] E Eq) A) [.ref a0, .ref a1, .int x2].toArray s 0 0 A) (F0 m 34 ls []) := by
          intro n34
          induction n34 using Nat.strongRecOn with
          | _ n34 ih34 =>
            intro y34_3 Eg34 H locs ls hy34_3a hy34_3b hmeas34 hG34 TH hS hl
            have hF := hF.tr hG34 (fun _ h => ⟨h, rfl⟩) (by decide) (by decide)
            have hG12 := hG12.tr hG34 (fun _ h => ⟨h, rfl⟩) (by decide) (by decide)
            have hmf16 : tw_fv Eg34 a0 0 = .ref a1 := (hG34.1 a0 0 hm0 (by rw [hk0]; decide)).trans hmf12
            have hmf17 : tw_fv Eg34 a0 1 = .int x2 := (hG34.1 a0 1 hm0 (by rw [hk0]; decide)).trans hmf13
            refine lv_iload_n hx hb dX8_load_34 rfl (lv_at hl 0 rfl) ?_
            refine lv_aload_n hx hb dX8_load_35 rfl (lv_at hl 1 rfl) ?_
            refine tw_get (ci := 8) (C := RX8) (T := TX8) (N := 4) hx hb hB cx_inX8 hown hK TH hm0 hk0 rfl ⟨by decide, rfl⟩ 0 (by decide) cw_299 (fun _ h9 => h9) dX8_load_36 (fun hv => ?_)
            rw [hmf16]
            refine tw_get (ci := 10) (C := RX10) (T := TX10) (N := 8) hx hb hB cx_inX10 hown hK TH hm1 hk1 rfl ⟨by decide, rfl⟩ 0 (by decide) cw_117 (fun _ h9 => h9) dX8_load_39 (fun hv => ?_)
            obtain ⟨xi18, hxi18, hxi18a, hxi18b⟩ : ∃ x : Int32, tw_fv Eg34 a1 0 = .int x ∧ 0 ≤ x.toInt ∧ x.toInt ≤ 40 := hv
            rw [hxi18]
            refine lv_icmp_ge (tgt := 83) hx hb dX8_load_42 (by decide) (fun hc19 => ?_) (fun hc19 => ?_)
            · have hf20 : xi18.toInt ≤ y34_3.toInt := by have z := (fa_le _ _).mp hc19;  omega
              exact tw_vret hx hb hr hlocks TH hS hex ⟨rfl, rfl, rfl, hF⟩ (Nat.le_of_ble_eq_true rfl) (Nat.le_of_ble_eq_true rfl) dX8_load_83
            · have hf21 : ¬ (xi18.toInt ≤ y34_3.toInt) := fun q => hc19 ((fa_le _ _).mpr (by  omega))
              refine lv_aload_n hx hb dX8_load_45 rfl (lv_at hl 1 rfl) ?_
              refine tw_get (ci := 8) (C := RX8) (T := TX8) (N := 4) hx hb hB cx_inX8 hown hK TH hm0 hk0 rfl ⟨by decide, rfl⟩ 0 (by decide) cw_299 (fun _ h9 => h9) dX8_load_46 (fun hv => ?_)
              rw [hmf16]
              refine tw_get (ci := 10) (C := RX10) (T := TX10) (N := 8) hx hb hB cx_inX10 hown hK TH hm1 hk1 rfl ⟨by decide, rfl⟩ 1 (by decide) cw_123 (fun _ h9 => h9) dX8_load_49 (fun hv => ?_)
              obtain ⟨xr22, hxr22, hmxr22, hkxr22⟩ : ∃ a : Nat, tw_fv Eg34 a1 1 = .ref a ∧ a ∈ L ∧ kp a = 110 := hv
              rw [hxr22]
              refine lv_iload_n hx hb dX8_load_52 rfl (lv_at hl 0 rfl) ?_
              refine tw_iald (k := 110) (t0 := 0) (n := 40) (lo := (-1)) (hi := 149) hx hb hK TH hmxr22 hkxr22 (by decide) rfl rfl (i := y34_3) (vp_in_iff.mpr ⟨by  omega, by  omega⟩) dX8_load_53 (fun hxe23a hxe23b => ?_)
              obtain ⟨xe23, exe23⟩ : ∃ z : Int32, tw_iv Eg34 xr22 (Int32.toNatClampNeg y34_3) = z := ⟨_, rfl⟩
              rw [exe23] at hxe23a hxe23b ⊢
              refine lv_istore (lv' := [(4, .int xe23), (3, .int y34_3), (0, .ref a0)]) hx hb dX8_load_54 hl (by decide) rfl (fun ls hl => ?_)
              refine lv_iload hx hb dX8_load_56 (lv_at hl 0 rfl) ?_
              have hJ77 : ∀  (Eg77 : Nat → va_E) (H : Heap) (locs : List Loc) (ls : Array Slot), tw_fr kp L [] [170] Eg34 Eg77 → tw_H D cs kp L Eg77 A H → va_S A s.heap H locs → lv_has ls 5 [(3, .int y34_3), (0, .ref a0)] → W p l e { frames := 0, cells := 0, slots := 0, locals := 0 } s m [.ref a0, .ref a1, .int x2].toArray below meth c H locs 0 0 (MQ below (tw_Q D cs kp0 L0 (fun v kq Lq Eq => v = none ∧ kp = kq ∧ L = Lq ∧ tw_fr kp L [(8, 0), (8, 1)] [170] E Eq) A) [.ref a0, .ref a1, .int x2].toArray s 0 0 A) (F0 m 77 ls []) := by
                intro Eg77 H locs ls hG77 TH hS hl
                have hF := hF.tr hG77 (fun _ h => ⟨h, rfl⟩) (by decide) (by decide)
                have hG12 := hG12.tr hG77 (fun _ h => ⟨h, rfl⟩) (by decide) (by decide)
                have hG34 := hG34.tr hG77 (fun _ h => ⟨h, rfl⟩) (by decide) (by decide)
                have hmf24 : tw_fv Eg77 a0 0 = .ref a1 := (hG77.1 a0 0 hm0 (by rw [hk0]; decide)).trans hmf16
                have hmf25 : tw_fv Eg77 a0 1 = .int x2 := (hG77.1 a0 1 hm0 (by rw [hk0]; decide)).trans hmf17
                have hmf26 : tw_fv Eg77 a1 0 = .int xi18 := (hG77.1 a1 0 hm1 (by rw [hk1]; decide)).trans hxi18
                have hmf27 : tw_fv Eg77 a1 1 = .ref xr22 := (hG77.1 a1 1 hm1 (by rw [hk1]; decide)).trans hxr22
                obtain ⟨zi28, ezi28⟩ : ∃ z : Int32, z = y34_3 + Int32.ofInt 1 := ⟨_, rfl⟩
                have hzi28 : zi28.toInt = y34_3.toInt + 1 := by rw [ezi28]; have : ((Int32.ofInt 1).toInt) = 1 := (by decide);  exact (ia_add (by omega) (by omega)).trans (by omega)
                refine lv_iinc (v := zi28) (lv' := [(3, .int zi28), (0, .ref a0)]) hx hb dX8_load_77 hl (k := 0) rfl ezi28.symm (by decide) rfl (fun ls hl => ?_)
                refine lv_goto (tgt := 34) hx hb dX8_load_80 (by decide) ?_
                exact ih34 (n34 - 1) (by   omega) zi28 _ _ _ ls (by omega) (by omega) (by   omega) hG34 TH hS (lv_sub hl [0, 1] rfl)
              have hG77 : tw_fr kp L [] [170] Eg34 Eg34 := tw_fr.rf
              refine lv_if_lt (tgt := 77) hx hb dX8_load_58 (by decide) (fun hc29 => ?_) (fun hc29 => ?_)
              · have hf30 : xe23.toInt < 0 := by have z := (fa_lt _ _).mp hc29; have : ((0 : Int32).toInt) = 0 := (by decide); omega
                exact hJ77  _ _ _ ls hG77 TH hS (lv_sub hl [1, 2] rfl)
              · have hf31 : ¬ (xe23.toInt < 0) := fun q => hc29 ((fa_lt _ _).mpr (by have : ((0 : Int32).toInt) = 0 := (by decide); omega))
                refine lv_iload hx hb dX8_load_61 (lv_at hl 0 rfl) ?_
                refine lv_sipush (v := 150) hx hb dX8_load_63 (by decide) ?_
                refine lv_icmp_ge (tgt := 77) hx hb dX8_load_66 (by decide) (fun hc32 => ?_) (fun hc32 => ?_)
                · have hf33 : 150 ≤ xe23.toInt := by have z := (fa_le _ _).mp hc32; have : ((150 : Int32).toInt) = 150 := (by decide); omega
                  exfalso; omega
                · have hf34 : ¬ (150 ≤ xe23.toInt) := fun q => hc32 ((fa_le _ _).mpr (by have : ((150 : Int32).toInt) = 150 := (by decide); omega))
                  refine lv_aload_n hx hb dX8_load_69 rfl (lv_at hl 2 rfl) ?_
                  refine tw_get (ci := 8) (C := RX8) (T := TX8) (N := 4) hx hb hB cx_inX8 hown hK TH hm0 hk0 rfl ⟨by decide, rfl⟩ 2 (by decide) cw_302 (fun _ h9 => h9) dX8_load_70 (fun hv => ?_)
                  obtain ⟨xr35, hxr35, hmxr35, hkxr35⟩ : ∃ a : Nat, tw_fv Eg34 a0 2 = .ref a ∧ a ∈ L ∧ kp a = 170 := hv
                  rw [hxr35]
                  refine lv_iload hx hb dX8_load_73 (lv_at hl 0 rfl) ?_
                  refine lv_iload_n hx hb dX8_load_75 rfl (lv_at hl 1 rfl) ?_
                  refine tw_iast (k := 170) (n := 150) (lo := (-1)) (hi := 39) hx hb hK TH hS hmxr35 hkxr35 (by decide) rfl (i := xe23) (x := y34_3) (vp_in_iff.mpr ⟨by  omega, by  omega⟩) (by omega) (by omega) dX8_load_76 (fun H locs E36 TH hS hp37 hp38 hp39 => ?_)
                  have hst40 : tw_fr kp L [] [170] Eg34 E36 := tw_fr.ast tw_fr.rf (fun _ => hkxr35) hp37 hp38 (by decide)
                  have hF := hF.tr hst40 (fun _ h => ⟨h, rfl⟩) (by decide) (by decide)
                  have hG12 := hG12.tr hst40 (fun _ h => ⟨h, rfl⟩) (by decide) (by decide)
                  have hG34 := hG34.tr hst40 (fun _ h => ⟨h, rfl⟩) (by decide) (by decide)
                  have hG77 := hG77.tr hst40 (fun _ h => ⟨h, rfl⟩) (by decide) (by decide)
                  have hmf41 : tw_fv E36 a0 0 = .ref a1 := (hst40.1 a0 0 hm0 (by rw [hk0]; decide)).trans hmf16
                  have hmf42 : tw_fv E36 a0 1 = .int x2 := (hst40.1 a0 1 hm0 (by rw [hk0]; decide)).trans hmf17
                  have hmf43 : tw_fv E36 a1 0 = .int xi18 := (hst40.1 a1 0 hm1 (by rw [hk1]; decide)).trans hxi18
                  have hmf44 : tw_fv E36 a1 1 = .ref xr22 := (hst40.1 a1 1 hm1 (by rw [hk1]; decide)).trans hxr22
                  have hmf45 : tw_fv E36 a0 2 = .ref xr35 := (hst40.1 a0 2 hm0 (by rw [hk0]; decide)).trans hxr35
                  exact hJ77  _ _ _ ls hG77 TH hS (lv_sub hl [1, 2] rfl)
        exact hJ34 41 (0 : Int32) _ _ _ ls (by have : ((0 : Int32).toInt) = 0 := (by decide); omega) (by have : ((0 : Int32).toInt) = 0 := (by decide); omega) (by have : ((0 : Int32).toInt) = 0 := (by decide);  omega) tw_fr.rf TH hS (lv_sub hl [0, 1] rfl)
      · have hf46 : ¬ (150 ≤ y12_3.toInt) := fun q => hc14 ((fa_le _ _).mpr (by have : ((150 : Int32).toInt) = 150 := (by decide); omega))
        refine lv_aload_n hx hb dX8_load_19 rfl (lv_at hl 1 rfl) ?_
        refine tw_get (ci := 8) (C := RX8) (T := TX8) (N := 4) hx hb hB cx_inX8 hown hK TH hm0 hk0 rfl ⟨by decide, rfl⟩ 2 (by decide) cw_302 (fun _ h9 => h9) dX8_load_20 (fun hv => ?_)
        obtain ⟨xr47, hxr47, hmxr47, hkxr47⟩ : ∃ a : Nat, tw_fv Eg12 a0 2 = .ref a ∧ a ∈ L ∧ kp a = 170 := hv
        rw [hxr47]
        refine lv_iload_n hx hb dX8_load_23 rfl (lv_at hl 0 rfl) ?_
        refine lv_iconst (v := (-1)) hx hb dX8_load_24 (by decide) ?_
        refine tw_iast (k := 170) (n := 150) (lo := (-1)) (hi := 39) hx hb hK TH hS hmxr47 hkxr47 (by decide) rfl (i := y12_3) (x := (-1)) (vp_in_iff.mpr ⟨by  omega, by  omega⟩) (by have : (((-1) : Int32).toInt) = (-1) := (by decide); omega) (by have : (((-1) : Int32).toInt) = (-1) := (by decide); omega) dX8_load_25 (fun H locs E48 TH hS hp49 hp50 hp51 => ?_)
        have hst52 : tw_fr kp L [] [170] Eg12 E48 := tw_fr.ast tw_fr.rf (fun _ => hkxr47) hp49 hp50 (by decide)
        have hF := hF.tr hst52 (fun _ h => ⟨h, rfl⟩) (by decide) (by decide)
        have hG12 := hG12.tr hst52 (fun _ h => ⟨h, rfl⟩) (by decide) (by decide)
        have hmf53 : tw_fv E48 a0 0 = .ref a1 := (hst52.1 a0 0 hm0 (by rw [hk0]; decide)).trans hmf12
        have hmf54 : tw_fv E48 a0 1 = .int x2 := (hst52.1 a0 1 hm0 (by rw [hk0]; decide)).trans hmf13
        have hmf55 : tw_fv E48 a0 2 = .ref xr47 := (hst52.1 a0 2 hm0 (by rw [hk0]; decide)).trans hxr47
        obtain ⟨zi56, ezi56⟩ : ∃ z : Int32, z = y12_3 + Int32.ofInt 1 := ⟨_, rfl⟩
        have hzi56 : zi56.toInt = y12_3.toInt + 1 := by rw [ezi56]; have : ((Int32.ofInt 1).toInt) = 1 := (by decide);  exact (ia_add (by omega) (by omega)).trans (by omega)
        refine lv_iinc (v := zi56) (lv' := [(3, .int zi56), (0, .ref a0)]) hx hb dX8_load_26 hl (k := 0) rfl ezi56.symm (by decide) rfl (fun ls hl => ?_)
        refine lv_goto (tgt := 12) hx hb dX8_load_29 (by decide) ?_
        exact ih12 (n12 - 1) (by   omega) zi56 _ _ _ ls (by omega) (by omega) (by   omega) hG12 TH hS (lv_sub hl [0, 1] rfl)
  exact hJ12 151 (0 : Int32) _ _ _ ls (by have : ((0 : Int32).toInt) = 0 := (by decide); omega) (by have : ((0 : Int32).toInt) = 0 := (by decide); omega) (by have : ((0 : Int32).toInt) = 0 := (by decide);  omega) tw_fr.rf TH hS (lv_sub hl [0, 1] rfl)
set_option maxHeartbeats 4000000 in
set_option maxRecDepth 100000 in
theorem tX8_placeOf (l : Launch) (D : va_G) (cs : Nat → ClassId) {kp : Nat → Nat} {L : List Nat} {E : Nat → va_E} (a0 : Nat) (x1 : Int32) (hm0 : a0 ∈ L) (hk0 : kp a0 = 8) (sz : Nat) : Met l yX8_placeOf (.code yX8_placeOf cX8_placeOf 2 (some .int) :: cx_big) { frames := 0, cells := 0, slots := 0, locals := 0 } (tw_P D cs kp L E [.ref a0, .int x1] sz) (tw_Q D cs kp L (fun v kq Lq Eq => (∃ x : Int32, v = some (.int x) ∧ (-1) ≤ x.toInt ∧ x.toInt ≤ 39) ∧ kp = kq ∧ L = Lq ∧ E = Eq) (va_A (va_pl L E) sz)) 0 0 (va_A (va_pl L E) sz) := by
  refine tw_ofW (by decide) (Nat.le_of_ble_eq_true rfl) ?_
  intro p e s m below meth c A ls hx hb hr hml hB hown hlocks hK hN hA TH hS hl
  have hown : s.vm.findClass "TreeMerge$Side" = some m.cls := hown
  have hl : lv_has ls 2 [(0, .ref a0), (1, .int x1)] := hl
  obtain ⟨kp0, ekp⟩ : ∃ z, z = kp := ⟨_, rfl⟩
  obtain ⟨L0, eL⟩ : ∃ z, z = L := ⟨_, rfl⟩
  rw [show tw_Q D cs kp L = tw_Q D cs kp0 L0 by rw [ekp, eL]]
  have hex : ∀ a : Nat, a ∈ L0 → a ∈ L ∧ kp a = kp0 a := fun a h => ⟨by rw [← eL]; exact h, by rw [ekp]⟩
  refine lv_iload_n hx hb dX8_placeOf_0 rfl (lv_at hl 1 rfl) ?_
  refine lv_if_lt (tgt := 20) hx hb dX8_placeOf_1 (by decide) (fun hc1 => ?_) (fun hc1 => ?_)
  · have hf2 : x1.toInt < 0 := by have z := (fa_lt _ _).mp hc1; have : ((0 : Int32).toInt) = 0 := (by decide); omega
    refine lv_iconst (v := (-1)) hx hb dX8_placeOf_20 (by decide) ?_
    exact tw_iret hx hb hr hlocks TH hS hex ⟨⟨_, rfl, (show (-1) ≤ Int32.toInt (-1) from by have : (((-1) : Int32).toInt) = (-1) := (by decide); omega), (show Int32.toInt (-1) ≤ 39 from by have : (((-1) : Int32).toInt) = (-1) := (by decide); omega)⟩, rfl, rfl, rfl⟩ (Nat.le_of_ble_eq_true rfl) (Nat.le_of_ble_eq_true rfl) dX8_placeOf_21
  · have hf3 : ¬ (x1.toInt < 0) := fun q => hc1 ((fa_lt _ _).mpr (by have : ((0 : Int32).toInt) = 0 := (by decide); omega))
    refine lv_iload_n hx hb dX8_placeOf_4 rfl (lv_at hl 1 rfl) ?_
    refine lv_sipush (v := 150) hx hb dX8_placeOf_5 (by decide) ?_
    refine lv_icmp_ge (tgt := 20) hx hb dX8_placeOf_8 (by decide) (fun hc4 => ?_) (fun hc4 => ?_)
    · have hf5 : 150 ≤ x1.toInt := by have z := (fa_le _ _).mp hc4; have : ((150 : Int32).toInt) = 150 := (by decide); omega
      refine lv_iconst (v := (-1)) hx hb dX8_placeOf_20 (by decide) ?_
      exact tw_iret hx hb hr hlocks TH hS hex ⟨⟨_, rfl, (show (-1) ≤ Int32.toInt (-1) from by have : (((-1) : Int32).toInt) = (-1) := (by decide); omega), (show Int32.toInt (-1) ≤ 39 from by have : (((-1) : Int32).toInt) = (-1) := (by decide); omega)⟩, rfl, rfl, rfl⟩ (Nat.le_of_ble_eq_true rfl) (Nat.le_of_ble_eq_true rfl) dX8_placeOf_21
    · have hf6 : ¬ (150 ≤ x1.toInt) := fun q => hc4 ((fa_le _ _).mpr (by have : ((150 : Int32).toInt) = 150 := (by decide); omega))
      refine lv_aload_n hx hb dX8_placeOf_11 rfl (lv_at hl 0 rfl) ?_
      refine tw_get (ci := 8) (C := RX8) (T := TX8) (N := 4) hx hb hB cx_inX8 hown hK TH hm0 hk0 rfl ⟨by decide, rfl⟩ 2 (by decide) cw_302 (fun _ h9 => h9) dX8_placeOf_12 (fun hv => ?_)
      obtain ⟨xr7, hxr7, hmxr7, hkxr7⟩ : ∃ a : Nat, tw_fv E a0 2 = .ref a ∧ a ∈ L ∧ kp a = 170 := hv
      rw [hxr7]
      refine lv_iload_n hx hb dX8_placeOf_15 rfl (lv_at hl 1 rfl) ?_
      refine tw_iald (k := 170) (t0 := 0) (n := 150) (lo := (-1)) (hi := 39) hx hb hK TH hmxr7 hkxr7 (by decide) rfl rfl (i := x1) (vp_in_iff.mpr ⟨by  omega, by  omega⟩) dX8_placeOf_16 (fun hxe8a hxe8b => ?_)
      obtain ⟨xe8, exe8⟩ : ∃ z : Int32, tw_iv E xr7 (Int32.toNatClampNeg x1) = z := ⟨_, rfl⟩
      rw [exe8] at hxe8a hxe8b ⊢
      refine lv_goto (tgt := 21) hx hb dX8_placeOf_17 (by decide) ?_
      exact tw_iret hx hb hr hlocks TH hS hex ⟨⟨_, rfl, (show (-1) ≤ Int32.toInt xe8 from by  omega), (show Int32.toInt xe8 ≤ 39 from by  omega)⟩, rfl, rfl, rfl⟩ (Nat.le_of_ble_eq_true rfl) (Nat.le_of_ble_eq_true rfl) dX8_placeOf_21
set_option maxHeartbeats 4000000 in
set_option maxRecDepth 100000 in
theorem tX8_has (l : Launch) (D : va_G) (cs : Nat → ClassId) {kp : Nat → Nat} {L : List Nat} {E : Nat → va_E} (a0 : Nat) (x1 : Int32) (hm0 : a0 ∈ L) (hk0 : kp a0 = 8) (sz : Nat) : Met l yX8_has (.code yX8_has cX8_has 2 (some .boolean) :: cx_big) { frames := 0, cells := 0, slots := 0, locals := 0 } (tw_P D cs kp L E [.ref a0, .int x1] sz) (tw_Q D cs kp L (fun v kq Lq Eq => (∃ x : Int32, v = some (.int x) ∧ 0 ≤ x.toInt ∧ x.toInt ≤ 1) ∧ kp = kq ∧ L = Lq ∧ E = Eq) (va_A (va_pl L E) sz)) 0 0 (va_A (va_pl L E) sz) := by
  refine tw_ofW (by decide) (Nat.le_of_ble_eq_true rfl) ?_
  intro p e s m below meth c A ls hx hb hr hml hB hown hlocks hK hN hA TH hS hl
  have hown : s.vm.findClass "TreeMerge$Side" = some m.cls := hown
  have hl : lv_has ls 2 [(0, .ref a0), (1, .int x1)] := hl
  obtain ⟨kp0, ekp⟩ : ∃ z, z = kp := ⟨_, rfl⟩
  obtain ⟨L0, eL⟩ : ∃ z, z = L := ⟨_, rfl⟩
  rw [show tw_Q D cs kp L = tw_Q D cs kp0 L0 by rw [ekp, eL]]
  have hex : ∀ a : Nat, a ∈ L0 → a ∈ L ∧ kp a = kp0 a := fun a h => ⟨by rw [← eL]; exact h, by rw [ekp]⟩
  refine lv_iload_n hx hb dX8_has_0 rfl (lv_at hl 1 rfl) ?_
  refine lv_if_lt (tgt := 25) hx hb dX8_has_1 (by decide) (fun hc1 => ?_) (fun hc1 => ?_)
  · have hf2 : x1.toInt < 0 := by have z := (fa_lt _ _).mp hc1; have : ((0 : Int32).toInt) = 0 := (by decide); omega
    refine lv_iconst (v := 0) hx hb dX8_has_25 (by decide) ?_
    exact tw_zret hx hb hr hlocks (by decide) TH hS hex ⟨⟨_, rfl, (show 0 ≤ Int32.toInt 0 from by have : ((0 : Int32).toInt) = 0 := (by decide); omega), (show Int32.toInt 0 ≤ 1 from by have : ((0 : Int32).toInt) = 0 := (by decide); omega)⟩, rfl, rfl, rfl⟩ (Nat.le_of_ble_eq_true rfl) (Nat.le_of_ble_eq_true rfl) dX8_has_26
  · have hf3 : ¬ (x1.toInt < 0) := fun q => hc1 ((fa_lt _ _).mpr (by have : ((0 : Int32).toInt) = 0 := (by decide); omega))
    refine lv_iload_n hx hb dX8_has_4 rfl (lv_at hl 1 rfl) ?_
    refine lv_sipush (v := 150) hx hb dX8_has_5 (by decide) ?_
    refine lv_icmp_ge (tgt := 25) hx hb dX8_has_8 (by decide) (fun hc4 => ?_) (fun hc4 => ?_)
    · have hf5 : 150 ≤ x1.toInt := by have z := (fa_le _ _).mp hc4; have : ((150 : Int32).toInt) = 150 := (by decide); omega
      refine lv_iconst (v := 0) hx hb dX8_has_25 (by decide) ?_
      exact tw_zret hx hb hr hlocks (by decide) TH hS hex ⟨⟨_, rfl, (show 0 ≤ Int32.toInt 0 from by have : ((0 : Int32).toInt) = 0 := (by decide); omega), (show Int32.toInt 0 ≤ 1 from by have : ((0 : Int32).toInt) = 0 := (by decide); omega)⟩, rfl, rfl, rfl⟩ (Nat.le_of_ble_eq_true rfl) (Nat.le_of_ble_eq_true rfl) dX8_has_26
    · have hf6 : ¬ (150 ≤ x1.toInt) := fun q => hc4 ((fa_le _ _).mpr (by have : ((150 : Int32).toInt) = 150 := (by decide); omega))
      refine lv_aload_n hx hb dX8_has_11 rfl (lv_at hl 0 rfl) ?_
      refine tw_get (ci := 8) (C := RX8) (T := TX8) (N := 4) hx hb hB cx_inX8 hown hK TH hm0 hk0 rfl ⟨by decide, rfl⟩ 2 (by decide) cw_302 (fun _ h9 => h9) dX8_has_12 (fun hv => ?_)
      obtain ⟨xr7, hxr7, hmxr7, hkxr7⟩ : ∃ a : Nat, tw_fv E a0 2 = .ref a ∧ a ∈ L ∧ kp a = 170 := hv
      rw [hxr7]
      refine lv_iload_n hx hb dX8_has_15 rfl (lv_at hl 1 rfl) ?_
      refine tw_iald (k := 170) (t0 := 0) (n := 150) (lo := (-1)) (hi := 39) hx hb hK TH hmxr7 hkxr7 (by decide) rfl rfl (i := x1) (vp_in_iff.mpr ⟨by  omega, by  omega⟩) dX8_has_16 (fun hxe8a hxe8b => ?_)
      obtain ⟨xe8, exe8⟩ : ∃ z : Int32, tw_iv E xr7 (Int32.toNatClampNeg x1) = z := ⟨_, rfl⟩
      rw [exe8] at hxe8a hxe8b ⊢
      refine lv_iconst (v := (-1)) hx hb dX8_has_17 (by decide) ?_
      refine lv_icmp_eq (tgt := 25) hx hb dX8_has_18 (by decide) (fun hc9 => ?_) (fun hc9 => ?_)
      · have hf10 : xe8.toInt = (-1) := by have z := (fa_eq _ _).mp hc9; have : (((-1) : Int32).toInt) = (-1) := (by decide); omega
        refine lv_iconst (v := 0) hx hb dX8_has_25 (by decide) ?_
        exact tw_zret hx hb hr hlocks (by decide) TH hS hex ⟨⟨_, rfl, (show 0 ≤ Int32.toInt 0 from by have : ((0 : Int32).toInt) = 0 := (by decide); omega), (show Int32.toInt 0 ≤ 1 from by have : ((0 : Int32).toInt) = 0 := (by decide); omega)⟩, rfl, rfl, rfl⟩ (Nat.le_of_ble_eq_true rfl) (Nat.le_of_ble_eq_true rfl) dX8_has_26
      · have hf11 : ¬ (xe8.toInt = (-1)) := fun q => hc9 ((fa_eq _ _).mpr (by have : (((-1) : Int32).toInt) = (-1) := (by decide); omega))
        refine lv_iconst (v := 1) hx hb dX8_has_21 (by decide) ?_
        refine lv_goto (tgt := 26) hx hb dX8_has_22 (by decide) ?_
        exact tw_zret hx hb hr hlocks (by decide) TH hS hex ⟨⟨_, rfl, (show 0 ≤ Int32.toInt 1 from by have : ((1 : Int32).toInt) = 1 := (by decide); omega), (show Int32.toInt 1 ≤ 1 from by have : ((1 : Int32).toInt) = 1 := (by decide); omega)⟩, rfl, rfl, rfl⟩ (Nat.le_of_ble_eq_true rfl) (Nat.le_of_ble_eq_true rfl) dX8_has_26
set_option maxHeartbeats 4000000 in
set_option maxRecDepth 100000 in
theorem tX8_kindOf (l : Launch) (D : va_G) (cs : Nat → ClassId) {kp : Nat → Nat} {L : List Nat} {E : Nat → va_E} (a0 : Nat) (x1 : Int32) (hm0 : a0 ∈ L) (hk0 : kp a0 = 8) (sz : Nat) : Met l yX8_kindOf (.code yX8_kindOf cX8_kindOf 3 (some .int) :: cx_big) { frames := 1, cells := 0, slots := 0, locals := 21 } (tw_P D cs kp L E [.ref a0, .int x1] sz) (tw_Q D cs kp L (fun v kq Lq Eq => (∃ x : Int32, v = some (.int x) ∧ (-1) ≤ x.toInt ∧ x.toInt ≤ 9) ∧ kp = kq ∧ L = Lq ∧ E = Eq) (va_A (va_pl L E) sz)) 0 0 (va_A (va_pl L E) sz) := by
  refine tw_ofW (by decide) (Nat.le_of_ble_eq_true rfl) ?_
  intro p e s m below meth c A ls hx hb hr hml hB hown hlocks hK hN hA TH hS hl
  have hown : s.vm.findClass "TreeMerge$Side" = some m.cls := hown
  have hl : lv_has ls 3 [(0, .ref a0), (1, .int x1)] := hl
  obtain ⟨kp0, ekp⟩ : ∃ z, z = kp := ⟨_, rfl⟩
  obtain ⟨L0, eL⟩ : ∃ z, z = L := ⟨_, rfl⟩
  rw [show tw_Q D cs kp L = tw_Q D cs kp0 L0 by rw [ekp, eL]]
  have hex : ∀ a : Nat, a ∈ L0 → a ∈ L ∧ kp a = kp0 a := fun a h => ⟨by rw [← eL]; exact h, by rw [ekp]⟩
  refine lv_aload_n hx hb dX8_kindOf_0 rfl (lv_at hl 0 rfl) ?_
  refine lv_iload_n hx hb dX8_kindOf_1 rfl (lv_at hl 1 rfl) ?_
  refine tw_Vc (o := a0) (ci := 8) (n := 1) (post := (fun v kq Lq Eq => (∃ x : Int32, v = some (.int x) ∧ (-1) ≤ x.toInt ∧ x.toInt ≤ 39) ∧ kp = kq ∧ L = Lq ∧ E = Eq)) (As := [.int x1]) (rest := []) ⟨hx, hb, hml, hown, hB⟩ (fun sz => tX8_placeOf l D cs a0 x1 hm0 hk0 sz) cg_8_35_X8_placeOf rfl rfl (by decide +kernel) ⟨Nat.le_of_ble_eq_true rfl, Nat.le_of_ble_eq_true rfl⟩ hK hN TH hS hA rfl hm0 hk0 (by decide) rfl hl.1 rfl (Nat.le_of_ble_eq_true rfl) dX8_kindOf_2 ⟨Nat.le_of_ble_eq_true rfl, Nat.le_of_ble_eq_true rfl⟩ (fun v1 kp1 L1 E1 H locs hq1 hx1 TH hS => ?_)
  obtain ⟨⟨xc2, rfl, hxc2a, hxc2b⟩, rfl, rfl, rfl⟩ := hq1
  refine W.eq (g2 := F0 m 5 ls [.int xc2]) rfl ?_
  refine lv_istore_n (lv' := [(2, .int xc2), (0, .ref a0), (1, .int x1)]) hx hb dX8_kindOf_5 rfl hl (by decide) rfl (fun ls hl => ?_)
  refine lv_iload_n hx hb dX8_kindOf_6 rfl (lv_at hl 0 rfl) ?_
  refine lv_iconst (v := (-1)) hx hb dX8_kindOf_7 (by decide) ?_
  refine lv_icmp_ne (tgt := 15) hx hb dX8_kindOf_8 (by decide) (fun hc3 => ?_) (fun hc3 => ?_)
  · have hf4 : ¬ (xc2.toInt = (-1)) := fun q => hc3 ((fa_eq _ _).mpr (by have : (((-1) : Int32).toInt) = (-1) := (by decide); omega))
    refine lv_aload_n hx hb dX8_kindOf_15 rfl (lv_at hl 1 rfl) ?_
    refine tw_get (ci := 8) (C := RX8) (T := TX8) (N := 4) hx hb hB cx_inX8 hown hK TH hm0 hk0 rfl ⟨by decide, rfl⟩ 0 (by decide) cw_299 (fun _ h9 => h9) dX8_kindOf_16 (fun hv => ?_)
    obtain ⟨xr5, hxr5, hmxr5, hkxr5⟩ : ∃ a : Nat, tw_fv E a0 0 = .ref a ∧ a ∈ L ∧ kp a = 10 := hv
    rw [hxr5]
    refine tw_get (ci := 10) (C := RX10) (T := TX10) (N := 8) hx hb hB cx_inX10 hown hK TH hmxr5 hkxr5 rfl ⟨by decide, rfl⟩ 5 (by decide) cw_140 (fun _ h9 => h9) dX8_kindOf_19 (fun hv => ?_)
    obtain ⟨xr6, hxr6, hmxr6, hkxr6⟩ : ∃ a : Nat, tw_fv E xr5 5 = .ref a ∧ a ∈ L ∧ kp a = 114 := hv
    rw [hxr6]
    refine lv_iload_n hx hb dX8_kindOf_22 rfl (lv_at hl 0 rfl) ?_
    refine tw_iald (k := 114) (t0 := 0) (n := 40) (lo := (-1)) (hi := 9) hx hb hK TH hmxr6 hkxr6 (by decide) rfl rfl (i := xc2) (vp_in_iff.mpr ⟨by  omega, by  omega⟩) dX8_kindOf_23 (fun hxe7a hxe7b => ?_)
    obtain ⟨xe7, exe7⟩ : ∃ z : Int32, tw_iv E xr6 (Int32.toNatClampNeg xc2) = z := ⟨_, rfl⟩
    rw [exe7] at hxe7a hxe7b ⊢
    exact tw_iret hx hb hr hlocks TH hS hex ⟨⟨_, rfl, (show (-1) ≤ Int32.toInt xe7 from by  omega), (show Int32.toInt xe7 ≤ 9 from by  omega)⟩, rfl, rfl, rfl⟩ (Nat.le_of_ble_eq_true rfl) (Nat.le_of_ble_eq_true rfl) dX8_kindOf_24
  · have hf8 : xc2.toInt = (-1) := by have z := (fa_eq _ _).mp hc3; have : (((-1) : Int32).toInt) = (-1) := (by decide); omega
    refine lv_iconst (v := (-1)) hx hb dX8_kindOf_11 (by decide) ?_
    refine lv_goto (tgt := 24) hx hb dX8_kindOf_12 (by decide) ?_
    exact tw_iret hx hb hr hlocks TH hS hex ⟨⟨_, rfl, (show (-1) ≤ Int32.toInt (-1) from by have : (((-1) : Int32).toInt) = (-1) := (by decide); omega), (show Int32.toInt (-1) ≤ 9 from by have : (((-1) : Int32).toInt) = (-1) := (by decide); omega)⟩, rfl, rfl, rfl⟩ (Nat.le_of_ble_eq_true rfl) (Nat.le_of_ble_eq_true rfl) dX8_kindOf_24
set_option maxHeartbeats 4000000 in
set_option maxRecDepth 100000 in
theorem tX8_wordOf (l : Launch) (D : va_G) (cs : Nat → ClassId) {kp : Nat → Nat} {L : List Nat} {E : Nat → va_E} (a0 : Nat) (x1 : Int32) (hm0 : a0 ∈ L) (hk0 : kp a0 = 8) (sz : Nat) : Met l yX8_wordOf (.code yX8_wordOf cX8_wordOf 3 (some .long) :: cx_big) { frames := 1, cells := 0, slots := 0, locals := 21 } (tw_P D cs kp L E [.ref a0, .int x1] sz) (tw_Q D cs kp L (fun v kq Lq Eq => (∃ x : Int64, v = some (.long x)) ∧ kp = kq ∧ L = Lq ∧ E = Eq) (va_A (va_pl L E) sz)) 0 0 (va_A (va_pl L E) sz) := by
  refine tw_ofW (by decide) (Nat.le_of_ble_eq_true rfl) ?_
  intro p e s m below meth c A ls hx hb hr hml hB hown hlocks hK hN hA TH hS hl
  have hown : s.vm.findClass "TreeMerge$Side" = some m.cls := hown
  have hl : lv_has ls 3 [(0, .ref a0), (1, .int x1)] := hl
  obtain ⟨kp0, ekp⟩ : ∃ z, z = kp := ⟨_, rfl⟩
  obtain ⟨L0, eL⟩ : ∃ z, z = L := ⟨_, rfl⟩
  rw [show tw_Q D cs kp L = tw_Q D cs kp0 L0 by rw [ekp, eL]]
  have hex : ∀ a : Nat, a ∈ L0 → a ∈ L ∧ kp a = kp0 a := fun a h => ⟨by rw [← eL]; exact h, by rw [ekp]⟩
  refine lv_aload_n hx hb dX8_wordOf_0 rfl (lv_at hl 0 rfl) ?_
  refine lv_iload_n hx hb dX8_wordOf_1 rfl (lv_at hl 1 rfl) ?_
  refine tw_Vc (o := a0) (ci := 8) (n := 1) (post := (fun v kq Lq Eq => (∃ x : Int32, v = some (.int x) ∧ (-1) ≤ x.toInt ∧ x.toInt ≤ 39) ∧ kp = kq ∧ L = Lq ∧ E = Eq)) (As := [.int x1]) (rest := []) ⟨hx, hb, hml, hown, hB⟩ (fun sz => tX8_placeOf l D cs a0 x1 hm0 hk0 sz) cg_8_35_X8_placeOf rfl rfl (by decide +kernel) ⟨Nat.le_of_ble_eq_true rfl, Nat.le_of_ble_eq_true rfl⟩ hK hN TH hS hA rfl hm0 hk0 (by decide) rfl hl.1 rfl (Nat.le_of_ble_eq_true rfl) dX8_wordOf_2 ⟨Nat.le_of_ble_eq_true rfl, Nat.le_of_ble_eq_true rfl⟩ (fun v1 kp1 L1 E1 H locs hq1 hx1 TH hS => ?_)
  obtain ⟨⟨xc2, rfl, hxc2a, hxc2b⟩, rfl, rfl, rfl⟩ := hq1
  refine W.eq (g2 := F0 m 5 ls [.int xc2]) rfl ?_
  refine lv_istore_n (lv' := [(2, .int xc2), (0, .ref a0), (1, .int x1)]) hx hb dX8_wordOf_5 rfl hl (by decide) rfl (fun ls hl => ?_)
  refine lv_iload_n hx hb dX8_wordOf_6 rfl (lv_at hl 0 rfl) ?_
  refine lv_iconst (v := (-1)) hx hb dX8_wordOf_7 (by decide) ?_
  refine lv_icmp_ne (tgt := 15) hx hb dX8_wordOf_8 (by decide) (fun hc3 => ?_) (fun hc3 => ?_)
  · have hf4 : ¬ (xc2.toInt = (-1)) := fun q => hc3 ((fa_eq _ _).mpr (by have : (((-1) : Int32).toInt) = (-1) := (by decide); omega))
    refine lv_aload_n hx hb dX8_wordOf_15 rfl (lv_at hl 1 rfl) ?_
    refine tw_get (ci := 8) (C := RX8) (T := TX8) (N := 4) hx hb hB cx_inX8 hown hK TH hm0 hk0 rfl ⟨by decide, rfl⟩ 0 (by decide) cw_299 (fun _ h9 => h9) dX8_wordOf_16 (fun hv => ?_)
    obtain ⟨xr5, hxr5, hmxr5, hkxr5⟩ : ∃ a : Nat, tw_fv E a0 0 = .ref a ∧ a ∈ L ∧ kp a = 10 := hv
    rw [hxr5]
    refine tw_get (ci := 10) (C := RX10) (T := TX10) (N := 8) hx hb hB cx_inX10 hown hK TH hmxr5 hkxr5 rfl ⟨by decide, rfl⟩ 6 (by decide) cw_148 (fun _ h9 => h9) dX8_wordOf_19 (fun hv => ?_)
    obtain ⟨xr6, hxr6, hmxr6, hkxr6⟩ : ∃ a : Nat, tw_fv E xr5 6 = .ref a ∧ a ∈ L ∧ kp a = 102 := hv
    rw [hxr6]
    refine lv_iload_n hx hb dX8_wordOf_22 rfl (lv_at hl 0 rfl) ?_
    refine tw_lald (k := 102) (n := 40) (lo := 0) (hi := 0) hx hb hK TH hmxr6 hkxr6 (by decide) rfl (i := xc2) (vp_in_iff.mpr ⟨by  omega, by  omega⟩) dX8_wordOf_23 (fun xl7 => ?_)
    exact tw_lret hx hb hr hlocks TH hS hex ⟨⟨_, rfl⟩, rfl, rfl, rfl⟩ (Nat.le_of_ble_eq_true rfl) (Nat.le_of_ble_eq_true rfl) dX8_wordOf_24
  · have hf8 : xc2.toInt = (-1) := by have z := (fa_eq _ _).mp hc3; have : (((-1) : Int32).toInt) = (-1) := (by decide); omega
    refine lv_lconst (v := 0) hx hb dX8_wordOf_11 (by decide) ?_
    refine lv_goto (tgt := 24) hx hb dX8_wordOf_12 (by decide) ?_
    exact tw_lret hx hb hr hlocks TH hS hex ⟨⟨_, rfl⟩, rfl, rfl, rfl⟩ (Nat.le_of_ble_eq_true rfl) (Nat.le_of_ble_eq_true rfl) dX8_wordOf_24
set_option maxHeartbeats 4000000 in
set_option maxRecDepth 100000 in
theorem tX8_upOf (l : Launch) (D : va_G) (cs : Nat → ClassId) {kp : Nat → Nat} {L : List Nat} {E : Nat → va_E} (a0 : Nat) (x1 : Int32) (hm0 : a0 ∈ L) (hk0 : kp a0 = 8) (sz : Nat) : Met l yX8_upOf (.code yX8_upOf cX8_upOf 3 (some .int) :: cx_big) { frames := 1, cells := 0, slots := 0, locals := 21 } (tw_P D cs kp L E [.ref a0, .int x1] sz) (tw_Q D cs kp L (fun v kq Lq Eq => (∃ x : Int32, v = some (.int x) ∧ (-1) ≤ x.toInt ∧ x.toInt ≤ 149) ∧ kp = kq ∧ L = Lq ∧ E = Eq) (va_A (va_pl L E) sz)) 0 0 (va_A (va_pl L E) sz) := by
  refine tw_ofW (by decide) (Nat.le_of_ble_eq_true rfl) ?_
  intro p e s m below meth c A ls hx hb hr hml hB hown hlocks hK hN hA TH hS hl
  have hown : s.vm.findClass "TreeMerge$Side" = some m.cls := hown
  have hl : lv_has ls 3 [(0, .ref a0), (1, .int x1)] := hl
  obtain ⟨kp0, ekp⟩ : ∃ z, z = kp := ⟨_, rfl⟩
  obtain ⟨L0, eL⟩ : ∃ z, z = L := ⟨_, rfl⟩
  rw [show tw_Q D cs kp L = tw_Q D cs kp0 L0 by rw [ekp, eL]]
  have hex : ∀ a : Nat, a ∈ L0 → a ∈ L ∧ kp a = kp0 a := fun a h => ⟨by rw [← eL]; exact h, by rw [ekp]⟩
  refine lv_aload_n hx hb dX8_upOf_0 rfl (lv_at hl 0 rfl) ?_
  refine lv_iload_n hx hb dX8_upOf_1 rfl (lv_at hl 1 rfl) ?_
  refine tw_Vc (o := a0) (ci := 8) (n := 1) (post := (fun v kq Lq Eq => (∃ x : Int32, v = some (.int x) ∧ (-1) ≤ x.toInt ∧ x.toInt ≤ 39) ∧ kp = kq ∧ L = Lq ∧ E = Eq)) (As := [.int x1]) (rest := []) ⟨hx, hb, hml, hown, hB⟩ (fun sz => tX8_placeOf l D cs a0 x1 hm0 hk0 sz) cg_8_35_X8_placeOf rfl rfl (by decide +kernel) ⟨Nat.le_of_ble_eq_true rfl, Nat.le_of_ble_eq_true rfl⟩ hK hN TH hS hA rfl hm0 hk0 (by decide) rfl hl.1 rfl (Nat.le_of_ble_eq_true rfl) dX8_upOf_2 ⟨Nat.le_of_ble_eq_true rfl, Nat.le_of_ble_eq_true rfl⟩ (fun v1 kp1 L1 E1 H locs hq1 hx1 TH hS => ?_)
  obtain ⟨⟨xc2, rfl, hxc2a, hxc2b⟩, rfl, rfl, rfl⟩ := hq1
  refine W.eq (g2 := F0 m 5 ls [.int xc2]) rfl ?_
  refine lv_istore_n (lv' := [(2, .int xc2), (0, .ref a0), (1, .int x1)]) hx hb dX8_upOf_5 rfl hl (by decide) rfl (fun ls hl => ?_)
  refine lv_iload_n hx hb dX8_upOf_6 rfl (lv_at hl 0 rfl) ?_
  refine lv_iconst (v := (-1)) hx hb dX8_upOf_7 (by decide) ?_
  refine lv_icmp_ne (tgt := 15) hx hb dX8_upOf_8 (by decide) (fun hc3 => ?_) (fun hc3 => ?_)
  · have hf4 : ¬ (xc2.toInt = (-1)) := fun q => hc3 ((fa_eq _ _).mpr (by have : (((-1) : Int32).toInt) = (-1) := (by decide); omega))
    refine lv_aload_n hx hb dX8_upOf_15 rfl (lv_at hl 1 rfl) ?_
    refine tw_get (ci := 8) (C := RX8) (T := TX8) (N := 4) hx hb hB cx_inX8 hown hK TH hm0 hk0 rfl ⟨by decide, rfl⟩ 0 (by decide) cw_299 (fun _ h9 => h9) dX8_upOf_16 (fun hv => ?_)
    obtain ⟨xr5, hxr5, hmxr5, hkxr5⟩ : ∃ a : Nat, tw_fv E a0 0 = .ref a ∧ a ∈ L ∧ kp a = 10 := hv
    rw [hxr5]
    refine tw_get (ci := 10) (C := RX10) (T := TX10) (N := 8) hx hb hB cx_inX10 hown hK TH hmxr5 hkxr5 rfl ⟨by decide, rfl⟩ 2 (by decide) cw_128 (fun _ h9 => h9) dX8_upOf_19 (fun hv => ?_)
    obtain ⟨xr6, hxr6, hmxr6, hkxr6⟩ : ∃ a : Nat, tw_fv E xr5 2 = .ref a ∧ a ∈ L ∧ kp a = 111 := hv
    rw [hxr6]
    refine lv_iload_n hx hb dX8_upOf_22 rfl (lv_at hl 0 rfl) ?_
    refine tw_iald (k := 111) (t0 := 0) (n := 40) (lo := (-1)) (hi := 149) hx hb hK TH hmxr6 hkxr6 (by decide) rfl rfl (i := xc2) (vp_in_iff.mpr ⟨by  omega, by  omega⟩) dX8_upOf_23 (fun hxe7a hxe7b => ?_)
    obtain ⟨xe7, exe7⟩ : ∃ z : Int32, tw_iv E xr6 (Int32.toNatClampNeg xc2) = z := ⟨_, rfl⟩
    rw [exe7] at hxe7a hxe7b ⊢
    exact tw_iret hx hb hr hlocks TH hS hex ⟨⟨_, rfl, (show (-1) ≤ Int32.toInt xe7 from by  omega), (show Int32.toInt xe7 ≤ 149 from by  omega)⟩, rfl, rfl, rfl⟩ (Nat.le_of_ble_eq_true rfl) (Nat.le_of_ble_eq_true rfl) dX8_upOf_24
  · have hf8 : xc2.toInt = (-1) := by have z := (fa_eq _ _).mp hc3; have : (((-1) : Int32).toInt) = (-1) := (by decide); omega
    refine lv_iconst (v := (-1)) hx hb dX8_upOf_11 (by decide) ?_
    refine lv_goto (tgt := 24) hx hb dX8_upOf_12 (by decide) ?_
    exact tw_iret hx hb hr hlocks TH hS hex ⟨⟨_, rfl, (show (-1) ≤ Int32.toInt (-1) from by have : (((-1) : Int32).toInt) = (-1) := (by decide); omega), (show Int32.toInt (-1) ≤ 149 from by have : (((-1) : Int32).toInt) = (-1) := (by decide); omega)⟩, rfl, rfl, rfl⟩ (Nat.le_of_ble_eq_true rfl) (Nat.le_of_ble_eq_true rfl) dX8_upOf_24
set_option maxHeartbeats 4000000 in
set_option maxRecDepth 100000 in
theorem tX8_outermost (l : Launch) (D : va_G) (cs : Nat → ClassId) {kp : Nat → Nat} {L : List Nat} {E : Nat → va_E} (a0 : Nat) (hm0 : a0 ∈ L) (hk0 : kp a0 = 8) (sz : Nat) : Met l yX8_outermost (.code yX8_outermost cX8_outermost 1 (some .int) :: cx_big) { frames := 0, cells := 0, slots := 0, locals := 0 } (tw_P D cs kp L E [.ref a0] sz) (tw_Q D cs kp L (fun v kq Lq Eq => (∃ x : Int32, v = some (.int x) ∧ (-1) ≤ x.toInt ∧ x.toInt ≤ 149) ∧ kp = kq ∧ L = Lq ∧ E = Eq) (va_A (va_pl L E) sz)) 0 0 (va_A (va_pl L E) sz) := by
  refine tw_ofW (by decide) (Nat.le_of_ble_eq_true rfl) ?_
  intro p e s m below meth c A ls hx hb hr hml hB hown hlocks hK hN hA TH hS hl
  have hown : s.vm.findClass "TreeMerge$Side" = some m.cls := hown
  have hl : lv_has ls 1 [(0, .ref a0)] := hl
  obtain ⟨kp0, ekp⟩ : ∃ z, z = kp := ⟨_, rfl⟩
  obtain ⟨L0, eL⟩ : ∃ z, z = L := ⟨_, rfl⟩
  rw [show tw_Q D cs kp L = tw_Q D cs kp0 L0 by rw [ekp, eL]]
  have hex : ∀ a : Nat, a ∈ L0 → a ∈ L ∧ kp a = kp0 a := fun a h => ⟨by rw [← eL]; exact h, by rw [ekp]⟩
  refine lv_aload_n hx hb dX8_outermost_0 rfl (lv_at hl 0 rfl) ?_
  refine tw_get (ci := 8) (C := RX8) (T := TX8) (N := 4) hx hb hB cx_inX8 hown hK TH hm0 hk0 rfl ⟨by decide, rfl⟩ 0 (by decide) cw_299 (fun _ h9 => h9) dX8_outermost_1 (fun hv => ?_)
  obtain ⟨xr1, hxr1, hmxr1, hkxr1⟩ : ∃ a : Nat, tw_fv E a0 0 = .ref a ∧ a ∈ L ∧ kp a = 10 := hv
  rw [hxr1]
  refine tw_get (ci := 10) (C := RX10) (T := TX10) (N := 8) hx hb hB cx_inX10 hown hK TH hmxr1 hkxr1 rfl ⟨by decide, rfl⟩ 0 (by decide) cw_117 (fun _ h9 => h9) dX8_outermost_4 (fun hv => ?_)
  obtain ⟨xi2, hxi2, hxi2a, hxi2b⟩ : ∃ x : Int32, tw_fv E xr1 0 = .int x ∧ 0 ≤ x.toInt ∧ x.toInt ≤ 40 := hv
  rw [hxi2]
  refine lv_if_le (tgt := 22) hx hb dX8_outermost_7 (by decide) (fun hc3 => ?_) (fun hc3 => ?_)
  · have hf4 : xi2.toInt ≤ 0 := by have z := (fa_le _ _).mp hc3; have : ((0 : Int32).toInt) = 0 := (by decide); omega
    refine lv_iconst (v := (-1)) hx hb dX8_outermost_22 (by decide) ?_
    exact tw_iret hx hb hr hlocks TH hS hex ⟨⟨_, rfl, (show (-1) ≤ Int32.toInt (-1) from by have : (((-1) : Int32).toInt) = (-1) := (by decide); omega), (show Int32.toInt (-1) ≤ 149 from by have : (((-1) : Int32).toInt) = (-1) := (by decide); omega)⟩, rfl, rfl, rfl⟩ (Nat.le_of_ble_eq_true rfl) (Nat.le_of_ble_eq_true rfl) dX8_outermost_23
  · have hf5 : ¬ (xi2.toInt ≤ 0) := fun q => hc3 ((fa_le _ _).mpr (by have : ((0 : Int32).toInt) = 0 := (by decide); omega))
    refine lv_aload_n hx hb dX8_outermost_10 rfl (lv_at hl 0 rfl) ?_
    refine tw_get (ci := 8) (C := RX8) (T := TX8) (N := 4) hx hb hB cx_inX8 hown hK TH hm0 hk0 rfl ⟨by decide, rfl⟩ 0 (by decide) cw_299 (fun _ h9 => h9) dX8_outermost_11 (fun hv => ?_)
    rw [hxr1]
    refine tw_get (ci := 10) (C := RX10) (T := TX10) (N := 8) hx hb hB cx_inX10 hown hK TH hmxr1 hkxr1 rfl ⟨by decide, rfl⟩ 1 (by decide) cw_123 (fun _ h9 => h9) dX8_outermost_14 (fun hv => ?_)
    obtain ⟨xr6, hxr6, hmxr6, hkxr6⟩ : ∃ a : Nat, tw_fv E xr1 1 = .ref a ∧ a ∈ L ∧ kp a = 110 := hv
    rw [hxr6]
    refine lv_iconst (v := 0) hx hb dX8_outermost_17 (by decide) ?_
    refine tw_iald (k := 110) (t0 := 0) (n := 40) (lo := (-1)) (hi := 149) hx hb hK TH hmxr6 hkxr6 (by decide) rfl rfl (i := 0) (vp_in_iff.mpr ⟨by have : ((0 : Int32).toInt) = 0 := (by decide); omega, by have : ((0 : Int32).toInt) = 0 := (by decide); omega⟩) dX8_outermost_18 (fun hxe7a hxe7b => ?_)
    obtain ⟨xe7, exe7⟩ : ∃ z : Int32, tw_iv E xr6 (Int32.toNatClampNeg 0) = z := ⟨_, rfl⟩
    rw [exe7] at hxe7a hxe7b ⊢
    refine lv_goto (tgt := 23) hx hb dX8_outermost_19 (by decide) ?_
    exact tw_iret hx hb hr hlocks TH hS hex ⟨⟨_, rfl, (show (-1) ≤ Int32.toInt xe7 from by  omega), (show Int32.toInt xe7 ≤ 149 from by  omega)⟩, rfl, rfl, rfl⟩ (Nat.le_of_ble_eq_true rfl) (Nat.le_of_ble_eq_true rfl) dX8_outermost_23
set_option maxHeartbeats 4000000 in
set_option maxRecDepth 100000 in
theorem tX8_findTouched (l : Launch) (D : va_G) (cs : Nat → ClassId) {kp : Nat → Nat} {L : List Nat} {E : Nat → va_E} (a0 : Nat) (a1 : Nat) (hm0 : a0 ∈ L) (hk0 : kp a0 = 8) (hm1 : a1 ∈ L) (hk1 : kp a1 = 8) (sz : Nat) : Met l yX8_findTouched (.code yX8_findTouched cX8_findTouched 4 none :: cx_big) { frames := 2, cells := 0, slots := 0, locals := 43 } (tw_P D cs kp L E [.ref a0, .ref a1] sz) (tw_Q D cs kp L (fun v kq Lq Eq => v = none ∧ kp = kq ∧ L = Lq ∧ tw_fr kp L [] [171] E Eq) (va_A (va_pl L E) sz)) 0 0 (va_A (va_pl L E) sz) := by
  refine tw_ofW (by decide) (Nat.le_of_ble_eq_true rfl) ?_
  intro p e s m below meth c A ls hx hb hr hml hB hown hlocks hK hN hA TH hS hl
  have hown : s.vm.findClass "TreeMerge$Side" = some m.cls := hown
  have hl : lv_has ls 4 [(0, .ref a0), (1, .ref a1)] := hl
  obtain ⟨kp0, ekp⟩ : ∃ z, z = kp := ⟨_, rfl⟩
  obtain ⟨L0, eL⟩ : ∃ z, z = L := ⟨_, rfl⟩
  rw [show tw_Q D cs kp L = tw_Q D cs kp0 L0 by rw [ekp, eL]]
  have hex : ∀ a : Nat, a ∈ L0 → a ∈ L ∧ kp a = kp0 a := fun a h => ⟨by rw [← eL]; exact h, by rw [ekp]⟩
  have hF : tw_fr kp L [] [171] E E := tw_fr.rf
  refine lv_iconst (v := 0) hx hb dX8_findTouched_0 (by decide) ?_
  refine lv_istore_n (lv' := [(2, .int 0), (0, .ref a0), (1, .ref a1)]) hx hb dX8_findTouched_1 rfl hl (by decide) rfl (fun ls hl => ?_)
  have hJ2 : ∀ (n2 : Nat) (y2_2 : Int32) (Eg2 : Nat → va_E) (H : Heap) (locs : List Loc) (ls : Array Slot), 0 ≤ y2_2.toInt → y2_2.toInt ≤ 40 → 40 - y2_2.toInt ≤ (n2 : Int) → tw_fr kp L [] [171] E Eg2 → tw_H D cs kp L Eg2 A H → va_S A s.heap H locs → lv_has ls 4 [(2, .int y2_2), (0, .ref a0), (1, .ref a1)] → W p l e { frames := 2, cells := 0, slots := 0, locals := 43 } s m [.ref a0, .ref a1].toArray below meth c H locs 0 0 (MQ below (tw_Q D cs kp0 L0 (fun v kq Lq Eq => v = none ∧ kp = kq ∧ L = Lq ∧ tw_fr kp L [] [171] E Eq) A) [.ref a0, .ref a1].toArray s 0 0 A) (F0 m 2 ls []) := by
    intro n2
    induction n2 using Nat.strongRecOn with
    | _ n2 ih2 =>
      intro y2_2 Eg2 H locs ls hy2_2a hy2_2b hmeas2 hG2 TH hS hl
      have hF := hF.tr hG2 (fun _ h => ⟨h, rfl⟩) (by decide) (by decide)
      refine lv_iload_n hx hb dX8_findTouched_2 rfl (lv_at hl 0 rfl) ?_
      refine lv_aload_n hx hb dX8_findTouched_3 rfl (lv_at hl 1 rfl) ?_
      refine tw_get (ci := 8) (C := RX8) (T := TX8) (N := 4) hx hb hB cx_inX8 hown hK TH hm0 hk0 rfl ⟨by decide, rfl⟩ 0 (by decide) cw_299 (fun _ h9 => h9) dX8_findTouched_4 (fun hv => ?_)
      obtain ⟨xr1, hxr1, hmxr1, hkxr1⟩ : ∃ a : Nat, tw_fv Eg2 a0 0 = .ref a ∧ a ∈ L ∧ kp a = 10 := hv
      rw [hxr1]
      refine tw_get (ci := 10) (C := RX10) (T := TX10) (N := 8) hx hb hB cx_inX10 hown hK TH hmxr1 hkxr1 rfl ⟨by decide, rfl⟩ 0 (by decide) cw_117 (fun _ h9 => h9) dX8_findTouched_7 (fun hv => ?_)
      obtain ⟨xi2, hxi2, hxi2a, hxi2b⟩ : ∃ x : Int32, tw_fv Eg2 xr1 0 = .int x ∧ 0 ≤ x.toInt ∧ x.toInt ≤ 40 := hv
      rw [hxi2]
      refine lv_icmp_ge (tgt := 26) hx hb dX8_findTouched_10 (by decide) (fun hc3 => ?_) (fun hc3 => ?_)
      · have hf4 : xi2.toInt ≤ y2_2.toInt := by have z := (fa_le _ _).mp hc3;  omega
        refine lv_aload_n hx hb dX8_findTouched_26 rfl (lv_at hl 1 rfl) ?_
        refine tw_get (ci := 8) (C := RX8) (T := TX8) (N := 4) hx hb hB cx_inX8 hown hK TH hm0 hk0 rfl ⟨by decide, rfl⟩ 0 (by decide) cw_299 (fun _ h9 => h9) dX8_findTouched_27 (fun hv => ?_)
        rw [hxr1]
        refine tw_get (ci := 10) (C := RX10) (T := TX10) (N := 8) hx hb hB cx_inX10 hown hK TH hmxr1 hkxr1 rfl ⟨by decide, rfl⟩ 0 (by decide) cw_117 (fun _ h9 => h9) dX8_findTouched_30 (fun hv => ?_)
        rw [hxi2]
        refine lv_iconst (v := 1) hx hb dX8_findTouched_33 (by decide) ?_
        refine lv_isub hx hb dX8_findTouched_34 ?_
        refine lv_topi (fun zi5 ezi5 => ?_)
        have hzi5 : zi5.toInt = xi2.toInt - 1 := by rw [ezi5]; have : ((1 : Int32).toInt) = 1 := (by decide); have := ia_lo xi2; have := ia_hi xi2; exact (ia_sub (by omega) (by omega)).trans (by omega)
        refine lv_istore_n (lv' := [(2, .int zi5), (0, .ref a0), (1, .ref a1)]) hx hb dX8_findTouched_35 rfl hl (by decide) rfl (fun ls hl => ?_)
        have hJ36 : ∀ (n36 : Nat) (y36_2 : Int32) (Eg36 : Nat → va_E) (H : Heap) (locs : List Loc) (ls : Array Slot), (-1) ≤ y36_2.toInt → y36_2.toInt ≤ 39 → y36_2.toInt - (-1) ≤ (n36 : Int) → tw_fr kp L [] [171] Eg2 Eg36 → tw_H D cs kp L Eg36 A H → va_S A s.heap H locs → lv_has ls 4 [(2, .int y36_2), (0, .ref a0), (1, .ref a1)] → W p l e { frames := 2, cells := 0, slots := 0, locals := 43 } s m [.ref a0, .ref a1].toArray below meth c H locs 0 0 (MQ below (tw_Q D cs kp0 L0 (fun v kq Lq Eq => v = none ∧ kp = kq ∧ L = Lq ∧ tw_fr kp L [] [171] E Eq) A) [.ref a0, .ref a1].toArray s 0 0 A) (F0 m 36 ls []) := by
          intro n36
          induction n36 using Nat.strongRecOn with
          | _ n36 ih36 =>
            intro y36_2 Eg36 H locs ls hy36_2a hy36_2b hmeas36 hG36 TH hS hl
            have hF := hF.tr hG36 (fun _ h => ⟨h, rfl⟩) (by decide) (by decide)
            have hG2 := hG2.tr hG36 (fun _ h => ⟨h, rfl⟩) (by decide) (by decide)
            have hmf6 : tw_fv Eg36 a0 0 = .ref xr1 := (hG36.1 a0 0 hm0 (by rw [hk0]; decide)).trans hxr1
            have hmf7 : tw_fv Eg36 xr1 0 = .int xi2 := (hG36.1 xr1 0 hmxr1 (by rw [hkxr1]; decide)).trans hxi2
            refine lv_iload_n hx hb dX8_findTouched_36 rfl (lv_at hl 0 rfl) ?_
            refine lv_if_lt (tgt := 143) hx hb dX8_findTouched_37 (by decide) (fun hc8 => ?_) (fun hc8 => ?_)
            · have hf9 : y36_2.toInt < 0 := by have z := (fa_lt _ _).mp hc8; have : ((0 : Int32).toInt) = 0 := (by decide); omega
              exact tw_vret hx hb hr hlocks TH hS hex ⟨rfl, rfl, rfl, hF⟩ (Nat.le_of_ble_eq_true rfl) (Nat.le_of_ble_eq_true rfl) dX8_findTouched_143
            · have hf10 : ¬ (y36_2.toInt < 0) := fun q => hc8 ((fa_lt _ _).mpr (by have : ((0 : Int32).toInt) = 0 := (by decide); omega))
              refine lv_aload_n hx hb dX8_findTouched_40 rfl (lv_at hl 1 rfl) ?_
              refine tw_get (ci := 8) (C := RX8) (T := TX8) (N := 4) hx hb hB cx_inX8 hown hK TH hm0 hk0 rfl ⟨by decide, rfl⟩ 0 (by decide) cw_299 (fun _ h9 => h9) dX8_findTouched_41 (fun hv => ?_)
              rw [hmf6]
              refine tw_get (ci := 10) (C := RX10) (T := TX10) (N := 8) hx hb hB cx_inX10 hown hK TH hmxr1 hkxr1 rfl ⟨by decide, rfl⟩ 1 (by decide) cw_123 (fun _ h9 => h9) dX8_findTouched_44 (fun hv => ?_)
              obtain ⟨xr11, hxr11, hmxr11, hkxr11⟩ : ∃ a : Nat, tw_fv Eg36 xr1 1 = .ref a ∧ a ∈ L ∧ kp a = 110 := hv
              rw [hxr11]
              refine lv_iload_n hx hb dX8_findTouched_47 rfl (lv_at hl 0 rfl) ?_
              refine tw_iald (k := 110) (t0 := 0) (n := 40) (lo := (-1)) (hi := 149) hx hb hK TH hmxr11 hkxr11 (by decide) rfl rfl (i := y36_2) (vp_in_iff.mpr ⟨by  omega, by  omega⟩) dX8_findTouched_48 (fun hxe12a hxe12b => ?_)
              obtain ⟨xe12, exe12⟩ : ∃ z : Int32, tw_iv Eg36 xr11 (Int32.toNatClampNeg y36_2) = z := ⟨_, rfl⟩
              rw [exe12] at hxe12a hxe12b ⊢
              refine lv_istore_n (lv' := [(3, .int xe12), (2, .int y36_2), (0, .ref a0), (1, .ref a1)]) hx hb dX8_findTouched_49 rfl hl (by decide) rfl (fun ls hl => ?_)
              refine lv_aload_n hx hb dX8_findTouched_50 rfl (lv_at hl 3 rfl) ?_
              refine lv_iload_n hx hb dX8_findTouched_51 rfl (lv_at hl 0 rfl) ?_
              refine tw_Vc (o := a1) (ci := 8) (n := 1) (post := (fun v kq Lq Eq => (∃ x : Int32, v = some (.int x) ∧ 0 ≤ x.toInt ∧ x.toInt ≤ 1) ∧ kp = kq ∧ L = Lq ∧ Eg36 = Eq)) (As := [.int xe12]) (rest := []) ⟨hx, hb, hml, hown, hB⟩ (fun sz => tX8_has l D cs a1 xe12 hm1 hk1 sz) cg_8_49_X8_has rfl rfl (by decide +kernel) ⟨Nat.le_of_ble_eq_true rfl, Nat.le_of_ble_eq_true rfl⟩ hK hN TH hS hA rfl hm1 hk1 (by decide) rfl hl.1 rfl (Nat.le_of_ble_eq_true rfl) dX8_findTouched_52 ⟨Nat.le_of_ble_eq_true rfl, Nat.le_of_ble_eq_true rfl⟩ (fun v13 kp13 L13 E13 H locs hq13 hx13 TH hS => ?_)
              obtain ⟨⟨xc14, rfl, hxc14a, hxc14b⟩, rfl, rfl, rfl⟩ := hq13
              refine W.eq (g2 := F0 m 55 ls [.int xc14]) rfl ?_
              have hJ100 : ∀  (Eg100 : Nat → va_E) (H : Heap) (locs : List Loc) (ls : Array Slot), tw_fr kp L [] [171] Eg36 Eg100 → tw_H D cs kp L Eg100 A H → va_S A s.heap H locs → lv_has ls 4 [(2, .int y36_2), (0, .ref a0), (1, .ref a1)] → W p l e { frames := 2, cells := 0, slots := 0, locals := 43 } s m [.ref a0, .ref a1].toArray below meth c H locs 0 0 (MQ below (tw_Q D cs kp0 L0 (fun v kq Lq Eq => v = none ∧ kp = kq ∧ L = Lq ∧ tw_fr kp L [] [171] E Eq) A) [.ref a0, .ref a1].toArray s 0 0 A) (F0 m 100 ls []) := by
                intro Eg100 H locs ls hG100 TH hS hl
                have hF := hF.tr hG100 (fun _ h => ⟨h, rfl⟩) (by decide) (by decide)
                have hG2 := hG2.tr hG100 (fun _ h => ⟨h, rfl⟩) (by decide) (by decide)
                have hG36 := hG36.tr hG100 (fun _ h => ⟨h, rfl⟩) (by decide) (by decide)
                have hmf15 : tw_fv Eg100 a0 0 = .ref xr1 := (hG100.1 a0 0 hm0 (by rw [hk0]; decide)).trans hmf6
                have hmf16 : tw_fv Eg100 xr1 0 = .int xi2 := (hG100.1 xr1 0 hmxr1 (by rw [hkxr1]; decide)).trans hmf7
                have hmf17 : tw_fv Eg100 xr1 1 = .ref xr11 := (hG100.1 xr1 1 hmxr1 (by rw [hkxr1]; decide)).trans hxr11
                refine lv_aload_n hx hb dX8_findTouched_100 rfl (lv_at hl 1 rfl) ?_
                refine tw_get (ci := 8) (C := RX8) (T := TX8) (N := 4) hx hb hB cx_inX8 hown hK TH hm0 hk0 rfl ⟨by decide, rfl⟩ 3 (by decide) cw_303 (fun _ h9 => h9) dX8_findTouched_101 (fun hv => ?_)
                obtain ⟨xr18, hxr18, hmxr18, hkxr18⟩ : ∃ a : Nat, tw_fv Eg100 a0 3 = .ref a ∧ a ∈ L ∧ kp a = 171 := hv
                rw [hxr18]
                refine lv_iload_n hx hb dX8_findTouched_104 rfl (lv_at hl 0 rfl) ?_
                refine tw_iald (k := 171) (t0 := 0) (n := 40) (lo := 0) (hi := 1) hx hb hK TH hmxr18 hkxr18 (by decide) rfl rfl (i := y36_2) (vp_in_iff.mpr ⟨by  omega, by  omega⟩) dX8_findTouched_105 (fun hxe19a hxe19b => ?_)
                obtain ⟨xe19, exe19⟩ : ∃ z : Int32, tw_iv Eg100 xr18 (Int32.toNatClampNeg y36_2) = z := ⟨_, rfl⟩
                rw [exe19] at hxe19a hxe19b ⊢
                refine lv_iconst (v := 1) hx hb dX8_findTouched_106 (by decide) ?_
                have hJ137 : ∀  (Eg137 : Nat → va_E) (H : Heap) (locs : List Loc) (ls : Array Slot), tw_fr kp L [] [171] Eg100 Eg137 → tw_H D cs kp L Eg137 A H → va_S A s.heap H locs → lv_has ls 4 [(2, .int y36_2), (0, .ref a0), (1, .ref a1)] → W p l e { frames := 2, cells := 0, slots := 0, locals := 43 } s m [.ref a0, .ref a1].toArray below meth c H locs 0 0 (MQ below (tw_Q D cs kp0 L0 (fun v kq Lq Eq => v = none ∧ kp = kq ∧ L = Lq ∧ tw_fr kp L [] [171] E Eq) A) [.ref a0, .ref a1].toArray s 0 0 A) (F0 m 137 ls []) := by
                  intro Eg137 H locs ls hG137 TH hS hl
                  have hF := hF.tr hG137 (fun _ h => ⟨h, rfl⟩) (by decide) (by decide)
                  have hG2 := hG2.tr hG137 (fun _ h => ⟨h, rfl⟩) (by decide) (by decide)
                  have hG36 := hG36.tr hG137 (fun _ h => ⟨h, rfl⟩) (by decide) (by decide)
                  have hmf20 : tw_fv Eg137 a0 0 = .ref xr1 := (hG137.1 a0 0 hm0 (by rw [hk0]; decide)).trans hmf15
                  have hmf21 : tw_fv Eg137 xr1 0 = .int xi2 := (hG137.1 xr1 0 hmxr1 (by rw [hkxr1]; decide)).trans hmf16
                  have hmf22 : tw_fv Eg137 xr1 1 = .ref xr11 := (hG137.1 xr1 1 hmxr1 (by rw [hkxr1]; decide)).trans hmf17
                  have hmf23 : tw_fv Eg137 a0 3 = .ref xr18 := (hG137.1 a0 3 hm0 (by rw [hk0]; decide)).trans hxr18
                  obtain ⟨zi24, ezi24⟩ : ∃ z : Int32, z = y36_2 + Int32.ofInt (-1) := ⟨_, rfl⟩
                  have hzi24 : zi24.toInt = y36_2.toInt + (-1) := by rw [ezi24]; have : ((Int32.ofInt (-1)).toInt) = (-1) := (by decide);  exact (ia_add (by omega) (by omega)).trans (by omega)
                  refine lv_iinc (v := zi24) (lv' := [(2, .int zi24), (0, .ref a0), (1, .ref a1)]) hx hb dX8_findTouched_137 hl (k := 0) rfl ezi24.symm (by decide) rfl (fun ls hl => ?_)
                  refine lv_goto (tgt := 36) hx hb dX8_findTouched_140 (by decide) ?_
                  exact ih36 (n36 - 1) (by   omega) zi24 _ _ _ ls (by omega) (by omega) (by   omega) hG36 TH hS (lv_sub hl [0, 1, 2] rfl)
                have hG137 : tw_fr kp L [] [171] Eg100 Eg100 := tw_fr.rf
                refine lv_icmp_ne (tgt := 137) hx hb dX8_findTouched_107 (by decide) (fun hc25 => ?_) (fun hc25 => ?_)
                · have hf26 : ¬ (xe19.toInt = 1) := fun q => hc25 ((fa_eq _ _).mpr (by have : ((1 : Int32).toInt) = 1 := (by decide); omega))
                  exact hJ137  _ _ _ ls hG137 TH hS (lv_sub hl [0, 1, 2] rfl)
                · have hf27 : xe19.toInt = 1 := by have z := (fa_eq _ _).mp hc25; have : ((1 : Int32).toInt) = 1 := (by decide); omega
                  refine lv_aload_n hx hb dX8_findTouched_110 rfl (lv_at hl 1 rfl) ?_
                  refine tw_get (ci := 8) (C := RX8) (T := TX8) (N := 4) hx hb hB cx_inX8 hown hK TH hm0 hk0 rfl ⟨by decide, rfl⟩ 0 (by decide) cw_299 (fun _ h9 => h9) dX8_findTouched_111 (fun hv => ?_)
                  rw [hmf15]
                  refine tw_get (ci := 10) (C := RX10) (T := TX10) (N := 8) hx hb hB cx_inX10 hown hK TH hmxr1 hkxr1 rfl ⟨by decide, rfl⟩ 3 (by decide) cw_133 (fun _ h9 => h9) dX8_findTouched_114 (fun hv => ?_)
                  obtain ⟨xr28, hxr28, hmxr28, hkxr28⟩ : ∃ a : Nat, tw_fv Eg100 xr1 3 = .ref a ∧ a ∈ L ∧ kp a = 112 := hv
                  rw [hxr28]
                  refine lv_iload_n hx hb dX8_findTouched_117 rfl (lv_at hl 0 rfl) ?_
                  refine tw_iald (k := 112) (t0 := 0) (n := 40) (lo := (-1)) (hi := 39) hx hb hK TH hmxr28 hkxr28 (by decide) rfl rfl (i := y36_2) (vp_in_iff.mpr ⟨by  omega, by  omega⟩) dX8_findTouched_118 (fun hxe29a hxe29b => ?_)
                  obtain ⟨xe29, exe29⟩ : ∃ z : Int32, tw_iv Eg100 xr28 (Int32.toNatClampNeg y36_2) = z := ⟨_, rfl⟩
                  rw [exe29] at hxe29a hxe29b ⊢
                  refine lv_if_lt (tgt := 137) hx hb dX8_findTouched_119 (by decide) (fun hc30 => ?_) (fun hc30 => ?_)
                  · have hf31 : xe29.toInt < 0 := by have z := (fa_lt _ _).mp hc30; have : ((0 : Int32).toInt) = 0 := (by decide); omega
                    exact hJ137  _ _ _ ls hG137 TH hS (lv_sub hl [0, 1, 2] rfl)
                  · have hf32 : ¬ (xe29.toInt < 0) := fun q => hc30 ((fa_lt _ _).mpr (by have : ((0 : Int32).toInt) = 0 := (by decide); omega))
                    refine lv_aload_n hx hb dX8_findTouched_122 rfl (lv_at hl 1 rfl) ?_
                    refine tw_get (ci := 8) (C := RX8) (T := TX8) (N := 4) hx hb hB cx_inX8 hown hK TH hm0 hk0 rfl ⟨by decide, rfl⟩ 3 (by decide) cw_303 (fun _ h9 => h9) dX8_findTouched_123 (fun hv => ?_)
                    rw [hxr18]
                    refine lv_aload_n hx hb dX8_findTouched_126 rfl (lv_at hl 1 rfl) ?_
                    refine tw_get (ci := 8) (C := RX8) (T := TX8) (N := 4) hx hb hB cx_inX8 hown hK TH hm0 hk0 rfl ⟨by decide, rfl⟩ 0 (by decide) cw_299 (fun _ h9 => h9) dX8_findTouched_127 (fun hv => ?_)
                    rw [hmf15]
                    refine tw_get (ci := 10) (C := RX10) (T := TX10) (N := 8) hx hb hB cx_inX10 hown hK TH hmxr1 hkxr1 rfl ⟨by decide, rfl⟩ 3 (by decide) cw_133 (fun _ h9 => h9) dX8_findTouched_130 (fun hv => ?_)
                    rw [hxr28]
                    refine lv_iload_n hx hb dX8_findTouched_133 rfl (lv_at hl 0 rfl) ?_
                    refine tw_iald (k := 112) (t0 := 0) (n := 40) (lo := (-1)) (hi := 39) hx hb hK TH hmxr28 hkxr28 (by decide) rfl rfl (i := y36_2) (vp_in_iff.mpr ⟨by  omega, by  omega⟩) dX8_findTouched_134 (fun hxe33a hxe33b => ?_)
                    rw [exe29]
                    refine lv_iconst (v := 1) hx hb dX8_findTouched_135 (by decide) ?_
                    refine tw_iast (k := 171) (n := 40) (lo := 0) (hi := 1) hx hb hK TH hS hmxr18 hkxr18 (by decide) rfl (i := xe29) (x := 1) (vp_in_iff.mpr ⟨by  omega, by  omega⟩) (by have : ((1 : Int32).toInt) = 1 := (by decide); omega) (by have : ((1 : Int32).toInt) = 1 := (by decide); omega) dX8_findTouched_136 (fun H locs E34 TH hS hp35 hp36 hp37 => ?_)
                    have hst38 : tw_fr kp L [] [171] Eg100 E34 := tw_fr.ast tw_fr.rf (fun _ => hkxr18) hp35 hp36 (by decide)
                    have hF := hF.tr hst38 (fun _ h => ⟨h, rfl⟩) (by decide) (by decide)
                    have hG2 := hG2.tr hst38 (fun _ h => ⟨h, rfl⟩) (by decide) (by decide)
                    have hG36 := hG36.tr hst38 (fun _ h => ⟨h, rfl⟩) (by decide) (by decide)
                    have hG137 := hG137.tr hst38 (fun _ h => ⟨h, rfl⟩) (by decide) (by decide)
                    have hmf39 : tw_fv E34 a0 0 = .ref xr1 := (hst38.1 a0 0 hm0 (by rw [hk0]; decide)).trans hmf15
                    have hmf40 : tw_fv E34 xr1 0 = .int xi2 := (hst38.1 xr1 0 hmxr1 (by rw [hkxr1]; decide)).trans hmf16
                    have hmf41 : tw_fv E34 xr1 1 = .ref xr11 := (hst38.1 xr1 1 hmxr1 (by rw [hkxr1]; decide)).trans hmf17
                    have hmf42 : tw_fv E34 a0 3 = .ref xr18 := (hst38.1 a0 3 hm0 (by rw [hk0]; decide)).trans hxr18
                    have hmf43 : tw_fv E34 xr1 3 = .ref xr28 := (hst38.1 xr1 3 hmxr1 (by rw [hkxr1]; decide)).trans hxr28
                    exact hJ137  _ _ _ ls hG137 TH hS (lv_sub hl [0, 1, 2] rfl)
              have hG100 : tw_fr kp L [] [171] Eg36 Eg36 := tw_fr.rf
              have hJ93 : ∀  (H : Heap) (locs : List Loc) (ls : Array Slot), tw_H D cs kp L Eg36 A H → va_S A s.heap H locs → lv_has ls 4 [(2, .int y36_2), (0, .ref a0), (1, .ref a1)] → W p l e { frames := 2, cells := 0, slots := 0, locals := 43 } s m [.ref a0, .ref a1].toArray below meth c H locs 0 0 (MQ below (tw_Q D cs kp0 L0 (fun v kq Lq Eq => v = none ∧ kp = kq ∧ L = Lq ∧ tw_fr kp L [] [171] E Eq) A) [.ref a0, .ref a1].toArray s 0 0 A) (F0 m 93 ls []) := by
                intro H locs ls TH hS hl
                refine lv_aload_n hx hb dX8_findTouched_93 rfl (lv_at hl 1 rfl) ?_
                refine tw_get (ci := 8) (C := RX8) (T := TX8) (N := 4) hx hb hB cx_inX8 hown hK TH hm0 hk0 rfl ⟨by decide, rfl⟩ 3 (by decide) cw_303 (fun _ h9 => h9) dX8_findTouched_94 (fun hv => ?_)
                obtain ⟨xr44, hxr44, hmxr44, hkxr44⟩ : ∃ a : Nat, tw_fv Eg36 a0 3 = .ref a ∧ a ∈ L ∧ kp a = 171 := hv
                rw [hxr44]
                refine lv_iload_n hx hb dX8_findTouched_97 rfl (lv_at hl 0 rfl) ?_
                refine lv_iconst (v := 1) hx hb dX8_findTouched_98 (by decide) ?_
                refine tw_iast (k := 171) (n := 40) (lo := 0) (hi := 1) hx hb hK TH hS hmxr44 hkxr44 (by decide) rfl (i := y36_2) (x := 1) (vp_in_iff.mpr ⟨by  omega, by  omega⟩) (by have : ((1 : Int32).toInt) = 1 := (by decide); omega) (by have : ((1 : Int32).toInt) = 1 := (by decide); omega) dX8_findTouched_99 (fun H locs E45 TH hS hp46 hp47 hp48 => ?_)
                have hst49 : tw_fr kp L [] [171] Eg36 E45 := tw_fr.ast tw_fr.rf (fun _ => hkxr44) hp46 hp47 (by decide)
                have hF := hF.tr hst49 (fun _ h => ⟨h, rfl⟩) (by decide) (by decide)
                have hG2 := hG2.tr hst49 (fun _ h => ⟨h, rfl⟩) (by decide) (by decide)
                have hG36 := hG36.tr hst49 (fun _ h => ⟨h, rfl⟩) (by decide) (by decide)
                have hG100 := hG100.tr hst49 (fun _ h => ⟨h, rfl⟩) (by decide) (by decide)
                have hmf50 : tw_fv E45 a0 0 = .ref xr1 := (hst49.1 a0 0 hm0 (by rw [hk0]; decide)).trans hmf6
                have hmf51 : tw_fv E45 xr1 0 = .int xi2 := (hst49.1 xr1 0 hmxr1 (by rw [hkxr1]; decide)).trans hmf7
                have hmf52 : tw_fv E45 xr1 1 = .ref xr11 := (hst49.1 xr1 1 hmxr1 (by rw [hkxr1]; decide)).trans hxr11
                have hmf53 : tw_fv E45 a0 3 = .ref xr44 := (hst49.1 a0 3 hm0 (by rw [hk0]; decide)).trans hxr44
                exact hJ100  _ _ _ ls hG100 TH hS (lv_sub hl [0, 1, 2] rfl)
              refine lv_if_eq (tgt := 93) hx hb dX8_findTouched_55 (by decide) (fun hc54 => ?_) (fun hc54 => ?_)
              · have hf55 : xc14.toInt = 0 := by have z := (fa_eq _ _).mp hc54; have : ((0 : Int32).toInt) = 0 := (by decide); omega
                exact hJ93  _ _ ls  TH hS (lv_sub hl [1, 2, 3] rfl)
              · have hf56 : ¬ (xc14.toInt = 0) := fun q => hc54 ((fa_eq _ _).mpr (by have : ((0 : Int32).toInt) = 0 := (by decide); omega))
                refine lv_aload_n hx hb dX8_findTouched_58 rfl (lv_at hl 3 rfl) ?_
                refine lv_iload_n hx hb dX8_findTouched_59 rfl (lv_at hl 0 rfl) ?_
                refine tw_Vc (o := a1) (ci := 8) (n := 1) (post := (fun v kq Lq Eq => (∃ x : Int64, v = some (.long x)) ∧ kp = kq ∧ L = Lq ∧ Eg36 = Eq)) (As := [.int xe12]) (rest := []) ⟨hx, hb, hml, hown, hB⟩ (fun sz => tX8_wordOf l D cs a1 xe12 hm1 hk1 sz) cg_8_53_X8_wordOf rfl rfl (by decide +kernel) ⟨Nat.le_of_ble_eq_true rfl, Nat.le_of_ble_eq_true rfl⟩ hK hN TH hS hA rfl hm1 hk1 (by decide) rfl hl.1 rfl (Nat.le_of_ble_eq_true rfl) dX8_findTouched_60 ⟨Nat.le_of_ble_eq_true rfl, Nat.le_of_ble_eq_true rfl⟩ (fun v57 kp57 L57 E57 H locs hq57 hx57 TH hS => ?_)
                obtain ⟨⟨xc58, rfl⟩, rfl, rfl, rfl⟩ := hq57
                refine W.eq (g2 := F0 m 63 ls [.long xc58]) rfl ?_
                refine lv_aload_n hx hb dX8_findTouched_63 rfl (lv_at hl 2 rfl) ?_
                refine tw_get (ci := 8) (C := RX8) (T := TX8) (N := 4) hx hb hB cx_inX8 hown hK TH hm0 hk0 rfl ⟨by decide, rfl⟩ 0 (by decide) cw_299 (fun _ h9 => h9) dX8_findTouched_64 (fun hv => ?_)
                rw [hmf6]
                refine tw_get (ci := 10) (C := RX10) (T := TX10) (N := 8) hx hb hB cx_inX10 hown hK TH hmxr1 hkxr1 rfl ⟨by decide, rfl⟩ 6 (by decide) cw_148 (fun _ h9 => h9) dX8_findTouched_67 (fun hv => ?_)
                obtain ⟨xr59, hxr59, hmxr59, hkxr59⟩ : ∃ a : Nat, tw_fv Eg36 xr1 6 = .ref a ∧ a ∈ L ∧ kp a = 102 := hv
                rw [hxr59]
                refine lv_iload_n hx hb dX8_findTouched_70 rfl (lv_at hl 1 rfl) ?_
                refine tw_lald (k := 102) (n := 40) (lo := 0) (hi := 0) hx hb hK TH hmxr59 hkxr59 (by decide) rfl (i := y36_2) (vp_in_iff.mpr ⟨by  omega, by  omega⟩) dX8_findTouched_71 (fun xl60 => ?_)
                refine W.lcmp hx hb dX8_findTouched_72 ?_
                have hzi61 := ia_lcmp xc58 xl60
                generalize lg_cmp xc58 xl60 = zi61 at hzi61 ⊢
                refine lv_if_ne (tgt := 93) hx hb dX8_findTouched_73 (by decide) (fun hc62 => ?_) (fun hc62 => ?_)
                · have hf63 : ¬ (zi61.toInt = 0) := fun q => hc62 ((fa_eq _ _).mpr (by have : ((0 : Int32).toInt) = 0 := (by decide); omega))
                  exact hJ93  _ _ ls  TH hS (lv_sub hl [1, 2, 3] rfl)
                · have hf64 : zi61.toInt = 0 := by have z := (fa_eq _ _).mp hc62; have : ((0 : Int32).toInt) = 0 := (by decide); omega
                  refine lv_aload_n hx hb dX8_findTouched_76 rfl (lv_at hl 3 rfl) ?_
                  refine lv_iload_n hx hb dX8_findTouched_77 rfl (lv_at hl 0 rfl) ?_
                  refine tw_Vc (o := a1) (ci := 8) (n := 1) (post := (fun v kq Lq Eq => (∃ x : Int32, v = some (.int x) ∧ (-1) ≤ x.toInt ∧ x.toInt ≤ 149) ∧ kp = kq ∧ L = Lq ∧ Eg36 = Eq)) (As := [.int xe12]) (rest := []) ⟨hx, hb, hml, hown, hB⟩ (fun sz => tX8_upOf l D cs a1 xe12 hm1 hk1 sz) cg_8_57_X8_upOf rfl rfl (by decide +kernel) ⟨Nat.le_of_ble_eq_true rfl, Nat.le_of_ble_eq_true rfl⟩ hK hN TH hS hA rfl hm1 hk1 (by decide) rfl hl.1 rfl (Nat.le_of_ble_eq_true rfl) dX8_findTouched_78 ⟨Nat.le_of_ble_eq_true rfl, Nat.le_of_ble_eq_true rfl⟩ (fun v65 kp65 L65 E65 H locs hq65 hx65 TH hS => ?_)
                  obtain ⟨⟨xc66, rfl, hxc66a, hxc66b⟩, rfl, rfl, rfl⟩ := hq65
                  refine W.eq (g2 := F0 m 81 ls [.int xc66]) rfl ?_
                  refine lv_aload_n hx hb dX8_findTouched_81 rfl (lv_at hl 2 rfl) ?_
                  refine tw_get (ci := 8) (C := RX8) (T := TX8) (N := 4) hx hb hB cx_inX8 hown hK TH hm0 hk0 rfl ⟨by decide, rfl⟩ 0 (by decide) cw_299 (fun _ h9 => h9) dX8_findTouched_82 (fun hv => ?_)
                  rw [hmf6]
                  refine tw_get (ci := 10) (C := RX10) (T := TX10) (N := 8) hx hb hB cx_inX10 hown hK TH hmxr1 hkxr1 rfl ⟨by decide, rfl⟩ 2 (by decide) cw_128 (fun _ h9 => h9) dX8_findTouched_85 (fun hv => ?_)
                  obtain ⟨xr67, hxr67, hmxr67, hkxr67⟩ : ∃ a : Nat, tw_fv Eg36 xr1 2 = .ref a ∧ a ∈ L ∧ kp a = 111 := hv
                  rw [hxr67]
                  refine lv_iload_n hx hb dX8_findTouched_88 rfl (lv_at hl 1 rfl) ?_
                  refine tw_iald (k := 111) (t0 := 0) (n := 40) (lo := (-1)) (hi := 149) hx hb hK TH hmxr67 hkxr67 (by decide) rfl rfl (i := y36_2) (vp_in_iff.mpr ⟨by  omega, by  omega⟩) dX8_findTouched_89 (fun hxe68a hxe68b => ?_)
                  obtain ⟨xe68, exe68⟩ : ∃ z : Int32, tw_iv Eg36 xr67 (Int32.toNatClampNeg y36_2) = z := ⟨_, rfl⟩
                  rw [exe68] at hxe68a hxe68b ⊢
                  refine lv_icmp_eq (tgt := 100) hx hb dX8_findTouched_90 (by decide) (fun hc69 => ?_) (fun hc69 => ?_)
                  · have hf70 : xc66.toInt = xe68.toInt := by have z := (fa_eq _ _).mp hc69;  omega
                    exact hJ100  _ _ _ ls hG100 TH hS (lv_sub hl [1, 2, 3] rfl)
                  · have hf71 : ¬ (xc66.toInt = xe68.toInt) := fun q => hc69 ((fa_eq _ _).mpr (by  omega))
                    exact hJ93  _ _ ls  TH hS (lv_sub hl [1, 2, 3] rfl)
        exact hJ36 41 zi5 _ _ _ ls (by omega) (by omega) (by   omega) tw_fr.rf TH hS (lv_sub hl [0, 1, 2] rfl)
      · have hf72 : ¬ (xi2.toInt ≤ y2_2.toInt) := fun q => hc3 ((fa_le _ _).mpr (by  omega))
        refine lv_aload_n hx hb dX8_findTouched_13 rfl (lv_at hl 1 rfl) ?_
        refine tw_get (ci := 8) (C := RX8) (T := TX8) (N := 4) hx hb hB cx_inX8 hown hK TH hm0 hk0 rfl ⟨by decide, rfl⟩ 3 (by decide) cw_303 (fun _ h9 => h9) dX8_findTouched_14 (fun hv => ?_)
        obtain ⟨xr73, hxr73, hmxr73, hkxr73⟩ : ∃ a : Nat, tw_fv Eg2 a0 3 = .ref a ∧ a ∈ L ∧ kp a = 171 := hv
        rw [hxr73]
        refine lv_iload_n hx hb dX8_findTouched_17 rfl (lv_at hl 0 rfl) ?_
        refine lv_iconst (v := 0) hx hb dX8_findTouched_18 (by decide) ?_
        refine tw_iast (k := 171) (n := 40) (lo := 0) (hi := 1) hx hb hK TH hS hmxr73 hkxr73 (by decide) rfl (i := y2_2) (x := 0) (vp_in_iff.mpr ⟨by  omega, by  omega⟩) (by have : ((0 : Int32).toInt) = 0 := (by decide); omega) (by have : ((0 : Int32).toInt) = 0 := (by decide); omega) dX8_findTouched_19 (fun H locs E74 TH hS hp75 hp76 hp77 => ?_)
        have hst78 : tw_fr kp L [] [171] Eg2 E74 := tw_fr.ast tw_fr.rf (fun _ => hkxr73) hp75 hp76 (by decide)
        have hF := hF.tr hst78 (fun _ h => ⟨h, rfl⟩) (by decide) (by decide)
        have hG2 := hG2.tr hst78 (fun _ h => ⟨h, rfl⟩) (by decide) (by decide)
        have hmf79 : tw_fv E74 a0 0 = .ref xr1 := (hst78.1 a0 0 hm0 (by rw [hk0]; decide)).trans hxr1
        have hmf80 : tw_fv E74 xr1 0 = .int xi2 := (hst78.1 xr1 0 hmxr1 (by rw [hkxr1]; decide)).trans hxi2
        have hmf81 : tw_fv E74 a0 3 = .ref xr73 := (hst78.1 a0 3 hm0 (by rw [hk0]; decide)).trans hxr73
        obtain ⟨zi82, ezi82⟩ : ∃ z : Int32, z = y2_2 + Int32.ofInt 1 := ⟨_, rfl⟩
        have hzi82 : zi82.toInt = y2_2.toInt + 1 := by rw [ezi82]; have : ((Int32.ofInt 1).toInt) = 1 := (by decide);  exact (ia_add (by omega) (by omega)).trans (by omega)
        refine lv_iinc (v := zi82) (lv' := [(2, .int zi82), (0, .ref a0), (1, .ref a1)]) hx hb dX8_findTouched_20 hl (k := 0) rfl ezi82.symm (by decide) rfl (fun ls hl => ?_)
        refine lv_goto (tgt := 2) hx hb dX8_findTouched_23 (by decide) ?_
        exact ih2 (n2 - 1) (by   omega) zi82 _ _ _ ls (by omega) (by omega) (by   omega) hG2 TH hS (lv_sub hl [0, 1, 2] rfl)
  exact hJ2 41 (0 : Int32) _ _ _ ls (by have : ((0 : Int32).toInt) = 0 := (by decide); omega) (by have : ((0 : Int32).toInt) = 0 := (by decide); omega) (by have : ((0 : Int32).toInt) = 0 := (by decide);  omega) tw_fr.rf TH hS (lv_sub hl [0, 1, 2] rfl)
