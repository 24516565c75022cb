set_option maxHeartbeats 4000000 in
set_option maxRecDepth 100000 in
theorem tX12_isTouched (l : Launch) (D : va_G) (cs : Nat → ClassId) {kp : Nat → Nat} {L : List Nat} {E : Nat → va_E} (a0 : Nat) (x1 : Int32) (x2 : Int32) (x3 : Int32) (hm0 : a0 ∈ L) (hk0 : kp a0 = 12) (hp1a : 0 ≤ x1.toInt) (hp1b : x1.toInt ≤ 15) (hp3a : 0 ≤ x3.toInt) (hp3b : x3.toInt ≤ 15) (hg0 : rw_ok E a0 (x1.toInt)) (sz : Nat) : Met l yX12_isTouched (.code yX12_isTouched cX12_isTouched 5 (some .boolean) :: cx_big) { frames := 1, cells := 0, slots := 0, locals := 24 } (tw_P D cs kp L E [.ref a0, .int x1, .int x2, .int x3] sz) (tw_Q D cs kp L (fun v kq Lq Eq => (∃ x : Int32, v = some (.int x) ∧ 0 ≤ x.toInt ∧ x.toInt ≤ 1) ∧ kp = kq ∧ L = Lq ∧ E = Eq) (va_A (va_pl L E) sz)) 0 0 (va_A (va_pl L E) sz) := by
  refine tw_ofW (by decide) (Nat.le_of_ble_eq_true rfl) ?_
  intro p e s m below meth c A ls hx hb hr hml hB hown hlocks hK hN hA TH hS hl
  have hown : s.vm.findClass "TreeMergeModel" = some m.cls := hown
  have hl : lv_has ls 5 [(0, .ref a0), (1, .int x1), (2, .int x2), (3, .int x3)] := hl
  obtain ⟨kp0, ekp⟩ : ∃ z, z = kp := ⟨_, rfl⟩
  obtain ⟨L0, eL⟩ : ∃ z, z = L := ⟨_, rfl⟩
  rw [show tw_Q D cs kp L = tw_Q D cs kp0 L0 by rw [ekp, eL]]
  have hex : ∀ a : Nat, a ∈ L0 → a ∈ L ∧ kp a = kp0 a := fun a h => ⟨by rw [← eL]; exact h, by rw [ekp]⟩
  refine lv_iconst (v := 0) hx hb dX12_isTouched_0 (by decide) ?_
  refine lv_istore (lv' := [(4, .int 0), (0, .ref a0), (1, .int x1), (2, .int x2), (3, .int x3)]) hx hb dX12_isTouched_1 hl (by decide) rfl (fun ls hl => ?_)
  have hJ3 : ∀ (n3 : Nat) (y3_4 : Int32) (H : Heap) (locs : List Loc) (ls : Array Slot), 0 ≤ y3_4.toInt → y3_4.toInt ≤ 150 → 150 - y3_4.toInt ≤ (n3 : Int) → tw_H D cs kp L E A H → va_S A s.heap H locs → lv_has ls 5 [(4, .int y3_4), (0, .ref a0), (1, .int x1), (2, .int x2), (3, .int x3)] → W p l e { frames := 1, cells := 0, slots := 0, locals := 24 } s m [.ref a0, .int x1, .int x2, .int x3].toArray below meth c H locs 0 0 (MQ below (tw_Q D cs kp0 L0 (fun v kq Lq Eq => (∃ x : Int32, v = some (.int x) ∧ 0 ≤ x.toInt ∧ x.toInt ≤ 1) ∧ kp = kq ∧ L = Lq ∧ E = Eq) A) [.ref a0, .int x1, .int x2, .int x3].toArray s 0 0 A) (F0 m 3 ls []) := by
    intro n3
    induction n3 using Nat.strongRecOn with
    | _ n3 ih3 =>
      intro y3_4 H locs ls hy3_4a hy3_4b hmeas3 TH hS hl
      refine lv_iload hx hb dX12_isTouched_3 (lv_at hl 0 rfl) ?_
      refine lv_sipush (v := 150) hx hb dX12_isTouched_5 (by decide) ?_
      refine lv_icmp_ge (tgt := 53) hx hb dX12_isTouched_8 (by decide) (fun hc1 => ?_) (fun hc1 => ?_)
      · have hf2 : 150 ≤ y3_4.toInt := by have z := (fa_le _ _).mp hc1; have : ((150 : Int32).toInt) = 150 := (by decide); omega
        refine lv_iconst (v := 0) hx hb dX12_isTouched_53 (by decide) ?_
        exact tw_zret hx hb hr hlocks (by decide) TH hS hex ⟨⟨_, rfl, (show 0 ≤ Int32.toInt 0 from by have : ((0 : Int32).toInt) = 0 := (by decide); omega), (show Int32.toInt 0 ≤ 1 from by have : ((0 : Int32).toInt) = 0 := (by decide); omega)⟩, rfl, rfl, rfl⟩ (Nat.le_of_ble_eq_true rfl) (Nat.le_of_ble_eq_true rfl) dX12_isTouched_54
      · have hf3 : ¬ (150 ≤ y3_4.toInt) := fun q => hc1 ((fa_le _ _).mpr (by have : ((150 : Int32).toInt) = 150 := (by decide); omega))
        refine lv_aload_n hx hb dX12_isTouched_11 rfl (lv_at hl 1 rfl) ?_
        refine tw_get (ci := 12) (C := RX12) (T := TX12) (N := 64) hx hb hB cx_inX12 hown hK TH hm0 hk0 rfl ⟨by decide, rfl⟩ 16 (by decide) cw_1209 (fun _ h9 => h9) dX12_isTouched_12 (fun hv => ?_)
        obtain ⟨xr4, hxr4, hmxr4, hkxr4⟩ : ∃ a : Nat, tw_fv E a0 16 = .ref a ∧ a ∈ L ∧ kp a = 316 := hv
        rw [hxr4]
        refine lv_iload_n hx hb dX12_isTouched_15 rfl (lv_at hl 2 rfl) ?_
        refine tw_aald (k := 316) (t0 := 5) (n := 16) (lo := 326) (hi := 0) (ty := .boolean) hx hb hK TH hmxr4 hkxr4 (by decide) rfl rfl (i := x1) (vp_in_iff.mpr ⟨by  omega, by  omega⟩) dX12_isTouched_16 (fun xr5 exr5 hmxr5 hkxr5 => ?_)
        have hkxr5 : kp xr5 = 326 := hkxr5
        refine lv_iload hx hb dX12_isTouched_17 (lv_at hl 0 rfl) ?_
        refine tw_zald (k := 326) (t0 := 3) (n := 150) (lo := 0) (hi := 1) hx hb hK TH hmxr5 hkxr5 (by decide) rfl rfl (i := y3_4) (vp_in_iff.mpr ⟨by  omega, by  omega⟩) dX12_isTouched_19 (fun hxe6a hxe6b => ?_)
        obtain ⟨xe6, exe6⟩ : ∃ z : Int32, tw_iv E xr5 (Int32.toNatClampNeg y3_4) = z := ⟨_, rfl⟩
        rw [exe6] at hxe6a hxe6b ⊢
        have hJ47 : ∀  (H : Heap) (locs : List Loc) (ls : Array Slot), tw_H D cs kp L E A H → va_S A s.heap H locs → lv_has ls 5 [(4, .int y3_4), (0, .ref a0), (1, .int x1), (2, .int x2), (3, .int x3)] → W p l e { frames := 1, cells := 0, slots := 0, locals := 24 } s m [.ref a0, .int x1, .int x2, .int x3].toArray below meth c H locs 0 0 (MQ below (tw_Q D cs kp0 L0 (fun v kq Lq Eq => (∃ x : Int32, v = some (.int x) ∧ 0 ≤ x.toInt ∧ x.toInt ≤ 1) ∧ kp = kq ∧ L = Lq ∧ E = Eq) A) [.ref a0, .int x1, .int x2, .int x3].toArray s 0 0 A) (F0 m 47 ls []) := by
          intro H locs ls TH hS hl
          obtain ⟨zi7, ezi7⟩ : ∃ z : Int32, z = y3_4 + Int32.ofInt 1 := ⟨_, rfl⟩
          have hzi7 : zi7.toInt = y3_4.toInt + 1 := by rw [ezi7]; have : ((Int32.ofInt 1).toInt) = 1 := (by decide);  exact (ia_add (by omega) (by omega)).trans (by omega)
          refine lv_iinc (v := zi7) (lv' := [(4, .int zi7), (0, .ref a0), (1, .int x1), (2, .int x2), (3, .int x3)]) hx hb dX12_isTouched_47 hl (k := 0) rfl ezi7.symm (by decide) rfl (fun ls hl => ?_)
          refine lv_goto (tgt := 3) hx hb dX12_isTouched_50 (by decide) ?_
          exact ih3 (n3 - 1) (by   omega) zi7 _ _ ls (by omega) (by omega) (by   omega) TH hS (lv_sub hl [0, 1, 2, 3, 4] rfl)
        refine lv_if_eq (tgt := 47) hx hb dX12_isTouched_20 (by decide) (fun hc8 => ?_) (fun hc8 => ?_)
        · have hf9 : xe6.toInt = 0 := by have z := (fa_eq _ _).mp hc8; have : ((0 : Int32).toInt) = 0 := (by decide); omega
          exact hJ47  _ _ ls  TH hS (lv_sub hl [0, 1, 2, 3, 4] rfl)
        · have hf10 : ¬ (xe6.toInt = 0) := fun q => hc8 ((fa_eq _ _).mpr (by have : ((0 : Int32).toInt) = 0 := (by decide); omega))
          refine lv_aload_n hx hb dX12_isTouched_23 rfl (lv_at hl 1 rfl) ?_
          refine lv_iload_n hx hb dX12_isTouched_24 rfl (lv_at hl 2 rfl) ?_
          refine lv_iload hx hb dX12_isTouched_25 (lv_at hl 0 rfl) ?_
          refine lv_iload_n hx hb dX12_isTouched_27 rfl (lv_at hl 4 rfl) ?_
          refine tw_Vc (o := a0) (ci := 12) (n := 3) (post := (fun v kq Lq Eq => (∃ x : Int32, v = some (.int x) ∧ 0 ≤ x.toInt ∧ x.toInt ≤ 1) ∧ kp = kq ∧ L = Lq ∧ E = Eq)) (As := [.int x1, .int y3_4, .int x3]) (rest := []) ⟨hx, hb, hml, hown, hB⟩ (fun sz => tX12_isOther l D cs a0 x1 y3_4 x3 hm0 hk0 (by omega) (by omega) (by omega) (by omega) (by omega) (by omega) sz) cg_12_458_X12_isOther rfl rfl (by decide +kernel) ⟨Nat.le_of_ble_eq_true rfl, Nat.le_of_ble_eq_true rfl⟩ hK hN TH hS hA rfl hm0 hk0 (by decide) rfl hl.1 rfl (Nat.le_of_ble_eq_true rfl) dX12_isTouched_28 ⟨Nat.le_of_ble_eq_true rfl, Nat.le_of_ble_eq_true rfl⟩ (fun v11 kp11 L11 E11 H locs hq11 hx11 TH hS => ?_)
          obtain ⟨⟨xc12, rfl, hxc12a, hxc12b⟩, rfl, rfl, rfl⟩ := hq11
          refine W.eq (g2 := F0 m 31 ls [.int xc12]) rfl ?_
          refine lv_if_eq (tgt := 47) hx hb dX12_isTouched_31 (by decide) (fun hc13 => ?_) (fun hc13 => ?_)
          · have hf14 : xc12.toInt = 0 := by have z := (fa_eq _ _).mp hc13; have : ((0 : Int32).toInt) = 0 := (by decide); omega
            exact hJ47  _ _ ls  TH hS (lv_sub hl [0, 1, 2, 3, 4] rfl)
          · have hf15 : ¬ (xc12.toInt = 0) := fun q => hc13 ((fa_eq _ _).mpr (by have : ((0 : Int32).toInt) = 0 := (by decide); omega))
            refine lv_aload_n hx hb dX12_isTouched_34 rfl (lv_at hl 1 rfl) ?_
            refine lv_iload_n hx hb dX12_isTouched_35 rfl (lv_at hl 2 rfl) ?_
            refine lv_iload hx hb dX12_isTouched_36 (lv_at hl 0 rfl) ?_
            refine lv_iload_n hx hb dX12_isTouched_38 rfl (lv_at hl 3 rfl) ?_
            refine tw_Vc (o := a0) (ci := 12) (n := 3) (post := (fun v kq Lq Eq => (∃ x : Int32, v = some (.int x) ∧ 0 ≤ x.toInt ∧ x.toInt ≤ 1 ∧ (x.toInt = 0 → 0 ≤ x2.toInt → ∀ k : Nat, rt_up (rw_p E a0 x1.toInt) k y3_4.toInt ≠ x2.toInt)) ∧ kp = kq ∧ L = Lq ∧ E = Eq)) (As := [.int x1, .int y3_4, .int x2]) (rest := []) ⟨hx, hb, hml, hown, hB⟩ (fun sz => tX12_isUnder l D cs a0 x1 y3_4 x2 hm0 hk0 (by omega) (by omega) (by omega) (by omega) (by  have rf_xe6 : rw_h E a0 (x1.toInt) (y3_4.toInt).toNat = xe6.toInt := rw_h_of (m := a0) (i := x1) (c := y3_4) hxr4 exr5 exe6; rw [rf_xe6]; omega) hg0 sz) cg_12_442_X12_isUnder rfl rfl (by decide +kernel) ⟨Nat.le_of_ble_eq_true rfl, Nat.le_of_ble_eq_true rfl⟩ hK hN TH hS hA rfl hm0 hk0 (by decide) rfl hl.1 rfl (Nat.le_of_ble_eq_true rfl) dX12_isTouched_39 ⟨Nat.le_of_ble_eq_true rfl, Nat.le_of_ble_eq_true rfl⟩ (fun v16 kp16 L16 E16 H locs hq16 hx16 TH hS => ?_)
            obtain ⟨⟨xc17, rfl, hxc17a, hxc17b, hpoxc17_0⟩, rfl, rfl, rfl⟩ := hq16
            refine W.eq (g2 := F0 m 42 ls [.int xc17]) rfl ?_
            refine lv_if_eq (tgt := 47) hx hb dX12_isTouched_42 (by decide) (fun hc18 => ?_) (fun hc18 => ?_)
            · have hf19 : xc17.toInt = 0 := by have z := (fa_eq _ _).mp hc18; have : ((0 : Int32).toInt) = 0 := (by decide); omega
              exact hJ47  _ _ ls  TH hS (lv_sub hl [0, 1, 2, 3, 4] rfl)
            · have hf20 : ¬ (xc17.toInt = 0) := fun q => hc18 ((fa_eq _ _).mpr (by have : ((0 : Int32).toInt) = 0 := (by decide); omega))
              refine lv_iconst (v := 1) hx hb dX12_isTouched_45 (by decide) ?_
              exact tw_zret hx hb hr hlocks (by decide) TH hS hex ⟨⟨_, rfl, (show 0 ≤ Int32.toInt 1 from by have : ((1 : Int32).toInt) = 1 := (by decide); omega), (show Int32.toInt 1 ≤ 1 from by have : ((1 : Int32).toInt) = 1 := (by decide); omega)⟩, rfl, rfl, rfl⟩ (Nat.le_of_ble_eq_true rfl) (Nat.le_of_ble_eq_true rfl) dX12_isTouched_46
  exact hJ3 151 (0 : Int32) _ _ ls (by have : ((0 : Int32).toInt) = 0 := (by decide); omega) (by have : ((0 : Int32).toInt) = 0 := (by decide); omega) (by have : ((0 : Int32).toInt) = 0 := (by decide);  omega) TH hS (lv_sub hl [0, 1, 2, 3, 4] rfl)
set_option maxHeartbeats 4000000 in
set_option maxRecDepth 100000 in
theorem tX12_sideOf (l : Launch) (D : va_G) (cs : Nat → ClassId) {kp : Nat → Nat} {L : List Nat} {E : Nat → va_E} (a0 : Nat) (x1 : Int32) (x2 : Int32) (x3 : Int32) (x4 : Int32) (x5 : Int32) (hm0 : a0 ∈ L) (hk0 : kp a0 = 12) (hp1a : 0 ≤ x1.toInt) (hp1b : x1.toInt ≤ 149) (hp2a : 0 ≤ x2.toInt) (hp2b : x2.toInt ≤ 15) (hp3a : 0 ≤ x3.toInt) (hp3b : x3.toInt ≤ 15) (hp4a : 0 ≤ x4.toInt) (hp4b : x4.toInt ≤ 15) (hp5a : 0 ≤ x5.toInt) (hp5b : x5.toInt ≤ 1) (sz : Nat) : Met l yX12_sideOf (.code yX12_sideOf cX12_sideOf 8 (some .int) :: cx_big) { frames := 1, cells := 0, slots := 0, locals := 25 } (tw_P D cs kp L E [.ref a0, .int x1, .int x2, .int x3, .int x4, .int x5] sz) (tw_Q D cs kp L (fun v kq Lq Eq => (∃ x : Int32, v = some (.int x) ∧ (-2) ≤ x.toInt ∧ x.toInt ≤ 15 ∧ (x.toInt ≠ -1 ∧ (x5.toInt ≠ 0 → (x.toInt = -2 ↔ un_w E a0 x1.toInt x2.toInt x3.toInt x4.toInt)) ∧ (x5.toInt = 0 → (x.toInt = -2 ↔ un_p E a0 x1.toInt x2.toInt x3.toInt x4.toInt))) ∧ (rw_h E a0 x2.toInt (x1.toInt).toNat ≠ 0 → rw_h E a0 x3.toInt (x1.toInt).toNat ≠ 0 → x5.toInt = 0 → rw_p E a0 x2.toInt (x1.toInt).toNat = rw_p E a0 x3.toInt (x1.toInt).toNat → x.toInt = x2.toInt)) ∧ kp = kq ∧ L = Lq ∧ E = Eq) (va_A (va_pl L E) sz)) 0 0 (va_A (va_pl L E) sz) := by
  refine tw_ofW (by decide) (Nat.le_of_ble_eq_true rfl) ?_
  intro p e s m below meth c A ls hx hb hr hml hB hown hlocks hK hN hA TH hS hl
  have hown : s.vm.findClass "TreeMergeModel" = some m.cls := hown
  have hl : lv_has ls 8 [(0, .ref a0), (1, .int x1), (2, .int x2), (3, .int x3), (4, .int x4), (5, .int x5)] := hl
  obtain ⟨kp0, ekp⟩ : ∃ z, z = kp := ⟨_, rfl⟩
  obtain ⟨L0, eL⟩ : ∃ z, z = L := ⟨_, rfl⟩
  rw [show tw_Q D cs kp L = tw_Q D cs kp0 L0 by rw [ekp, eL]]
  have hex : ∀ a : Nat, a ∈ L0 → a ∈ L ∧ kp a = kp0 a := fun a h => ⟨by rw [← eL]; exact h, by rw [ekp]⟩
  refine lv_aload_n hx hb dX12_sideOf_0 rfl (lv_at hl 0 rfl) ?_
  refine tw_get (ci := 12) (C := RX12) (T := TX12) (N := 64) hx hb hB cx_inX12 hown hK TH hm0 hk0 rfl ⟨by decide, rfl⟩ 16 (by decide) cw_1209 (fun _ h9 => h9) dX12_sideOf_1 (fun hv => ?_)
  obtain ⟨xr1, hxr1, hmxr1, hkxr1⟩ : ∃ a : Nat, tw_fv E a0 16 = .ref a ∧ a ∈ L ∧ kp a = 316 := hv
  rw [hxr1]
  refine lv_iload_n hx hb dX12_sideOf_4 rfl (lv_at hl 2 rfl) ?_
  refine tw_aald (k := 316) (t0 := 5) (n := 16) (lo := 326) (hi := 0) (ty := .boolean) hx hb hK TH hmxr1 hkxr1 (by decide) rfl rfl (i := x2) (vp_in_iff.mpr ⟨by  omega, by  omega⟩) dX12_sideOf_5 (fun xr2 exr2 hmxr2 hkxr2 => ?_)
  have hkxr2 : kp xr2 = 326 := hkxr2
  refine lv_iload_n hx hb dX12_sideOf_6 rfl (lv_at hl 1 rfl) ?_
  refine tw_zald (k := 326) (t0 := 3) (n := 150) (lo := 0) (hi := 1) hx hb hK TH hmxr2 hkxr2 (by decide) rfl rfl (i := x1) (vp_in_iff.mpr ⟨by  omega, by  omega⟩) dX12_sideOf_7 (fun hxe3a hxe3b => ?_)
  obtain ⟨xe3, exe3⟩ : ∃ z : Int32, tw_iv E xr2 (Int32.toNatClampNeg x1) = z := ⟨_, rfl⟩
  rw [exe3] at hxe3a hxe3b ⊢
  refine lv_if_ne (tgt := 13) hx hb dX12_sideOf_8 (by decide) (fun hc4 => ?_) (fun hc4 => ?_)
  · have hf5 : ¬ (xe3.toInt = 0) := fun q => hc4 ((fa_eq _ _).mpr (by have : ((0 : Int32).toInt) = 0 := (by decide); omega))
    refine lv_aload_n hx hb dX12_sideOf_13 rfl (lv_at hl 0 rfl) ?_
    refine tw_get (ci := 12) (C := RX12) (T := TX12) (N := 64) hx hb hB cx_inX12 hown hK TH hm0 hk0 rfl ⟨by decide, rfl⟩ 16 (by decide) cw_1209 (fun _ h9 => h9) dX12_sideOf_14 (fun hv => ?_)
    rw [hxr1]
    refine lv_iload_n hx hb dX12_sideOf_17 rfl (lv_at hl 3 rfl) ?_
    refine tw_aald (k := 316) (t0 := 5) (n := 16) (lo := 326) (hi := 0) (ty := .boolean) hx hb hK TH hmxr1 hkxr1 (by decide) rfl rfl (i := x3) (vp_in_iff.mpr ⟨by  omega, by  omega⟩) dX12_sideOf_18 (fun xr6 exr6 hmxr6 hkxr6 => ?_)
    have hkxr6 : kp xr6 = 326 := hkxr6
    refine lv_iload_n hx hb dX12_sideOf_19 rfl (lv_at hl 1 rfl) ?_
    refine tw_zald (k := 326) (t0 := 3) (n := 150) (lo := 0) (hi := 1) hx hb hK TH hmxr6 hkxr6 (by decide) rfl rfl (i := x1) (vp_in_iff.mpr ⟨by  omega, by  omega⟩) dX12_sideOf_20 (fun hxe7a hxe7b => ?_)
    obtain ⟨xe7, exe7⟩ : ∃ z : Int32, tw_iv E xr6 (Int32.toNatClampNeg x1) = z := ⟨_, rfl⟩
    rw [exe7] at hxe7a hxe7b ⊢
    refine lv_if_ne (tgt := 26) hx hb dX12_sideOf_21 (by decide) (fun hc8 => ?_) (fun hc8 => ?_)
    · have hf9 : ¬ (xe7.toInt = 0) := fun q => hc8 ((fa_eq _ _).mpr (by have : ((0 : Int32).toInt) = 0 := (by decide); omega))
      refine lv_iload hx hb dX12_sideOf_26 (lv_at hl 5 rfl) ?_
      refine lv_if_eq (tgt := 59) hx hb dX12_sideOf_28 (by decide) (fun hc10 => ?_) (fun hc10 => ?_)
      · have hf11 : x5.toInt = 0 := by have z := (fa_eq _ _).mp hc10; have : ((0 : Int32).toInt) = 0 := (by decide); omega
        refine lv_aload_n hx hb dX12_sideOf_59 rfl (lv_at hl 0 rfl) ?_
        refine tw_get (ci := 12) (C := RX12) (T := TX12) (N := 64) hx hb hB cx_inX12 hown hK TH hm0 hk0 rfl ⟨by decide, rfl⟩ 18 (by decide) cw_1211 (fun _ h9 => h9) dX12_sideOf_60 (fun hv => ?_)
        obtain ⟨xr12, hxr12, hmxr12, hkxr12⟩ : ∃ a : Nat, tw_fv E a0 18 = .ref a ∧ a ∈ L ∧ kp a = 318 := hv
        rw [hxr12]
        refine lv_iload_n hx hb dX12_sideOf_63 rfl (lv_at hl 2 rfl) ?_
        refine tw_aald (k := 318) (t0 := 4) (n := 16) (lo := 328) (hi := 0) (ty := .int) hx hb hK TH hmxr12 hkxr12 (by decide) rfl rfl (i := x2) (vp_in_iff.mpr ⟨by  omega, by  omega⟩) dX12_sideOf_64 (fun xr13 exr13 hmxr13 hkxr13 => ?_)
        have hkxr13 : kp xr13 = 328 := hkxr13
        refine lv_iload_n hx hb dX12_sideOf_65 rfl (lv_at hl 1 rfl) ?_
        refine tw_iald (k := 328) (t0 := 0) (n := 150) (lo := (-1)) (hi := 149) hx hb hK TH hmxr13 hkxr13 (by decide) rfl rfl (i := x1) (vp_in_iff.mpr ⟨by  omega, by  omega⟩) dX12_sideOf_66 (fun hxe14a hxe14b => ?_)
        obtain ⟨xe14, exe14⟩ : ∃ z : Int32, tw_iv E xr13 (Int32.toNatClampNeg x1) = z := ⟨_, rfl⟩
        rw [exe14] at hxe14a hxe14b ⊢
        refine lv_aload_n hx hb dX12_sideOf_67 rfl (lv_at hl 0 rfl) ?_
        refine tw_get (ci := 12) (C := RX12) (T := TX12) (N := 64) hx hb hB cx_inX12 hown hK TH hm0 hk0 rfl ⟨by decide, rfl⟩ 18 (by decide) cw_1211 (fun _ h9 => h9) dX12_sideOf_68 (fun hv => ?_)
        rw [hxr12]
        refine lv_iload_n hx hb dX12_sideOf_71 rfl (lv_at hl 3 rfl) ?_
        refine tw_aald (k := 318) (t0 := 4) (n := 16) (lo := 328) (hi := 0) (ty := .int) hx hb hK TH hmxr12 hkxr12 (by decide) rfl rfl (i := x3) (vp_in_iff.mpr ⟨by  omega, by  omega⟩) dX12_sideOf_72 (fun xr15 exr15 hmxr15 hkxr15 => ?_)
        have hkxr15 : kp xr15 = 328 := hkxr15
        refine lv_iload_n hx hb dX12_sideOf_73 rfl (lv_at hl 1 rfl) ?_
        refine tw_iald (k := 328) (t0 := 0) (n := 150) (lo := (-1)) (hi := 149) hx hb hK TH hmxr15 hkxr15 (by decide) rfl rfl (i := x1) (vp_in_iff.mpr ⟨by  omega, by  omega⟩) dX12_sideOf_74 (fun hxe16a hxe16b => ?_)
        obtain ⟨xe16, exe16⟩ : ∃ z : Int32, tw_iv E xr15 (Int32.toNatClampNeg x1) = z := ⟨_, rfl⟩
        rw [exe16] at hxe16a hxe16b ⊢
        refine lv_icmp_ne (tgt := 82) hx hb dX12_sideOf_75 (by decide) (fun hc17 => ?_) (fun hc17 => ?_)
        · have hf18 : ¬ (xe14.toInt = xe16.toInt) := fun q => hc17 ((fa_eq _ _).mpr (by  omega))
          refine lv_iconst (v := 0) hx hb dX12_sideOf_82 (by decide) ?_
          refine lv_istore (lv' := [(6, .int 0), (0, .ref a0), (1, .int x1), (2, .int x2), (3, .int x3), (4, .int x4), (5, .int x5)]) hx hb dX12_sideOf_83 hl (by decide) rfl (fun ls hl => ?_)
          refine lv_iload hx hb dX12_sideOf_85 (lv_at hl 0 rfl) ?_
          refine lv_if_eq (tgt := 92) hx hb dX12_sideOf_87 (by decide) (fun hc19 => ?_) (fun hc19 => ?_)
          · have hf20 : 0 = 0 := by have z := (fa_eq _ _).mp hc19; have : ((0 : Int32).toInt) = 0 := (by decide); omega
            refine lv_aload_n hx hb dX12_sideOf_92 rfl (lv_at hl 1 rfl) ?_
            refine tw_get (ci := 12) (C := RX12) (T := TX12) (N := 64) hx hb hB cx_inX12 hown hK TH hm0 hk0 rfl ⟨by decide, rfl⟩ 16 (by decide) cw_1209 (fun _ h9 => h9) dX12_sideOf_93 (fun hv => ?_)
            rw [hxr1]
            refine lv_iload hx hb dX12_sideOf_96 (lv_at hl 5 rfl) ?_
            refine tw_aald (k := 316) (t0 := 5) (n := 16) (lo := 326) (hi := 0) (ty := .boolean) hx hb hK TH hmxr1 hkxr1 (by decide) rfl rfl (i := x4) (vp_in_iff.mpr ⟨by  omega, by  omega⟩) dX12_sideOf_98 (fun xr21 exr21 hmxr21 hkxr21 => ?_)
            have hkxr21 : kp xr21 = 326 := hkxr21
            refine lv_iload_n hx hb dX12_sideOf_99 rfl (lv_at hl 2 rfl) ?_
            refine tw_zald (k := 326) (t0 := 3) (n := 150) (lo := 0) (hi := 1) hx hb hK TH hmxr21 hkxr21 (by decide) rfl rfl (i := x1) (vp_in_iff.mpr ⟨by  omega, by  omega⟩) dX12_sideOf_100 (fun hxe22a hxe22b => ?_)
            obtain ⟨xe22, exe22⟩ : ∃ z : Int32, tw_iv E xr21 (Int32.toNatClampNeg x1) = z := ⟨_, rfl⟩
            rw [exe22] at hxe22a hxe22b ⊢
            refine lv_if_eq (tgt := 206) hx hb dX12_sideOf_101 (by decide) (fun hc23 => ?_) (fun hc23 => ?_)
            · have hf24 : xe22.toInt = 0 := by have z := (fa_eq _ _).mp hc23; have : ((0 : Int32).toInt) = 0 := (by decide); omega
              refine lv_aload_n hx hb dX12_sideOf_206 rfl (lv_at hl 1 rfl) ?_
              refine lv_iload_n hx hb dX12_sideOf_207 rfl (lv_at hl 2 rfl) ?_
              refine lv_iload hx hb dX12_sideOf_208 (lv_at hl 6 rfl) ?_
              refine lv_if_eq (tgt := 217) hx hb dX12_sideOf_210 (by decide) (fun hc25 => ?_) (fun hc25 => ?_)
              · have hf26 : x5.toInt = 0 := by have z := (fa_eq _ _).mp hc25; have : ((0 : Int32).toInt) = 0 := (by decide); omega
                refine lv_iconst (v := 3) hx hb dX12_sideOf_217 (by decide) ?_
                refine lv_iload_n hx hb dX12_sideOf_218 rfl (lv_at hl 3 rfl) ?_
                refine lv_iload_n hx hb dX12_sideOf_219 rfl (lv_at hl 4 rfl) ?_
                refine tw_Vc (o := a0) (ci := 12) (n := 4) (post := (fun v kq Lq Eq => (∃ x : Int32, v = some (.int x) ∧ (-1) ≤ x.toInt ∧ x.toInt ≤ 11 ∧ (x.toInt = -1 ↔ st_ns E a0 x1.toInt (3 : Int32).toInt x2.toInt x3.toInt)) ∧ kp = kq ∧ L = Lq ∧ E = Eq)) (As := [.int x1, .int 3, .int x2, .int x3]) (rest := []) ⟨hx, hb, hml, hown, hB⟩ (fun sz => tX12_settledFor l D cs a0 x1 (3 : Int32) x2 x3 hm0 hk0 sz) cg_12_461_X12_settledFor rfl rfl (by decide +kernel) ⟨Nat.le_of_ble_eq_true rfl, Nat.le_of_ble_eq_true rfl⟩ hK hN TH hS hA rfl hm0 hk0 (by decide) rfl hl.1 rfl (Nat.le_of_ble_eq_true rfl) dX12_sideOf_220 ⟨Nat.le_of_ble_eq_true rfl, Nat.le_of_ble_eq_true rfl⟩ (fun v27 kp27 L27 E27 H locs hq27 hx27 TH hS => ?_)
                obtain ⟨⟨xc28, rfl, hxc28a, hxc28b, hpoxc28_0⟩, rfl, rfl, rfl⟩ := hq27
                refine W.eq (g2 := F0 m 223 ls [.int xc28]) rfl ?_
                refine lv_istore (lv' := [(7, .int xc28), (6, .int 0), (0, .ref a0), (1, .int x1), (2, .int x2), (3, .int x3), (4, .int x4), (5, .int x5)]) hx hb dX12_sideOf_223 hl (by decide) rfl (fun ls hl => ?_)
                refine lv_iload hx hb dX12_sideOf_225 (lv_at hl 0 rfl) ?_
                refine lv_iconst (v := (-1)) hx hb dX12_sideOf_227 (by decide) ?_
                refine lv_icmp_ne (tgt := 236) hx hb dX12_sideOf_228 (by decide) (fun hc29 => ?_) (fun hc29 => ?_)
                · have hf30 : ¬ (xc28.toInt = (-1)) := fun q => hc29 ((fa_eq _ _).mpr (by have : (((-1) : Int32).toInt) = (-1) := (by decide); omega))
                  refine lv_iload hx hb dX12_sideOf_236 (lv_at hl 0 rfl) ?_
                  exact tw_iret hx hb hr hlocks TH hS hex ⟨⟨_, rfl, (show (-2) ≤ Int32.toInt xc28 from by  omega), (show Int32.toInt xc28 ≤ 15 from by  omega), (by  have rf_xe3 : rw_h E a0 (x2.toInt) (x1.toInt).toNat = xe3.toInt := rw_h_of (m := a0) (i := x2) (c := x1) hxr1 exr2 exe3; have rf_xe7 : rw_h E a0 (x3.toInt) (x1.toInt).toNat = xe7.toInt := rw_h_of (m := a0) (i := x3) (c := x1) hxr1 exr6 exe7; have rf_xe14 : rw_p E a0 (x2.toInt) (x1.toInt).toNat = xe14.toInt := rw_p_of (m := a0) (i := x2) (c := x1) hxr12 exr13 exe14; have rf_xe16 : rw_p E a0 (x3.toInt) (x1.toInt).toNat = xe16.toInt := rw_p_of (m := a0) (i := x3) (c := x1) hxr12 exr15 exe16; have rf_xe22 : rw_h E a0 (x4.toInt) (x1.toInt).toNat = xe22.toInt := rw_h_of (m := a0) (i := x4) (c := x1) hxr1 exr21 exe22; have e2 : ((2 : Int32).toInt) = 2 := (by decide); have e3 : ((3 : Int32).toInt) = 3 := (by decide); obtain ⟨σ, hσ⟩ := st_flag E a0 (x1.toInt) 2 (x2.toInt) (x3.toInt); obtain ⟨τ, hτ⟩ := st_flag E a0 (x1.toInt) 3 (x2.toInt) (x3.toInt); unfold un_w un_p; rw [← hσ, ← hτ]; have hc := hpoxc28_0; (try rw [e2] at hc); (try rw [e3] at hc); (try (have hcc := hσ.trans hc.symm)); (try (have hcc := hτ.trans hc.symm)); clear hc; clear hσ hτ; omega), (by  have rf_xe3 : rw_h E a0 (x2.toInt) (x1.toInt).toNat = xe3.toInt := rw_h_of (m := a0) (i := x2) (c := x1) hxr1 exr2 exe3; have rf_xe7 : rw_h E a0 (x3.toInt) (x1.toInt).toNat = xe7.toInt := rw_h_of (m := a0) (i := x3) (c := x1) hxr1 exr6 exe7; have rf_xe14 : rw_p E a0 (x2.toInt) (x1.toInt).toNat = xe14.toInt := rw_p_of (m := a0) (i := x2) (c := x1) hxr12 exr13 exe14; have rf_xe16 : rw_p E a0 (x3.toInt) (x1.toInt).toNat = xe16.toInt := rw_p_of (m := a0) (i := x3) (c := x1) hxr12 exr15 exe16; have rf_xe22 : rw_h E a0 (x4.toInt) (x1.toInt).toNat = xe22.toInt := rw_h_of (m := a0) (i := x4) (c := x1) hxr1 exr21 exe22; intro a1 a2 a3 a4; (try rw [rf_xe3] at a1); (try rw [rf_xe3] at a2); (try rw [rf_xe3] at a4); (try rw [rf_xe7] at a1); (try rw [rf_xe7] at a2); (try rw [rf_xe7] at a4); (try rw [rf_xe14] at a1); (try rw [rf_xe14] at a2); (try rw [rf_xe14] at a4); (try rw [rf_xe16] at a1); (try rw [rf_xe16] at a2); (try rw [rf_xe16] at a4); (try rw [rf_xe22] at a1); (try rw [rf_xe22] at a2); (try rw [rf_xe22] at a4); (try omega))⟩, rfl, rfl, rfl⟩ (Nat.le_of_ble_eq_true rfl) (Nat.le_of_ble_eq_true rfl) dX12_sideOf_238
                · have hf31 : xc28.toInt = (-1) := by have z := (fa_eq _ _).mp hc29; have : (((-1) : Int32).toInt) = (-1) := (by decide); omega
                  refine lv_bipush (v := (-2)) hx hb dX12_sideOf_231 (by decide) ?_
                  refine lv_goto (tgt := 238) hx hb dX12_sideOf_233 (by decide) ?_
                  exact tw_iret hx hb hr hlocks TH hS hex ⟨⟨_, rfl, (show (-2) ≤ Int32.toInt (-2) from by have : (((-2) : Int32).toInt) = (-2) := (by decide); omega), (show Int32.toInt (-2) ≤ 15 from by have : (((-2) : Int32).toInt) = (-2) := (by decide); omega), (by have : (((-2) : Int32).toInt) = (-2) := (by decide); have rf_xe3 : rw_h E a0 (x2.toInt) (x1.toInt).toNat = xe3.toInt := rw_h_of (m := a0) (i := x2) (c := x1) hxr1 exr2 exe3; have rf_xe7 : rw_h E a0 (x3.toInt) (x1.toInt).toNat = xe7.toInt := rw_h_of (m := a0) (i := x3) (c := x1) hxr1 exr6 exe7; have rf_xe14 : rw_p E a0 (x2.toInt) (x1.toInt).toNat = xe14.toInt := rw_p_of (m := a0) (i := x2) (c := x1) hxr12 exr13 exe14; have rf_xe16 : rw_p E a0 (x3.toInt) (x1.toInt).toNat = xe16.toInt := rw_p_of (m := a0) (i := x3) (c := x1) hxr12 exr15 exe16; have rf_xe22 : rw_h E a0 (x4.toInt) (x1.toInt).toNat = xe22.toInt := rw_h_of (m := a0) (i := x4) (c := x1) hxr1 exr21 exe22; have e2 : ((2 : Int32).toInt) = 2 := (by decide); have e3 : ((3 : Int32).toInt) = 3 := (by decide); obtain ⟨σ, hσ⟩ := st_flag E a0 (x1.toInt) 2 (x2.toInt) (x3.toInt); obtain ⟨τ, hτ⟩ := st_flag E a0 (x1.toInt) 3 (x2.toInt) (x3.toInt); unfold un_w un_p; rw [← hσ, ← hτ]; have hc := hpoxc28_0; (try rw [e2] at hc); (try rw [e3] at hc); (try (have hcc := hσ.trans hc.symm)); (try (have hcc := hτ.trans hc.symm)); clear hc; clear hσ hτ; omega), (by have : (((-2) : Int32).toInt) = (-2) := (by decide); have rf_xe3 : rw_h E a0 (x2.toInt) (x1.toInt).toNat = xe3.toInt := rw_h_of (m := a0) (i := x2) (c := x1) hxr1 exr2 exe3; have rf_xe7 : rw_h E a0 (x3.toInt) (x1.toInt).toNat = xe7.toInt := rw_h_of (m := a0) (i := x3) (c := x1) hxr1 exr6 exe7; have rf_xe14 : rw_p E a0 (x2.toInt) (x1.toInt).toNat = xe14.toInt := rw_p_of (m := a0) (i := x2) (c := x1) hxr12 exr13 exe14; have rf_xe16 : rw_p E a0 (x3.toInt) (x1.toInt).toNat = xe16.toInt := rw_p_of (m := a0) (i := x3) (c := x1) hxr12 exr15 exe16; have rf_xe22 : rw_h E a0 (x4.toInt) (x1.toInt).toNat = xe22.toInt := rw_h_of (m := a0) (i := x4) (c := x1) hxr1 exr21 exe22; intro a1 a2 a3 a4; (try rw [rf_xe3] at a1); (try rw [rf_xe3] at a2); (try rw [rf_xe3] at a4); (try rw [rf_xe7] at a1); (try rw [rf_xe7] at a2); (try rw [rf_xe7] at a4); (try rw [rf_xe14] at a1); (try rw [rf_xe14] at a2); (try rw [rf_xe14] at a4); (try rw [rf_xe16] at a1); (try rw [rf_xe16] at a2); (try rw [rf_xe16] at a4); (try rw [rf_xe22] at a1); (try rw [rf_xe22] at a2); (try rw [rf_xe22] at a4); (try omega))⟩, rfl, rfl, rfl⟩ (Nat.le_of_ble_eq_true rfl) (Nat.le_of_ble_eq_true rfl) dX12_sideOf_238
              · have hf32 : ¬ (x5.toInt = 0) := fun q => hc25 ((fa_eq _ _).mpr (by have : ((0 : Int32).toInt) = 0 := (by decide); omega))
                exfalso; omega
            · have hf33 : ¬ (xe22.toInt = 0) := fun q => hc23 ((fa_eq _ _).mpr (by have : ((0 : Int32).toInt) = 0 := (by decide); omega))
              refine lv_iload hx hb dX12_sideOf_104 (lv_at hl 6 rfl) ?_
              refine lv_if_eq (tgt := 133) hx hb dX12_sideOf_106 (by decide) (fun hc34 => ?_) (fun hc34 => ?_)
              · have hf35 : x5.toInt = 0 := by have z := (fa_eq _ _).mp hc34; have : ((0 : Int32).toInt) = 0 := (by decide); omega
                refine lv_aload_n hx hb dX12_sideOf_133 rfl (lv_at hl 1 rfl) ?_
                refine tw_get (ci := 12) (C := RX12) (T := TX12) (N := 64) hx hb hB cx_inX12 hown hK TH hm0 hk0 rfl ⟨by decide, rfl⟩ 18 (by decide) cw_1211 (fun _ h9 => h9) dX12_sideOf_134 (fun hv => ?_)
                rw [hxr12]
                refine lv_iload_n hx hb dX12_sideOf_137 rfl (lv_at hl 3 rfl) ?_
                refine tw_aald (k := 318) (t0 := 4) (n := 16) (lo := 328) (hi := 0) (ty := .int) hx hb hK TH hmxr12 hkxr12 (by decide) rfl rfl (i := x2) (vp_in_iff.mpr ⟨by  omega, by  omega⟩) dX12_sideOf_138 (fun xr36 exr36 hmxr36 hkxr36 => ?_)
                have ezxr36 : xr13 = xr36 := exr13.symm.trans exr36
                subst ezxr36
                refine lv_iload_n hx hb dX12_sideOf_139 rfl (lv_at hl 2 rfl) ?_
                refine tw_iald (k := 328) (t0 := 0) (n := 150) (lo := (-1)) (hi := 149) hx hb hK TH hmxr13 hkxr13 (by decide) rfl rfl (i := x1) (vp_in_iff.mpr ⟨by  omega, by  omega⟩) dX12_sideOf_140 (fun hxe37a hxe37b => ?_)
                rw [exe14]
                refine lv_aload_n hx hb dX12_sideOf_141 rfl (lv_at hl 1 rfl) ?_
                refine tw_get (ci := 12) (C := RX12) (T := TX12) (N := 64) hx hb hB cx_inX12 hown hK TH hm0 hk0 rfl ⟨by decide, rfl⟩ 18 (by decide) cw_1211 (fun _ h9 => h9) dX12_sideOf_142 (fun hv => ?_)
                rw [hxr12]
                refine lv_iload hx hb dX12_sideOf_145 (lv_at hl 5 rfl) ?_
                refine tw_aald (k := 318) (t0 := 4) (n := 16) (lo := 328) (hi := 0) (ty := .int) hx hb hK TH hmxr12 hkxr12 (by decide) rfl rfl (i := x4) (vp_in_iff.mpr ⟨by  omega, by  omega⟩) dX12_sideOf_147 (fun xr38 exr38 hmxr38 hkxr38 => ?_)
                have hkxr38 : kp xr38 = 328 := hkxr38
                refine lv_iload_n hx hb dX12_sideOf_148 rfl (lv_at hl 2 rfl) ?_
                refine tw_iald (k := 328) (t0 := 0) (n := 150) (lo := (-1)) (hi := 149) hx hb hK TH hmxr38 hkxr38 (by decide) rfl rfl (i := x1) (vp_in_iff.mpr ⟨by  omega, by  omega⟩) dX12_sideOf_149 (fun hxe39a hxe39b => ?_)
                obtain ⟨xe39, exe39⟩ : ∃ z : Int32, tw_iv E xr38 (Int32.toNatClampNeg x1) = z := ⟨_, rfl⟩
                rw [exe39] at hxe39a hxe39b ⊢
                refine lv_icmp_ne (tgt := 155) hx hb dX12_sideOf_150 (by decide) (fun hc40 => ?_) (fun hc40 => ?_)
                · have hf41 : ¬ (xe14.toInt = xe39.toInt) := fun q => hc40 ((fa_eq _ _).mpr (by  omega))
                  refine lv_iload hx hb dX12_sideOf_155 (lv_at hl 6 rfl) ?_
                  refine lv_if_eq (tgt := 184) hx hb dX12_sideOf_157 (by decide) (fun hc42 => ?_) (fun hc42 => ?_)
                  · have hf43 : x5.toInt = 0 := by have z := (fa_eq _ _).mp hc42; have : ((0 : Int32).toInt) = 0 := (by decide); omega
                    refine lv_aload_n hx hb dX12_sideOf_184 rfl (lv_at hl 1 rfl) ?_
                    refine tw_get (ci := 12) (C := RX12) (T := TX12) (N := 64) hx hb hB cx_inX12 hown hK TH hm0 hk0 rfl ⟨by decide, rfl⟩ 18 (by decide) cw_1211 (fun _ h9 => h9) dX12_sideOf_185 (fun hv => ?_)
                    rw [hxr12]
                    refine lv_iload_n hx hb dX12_sideOf_188 rfl (lv_at hl 4 rfl) ?_
                    refine tw_aald (k := 318) (t0 := 4) (n := 16) (lo := 328) (hi := 0) (ty := .int) hx hb hK TH hmxr12 hkxr12 (by decide) rfl rfl (i := x3) (vp_in_iff.mpr ⟨by  omega, by  omega⟩) dX12_sideOf_189 (fun xr44 exr44 hmxr44 hkxr44 => ?_)
                    have ezxr44 : xr15 = xr44 := exr15.symm.trans exr44
                    subst ezxr44
                    refine lv_iload_n hx hb dX12_sideOf_190 rfl (lv_at hl 2 rfl) ?_
                    refine tw_iald (k := 328) (t0 := 0) (n := 150) (lo := (-1)) (hi := 149) hx hb hK TH hmxr15 hkxr15 (by decide) rfl rfl (i := x1) (vp_in_iff.mpr ⟨by  omega, by  omega⟩) dX12_sideOf_191 (fun hxe45a hxe45b => ?_)
                    rw [exe16]
                    refine lv_aload_n hx hb dX12_sideOf_192 rfl (lv_at hl 1 rfl) ?_
                    refine tw_get (ci := 12) (C := RX12) (T := TX12) (N := 64) hx hb hB cx_inX12 hown hK TH hm0 hk0 rfl ⟨by decide, rfl⟩ 18 (by decide) cw_1211 (fun _ h9 => h9) dX12_sideOf_193 (fun hv => ?_)
                    rw [hxr12]
                    refine lv_iload hx hb dX12_sideOf_196 (lv_at hl 5 rfl) ?_
                    refine tw_aald (k := 318) (t0 := 4) (n := 16) (lo := 328) (hi := 0) (ty := .int) hx hb hK TH hmxr12 hkxr12 (by decide) rfl rfl (i := x4) (vp_in_iff.mpr ⟨by  omega, by  omega⟩) dX12_sideOf_198 (fun xr46 exr46 hmxr46 hkxr46 => ?_)
                    have ezxr46 : xr38 = xr46 := exr38.symm.trans exr46
                    subst ezxr46
                    refine lv_iload_n hx hb dX12_sideOf_199 rfl (lv_at hl 2 rfl) ?_
                    refine tw_iald (k := 328) (t0 := 0) (n := 150) (lo := (-1)) (hi := 149) hx hb hK TH hmxr38 hkxr38 (by decide) rfl rfl (i := x1) (vp_in_iff.mpr ⟨by  omega, by  omega⟩) dX12_sideOf_200 (fun hxe47a hxe47b => ?_)
                    rw [exe39]
                    refine lv_icmp_ne (tgt := 206) hx hb dX12_sideOf_201 (by decide) (fun hc48 => ?_) (fun hc48 => ?_)
                    · have hf49 : ¬ (xe16.toInt = xe39.toInt) := fun q => hc48 ((fa_eq _ _).mpr (by  omega))
                      refine lv_aload_n hx hb dX12_sideOf_206 rfl (lv_at hl 1 rfl) ?_
                      refine lv_iload_n hx hb dX12_sideOf_207 rfl (lv_at hl 2 rfl) ?_
                      refine lv_iload hx hb dX12_sideOf_208 (lv_at hl 6 rfl) ?_
                      refine lv_if_eq (tgt := 217) hx hb dX12_sideOf_210 (by decide) (fun hc50 => ?_) (fun hc50 => ?_)
                      · have hf51 : x5.toInt = 0 := by have z := (fa_eq _ _).mp hc50; have : ((0 : Int32).toInt) = 0 := (by decide); omega
                        refine lv_iconst (v := 3) hx hb dX12_sideOf_217 (by decide) ?_
                        refine lv_iload_n hx hb dX12_sideOf_218 rfl (lv_at hl 3 rfl) ?_
                        refine lv_iload_n hx hb dX12_sideOf_219 rfl (lv_at hl 4 rfl) ?_
                        refine tw_Vc (o := a0) (ci := 12) (n := 4) (post := (fun v kq Lq Eq => (∃ x : Int32, v = some (.int x) ∧ (-1) ≤ x.toInt ∧ x.toInt ≤ 11 ∧ (x.toInt = -1 ↔ st_ns E a0 x1.toInt (3 : Int32).toInt x2.toInt x3.toInt)) ∧ kp = kq ∧ L = Lq ∧ E = Eq)) (As := [.int x1, .int 3, .int x2, .int x3]) (rest := []) ⟨hx, hb, hml, hown, hB⟩ (fun sz => tX12_settledFor l D cs a0 x1 (3 : Int32) x2 x3 hm0 hk0 sz) cg_12_461_X12_settledFor rfl rfl (by decide +kernel) ⟨Nat.le_of_ble_eq_true rfl, Nat.le_of_ble_eq_true rfl⟩ hK hN TH hS hA rfl hm0 hk0 (by decide) rfl hl.1 rfl (Nat.le_of_ble_eq_true rfl) dX12_sideOf_220 ⟨Nat.le_of_ble_eq_true rfl, Nat.le_of_ble_eq_true rfl⟩ (fun v52 kp52 L52 E52 H locs hq52 hx52 TH hS => ?_)
                        obtain ⟨⟨xc53, rfl, hxc53a, hxc53b, hpoxc53_0⟩, rfl, rfl, rfl⟩ := hq52
                        refine W.eq (g2 := F0 m 223 ls [.int xc53]) rfl ?_
                        refine lv_istore (lv' := [(7, .int xc53), (6, .int 0), (0, .ref a0), (1, .int x1), (2, .int x2), (3, .int x3), (4, .int x4), (5, .int x5)]) hx hb dX12_sideOf_223 hl (by decide) rfl (fun ls hl => ?_)
                        refine lv_iload hx hb dX12_sideOf_225 (lv_at hl 0 rfl) ?_
                        refine lv_iconst (v := (-1)) hx hb dX12_sideOf_227 (by decide) ?_
                        refine lv_icmp_ne (tgt := 236) hx hb dX12_sideOf_228 (by decide) (fun hc54 => ?_) (fun hc54 => ?_)
                        · have hf55 : ¬ (xc53.toInt = (-1)) := fun q => hc54 ((fa_eq _ _).mpr (by have : (((-1) : Int32).toInt) = (-1) := (by decide); omega))
                          refine lv_iload hx hb dX12_sideOf_236 (lv_at hl 0 rfl) ?_
                          exact tw_iret hx hb hr hlocks TH hS hex ⟨⟨_, rfl, (show (-2) ≤ Int32.toInt xc53 from by  omega), (show Int32.toInt xc53 ≤ 15 from by  omega), (by  have rf_xe3 : rw_h E a0 (x2.toInt) (x1.toInt).toNat = xe3.toInt := rw_h_of (m := a0) (i := x2) (c := x1) hxr1 exr2 exe3; have rf_xe7 : rw_h E a0 (x3.toInt) (x1.toInt).toNat = xe7.toInt := rw_h_of (m := a0) (i := x3) (c := x1) hxr1 exr6 exe7; have rf_xe14 : rw_p E a0 (x2.toInt) (x1.toInt).toNat = xe14.toInt := rw_p_of (m := a0) (i := x2) (c := x1) hxr12 exr13 exe14; have rf_xe16 : rw_p E a0 (x3.toInt) (x1.toInt).toNat = xe16.toInt := rw_p_of (m := a0) (i := x3) (c := x1) hxr12 exr15 exe16; have rf_xe22 : rw_h E a0 (x4.toInt) (x1.toInt).toNat = xe22.toInt := rw_h_of (m := a0) (i := x4) (c := x1) hxr1 exr21 exe22; have rf_xe39 : rw_p E a0 (x4.toInt) (x1.toInt).toNat = xe39.toInt := rw_p_of (m := a0) (i := x4) (c := x1) hxr12 exr38 exe39; have e2 : ((2 : Int32).toInt) = 2 := (by decide); have e3 : ((3 : Int32).toInt) = 3 := (by decide); obtain ⟨σ, hσ⟩ := st_flag E a0 (x1.toInt) 2 (x2.toInt) (x3.toInt); obtain ⟨τ, hτ⟩ := st_flag E a0 (x1.toInt) 3 (x2.toInt) (x3.toInt); unfold un_w un_p; rw [← hσ, ← hτ]; have hc := hpoxc53_0; (try rw [e2] at hc); (try rw [e3] at hc); (try (have hcc := hσ.trans hc.symm)); (try (have hcc := hτ.trans hc.symm)); clear hc; clear hσ hτ; omega), (by  have rf_xe3 : rw_h E a0 (x2.toInt) (x1.toInt).toNat = xe3.toInt := rw_h_of (m := a0) (i := x2) (c := x1) hxr1 exr2 exe3; have rf_xe7 : rw_h E a0 (x3.toInt) (x1.toInt).toNat = xe7.toInt := rw_h_of (m := a0) (i := x3) (c := x1) hxr1 exr6 exe7; have rf_xe14 : rw_p E a0 (x2.toInt) (x1.toInt).toNat = xe14.toInt := rw_p_of (m := a0) (i := x2) (c := x1) hxr12 exr13 exe14; have rf_xe16 : rw_p E a0 (x3.toInt) (x1.toInt).toNat = xe16.toInt := rw_p_of (m := a0) (i := x3) (c := x1) hxr12 exr15 exe16; have rf_xe22 : rw_h E a0 (x4.toInt) (x1.toInt).toNat = xe22.toInt := rw_h_of (m := a0) (i := x4) (c := x1) hxr1 exr21 exe22; have rf_xe39 : rw_p E a0 (x4.toInt) (x1.toInt).toNat = xe39.toInt := rw_p_of (m := a0) (i := x4) (c := x1) hxr12 exr38 exe39; intro a1 a2 a3 a4; (try rw [rf_xe3] at a1); (try rw [rf_xe3] at a2); (try rw [rf_xe3] at a4); (try rw [rf_xe7] at a1); (try rw [rf_xe7] at a2); (try rw [rf_xe7] at a4); (try rw [rf_xe14] at a1); (try rw [rf_xe14] at a2); (try rw [rf_xe14] at a4); (try rw [rf_xe16] at a1); (try rw [rf_xe16] at a2); (try rw [rf_xe16] at a4); (try rw [rf_xe22] at a1); (try rw [rf_xe22] at a2); (try rw [rf_xe22] at a4); (try rw [rf_xe39] at a1); (try rw [rf_xe39] at a2); (try rw [rf_xe39] at a4); (try omega))⟩, rfl, rfl, rfl⟩ (Nat.le_of_ble_eq_true rfl) (Nat.le_of_ble_eq_true rfl) dX12_sideOf_238
                        · have hf56 : xc53.toInt = (-1) := by have z := (fa_eq _ _).mp hc54; have : (((-1) : Int32).toInt) = (-1) := (by decide); omega
                          refine lv_bipush (v := (-2)) hx hb dX12_sideOf_231 (by decide) ?_
                          refine lv_goto (tgt := 238) hx hb dX12_sideOf_233 (by decide) ?_
                          exact tw_iret hx hb hr hlocks TH hS hex ⟨⟨_, rfl, (show (-2) ≤ Int32.toInt (-2) from by have : (((-2) : Int32).toInt) = (-2) := (by decide); omega), (show Int32.toInt (-2) ≤ 15 from by have : (((-2) : Int32).toInt) = (-2) := (by decide); omega), (by have : (((-2) : Int32).toInt) = (-2) := (by decide); have rf_xe3 : rw_h E a0 (x2.toInt) (x1.toInt).toNat = xe3.toInt := rw_h_of (m := a0) (i := x2) (c := x1) hxr1 exr2 exe3; have rf_xe7 : rw_h E a0 (x3.toInt) (x1.toInt).toNat = xe7.toInt := rw_h_of (m := a0) (i := x3) (c := x1) hxr1 exr6 exe7; have rf_xe14 : rw_p E a0 (x2.toInt) (x1.toInt).toNat = xe14.toInt := rw_p_of (m := a0) (i := x2) (c := x1) hxr12 exr13 exe14; have rf_xe16 : rw_p E a0 (x3.toInt) (x1.toInt).toNat = xe16.toInt := rw_p_of (m := a0) (i := x3) (c := x1) hxr12 exr15 exe16; have rf_xe22 : rw_h E a0 (x4.toInt) (x1.toInt).toNat = xe22.toInt := rw_h_of (m := a0) (i := x4) (c := x1) hxr1 exr21 exe22; have rf_xe39 : rw_p E a0 (x4.toInt) (x1.toInt).toNat = xe39.toInt := rw_p_of (m := a0) (i := x4) (c := x1) hxr12 exr38 exe39; have e2 : ((2 : Int32).toInt) = 2 := (by decide); have e3 : ((3 : Int32).toInt) = 3 := (by decide); obtain ⟨σ, hσ⟩ := st_flag E a0 (x1.toInt) 2 (x2.toInt) (x3.toInt); obtain ⟨τ, hτ⟩ := st_flag E a0 (x1.toInt) 3 (x2.toInt) (x3.toInt); unfold un_w un_p; rw [← hσ, ← hτ]; have hc := hpoxc53_0; (try rw [e2] at hc); (try rw [e3] at hc); (try (have hcc := hσ.trans hc.symm)); (try (have hcc := hτ.trans hc.symm)); clear hc; clear hσ hτ; omega), (by have : (((-2) : Int32).toInt) = (-2) := (by decide); have rf_xe3 : rw_h E a0 (x2.toInt) (x1.toInt).toNat = xe3.toInt := rw_h_of (m := a0) (i := x2) (c := x1) hxr1 exr2 exe3; have rf_xe7 : rw_h E a0 (x3.toInt) (x1.toInt).toNat = xe7.toInt := rw_h_of (m := a0) (i := x3) (c := x1) hxr1 exr6 exe7; have rf_xe14 : rw_p E a0 (x2.toInt) (x1.toInt).toNat = xe14.toInt := rw_p_of (m := a0) (i := x2) (c := x1) hxr12 exr13 exe14; have rf_xe16 : rw_p E a0 (x3.toInt) (x1.toInt).toNat = xe16.toInt := rw_p_of (m := a0) (i := x3) (c := x1) hxr12 exr15 exe16; have rf_xe22 : rw_h E a0 (x4.toInt) (x1.toInt).toNat = xe22.toInt := rw_h_of (m := a0) (i := x4) (c := x1) hxr1 exr21 exe22; have rf_xe39 : rw_p E a0 (x4.toInt) (x1.toInt).toNat = xe39.toInt := rw_p_of (m := a0) (i := x4) (c := x1) hxr12 exr38 exe39; intro a1 a2 a3 a4; (try rw [rf_xe3] at a1); (try rw [rf_xe3] at a2); (try rw [rf_xe3] at a4); (try rw [rf_xe7] at a1); (try rw [rf_xe7] at a2); (try rw [rf_xe7] at a4); (try rw [rf_xe14] at a1); (try rw [rf_xe14] at a2); (try rw [rf_xe14] at a4); (try rw [rf_xe16] at a1); (try rw [rf_xe16] at a2); (try rw [rf_xe16] at a4); (try rw [rf_xe22] at a1); (try rw [rf_xe22] at a2); (try rw [rf_xe22] at a4); (try rw [rf_xe39] at a1); (try rw [rf_xe39] at a2); (try rw [rf_xe39] at a4); (try omega))⟩, rfl, rfl, rfl⟩ (Nat.le_of_ble_eq_true rfl) (Nat.le_of_ble_eq_true rfl) dX12_sideOf_238
                      · have hf57 : ¬ (x5.toInt = 0) := fun q => hc50 ((fa_eq _ _).mpr (by have : ((0 : Int32).toInt) = 0 := (by decide); omega))
                        exfalso; omega
                    · have hf58 : xe16.toInt = xe39.toInt := by have z := (fa_eq _ _).mp hc48;  omega
                      refine lv_iload_n hx hb dX12_sideOf_204 rfl (lv_at hl 3 rfl) ?_
                      exact tw_iret hx hb hr hlocks TH hS hex ⟨⟨_, rfl, (show (-2) ≤ Int32.toInt x2 from by  omega), (show Int32.toInt x2 ≤ 15 from by  omega), (by  have rf_xe3 : rw_h E a0 (x2.toInt) (x1.toInt).toNat = xe3.toInt := rw_h_of (m := a0) (i := x2) (c := x1) hxr1 exr2 exe3; have rf_xe7 : rw_h E a0 (x3.toInt) (x1.toInt).toNat = xe7.toInt := rw_h_of (m := a0) (i := x3) (c := x1) hxr1 exr6 exe7; have rf_xe14 : rw_p E a0 (x2.toInt) (x1.toInt).toNat = xe14.toInt := rw_p_of (m := a0) (i := x2) (c := x1) hxr12 exr13 exe14; have rf_xe16 : rw_p E a0 (x3.toInt) (x1.toInt).toNat = xe16.toInt := rw_p_of (m := a0) (i := x3) (c := x1) hxr12 exr15 exe16; have rf_xe22 : rw_h E a0 (x4.toInt) (x1.toInt).toNat = xe22.toInt := rw_h_of (m := a0) (i := x4) (c := x1) hxr1 exr21 exe22; have rf_xe39 : rw_p E a0 (x4.toInt) (x1.toInt).toNat = xe39.toInt := rw_p_of (m := a0) (i := x4) (c := x1) hxr12 exr38 exe39; have e2 : ((2 : Int32).toInt) = 2 := (by decide); have e3 : ((3 : Int32).toInt) = 3 := (by decide); obtain ⟨σ, hσ⟩ := st_flag E a0 (x1.toInt) 2 (x2.toInt) (x3.toInt); obtain ⟨τ, hτ⟩ := st_flag E a0 (x1.toInt) 3 (x2.toInt) (x3.toInt); unfold un_w un_p; rw [← hσ, ← hτ]; clear hσ hτ; omega), (by  have rf_xe3 : rw_h E a0 (x2.toInt) (x1.toInt).toNat = xe3.toInt := rw_h_of (m := a0) (i := x2) (c := x1) hxr1 exr2 exe3; have rf_xe7 : rw_h E a0 (x3.toInt) (x1.toInt).toNat = xe7.toInt := rw_h_of (m := a0) (i := x3) (c := x1) hxr1 exr6 exe7; have rf_xe14 : rw_p E a0 (x2.toInt) (x1.toInt).toNat = xe14.toInt := rw_p_of (m := a0) (i := x2) (c := x1) hxr12 exr13 exe14; have rf_xe16 : rw_p E a0 (x3.toInt) (x1.toInt).toNat = xe16.toInt := rw_p_of (m := a0) (i := x3) (c := x1) hxr12 exr15 exe16; have rf_xe22 : rw_h E a0 (x4.toInt) (x1.toInt).toNat = xe22.toInt := rw_h_of (m := a0) (i := x4) (c := x1) hxr1 exr21 exe22; have rf_xe39 : rw_p E a0 (x4.toInt) (x1.toInt).toNat = xe39.toInt := rw_p_of (m := a0) (i := x4) (c := x1) hxr12 exr38 exe39; intro a1 a2 a3 a4; (try rw [rf_xe3] at a1); (try rw [rf_xe3] at a2); (try rw [rf_xe3] at a4); (try rw [rf_xe7] at a1); (try rw [rf_xe7] at a2); (try rw [rf_xe7] at a4); (try rw [rf_xe14] at a1); (try rw [rf_xe14] at a2); (try rw [rf_xe14] at a4); (try rw [rf_xe16] at a1); (try rw [rf_xe16] at a2); (try rw [rf_xe16] at a4); (try rw [rf_xe22] at a1); (try rw [rf_xe22] at a2); (try rw [rf_xe22] at a4); (try rw [rf_xe39] at a1); (try rw [rf_xe39] at a2); (try rw [rf_xe39] at a4); (try omega))⟩, rfl, rfl, rfl⟩ (Nat.le_of_ble_eq_true rfl) (Nat.le_of_ble_eq_true rfl) dX12_sideOf_205
                  · have hf59 : ¬ (x5.toInt = 0) := fun q => hc42 ((fa_eq _ _).mpr (by have : ((0 : Int32).toInt) = 0 := (by decide); omega))
                    exfalso; omega
                · have hf60 : xe14.toInt = xe39.toInt := by have z := (fa_eq _ _).mp hc40;  omega
                  refine lv_iload_n hx hb dX12_sideOf_153 rfl (lv_at hl 4 rfl) ?_
                  exact tw_iret hx hb hr hlocks TH hS hex ⟨⟨_, rfl, (show (-2) ≤ Int32.toInt x3 from by  omega), (show Int32.toInt x3 ≤ 15 from by  omega), (by  have rf_xe3 : rw_h E a0 (x2.toInt) (x1.toInt).toNat = xe3.toInt := rw_h_of (m := a0) (i := x2) (c := x1) hxr1 exr2 exe3; have rf_xe7 : rw_h E a0 (x3.toInt) (x1.toInt).toNat = xe7.toInt := rw_h_of (m := a0) (i := x3) (c := x1) hxr1 exr6 exe7; have rf_xe14 : rw_p E a0 (x2.toInt) (x1.toInt).toNat = xe14.toInt := rw_p_of (m := a0) (i := x2) (c := x1) hxr12 exr13 exe14; have rf_xe16 : rw_p E a0 (x3.toInt) (x1.toInt).toNat = xe16.toInt := rw_p_of (m := a0) (i := x3) (c := x1) hxr12 exr15 exe16; have rf_xe22 : rw_h E a0 (x4.toInt) (x1.toInt).toNat = xe22.toInt := rw_h_of (m := a0) (i := x4) (c := x1) hxr1 exr21 exe22; have rf_xe39 : rw_p E a0 (x4.toInt) (x1.toInt).toNat = xe39.toInt := rw_p_of (m := a0) (i := x4) (c := x1) hxr12 exr38 exe39; have e2 : ((2 : Int32).toInt) = 2 := (by decide); have e3 : ((3 : Int32).toInt) = 3 := (by decide); obtain ⟨σ, hσ⟩ := st_flag E a0 (x1.toInt) 2 (x2.toInt) (x3.toInt); obtain ⟨τ, hτ⟩ := st_flag E a0 (x1.toInt) 3 (x2.toInt) (x3.toInt); unfold un_w un_p; rw [← hσ, ← hτ]; clear hσ hτ; omega), (by  have rf_xe3 : rw_h E a0 (x2.toInt) (x1.toInt).toNat = xe3.toInt := rw_h_of (m := a0) (i := x2) (c := x1) hxr1 exr2 exe3; have rf_xe7 : rw_h E a0 (x3.toInt) (x1.toInt).toNat = xe7.toInt := rw_h_of (m := a0) (i := x3) (c := x1) hxr1 exr6 exe7; have rf_xe14 : rw_p E a0 (x2.toInt) (x1.toInt).toNat = xe14.toInt := rw_p_of (m := a0) (i := x2) (c := x1) hxr12 exr13 exe14; have rf_xe16 : rw_p E a0 (x3.toInt) (x1.toInt).toNat = xe16.toInt := rw_p_of (m := a0) (i := x3) (c := x1) hxr12 exr15 exe16; have rf_xe22 : rw_h E a0 (x4.toInt) (x1.toInt).toNat = xe22.toInt := rw_h_of (m := a0) (i := x4) (c := x1) hxr1 exr21 exe22; have rf_xe39 : rw_p E a0 (x4.toInt) (x1.toInt).toNat = xe39.toInt := rw_p_of (m := a0) (i := x4) (c := x1) hxr12 exr38 exe39; intro a1 a2 a3 a4; (try rw [rf_xe3] at a1); (try rw [rf_xe3] at a2); (try rw [rf_xe3] at a4); (try rw [rf_xe7] at a1); (try rw [rf_xe7] at a2); (try rw [rf_xe7] at a4); (try rw [rf_xe14] at a1); (try rw [rf_xe14] at a2); (try rw [rf_xe14] at a4); (try rw [rf_xe16] at a1); (try rw [rf_xe16] at a2); (try rw [rf_xe16] at a4); (try rw [rf_xe22] at a1); (try rw [rf_xe22] at a2); (try rw [rf_xe22] at a4); (try rw [rf_xe39] at a1); (try rw [rf_xe39] at a2); (try rw [rf_xe39] at a4); (try omega))⟩, rfl, rfl, rfl⟩ (Nat.le_of_ble_eq_true rfl) (Nat.le_of_ble_eq_true rfl) dX12_sideOf_154
              · have hf61 : ¬ (x5.toInt = 0) := fun q => hc34 ((fa_eq _ _).mpr (by have : ((0 : Int32).toInt) = 0 := (by decide); omega))
                exfalso; omega
          · have hf62 : ¬ (0 = 0) := fun q => hc19 ((fa_eq _ _).mpr (by have : ((0 : Int32).toInt) = 0 := (by decide); omega))
            exfalso; omega
        · have hf63 : xe14.toInt = xe16.toInt := by have z := (fa_eq _ _).mp hc17;  omega
          refine lv_iconst (v := 1) hx hb dX12_sideOf_78 (by decide) ?_
          refine lv_goto (tgt := 83) hx hb dX12_sideOf_79 (by decide) ?_
          refine lv_istore (lv' := [(6, .int 1), (0, .ref a0), (1, .int x1), (2, .int x2), (3, .int x3), (4, .int x4), (5, .int x5)]) hx hb dX12_sideOf_83 hl (by decide) rfl (fun ls hl => ?_)
          refine lv_iload hx hb dX12_sideOf_85 (lv_at hl 0 rfl) ?_
          refine lv_if_eq (tgt := 92) hx hb dX12_sideOf_87 (by decide) (fun hc64 => ?_) (fun hc64 => ?_)
          · have hf65 : 1 = 0 := by have z := (fa_eq _ _).mp hc64; have : ((0 : Int32).toInt) = 0 := (by decide); have : ((1 : Int32).toInt) = 1 := (by decide); omega
            exfalso; omega
          · have hf66 : ¬ (1 = 0) := fun q => hc64 ((fa_eq _ _).mpr (by have : ((0 : Int32).toInt) = 0 := (by decide); have : ((1 : Int32).toInt) = 1 := (by decide); omega))
            refine lv_iload_n hx hb dX12_sideOf_90 rfl (lv_at hl 3 rfl) ?_
            exact tw_iret hx hb hr hlocks TH hS hex ⟨⟨_, rfl, (show (-2) ≤ Int32.toInt x2 from by  omega), (show Int32.toInt x2 ≤ 15 from by  omega), (by  have rf_xe3 : rw_h E a0 (x2.toInt) (x1.toInt).toNat = xe3.toInt := rw_h_of (m := a0) (i := x2) (c := x1) hxr1 exr2 exe3; have rf_xe7 : rw_h E a0 (x3.toInt) (x1.toInt).toNat = xe7.toInt := rw_h_of (m := a0) (i := x3) (c := x1) hxr1 exr6 exe7; have rf_xe14 : rw_p E a0 (x2.toInt) (x1.toInt).toNat = xe14.toInt := rw_p_of (m := a0) (i := x2) (c := x1) hxr12 exr13 exe14; have rf_xe16 : rw_p E a0 (x3.toInt) (x1.toInt).toNat = xe16.toInt := rw_p_of (m := a0) (i := x3) (c := x1) hxr12 exr15 exe16; have e2 : ((2 : Int32).toInt) = 2 := (by decide); have e3 : ((3 : Int32).toInt) = 3 := (by decide); obtain ⟨σ, hσ⟩ := st_flag E a0 (x1.toInt) 2 (x2.toInt) (x3.toInt); obtain ⟨τ, hτ⟩ := st_flag E a0 (x1.toInt) 3 (x2.toInt) (x3.toInt); unfold un_w un_p; rw [← hσ, ← hτ]; clear hσ hτ; omega), (by  have rf_xe3 : rw_h E a0 (x2.toInt) (x1.toInt).toNat = xe3.toInt := rw_h_of (m := a0) (i := x2) (c := x1) hxr1 exr2 exe3; have rf_xe7 : rw_h E a0 (x3.toInt) (x1.toInt).toNat = xe7.toInt := rw_h_of (m := a0) (i := x3) (c := x1) hxr1 exr6 exe7; have rf_xe14 : rw_p E a0 (x2.toInt) (x1.toInt).toNat = xe14.toInt := rw_p_of (m := a0) (i := x2) (c := x1) hxr12 exr13 exe14; have rf_xe16 : rw_p E a0 (x3.toInt) (x1.toInt).toNat = xe16.toInt := rw_p_of (m := a0) (i := x3) (c := x1) hxr12 exr15 exe16; intro a1 a2 a3 a4; (try rw [rf_xe3] at a1); (try rw [rf_xe3] at a2); (try rw [rf_xe3] at a4); (try rw [rf_xe7] at a1); (try rw [rf_xe7] at a2); (try rw [rf_xe7] at a4); (try rw [rf_xe14] at a1); (try rw [rf_xe14] at a2); (try rw [rf_xe14] at a4); (try rw [rf_xe16] at a1); (try rw [rf_xe16] at a2); (try rw [rf_xe16] at a4); (try omega))⟩, rfl, rfl, rfl⟩ (Nat.le_of_ble_eq_true rfl) (Nat.le_of_ble_eq_true rfl) dX12_sideOf_91
      · have hf67 : ¬ (x5.toInt = 0) := fun q => hc10 ((fa_eq _ _).mpr (by have : ((0 : Int32).toInt) = 0 := (by decide); omega))
        refine lv_aload_n hx hb dX12_sideOf_31 rfl (lv_at hl 0 rfl) ?_
        refine tw_get (ci := 12) (C := RX12) (T := TX12) (N := 64) hx hb hB cx_inX12 hown hK TH hm0 hk0 rfl ⟨by decide, rfl⟩ 17 (by decide) cw_1210 (fun _ h9 => h9) dX12_sideOf_32 (fun hv => ?_)
        obtain ⟨xr68, hxr68, hmxr68, hkxr68⟩ : ∃ a : Nat, tw_fv E a0 17 = .ref a ∧ a ∈ L ∧ kp a = 317 := hv
        rw [hxr68]
        refine lv_iload_n hx hb dX12_sideOf_35 rfl (lv_at hl 2 rfl) ?_
        refine tw_aald (k := 317) (t0 := 6) (n := 16) (lo := 327) (hi := 0) (ty := .long) hx hb hK TH hmxr68 hkxr68 (by decide) rfl rfl (i := x2) (vp_in_iff.mpr ⟨by  omega, by  omega⟩) dX12_sideOf_36 (fun xr69 exr69 hmxr69 hkxr69 => ?_)
        have hkxr69 : kp xr69 = 327 := hkxr69
        refine lv_iload_n hx hb dX12_sideOf_37 rfl (lv_at hl 1 rfl) ?_
        refine tw_lald2 (k := 327) (n := 150) (lo := 0) (hi := 0) hx hb hK TH hmxr69 hkxr69 (by decide) rfl (i := x1) (vp_in_iff.mpr ⟨by  omega, by  omega⟩) dX12_sideOf_38 (fun xl70 exl70 => ?_)
        refine lv_aload_n hx hb dX12_sideOf_39 rfl (lv_at hl 0 rfl) ?_
        refine tw_get (ci := 12) (C := RX12) (T := TX12) (N := 64) hx hb hB cx_inX12 hown hK TH hm0 hk0 rfl ⟨by decide, rfl⟩ 17 (by decide) cw_1210 (fun _ h9 => h9) dX12_sideOf_40 (fun hv => ?_)
        rw [hxr68]
        refine lv_iload_n hx hb dX12_sideOf_43 rfl (lv_at hl 3 rfl) ?_
        refine tw_aald (k := 317) (t0 := 6) (n := 16) (lo := 327) (hi := 0) (ty := .long) hx hb hK TH hmxr68 hkxr68 (by decide) rfl rfl (i := x3) (vp_in_iff.mpr ⟨by  omega, by  omega⟩) dX12_sideOf_44 (fun xr71 exr71 hmxr71 hkxr71 => ?_)
        have hkxr71 : kp xr71 = 327 := hkxr71
        refine lv_iload_n hx hb dX12_sideOf_45 rfl (lv_at hl 1 rfl) ?_
        refine tw_lald2 (k := 327) (n := 150) (lo := 0) (hi := 0) hx hb hK TH hmxr71 hkxr71 (by decide) rfl (i := x1) (vp_in_iff.mpr ⟨by  omega, by  omega⟩) dX12_sideOf_46 (fun xl72 exl72 => ?_)
        refine W.lcmp hx hb dX12_sideOf_47 ?_
        have hzi73 := ia_lc xl70 xl72
        generalize lg_cmp xl70 xl72 = zi73 at hzi73 ⊢
        refine lv_if_ne (tgt := 55) hx hb dX12_sideOf_48 (by decide) (fun hc74 => ?_) (fun hc74 => ?_)
        · have hf75 : ¬ (zi73.toInt = 0) := fun q => hc74 ((fa_eq _ _).mpr (by have : ((0 : Int32).toInt) = 0 := (by decide); omega))
          refine lv_iconst (v := 0) hx hb dX12_sideOf_55 (by decide) ?_
          refine lv_goto (tgt := 83) hx hb dX12_sideOf_56 (by decide) ?_
          refine lv_istore (lv' := [(6, .int 0), (0, .ref a0), (1, .int x1), (2, .int x2), (3, .int x3), (4, .int x4), (5, .int x5)]) hx hb dX12_sideOf_83 hl (by decide) rfl (fun ls hl => ?_)
          refine lv_iload hx hb dX12_sideOf_85 (lv_at hl 0 rfl) ?_
          refine lv_if_eq (tgt := 92) hx hb dX12_sideOf_87 (by decide) (fun hc76 => ?_) (fun hc76 => ?_)
          · have hf77 : 0 = 0 := by have z := (fa_eq _ _).mp hc76; have : ((0 : Int32).toInt) = 0 := (by decide); omega
            refine lv_aload_n hx hb dX12_sideOf_92 rfl (lv_at hl 1 rfl) ?_
            refine tw_get (ci := 12) (C := RX12) (T := TX12) (N := 64) hx hb hB cx_inX12 hown hK TH hm0 hk0 rfl ⟨by decide, rfl⟩ 16 (by decide) cw_1209 (fun _ h9 => h9) dX12_sideOf_93 (fun hv => ?_)
            rw [hxr1]
            refine lv_iload hx hb dX12_sideOf_96 (lv_at hl 5 rfl) ?_
            refine tw_aald (k := 316) (t0 := 5) (n := 16) (lo := 326) (hi := 0) (ty := .boolean) hx hb hK TH hmxr1 hkxr1 (by decide) rfl rfl (i := x4) (vp_in_iff.mpr ⟨by  omega, by  omega⟩) dX12_sideOf_98 (fun xr78 exr78 hmxr78 hkxr78 => ?_)
            have hkxr78 : kp xr78 = 326 := hkxr78
            refine lv_iload_n hx hb dX12_sideOf_99 rfl (lv_at hl 2 rfl) ?_
            refine tw_zald (k := 326) (t0 := 3) (n := 150) (lo := 0) (hi := 1) hx hb hK TH hmxr78 hkxr78 (by decide) rfl rfl (i := x1) (vp_in_iff.mpr ⟨by  omega, by  omega⟩) dX12_sideOf_100 (fun hxe79a hxe79b => ?_)
            obtain ⟨xe79, exe79⟩ : ∃ z : Int32, tw_iv E xr78 (Int32.toNatClampNeg x1) = z := ⟨_, rfl⟩
            rw [exe79] at hxe79a hxe79b ⊢
            refine lv_if_eq (tgt := 206) hx hb dX12_sideOf_101 (by decide) (fun hc80 => ?_) (fun hc80 => ?_)
            · have hf81 : xe79.toInt = 0 := by have z := (fa_eq _ _).mp hc80; have : ((0 : Int32).toInt) = 0 := (by decide); omega
              refine lv_aload_n hx hb dX12_sideOf_206 rfl (lv_at hl 1 rfl) ?_
              refine lv_iload_n hx hb dX12_sideOf_207 rfl (lv_at hl 2 rfl) ?_
              refine lv_iload hx hb dX12_sideOf_208 (lv_at hl 6 rfl) ?_
              refine lv_if_eq (tgt := 217) hx hb dX12_sideOf_210 (by decide) (fun hc82 => ?_) (fun hc82 => ?_)
              · have hf83 : x5.toInt = 0 := by have z := (fa_eq _ _).mp hc82; have : ((0 : Int32).toInt) = 0 := (by decide); omega
                exfalso; omega
              · have hf84 : ¬ (x5.toInt = 0) := fun q => hc82 ((fa_eq _ _).mpr (by have : ((0 : Int32).toInt) = 0 := (by decide); omega))
                refine lv_iconst (v := 2) hx hb dX12_sideOf_213 (by decide) ?_
                refine lv_goto (tgt := 218) hx hb dX12_sideOf_214 (by decide) ?_
                refine lv_iload_n hx hb dX12_sideOf_218 rfl (lv_at hl 3 rfl) ?_
                refine lv_iload_n hx hb dX12_sideOf_219 rfl (lv_at hl 4 rfl) ?_
                refine tw_Vc (o := a0) (ci := 12) (n := 4) (post := (fun v kq Lq Eq => (∃ x : Int32, v = some (.int x) ∧ (-1) ≤ x.toInt ∧ x.toInt ≤ 11 ∧ (x.toInt = -1 ↔ st_ns E a0 x1.toInt (2 : Int32).toInt x2.toInt x3.toInt)) ∧ kp = kq ∧ L = Lq ∧ E = Eq)) (As := [.int x1, .int 2, .int x2, .int x3]) (rest := []) ⟨hx, hb, hml, hown, hB⟩ (fun sz => tX12_settledFor l D cs a0 x1 (2 : Int32) x2 x3 hm0 hk0 sz) cg_12_461_X12_settledFor rfl rfl (by decide +kernel) ⟨Nat.le_of_ble_eq_true rfl, Nat.le_of_ble_eq_true rfl⟩ hK hN TH hS hA rfl hm0 hk0 (by decide) rfl hl.1 rfl (Nat.le_of_ble_eq_true rfl) dX12_sideOf_220 ⟨Nat.le_of_ble_eq_true rfl, Nat.le_of_ble_eq_true rfl⟩ (fun v85 kp85 L85 E85 H locs hq85 hx85 TH hS => ?_)
                obtain ⟨⟨xc86, rfl, hxc86a, hxc86b, hpoxc86_0⟩, rfl, rfl, rfl⟩ := hq85
                refine W.eq (g2 := F0 m 223 ls [.int xc86]) rfl ?_
                refine lv_istore (lv' := [(7, .int xc86), (6, .int 0), (0, .ref a0), (1, .int x1), (2, .int x2), (3, .int x3), (4, .int x4), (5, .int x5)]) hx hb dX12_sideOf_223 hl (by decide) rfl (fun ls hl => ?_)
                refine lv_iload hx hb dX12_sideOf_225 (lv_at hl 0 rfl) ?_
                refine lv_iconst (v := (-1)) hx hb dX12_sideOf_227 (by decide) ?_
                refine lv_icmp_ne (tgt := 236) hx hb dX12_sideOf_228 (by decide) (fun hc87 => ?_) (fun hc87 => ?_)
                · have hf88 : ¬ (xc86.toInt = (-1)) := fun q => hc87 ((fa_eq _ _).mpr (by have : (((-1) : Int32).toInt) = (-1) := (by decide); omega))
                  refine lv_iload hx hb dX12_sideOf_236 (lv_at hl 0 rfl) ?_
                  exact tw_iret hx hb hr hlocks TH hS hex ⟨⟨_, rfl, (show (-2) ≤ Int32.toInt xc86 from by  omega), (show Int32.toInt xc86 ≤ 15 from by  omega), (by  have rf_xe3 : rw_h E a0 (x2.toInt) (x1.toInt).toNat = xe3.toInt := rw_h_of (m := a0) (i := x2) (c := x1) hxr1 exr2 exe3; have rf_xe7 : rw_h E a0 (x3.toInt) (x1.toInt).toNat = xe7.toInt := rw_h_of (m := a0) (i := x3) (c := x1) hxr1 exr6 exe7; have rf_xe79 : rw_h E a0 (x4.toInt) (x1.toInt).toNat = xe79.toInt := rw_h_of (m := a0) (i := x4) (c := x1) hxr1 exr78 exe79; have rf_xl70 : rw_w E a0 (x2.toInt) (x1.toInt).toNat = xl70.toInt := rw_w_of (m := a0) (i := x2) (c := x1) hxr68 exr69 exl70; have rf_xl72 : rw_w E a0 (x3.toInt) (x1.toInt).toNat = xl72.toInt := rw_w_of (m := a0) (i := x3) (c := x1) hxr68 exr71 exl72; have e2 : ((2 : Int32).toInt) = 2 := (by decide); have e3 : ((3 : Int32).toInt) = 3 := (by decide); obtain ⟨σ, hσ⟩ := st_flag E a0 (x1.toInt) 2 (x2.toInt) (x3.toInt); obtain ⟨τ, hτ⟩ := st_flag E a0 (x1.toInt) 3 (x2.toInt) (x3.toInt); unfold un_w un_p; rw [← hσ, ← hτ]; have hc := hpoxc86_0; (try rw [e2] at hc); (try rw [e3] at hc); (try (have hcc := hσ.trans hc.symm)); (try (have hcc := hτ.trans hc.symm)); clear hc; clear hσ hτ; omega), (by  have rf_xe3 : rw_h E a0 (x2.toInt) (x1.toInt).toNat = xe3.toInt := rw_h_of (m := a0) (i := x2) (c := x1) hxr1 exr2 exe3; have rf_xe7 : rw_h E a0 (x3.toInt) (x1.toInt).toNat = xe7.toInt := rw_h_of (m := a0) (i := x3) (c := x1) hxr1 exr6 exe7; have rf_xe79 : rw_h E a0 (x4.toInt) (x1.toInt).toNat = xe79.toInt := rw_h_of (m := a0) (i := x4) (c := x1) hxr1 exr78 exe79; intro a1 a2 a3 a4; (try rw [rf_xe3] at a1); (try rw [rf_xe3] at a2); (try rw [rf_xe3] at a4); (try rw [rf_xe7] at a1); (try rw [rf_xe7] at a2); (try rw [rf_xe7] at a4); (try rw [rf_xe79] at a1); (try rw [rf_xe79] at a2); (try rw [rf_xe79] at a4); (try omega))⟩, rfl, rfl, rfl⟩ (Nat.le_of_ble_eq_true rfl) (Nat.le_of_ble_eq_true rfl) dX12_sideOf_238
                · have hf89 : xc86.toInt = (-1) := by have z := (fa_eq _ _).mp hc87; have : (((-1) : Int32).toInt) = (-1) := (by decide); omega
                  refine lv_bipush (v := (-2)) hx hb dX12_sideOf_231 (by decide) ?_
                  refine lv_goto (tgt := 238) hx hb dX12_sideOf_233 (by decide) ?_
                  exact tw_iret hx hb hr hlocks TH hS hex ⟨⟨_, rfl, (show (-2) ≤ Int32.toInt (-2) from by have : (((-2) : Int32).toInt) = (-2) := (by decide); omega), (show Int32.toInt (-2) ≤ 15 from by have : (((-2) : Int32).toInt) = (-2) := (by decide); omega), (by have : (((-2) : Int32).toInt) = (-2) := (by decide); have rf_xe3 : rw_h E a0 (x2.toInt) (x1.toInt).toNat = xe3.toInt := rw_h_of (m := a0) (i := x2) (c := x1) hxr1 exr2 exe3; have rf_xe7 : rw_h E a0 (x3.toInt) (x1.toInt).toNat = xe7.toInt := rw_h_of (m := a0) (i := x3) (c := x1) hxr1 exr6 exe7; have rf_xe79 : rw_h E a0 (x4.toInt) (x1.toInt).toNat = xe79.toInt := rw_h_of (m := a0) (i := x4) (c := x1) hxr1 exr78 exe79; have rf_xl70 : rw_w E a0 (x2.toInt) (x1.toInt).toNat = xl70.toInt := rw_w_of (m := a0) (i := x2) (c := x1) hxr68 exr69 exl70; have rf_xl72 : rw_w E a0 (x3.toInt) (x1.toInt).toNat = xl72.toInt := rw_w_of (m := a0) (i := x3) (c := x1) hxr68 exr71 exl72; have e2 : ((2 : Int32).toInt) = 2 := (by decide); have e3 : ((3 : Int32).toInt) = 3 := (by decide); obtain ⟨σ, hσ⟩ := st_flag E a0 (x1.toInt) 2 (x2.toInt) (x3.toInt); obtain ⟨τ, hτ⟩ := st_flag E a0 (x1.toInt) 3 (x2.toInt) (x3.toInt); unfold un_w un_p; rw [← hσ, ← hτ]; have hc := hpoxc86_0; (try rw [e2] at hc); (try rw [e3] at hc); (try (have hcc := hσ.trans hc.symm)); (try (have hcc := hτ.trans hc.symm)); clear hc; clear hσ hτ; omega), (by have : (((-2) : Int32).toInt) = (-2) := (by decide); have rf_xe3 : rw_h E a0 (x2.toInt) (x1.toInt).toNat = xe3.toInt := rw_h_of (m := a0) (i := x2) (c := x1) hxr1 exr2 exe3; have rf_xe7 : rw_h E a0 (x3.toInt) (x1.toInt).toNat = xe7.toInt := rw_h_of (m := a0) (i := x3) (c := x1) hxr1 exr6 exe7; have rf_xe79 : rw_h E a0 (x4.toInt) (x1.toInt).toNat = xe79.toInt := rw_h_of (m := a0) (i := x4) (c := x1) hxr1 exr78 exe79; intro a1 a2 a3 a4; (try rw [rf_xe3] at a1); (try rw [rf_xe3] at a2); (try rw [rf_xe3] at a4); (try rw [rf_xe7] at a1); (try rw [rf_xe7] at a2); (try rw [rf_xe7] at a4); (try rw [rf_xe79] at a1); (try rw [rf_xe79] at a2); (try rw [rf_xe79] at a4); (try omega))⟩, rfl, rfl, rfl⟩ (Nat.le_of_ble_eq_true rfl) (Nat.le_of_ble_eq_true rfl) dX12_sideOf_238
            · have hf90 : ¬ (xe79.toInt = 0) := fun q => hc80 ((fa_eq _ _).mpr (by have : ((0 : Int32).toInt) = 0 := (by decide); omega))
              refine lv_iload hx hb dX12_sideOf_104 (lv_at hl 6 rfl) ?_
              refine lv_if_eq (tgt := 133) hx hb dX12_sideOf_106 (by decide) (fun hc91 => ?_) (fun hc91 => ?_)
              · have hf92 : x5.toInt = 0 := by have z := (fa_eq _ _).mp hc91; have : ((0 : Int32).toInt) = 0 := (by decide); omega
                exfalso; omega
              · have hf93 : ¬ (x5.toInt = 0) := fun q => hc91 ((fa_eq _ _).mpr (by have : ((0 : Int32).toInt) = 0 := (by decide); omega))
                refine lv_aload_n hx hb dX12_sideOf_109 rfl (lv_at hl 1 rfl) ?_
                refine tw_get (ci := 12) (C := RX12) (T := TX12) (N := 64) hx hb hB cx_inX12 hown hK TH hm0 hk0 rfl ⟨by decide, rfl⟩ 17 (by decide) cw_1210 (fun _ h9 => h9) dX12_sideOf_110 (fun hv => ?_)
                rw [hxr68]
                refine lv_iload_n hx hb dX12_sideOf_113 rfl (lv_at hl 3 rfl) ?_
                refine tw_aald (k := 317) (t0 := 6) (n := 16) (lo := 327) (hi := 0) (ty := .long) hx hb hK TH hmxr68 hkxr68 (by decide) rfl rfl (i := x2) (vp_in_iff.mpr ⟨by  omega, by  omega⟩) dX12_sideOf_114 (fun xr94 exr94 hmxr94 hkxr94 => ?_)
                have ezxr94 : xr69 = xr94 := exr69.symm.trans exr94
                subst ezxr94
                refine lv_iload_n hx hb dX12_sideOf_115 rfl (lv_at hl 2 rfl) ?_
                refine tw_lald2 (k := 327) (n := 150) (lo := 0) (hi := 0) hx hb hK TH hmxr69 hkxr69 (by decide) rfl (i := x1) (vp_in_iff.mpr ⟨by  omega, by  omega⟩) dX12_sideOf_116 (fun xl95 exl95 => ?_)
                refine lv_aload_n hx hb dX12_sideOf_117 rfl (lv_at hl 1 rfl) ?_
                refine tw_get (ci := 12) (C := RX12) (T := TX12) (N := 64) hx hb hB cx_inX12 hown hK TH hm0 hk0 rfl ⟨by decide, rfl⟩ 17 (by decide) cw_1210 (fun _ h9 => h9) dX12_sideOf_118 (fun hv => ?_)
                rw [hxr68]
                refine lv_iload hx hb dX12_sideOf_121 (lv_at hl 5 rfl) ?_
                refine tw_aald (k := 317) (t0 := 6) (n := 16) (lo := 327) (hi := 0) (ty := .long) hx hb hK TH hmxr68 hkxr68 (by decide) rfl rfl (i := x4) (vp_in_iff.mpr ⟨by  omega, by  omega⟩) dX12_sideOf_123 (fun xr96 exr96 hmxr96 hkxr96 => ?_)
                have hkxr96 : kp xr96 = 327 := hkxr96
                refine lv_iload_n hx hb dX12_sideOf_124 rfl (lv_at hl 2 rfl) ?_
                refine tw_lald2 (k := 327) (n := 150) (lo := 0) (hi := 0) hx hb hK TH hmxr96 hkxr96 (by decide) rfl (i := x1) (vp_in_iff.mpr ⟨by  omega, by  omega⟩) dX12_sideOf_125 (fun xl97 exl97 => ?_)
                refine W.lcmp hx hb dX12_sideOf_126 ?_
                have hzi98 := ia_lc xl95 xl97
                generalize lg_cmp xl95 xl97 = zi98 at hzi98 ⊢
                refine lv_if_ne (tgt := 155) hx hb dX12_sideOf_127 (by decide) (fun hc99 => ?_) (fun hc99 => ?_)
                · have hf100 : ¬ (zi98.toInt = 0) := fun q => hc99 ((fa_eq _ _).mpr (by have : ((0 : Int32).toInt) = 0 := (by decide); omega))
                  refine lv_iload hx hb dX12_sideOf_155 (lv_at hl 6 rfl) ?_
                  refine lv_if_eq (tgt := 184) hx hb dX12_sideOf_157 (by decide) (fun hc101 => ?_) (fun hc101 => ?_)
                  · have hf102 : x5.toInt = 0 := by have z := (fa_eq _ _).mp hc101; have : ((0 : Int32).toInt) = 0 := (by decide); omega
                    exfalso; omega
                  · have hf103 : ¬ (x5.toInt = 0) := fun q => hc101 ((fa_eq _ _).mpr (by have : ((0 : Int32).toInt) = 0 := (by decide); omega))
                    refine lv_aload_n hx hb dX12_sideOf_160 rfl (lv_at hl 1 rfl) ?_
                    refine tw_get (ci := 12) (C := RX12) (T := TX12) (N := 64) hx hb hB cx_inX12 hown hK TH hm0 hk0 rfl ⟨by decide, rfl⟩ 17 (by decide) cw_1210 (fun _ h9 => h9) dX12_sideOf_161 (fun hv => ?_)
                    rw [hxr68]
                    refine lv_iload_n hx hb dX12_sideOf_164 rfl (lv_at hl 4 rfl) ?_
                    refine tw_aald (k := 317) (t0 := 6) (n := 16) (lo := 327) (hi := 0) (ty := .long) hx hb hK TH hmxr68 hkxr68 (by decide) rfl rfl (i := x3) (vp_in_iff.mpr ⟨by  omega, by  omega⟩) dX12_sideOf_165 (fun xr104 exr104 hmxr104 hkxr104 => ?_)
                    have ezxr104 : xr71 = xr104 := exr71.symm.trans exr104
                    subst ezxr104
                    refine lv_iload_n hx hb dX12_sideOf_166 rfl (lv_at hl 2 rfl) ?_
                    refine tw_lald2 (k := 327) (n := 150) (lo := 0) (hi := 0) hx hb hK TH hmxr71 hkxr71 (by decide) rfl (i := x1) (vp_in_iff.mpr ⟨by  omega, by  omega⟩) dX12_sideOf_167 (fun xl105 exl105 => ?_)
                    refine lv_aload_n hx hb dX12_sideOf_168 rfl (lv_at hl 1 rfl) ?_
                    refine tw_get (ci := 12) (C := RX12) (T := TX12) (N := 64) hx hb hB cx_inX12 hown hK TH hm0 hk0 rfl ⟨by decide, rfl⟩ 17 (by decide) cw_1210 (fun _ h9 => h9) dX12_sideOf_169 (fun hv => ?_)
                    rw [hxr68]
                    refine lv_iload hx hb dX12_sideOf_172 (lv_at hl 5 rfl) ?_
                    refine tw_aald (k := 317) (t0 := 6) (n := 16) (lo := 327) (hi := 0) (ty := .long) hx hb hK TH hmxr68 hkxr68 (by decide) rfl rfl (i := x4) (vp_in_iff.mpr ⟨by  omega, by  omega⟩) dX12_sideOf_174 (fun xr106 exr106 hmxr106 hkxr106 => ?_)
                    have ezxr106 : xr96 = xr106 := exr96.symm.trans exr106
                    subst ezxr106
                    refine lv_iload_n hx hb dX12_sideOf_175 rfl (lv_at hl 2 rfl) ?_
                    refine tw_lald2 (k := 327) (n := 150) (lo := 0) (hi := 0) hx hb hK TH hmxr96 hkxr96 (by decide) rfl (i := x1) (vp_in_iff.mpr ⟨by  omega, by  omega⟩) dX12_sideOf_176 (fun xl107 exl107 => ?_)
                    refine W.lcmp hx hb dX12_sideOf_177 ?_
                    have hzi108 := ia_lc xl105 xl107
                    generalize lg_cmp xl105 xl107 = zi108 at hzi108 ⊢
                    refine lv_if_ne (tgt := 206) hx hb dX12_sideOf_178 (by decide) (fun hc109 => ?_) (fun hc109 => ?_)
                    · have hf110 : ¬ (zi108.toInt = 0) := fun q => hc109 ((fa_eq _ _).mpr (by have : ((0 : Int32).toInt) = 0 := (by decide); omega))
                      refine lv_aload_n hx hb dX12_sideOf_206 rfl (lv_at hl 1 rfl) ?_
                      refine lv_iload_n hx hb dX12_sideOf_207 rfl (lv_at hl 2 rfl) ?_
                      refine lv_iload hx hb dX12_sideOf_208 (lv_at hl 6 rfl) ?_
                      refine lv_if_eq (tgt := 217) hx hb dX12_sideOf_210 (by decide) (fun hc111 => ?_) (fun hc111 => ?_)
                      · have hf112 : x5.toInt = 0 := by have z := (fa_eq _ _).mp hc111; have : ((0 : Int32).toInt) = 0 := (by decide); omega
                        exfalso; omega
                      · have hf113 : ¬ (x5.toInt = 0) := fun q => hc111 ((fa_eq _ _).mpr (by have : ((0 : Int32).toInt) = 0 := (by decide); omega))
                        refine lv_iconst (v := 2) hx hb dX12_sideOf_213 (by decide) ?_
                        refine lv_goto (tgt := 218) hx hb dX12_sideOf_214 (by decide) ?_
                        refine lv_iload_n hx hb dX12_sideOf_218 rfl (lv_at hl 3 rfl) ?_
                        refine lv_iload_n hx hb dX12_sideOf_219 rfl (lv_at hl 4 rfl) ?_
                        refine tw_Vc (o := a0) (ci := 12) (n := 4) (post := (fun v kq Lq Eq => (∃ x : Int32, v = some (.int x) ∧ (-1) ≤ x.toInt ∧ x.toInt ≤ 11 ∧ (x.toInt = -1 ↔ st_ns E a0 x1.toInt (2 : Int32).toInt x2.toInt x3.toInt)) ∧ kp = kq ∧ L = Lq ∧ E = Eq)) (As := [.int x1, .int 2, .int x2, .int x3]) (rest := []) ⟨hx, hb, hml, hown, hB⟩ (fun sz => tX12_settledFor l D cs a0 x1 (2 : Int32) x2 x3 hm0 hk0 sz) cg_12_461_X12_settledFor rfl rfl (by decide +kernel) ⟨Nat.le_of_ble_eq_true rfl, Nat.le_of_ble_eq_true rfl⟩ hK hN TH hS hA rfl hm0 hk0 (by decide) rfl hl.1 rfl (Nat.le_of_ble_eq_true rfl) dX12_sideOf_220 ⟨Nat.le_of_ble_eq_true rfl, Nat.le_of_ble_eq_true rfl⟩ (fun v114 kp114 L114 E114 H locs hq114 hx114 TH hS => ?_)
                        obtain ⟨⟨xc115, rfl, hxc115a, hxc115b, hpoxc115_0⟩, rfl, rfl, rfl⟩ := hq114
                        refine W.eq (g2 := F0 m 223 ls [.int xc115]) rfl ?_
                        refine lv_istore (lv' := [(7, .int xc115), (6, .int 0), (0, .ref a0), (1, .int x1), (2, .int x2), (3, .int x3), (4, .int x4), (5, .int x5)]) hx hb dX12_sideOf_223 hl (by decide) rfl (fun ls hl => ?_)
                        refine lv_iload hx hb dX12_sideOf_225 (lv_at hl 0 rfl) ?_
                        refine lv_iconst (v := (-1)) hx hb dX12_sideOf_227 (by decide) ?_
                        refine lv_icmp_ne (tgt := 236) hx hb dX12_sideOf_228 (by decide) (fun hc116 => ?_) (fun hc116 => ?_)
                        · have hf117 : ¬ (xc115.toInt = (-1)) := fun q => hc116 ((fa_eq _ _).mpr (by have : (((-1) : Int32).toInt) = (-1) := (by decide); omega))
                          refine lv_iload hx hb dX12_sideOf_236 (lv_at hl 0 rfl) ?_
                          exact tw_iret hx hb hr hlocks TH hS hex ⟨⟨_, rfl, (show (-2) ≤ Int32.toInt xc115 from by  omega), (show Int32.toInt xc115 ≤ 15 from by  omega), (by  have rf_xe3 : rw_h E a0 (x2.toInt) (x1.toInt).toNat = xe3.toInt := rw_h_of (m := a0) (i := x2) (c := x1) hxr1 exr2 exe3; have rf_xe7 : rw_h E a0 (x3.toInt) (x1.toInt).toNat = xe7.toInt := rw_h_of (m := a0) (i := x3) (c := x1) hxr1 exr6 exe7; have rf_xe79 : rw_h E a0 (x4.toInt) (x1.toInt).toNat = xe79.toInt := rw_h_of (m := a0) (i := x4) (c := x1) hxr1 exr78 exe79; have rf_xl70 : rw_w E a0 (x2.toInt) (x1.toInt).toNat = xl70.toInt := rw_w_of (m := a0) (i := x2) (c := x1) hxr68 exr69 exl70; have rf_xl72 : rw_w E a0 (x3.toInt) (x1.toInt).toNat = xl72.toInt := rw_w_of (m := a0) (i := x3) (c := x1) hxr68 exr71 exl72; have rf_xl95 : rw_w E a0 (x2.toInt) (x1.toInt).toNat = xl95.toInt := rw_w_of (m := a0) (i := x2) (c := x1) hxr68 exr69 exl95; have rf_xl97 : rw_w E a0 (x4.toInt) (x1.toInt).toNat = xl97.toInt := rw_w_of (m := a0) (i := x4) (c := x1) hxr68 exr96 exl97; have rf_xl105 : rw_w E a0 (x3.toInt) (x1.toInt).toNat = xl105.toInt := rw_w_of (m := a0) (i := x3) (c := x1) hxr68 exr71 exl105; have rf_xl107 : rw_w E a0 (x4.toInt) (x1.toInt).toNat = xl107.toInt := rw_w_of (m := a0) (i := x4) (c := x1) hxr68 exr96 exl107; have e2 : ((2 : Int32).toInt) = 2 := (by decide); have e3 : ((3 : Int32).toInt) = 3 := (by decide); obtain ⟨σ, hσ⟩ := st_flag E a0 (x1.toInt) 2 (x2.toInt) (x3.toInt); obtain ⟨τ, hτ⟩ := st_flag E a0 (x1.toInt) 3 (x2.toInt) (x3.toInt); unfold un_w un_p; rw [← hσ, ← hτ]; have hc := hpoxc115_0; (try rw [e2] at hc); (try rw [e3] at hc); (try (have hcc := hσ.trans hc.symm)); (try (have hcc := hτ.trans hc.symm)); clear hc; clear hσ hτ; omega), (by  have rf_xe3 : rw_h E a0 (x2.toInt) (x1.toInt).toNat = xe3.toInt := rw_h_of (m := a0) (i := x2) (c := x1) hxr1 exr2 exe3; have rf_xe7 : rw_h E a0 (x3.toInt) (x1.toInt).toNat = xe7.toInt := rw_h_of (m := a0) (i := x3) (c := x1) hxr1 exr6 exe7; have rf_xe79 : rw_h E a0 (x4.toInt) (x1.toInt).toNat = xe79.toInt := rw_h_of (m := a0) (i := x4) (c := x1) hxr1 exr78 exe79; intro a1 a2 a3 a4; (try rw [rf_xe3] at a1); (try rw [rf_xe3] at a2); (try rw [rf_xe3] at a4); (try rw [rf_xe7] at a1); (try rw [rf_xe7] at a2); (try rw [rf_xe7] at a4); (try rw [rf_xe79] at a1); (try rw [rf_xe79] at a2); (try rw [rf_xe79] at a4); (try omega))⟩, rfl, rfl, rfl⟩ (Nat.le_of_ble_eq_true rfl) (Nat.le_of_ble_eq_true rfl) dX12_sideOf_238
                        · have hf118 : xc115.toInt = (-1) := by have z := (fa_eq _ _).mp hc116; have : (((-1) : Int32).toInt) = (-1) := (by decide); omega
                          refine lv_bipush (v := (-2)) hx hb dX12_sideOf_231 (by decide) ?_
                          refine lv_goto (tgt := 238) hx hb dX12_sideOf_233 (by decide) ?_
                          exact tw_iret hx hb hr hlocks TH hS hex ⟨⟨_, rfl, (show (-2) ≤ Int32.toInt (-2) from by have : (((-2) : Int32).toInt) = (-2) := (by decide); omega), (show Int32.toInt (-2) ≤ 15 from by have : (((-2) : Int32).toInt) = (-2) := (by decide); omega), (by have : (((-2) : Int32).toInt) = (-2) := (by decide); have rf_xe3 : rw_h E a0 (x2.toInt) (x1.toInt).toNat = xe3.toInt := rw_h_of (m := a0) (i := x2) (c := x1) hxr1 exr2 exe3; have rf_xe7 : rw_h E a0 (x3.toInt) (x1.toInt).toNat = xe7.toInt := rw_h_of (m := a0) (i := x3) (c := x1) hxr1 exr6 exe7; have rf_xe79 : rw_h E a0 (x4.toInt) (x1.toInt).toNat = xe79.toInt := rw_h_of (m := a0) (i := x4) (c := x1) hxr1 exr78 exe79; have rf_xl70 : rw_w E a0 (x2.toInt) (x1.toInt).toNat = xl70.toInt := rw_w_of (m := a0) (i := x2) (c := x1) hxr68 exr69 exl70; have rf_xl72 : rw_w E a0 (x3.toInt) (x1.toInt).toNat = xl72.toInt := rw_w_of (m := a0) (i := x3) (c := x1) hxr68 exr71 exl72; have rf_xl95 : rw_w E a0 (x2.toInt) (x1.toInt).toNat = xl95.toInt := rw_w_of (m := a0) (i := x2) (c := x1) hxr68 exr69 exl95; have rf_xl97 : rw_w E a0 (x4.toInt) (x1.toInt).toNat = xl97.toInt := rw_w_of (m := a0) (i := x4) (c := x1) hxr68 exr96 exl97; have rf_xl105 : rw_w E a0 (x3.toInt) (x1.toInt).toNat = xl105.toInt := rw_w_of (m := a0) (i := x3) (c := x1) hxr68 exr71 exl105; have rf_xl107 : rw_w E a0 (x4.toInt) (x1.toInt).toNat = xl107.toInt := rw_w_of (m := a0) (i := x4) (c := x1) hxr68 exr96 exl107; have e2 : ((2 : Int32).toInt) = 2 := (by decide); have e3 : ((3 : Int32).toInt) = 3 := (by decide); obtain ⟨σ, hσ⟩ := st_flag E a0 (x1.toInt) 2 (x2.toInt) (x3.toInt); obtain ⟨τ, hτ⟩ := st_flag E a0 (x1.toInt) 3 (x2.toInt) (x3.toInt); unfold un_w un_p; rw [← hσ, ← hτ]; have hc := hpoxc115_0; (try rw [e2] at hc); (try rw [e3] at hc); (try (have hcc := hσ.trans hc.symm)); (try (have hcc := hτ.trans hc.symm)); clear hc; clear hσ hτ; omega), (by have : (((-2) : Int32).toInt) = (-2) := (by decide); have rf_xe3 : rw_h E a0 (x2.toInt) (x1.toInt).toNat = xe3.toInt := rw_h_of (m := a0) (i := x2) (c := x1) hxr1 exr2 exe3; have rf_xe7 : rw_h E a0 (x3.toInt) (x1.toInt).toNat = xe7.toInt := rw_h_of (m := a0) (i := x3) (c := x1) hxr1 exr6 exe7; have rf_xe79 : rw_h E a0 (x4.toInt) (x1.toInt).toNat = xe79.toInt := rw_h_of (m := a0) (i := x4) (c := x1) hxr1 exr78 exe79; intro a1 a2 a3 a4; (try rw [rf_xe3] at a1); (try rw [rf_xe3] at a2); (try rw [rf_xe3] at a4); (try rw [rf_xe7] at a1); (try rw [rf_xe7] at a2); (try rw [rf_xe7] at a4); (try rw [rf_xe79] at a1); (try rw [rf_xe79] at a2); (try rw [rf_xe79] at a4); (try omega))⟩, rfl, rfl, rfl⟩ (Nat.le_of_ble_eq_true rfl) (Nat.le_of_ble_eq_true rfl) dX12_sideOf_238
                    · have hf119 : zi108.toInt = 0 := by have z := (fa_eq _ _).mp hc109; have : ((0 : Int32).toInt) = 0 := (by decide); omega
                      refine lv_goto (tgt := 204) hx hb dX12_sideOf_181 (by decide) ?_
                      refine lv_iload_n hx hb dX12_sideOf_204 rfl (lv_at hl 3 rfl) ?_
                      exact tw_iret hx hb hr hlocks TH hS hex ⟨⟨_, rfl, (show (-2) ≤ Int32.toInt x2 from by  omega), (show Int32.toInt x2 ≤ 15 from by  omega), (by  have rf_xe3 : rw_h E a0 (x2.toInt) (x1.toInt).toNat = xe3.toInt := rw_h_of (m := a0) (i := x2) (c := x1) hxr1 exr2 exe3; have rf_xe7 : rw_h E a0 (x3.toInt) (x1.toInt).toNat = xe7.toInt := rw_h_of (m := a0) (i := x3) (c := x1) hxr1 exr6 exe7; have rf_xe79 : rw_h E a0 (x4.toInt) (x1.toInt).toNat = xe79.toInt := rw_h_of (m := a0) (i := x4) (c := x1) hxr1 exr78 exe79; have rf_xl70 : rw_w E a0 (x2.toInt) (x1.toInt).toNat = xl70.toInt := rw_w_of (m := a0) (i := x2) (c := x1) hxr68 exr69 exl70; have rf_xl72 : rw_w E a0 (x3.toInt) (x1.toInt).toNat = xl72.toInt := rw_w_of (m := a0) (i := x3) (c := x1) hxr68 exr71 exl72; have rf_xl95 : rw_w E a0 (x2.toInt) (x1.toInt).toNat = xl95.toInt := rw_w_of (m := a0) (i := x2) (c := x1) hxr68 exr69 exl95; have rf_xl97 : rw_w E a0 (x4.toInt) (x1.toInt).toNat = xl97.toInt := rw_w_of (m := a0) (i := x4) (c := x1) hxr68 exr96 exl97; have rf_xl105 : rw_w E a0 (x3.toInt) (x1.toInt).toNat = xl105.toInt := rw_w_of (m := a0) (i := x3) (c := x1) hxr68 exr71 exl105; have rf_xl107 : rw_w E a0 (x4.toInt) (x1.toInt).toNat = xl107.toInt := rw_w_of (m := a0) (i := x4) (c := x1) hxr68 exr96 exl107; have e2 : ((2 : Int32).toInt) = 2 := (by decide); have e3 : ((3 : Int32).toInt) = 3 := (by decide); obtain ⟨σ, hσ⟩ := st_flag E a0 (x1.toInt) 2 (x2.toInt) (x3.toInt); obtain ⟨τ, hτ⟩ := st_flag E a0 (x1.toInt) 3 (x2.toInt) (x3.toInt); unfold un_w un_p; rw [← hσ, ← hτ]; clear hσ hτ; omega), (by  have rf_xe3 : rw_h E a0 (x2.toInt) (x1.toInt).toNat = xe3.toInt := rw_h_of (m := a0) (i := x2) (c := x1) hxr1 exr2 exe3; have rf_xe7 : rw_h E a0 (x3.toInt) (x1.toInt).toNat = xe7.toInt := rw_h_of (m := a0) (i := x3) (c := x1) hxr1 exr6 exe7; have rf_xe79 : rw_h E a0 (x4.toInt) (x1.toInt).toNat = xe79.toInt := rw_h_of (m := a0) (i := x4) (c := x1) hxr1 exr78 exe79; intro a1 a2 a3 a4; (try rw [rf_xe3] at a1); (try rw [rf_xe3] at a2); (try rw [rf_xe3] at a4); (try rw [rf_xe7] at a1); (try rw [rf_xe7] at a2); (try rw [rf_xe7] at a4); (try rw [rf_xe79] at a1); (try rw [rf_xe79] at a2); (try rw [rf_xe79] at a4); (try omega))⟩, rfl, rfl, rfl⟩ (Nat.le_of_ble_eq_true rfl) (Nat.le_of_ble_eq_true rfl) dX12_sideOf_205
                · have hf120 : zi98.toInt = 0 := by have z := (fa_eq _ _).mp hc99; have : ((0 : Int32).toInt) = 0 := (by decide); omega
                  refine lv_goto (tgt := 153) hx hb dX12_sideOf_130 (by decide) ?_
                  refine lv_iload_n hx hb dX12_sideOf_153 rfl (lv_at hl 4 rfl) ?_
                  exact tw_iret hx hb hr hlocks TH hS hex ⟨⟨_, rfl, (show (-2) ≤ Int32.toInt x3 from by  omega), (show Int32.toInt x3 ≤ 15 from by  omega), (by  have rf_xe3 : rw_h E a0 (x2.toInt) (x1.toInt).toNat = xe3.toInt := rw_h_of (m := a0) (i := x2) (c := x1) hxr1 exr2 exe3; have rf_xe7 : rw_h E a0 (x3.toInt) (x1.toInt).toNat = xe7.toInt := rw_h_of (m := a0) (i := x3) (c := x1) hxr1 exr6 exe7; have rf_xe79 : rw_h E a0 (x4.toInt) (x1.toInt).toNat = xe79.toInt := rw_h_of (m := a0) (i := x4) (c := x1) hxr1 exr78 exe79; have rf_xl70 : rw_w E a0 (x2.toInt) (x1.toInt).toNat = xl70.toInt := rw_w_of (m := a0) (i := x2) (c := x1) hxr68 exr69 exl70; have rf_xl72 : rw_w E a0 (x3.toInt) (x1.toInt).toNat = xl72.toInt := rw_w_of (m := a0) (i := x3) (c := x1) hxr68 exr71 exl72; have rf_xl95 : rw_w E a0 (x2.toInt) (x1.toInt).toNat = xl95.toInt := rw_w_of (m := a0) (i := x2) (c := x1) hxr68 exr69 exl95; have rf_xl97 : rw_w E a0 (x4.toInt) (x1.toInt).toNat = xl97.toInt := rw_w_of (m := a0) (i := x4) (c := x1) hxr68 exr96 exl97; have e2 : ((2 : Int32).toInt) = 2 := (by decide); have e3 : ((3 : Int32).toInt) = 3 := (by decide); obtain ⟨σ, hσ⟩ := st_flag E a0 (x1.toInt) 2 (x2.toInt) (x3.toInt); obtain ⟨τ, hτ⟩ := st_flag E a0 (x1.toInt) 3 (x2.toInt) (x3.toInt); unfold un_w un_p; rw [← hσ, ← hτ]; clear hσ hτ; omega), (by  have rf_xe3 : rw_h E a0 (x2.toInt) (x1.toInt).toNat = xe3.toInt := rw_h_of (m := a0) (i := x2) (c := x1) hxr1 exr2 exe3; have rf_xe7 : rw_h E a0 (x3.toInt) (x1.toInt).toNat = xe7.toInt := rw_h_of (m := a0) (i := x3) (c := x1) hxr1 exr6 exe7; have rf_xe79 : rw_h E a0 (x4.toInt) (x1.toInt).toNat = xe79.toInt := rw_h_of (m := a0) (i := x4) (c := x1) hxr1 exr78 exe79; intro a1 a2 a3 a4; (try rw [rf_xe3] at a1); (try rw [rf_xe3] at a2); (try rw [rf_xe3] at a4); (try rw [rf_xe7] at a1); (try rw [rf_xe7] at a2); (try rw [rf_xe7] at a4); (try rw [rf_xe79] at a1); (try rw [rf_xe79] at a2); (try rw [rf_xe79] at a4); (try omega))⟩, rfl, rfl, rfl⟩ (Nat.le_of_ble_eq_true rfl) (Nat.le_of_ble_eq_true rfl) dX12_sideOf_154
          · have hf121 : ¬ (0 = 0) := fun q => hc76 ((fa_eq _ _).mpr (by have : ((0 : Int32).toInt) = 0 := (by decide); omega))
            exfalso; omega
        · have hf122 : zi73.toInt = 0 := by have z := (fa_eq _ _).mp hc74; have : ((0 : Int32).toInt) = 0 := (by decide); omega
          refine lv_iconst (v := 1) hx hb dX12_sideOf_51 (by decide) ?_
          refine lv_goto (tgt := 83) hx hb dX12_sideOf_52 (by decide) ?_
          refine lv_istore (lv' := [(6, .int 1), (0, .ref a0), (1, .int x1), (2, .int x2), (3, .int x3), (4, .int x4), (5, .int x5)]) hx hb dX12_sideOf_83 hl (by decide) rfl (fun ls hl => ?_)
          refine lv_iload hx hb dX12_sideOf_85 (lv_at hl 0 rfl) ?_
          refine lv_if_eq (tgt := 92) hx hb dX12_sideOf_87 (by decide) (fun hc123 => ?_) (fun hc123 => ?_)
          · have hf124 : 1 = 0 := by have z := (fa_eq _ _).mp hc123; have : ((0 : Int32).toInt) = 0 := (by decide); have : ((1 : Int32).toInt) = 1 := (by decide); omega
            exfalso; omega
          · have hf125 : ¬ (1 = 0) := fun q => hc123 ((fa_eq _ _).mpr (by have : ((0 : Int32).toInt) = 0 := (by decide); have : ((1 : Int32).toInt) = 1 := (by decide); omega))
            refine lv_iload_n hx hb dX12_sideOf_90 rfl (lv_at hl 3 rfl) ?_
            exact tw_iret hx hb hr hlocks TH hS hex ⟨⟨_, rfl, (show (-2) ≤ Int32.toInt x2 from by  omega), (show Int32.toInt x2 ≤ 15 from by  omega), (by  have rf_xe3 : rw_h E a0 (x2.toInt) (x1.toInt).toNat = xe3.toInt := rw_h_of (m := a0) (i := x2) (c := x1) hxr1 exr2 exe3; have rf_xe7 : rw_h E a0 (x3.toInt) (x1.toInt).toNat = xe7.toInt := rw_h_of (m := a0) (i := x3) (c := x1) hxr1 exr6 exe7; have rf_xl70 : rw_w E a0 (x2.toInt) (x1.toInt).toNat = xl70.toInt := rw_w_of (m := a0) (i := x2) (c := x1) hxr68 exr69 exl70; have rf_xl72 : rw_w E a0 (x3.toInt) (x1.toInt).toNat = xl72.toInt := rw_w_of (m := a0) (i := x3) (c := x1) hxr68 exr71 exl72; have e2 : ((2 : Int32).toInt) = 2 := (by decide); have e3 : ((3 : Int32).toInt) = 3 := (by decide); obtain ⟨σ, hσ⟩ := st_flag E a0 (x1.toInt) 2 (x2.toInt) (x3.toInt); obtain ⟨τ, hτ⟩ := st_flag E a0 (x1.toInt) 3 (x2.toInt) (x3.toInt); unfold un_w un_p; rw [← hσ, ← hτ]; clear hσ hτ; omega), (by  have rf_xe3 : rw_h E a0 (x2.toInt) (x1.toInt).toNat = xe3.toInt := rw_h_of (m := a0) (i := x2) (c := x1) hxr1 exr2 exe3; have rf_xe7 : rw_h E a0 (x3.toInt) (x1.toInt).toNat = xe7.toInt := rw_h_of (m := a0) (i := x3) (c := x1) hxr1 exr6 exe7; intro a1 a2 a3 a4; (try rw [rf_xe3] at a1); (try rw [rf_xe3] at a2); (try rw [rf_xe3] at a4); (try rw [rf_xe7] at a1); (try rw [rf_xe7] at a2); (try rw [rf_xe7] at a4); (try omega))⟩, rfl, rfl, rfl⟩ (Nat.le_of_ble_eq_true rfl) (Nat.le_of_ble_eq_true rfl) dX12_sideOf_91
    · have hf126 : xe7.toInt = 0 := by have z := (fa_eq _ _).mp hc8; have : ((0 : Int32).toInt) = 0 := (by decide); omega
      refine lv_iload_n hx hb dX12_sideOf_24 rfl (lv_at hl 2 rfl) ?_
      exact tw_iret hx hb hr hlocks TH hS hex ⟨⟨_, rfl, (show (-2) ≤ Int32.toInt x2 from by  omega), (show Int32.toInt x2 ≤ 15 from by  omega), (by  have rf_xe3 : rw_h E a0 (x2.toInt) (x1.toInt).toNat = xe3.toInt := rw_h_of (m := a0) (i := x2) (c := x1) hxr1 exr2 exe3; have rf_xe7 : rw_h E a0 (x3.toInt) (x1.toInt).toNat = xe7.toInt := rw_h_of (m := a0) (i := x3) (c := x1) hxr1 exr6 exe7; have e2 : ((2 : Int32).toInt) = 2 := (by decide); have e3 : ((3 : Int32).toInt) = 3 := (by decide); obtain ⟨σ, hσ⟩ := st_flag E a0 (x1.toInt) 2 (x2.toInt) (x3.toInt); obtain ⟨τ, hτ⟩ := st_flag E a0 (x1.toInt) 3 (x2.toInt) (x3.toInt); unfold un_w un_p; rw [← hσ, ← hτ]; clear hσ hτ; omega), (by  have rf_xe3 : rw_h E a0 (x2.toInt) (x1.toInt).toNat = xe3.toInt := rw_h_of (m := a0) (i := x2) (c := x1) hxr1 exr2 exe3; have rf_xe7 : rw_h E a0 (x3.toInt) (x1.toInt).toNat = xe7.toInt := rw_h_of (m := a0) (i := x3) (c := x1) hxr1 exr6 exe7; intro a1 a2 a3 a4; (try rw [rf_xe3] at a1); (try rw [rf_xe3] at a2); (try rw [rf_xe3] at a4); (try rw [rf_xe7] at a1); (try rw [rf_xe7] at a2); (try rw [rf_xe7] at a4); (try omega))⟩, rfl, rfl, rfl⟩ (Nat.le_of_ble_eq_true rfl) (Nat.le_of_ble_eq_true rfl) dX12_sideOf_25
  · have hf127 : xe3.toInt = 0 := by have z := (fa_eq _ _).mp hc4; have : ((0 : Int32).toInt) = 0 := (by decide); omega
    refine lv_iload_n hx hb dX12_sideOf_11 rfl (lv_at hl 3 rfl) ?_
    exact tw_iret hx hb hr hlocks TH hS hex ⟨⟨_, rfl, (show (-2) ≤ Int32.toInt x3 from by  omega), (show Int32.toInt x3 ≤ 15 from by  omega), (by  have rf_xe3 : rw_h E a0 (x2.toInt) (x1.toInt).toNat = xe3.toInt := rw_h_of (m := a0) (i := x2) (c := x1) hxr1 exr2 exe3; have e2 : ((2 : Int32).toInt) = 2 := (by decide); have e3 : ((3 : Int32).toInt) = 3 := (by decide); obtain ⟨σ, hσ⟩ := st_flag E a0 (x1.toInt) 2 (x2.toInt) (x3.toInt); obtain ⟨τ, hτ⟩ := st_flag E a0 (x1.toInt) 3 (x2.toInt) (x3.toInt); unfold un_w un_p; rw [← hσ, ← hτ]; clear hσ hτ; omega), (by  have rf_xe3 : rw_h E a0 (x2.toInt) (x1.toInt).toNat = xe3.toInt := rw_h_of (m := a0) (i := x2) (c := x1) hxr1 exr2 exe3; intro a1 a2 a3 a4; (try rw [rf_xe3] at a1); (try rw [rf_xe3] at a2); (try rw [rf_xe3] at a4); (try omega))⟩, rfl, rfl, rfl⟩ (Nat.le_of_ble_eq_true rfl) (Nat.le_of_ble_eq_true rfl) dX12_sideOf_12
set_option maxHeartbeats 4000000 in
set_option maxRecDepth 100000 in
theorem tX12_stands (l : Launch) (D : va_G) (cs : Nat → ClassId) {kp : Nat → Nat} {L : List Nat} {E : Nat → va_E} (a0 : Nat) (x1 : Int32) (x2 : Int32) (x3 : Int32) (x4 : Int32) (hm0 : a0 ∈ L) (hk0 : kp a0 = 12) (hp1a : 0 ≤ x1.toInt) (hp1b : x1.toInt ≤ 149) (hp2a : 0 ≤ x2.toInt) (hp2b : x2.toInt ≤ 15) (hp3a : 0 ≤ x3.toInt) (hp3b : x3.toInt ≤ 15) (hp4a : 0 ≤ x4.toInt) (hp4b : x4.toInt ≤ 15) (hg0 : rw_ok E a0 (x2.toInt)) (hg1 : rw_ok E a0 (x3.toInt)) (sz : Nat) : Met l yX12_stands (.code yX12_stands cX12_stands 6 (some .boolean) :: cx_big) { frames := 2, cells := 0, slots := 0, locals := 48 } (tw_P D cs kp L E [.ref a0, .int x1, .int x2, .int x3, .int x4] sz) (tw_Q D cs kp L (fun v kq Lq Eq => (∃ x : Int32, v = some (.int x) ∧ 0 ≤ x.toInt ∧ x.toInt ≤ 1 ∧ (rw_h E a0 x2.toInt (x1.toInt).toNat ≠ 0 → rw_h E a0 x3.toInt (x1.toInt).toNat ≠ 0 → x.toInt ≠ 0)) ∧ kp = kq ∧ L = Lq ∧ E = Eq) (va_A (va_pl L E) sz)) 0 0 (va_A (va_pl L E) sz) := by
  refine tw_ofW (by decide) (Nat.le_of_ble_eq_true rfl) ?_
  intro p e s m below meth c A ls hx hb hr hml hB hown hlocks hK hN hA TH hS hl
  have hown : s.vm.findClass "TreeMergeModel" = some m.cls := hown
  have hl : lv_has ls 6 [(0, .ref a0), (1, .int x1), (2, .int x2), (3, .int x3), (4, .int x4)] := hl
  obtain ⟨kp0, ekp⟩ : ∃ z, z = kp := ⟨_, rfl⟩
  obtain ⟨L0, eL⟩ : ∃ z, z = L := ⟨_, rfl⟩
  rw [show tw_Q D cs kp L = tw_Q D cs kp0 L0 by rw [ekp, eL]]
  have hex : ∀ a : Nat, a ∈ L0 → a ∈ L ∧ kp a = kp0 a := fun a h => ⟨by rw [← eL]; exact h, by rw [ekp]⟩
  refine lv_aload_n hx hb dX12_stands_0 rfl (lv_at hl 0 rfl) ?_
  refine tw_get (ci := 12) (C := RX12) (T := TX12) (N := 64) hx hb hB cx_inX12 hown hK TH hm0 hk0 rfl ⟨by decide, rfl⟩ 16 (by decide) cw_1209 (fun _ h9 => h9) dX12_stands_1 (fun hv => ?_)
  obtain ⟨xr1, hxr1, hmxr1, hkxr1⟩ : ∃ a : Nat, tw_fv E a0 16 = .ref a ∧ a ∈ L ∧ kp a = 316 := hv
  rw [hxr1]
  refine lv_iload_n hx hb dX12_stands_4 rfl (lv_at hl 2 rfl) ?_
  refine tw_aald (k := 316) (t0 := 5) (n := 16) (lo := 326) (hi := 0) (ty := .boolean) hx hb hK TH hmxr1 hkxr1 (by decide) rfl rfl (i := x2) (vp_in_iff.mpr ⟨by  omega, by  omega⟩) dX12_stands_5 (fun xr2 exr2 hmxr2 hkxr2 => ?_)
  have hkxr2 : kp xr2 = 326 := hkxr2
  refine lv_iload_n hx hb dX12_stands_6 rfl (lv_at hl 1 rfl) ?_
  refine tw_zald (k := 326) (t0 := 3) (n := 150) (lo := 0) (hi := 1) hx hb hK TH hmxr2 hkxr2 (by decide) rfl rfl (i := x1) (vp_in_iff.mpr ⟨by  omega, by  omega⟩) dX12_stands_7 (fun hxe3a hxe3b => ?_)
  obtain ⟨xe3, exe3⟩ : ∃ z : Int32, tw_iv E xr2 (Int32.toNatClampNeg x1) = z := ⟨_, rfl⟩
  rw [exe3] at hxe3a hxe3b ⊢
  refine lv_if_eq (tgt := 24) hx hb dX12_stands_8 (by decide) (fun hc4 => ?_) (fun hc4 => ?_)
  · have hf5 : xe3.toInt = 0 := by have z := (fa_eq _ _).mp hc4; have : ((0 : Int32).toInt) = 0 := (by decide); omega
    refine lv_aload_n hx hb dX12_stands_24 rfl (lv_at hl 0 rfl) ?_
    refine tw_get (ci := 12) (C := RX12) (T := TX12) (N := 64) hx hb hB cx_inX12 hown hK TH hm0 hk0 rfl ⟨by decide, rfl⟩ 16 (by decide) cw_1209 (fun _ h9 => h9) dX12_stands_25 (fun hv => ?_)
    rw [hxr1]
    refine lv_iload_n hx hb dX12_stands_28 rfl (lv_at hl 2 rfl) ?_
    refine tw_aald (k := 316) (t0 := 5) (n := 16) (lo := 326) (hi := 0) (ty := .boolean) hx hb hK TH hmxr1 hkxr1 (by decide) rfl rfl (i := x2) (vp_in_iff.mpr ⟨by  omega, by  omega⟩) dX12_stands_29 (fun xr6 exr6 hmxr6 hkxr6 => ?_)
    have ezxr6 : xr2 = xr6 := exr2.symm.trans exr6
    subst ezxr6
    refine lv_iload_n hx hb dX12_stands_30 rfl (lv_at hl 1 rfl) ?_
    refine tw_zald (k := 326) (t0 := 3) (n := 150) (lo := 0) (hi := 1) hx hb hK TH hmxr2 hkxr2 (by decide) rfl rfl (i := x1) (vp_in_iff.mpr ⟨by  omega, by  omega⟩) dX12_stands_31 (fun hxe7a hxe7b => ?_)
    rw [exe3]
    refine lv_if_ne (tgt := 48) hx hb dX12_stands_32 (by decide) (fun hc8 => ?_) (fun hc8 => ?_)
    · have hf9 : ¬ (xe3.toInt = 0) := fun q => hc8 ((fa_eq _ _).mpr (by have : ((0 : Int32).toInt) = 0 := (by decide); omega))
      exfalso; omega
    · have hf10 : xe3.toInt = 0 := by have z := (fa_eq _ _).mp hc8; have : ((0 : Int32).toInt) = 0 := (by decide); omega
      refine lv_aload_n hx hb dX12_stands_35 rfl (lv_at hl 0 rfl) ?_
      refine tw_get (ci := 12) (C := RX12) (T := TX12) (N := 64) hx hb hB cx_inX12 hown hK TH hm0 hk0 rfl ⟨by decide, rfl⟩ 16 (by decide) cw_1209 (fun _ h9 => h9) dX12_stands_36 (fun hv => ?_)
      rw [hxr1]
      refine lv_iload_n hx hb dX12_stands_39 rfl (lv_at hl 3 rfl) ?_
      refine tw_aald (k := 316) (t0 := 5) (n := 16) (lo := 326) (hi := 0) (ty := .boolean) hx hb hK TH hmxr1 hkxr1 (by decide) rfl rfl (i := x3) (vp_in_iff.mpr ⟨by  omega, by  omega⟩) dX12_stands_40 (fun xr11 exr11 hmxr11 hkxr11 => ?_)
      have hkxr11 : kp xr11 = 326 := hkxr11
      refine lv_iload_n hx hb dX12_stands_41 rfl (lv_at hl 1 rfl) ?_
      refine tw_zald (k := 326) (t0 := 3) (n := 150) (lo := 0) (hi := 1) hx hb hK TH hmxr11 hkxr11 (by decide) rfl rfl (i := x1) (vp_in_iff.mpr ⟨by  omega, by  omega⟩) dX12_stands_42 (fun hxe12a hxe12b => ?_)
      obtain ⟨xe12, exe12⟩ : ∃ z : Int32, tw_iv E xr11 (Int32.toNatClampNeg x1) = z := ⟨_, rfl⟩
      rw [exe12] at hxe12a hxe12b ⊢
      refine lv_if_ne (tgt := 48) hx hb dX12_stands_43 (by decide) (fun hc13 => ?_) (fun hc13 => ?_)
      · have hf14 : ¬ (xe12.toInt = 0) := fun q => hc13 ((fa_eq _ _).mpr (by have : ((0 : Int32).toInt) = 0 := (by decide); omega))
        refine lv_aload_n hx hb dX12_stands_48 rfl (lv_at hl 0 rfl) ?_
        refine tw_get (ci := 12) (C := RX12) (T := TX12) (N := 64) hx hb hB cx_inX12 hown hK TH hm0 hk0 rfl ⟨by decide, rfl⟩ 16 (by decide) cw_1209 (fun _ h9 => h9) dX12_stands_49 (fun hv => ?_)
        rw [hxr1]
        refine lv_iload hx hb dX12_stands_52 (lv_at hl 4 rfl) ?_
        refine tw_aald (k := 316) (t0 := 5) (n := 16) (lo := 326) (hi := 0) (ty := .boolean) hx hb hK TH hmxr1 hkxr1 (by decide) rfl rfl (i := x4) (vp_in_iff.mpr ⟨by  omega, by  omega⟩) dX12_stands_54 (fun xr15 exr15 hmxr15 hkxr15 => ?_)
        have hkxr15 : kp xr15 = 326 := hkxr15
        refine lv_iload_n hx hb dX12_stands_55 rfl (lv_at hl 1 rfl) ?_
        refine tw_zald (k := 326) (t0 := 3) (n := 150) (lo := 0) (hi := 1) hx hb hK TH hmxr15 hkxr15 (by decide) rfl rfl (i := x1) (vp_in_iff.mpr ⟨by  omega, by  omega⟩) dX12_stands_56 (fun hxe16a hxe16b => ?_)
        obtain ⟨xe16, exe16⟩ : ∃ z : Int32, tw_iv E xr15 (Int32.toNatClampNeg x1) = z := ⟨_, rfl⟩
        rw [exe16] at hxe16a hxe16b ⊢
        refine lv_if_ne (tgt := 62) hx hb dX12_stands_57 (by decide) (fun hc17 => ?_) (fun hc17 => ?_)
        · have hf18 : ¬ (xe16.toInt = 0) := fun q => hc17 ((fa_eq _ _).mpr (by have : ((0 : Int32).toInt) = 0 := (by decide); omega))
          refine lv_aload_n hx hb dX12_stands_62 rfl (lv_at hl 0 rfl) ?_
          refine tw_get (ci := 12) (C := RX12) (T := TX12) (N := 64) hx hb hB cx_inX12 hown hK TH hm0 hk0 rfl ⟨by decide, rfl⟩ 16 (by decide) cw_1209 (fun _ h9 => h9) dX12_stands_63 (fun hv => ?_)
          rw [hxr1]
          refine lv_iload_n hx hb dX12_stands_66 rfl (lv_at hl 2 rfl) ?_
          refine tw_aald (k := 316) (t0 := 5) (n := 16) (lo := 326) (hi := 0) (ty := .boolean) hx hb hK TH hmxr1 hkxr1 (by decide) rfl rfl (i := x2) (vp_in_iff.mpr ⟨by  omega, by  omega⟩) dX12_stands_67 (fun xr19 exr19 hmxr19 hkxr19 => ?_)
          have ezxr19 : xr2 = xr19 := exr2.symm.trans exr19
          subst ezxr19
          refine lv_iload_n hx hb dX12_stands_68 rfl (lv_at hl 1 rfl) ?_
          refine tw_zald (k := 326) (t0 := 3) (n := 150) (lo := 0) (hi := 1) hx hb hK TH hmxr2 hkxr2 (by decide) rfl rfl (i := x1) (vp_in_iff.mpr ⟨by  omega, by  omega⟩) dX12_stands_69 (fun hxe20a hxe20b => ?_)
          rw [exe3]
          refine lv_if_eq (tgt := 77) hx hb dX12_stands_70 (by decide) (fun hc21 => ?_) (fun hc21 => ?_)
          · have hf22 : xe3.toInt = 0 := by have z := (fa_eq _ _).mp hc21; have : ((0 : Int32).toInt) = 0 := (by decide); omega
            refine lv_iload_n hx hb dX12_stands_77 rfl (lv_at hl 3 rfl) ?_
            refine lv_istore (lv' := [(5, .int x3), (0, .ref a0), (1, .int x1), (2, .int x2), (3, .int x3), (4, .int x4)]) hx hb dX12_stands_78 hl (by decide) rfl (fun ls hl => ?_)
            refine lv_aload_n hx hb dX12_stands_80 rfl (lv_at hl 1 rfl) ?_
            refine lv_iload hx hb dX12_stands_81 (lv_at hl 0 rfl) ?_
            refine lv_iload_n hx hb dX12_stands_83 rfl (lv_at hl 2 rfl) ?_
            refine lv_iload hx hb dX12_stands_84 (lv_at hl 5 rfl) ?_
            refine tw_Vc (o := a0) (ci := 12) (n := 3) (post := (fun v kq Lq Eq => (∃ x : Int32, v = some (.int x) ∧ 0 ≤ x.toInt ∧ x.toInt ≤ 1) ∧ kp = kq ∧ L = Lq ∧ E = Eq)) (As := [.int x3, .int x1, .int x4]) (rest := []) ⟨hx, hb, hml, hown, hB⟩ (fun sz => tX12_isTouched l D cs a0 x3 x1 x4 hm0 hk0 (by omega) (by omega) (by omega) (by omega) hg1 sz) cg_12_465_X12_isTouched rfl rfl (by decide +kernel) ⟨Nat.le_of_ble_eq_true rfl, Nat.le_of_ble_eq_true rfl⟩ hK hN TH hS hA rfl hm0 hk0 (by decide) rfl hl.1 rfl (Nat.le_of_ble_eq_true rfl) dX12_stands_86 ⟨Nat.le_of_ble_eq_true rfl, Nat.le_of_ble_eq_true rfl⟩ (fun v23 kp23 L23 E23 H locs hq23 hx23 TH hS => ?_)
            obtain ⟨⟨xc24, rfl, hxc24a, hxc24b⟩, rfl, rfl, rfl⟩ := hq23
            refine W.eq (g2 := F0 m 89 ls [.int xc24]) rfl ?_
            refine lv_if_ne (tgt := 94) hx hb dX12_stands_89 (by decide) (fun hc25 => ?_) (fun hc25 => ?_)
            · have hf26 : ¬ (xc24.toInt = 0) := fun q => hc25 ((fa_eq _ _).mpr (by have : ((0 : Int32).toInt) = 0 := (by decide); omega))
              refine lv_aload_n hx hb dX12_stands_94 rfl (lv_at hl 1 rfl) ?_
              refine lv_iload_n hx hb dX12_stands_95 rfl (lv_at hl 2 rfl) ?_
              refine lv_iconst (v := 1) hx hb dX12_stands_96 (by decide) ?_
              refine lv_iload_n hx hb dX12_stands_97 rfl (lv_at hl 3 rfl) ?_
              refine lv_iload_n hx hb dX12_stands_98 rfl (lv_at hl 4 rfl) ?_
              refine tw_Vc (o := a0) (ci := 12) (n := 4) (post := (fun v kq Lq Eq => (∃ x : Int32, v = some (.int x) ∧ (-1) ≤ x.toInt ∧ x.toInt ≤ 11 ∧ (x.toInt = -1 ↔ st_ns E a0 x1.toInt (1 : Int32).toInt x2.toInt x3.toInt)) ∧ kp = kq ∧ L = Lq ∧ E = Eq)) (As := [.int x1, .int 1, .int x2, .int x3]) (rest := []) ⟨hx, hb, hml, hown, hB⟩ (fun sz => tX12_settledFor l D cs a0 x1 (1 : Int32) x2 x3 hm0 hk0 sz) cg_12_461_X12_settledFor rfl rfl (by decide +kernel) ⟨Nat.le_of_ble_eq_true rfl, Nat.le_of_ble_eq_true rfl⟩ hK hN TH hS hA rfl hm0 hk0 (by decide) rfl hl.1 rfl (Nat.le_of_ble_eq_true rfl) dX12_stands_99 ⟨Nat.le_of_ble_eq_true rfl, Nat.le_of_ble_eq_true rfl⟩ (fun v27 kp27 L27 E27 H locs hq27 hx27 TH hS => ?_)
              obtain ⟨⟨xc28, rfl, hxc28a, hxc28b, hpoxc28_0⟩, rfl, rfl, rfl⟩ := hq27
              refine W.eq (g2 := F0 m 102 ls [.int xc28]) rfl ?_
              refine lv_iload hx hb dX12_stands_102 (lv_at hl 0 rfl) ?_
              refine lv_icmp_ne (tgt := 111) hx hb dX12_stands_104 (by decide) (fun hc29 => ?_) (fun hc29 => ?_)
              · have hf30 : ¬ (xc28.toInt = x3.toInt) := fun q => hc29 ((fa_eq _ _).mpr (by  omega))
                refine lv_iconst (v := 0) hx hb dX12_stands_111 (by decide) ?_
                exact tw_zret hx hb hr hlocks (by decide) TH hS hex ⟨⟨_, rfl, (show 0 ≤ Int32.toInt 0 from by have : ((0 : Int32).toInt) = 0 := (by decide); omega), (show Int32.toInt 0 ≤ 1 from by have : ((0 : Int32).toInt) = 0 := (by decide); omega), (by have : ((0 : Int32).toInt) = 0 := (by decide); have rf_xe3 : rw_h E a0 (x2.toInt) (x1.toInt).toNat = xe3.toInt := rw_h_of (m := a0) (i := x2) (c := x1) hxr1 exr2 exe3; have rf_xe12 : rw_h E a0 (x3.toInt) (x1.toInt).toNat = xe12.toInt := rw_h_of (m := a0) (i := x3) (c := x1) hxr1 exr11 exe12; have rf_xe16 : rw_h E a0 (x4.toInt) (x1.toInt).toNat = xe16.toInt := rw_h_of (m := a0) (i := x4) (c := x1) hxr1 exr15 exe16; intro a1 a2; (try rw [rf_xe3] at a1); (try rw [rf_xe3] at a2); (try rw [rf_xe12] at a1); (try rw [rf_xe12] at a2); (try rw [rf_xe16] at a1); (try rw [rf_xe16] at a2); omega)⟩, rfl, rfl, rfl⟩ (Nat.le_of_ble_eq_true rfl) (Nat.le_of_ble_eq_true rfl) dX12_stands_112
              · have hf31 : xc28.toInt = x3.toInt := by have z := (fa_eq _ _).mp hc29;  omega
                refine lv_iconst (v := 1) hx hb dX12_stands_107 (by decide) ?_
                refine lv_goto (tgt := 112) hx hb dX12_stands_108 (by decide) ?_
                exact tw_zret hx hb hr hlocks (by decide) TH hS hex ⟨⟨_, rfl, (show 0 ≤ Int32.toInt 1 from by have : ((1 : Int32).toInt) = 1 := (by decide); omega), (show Int32.toInt 1 ≤ 1 from by have : ((1 : Int32).toInt) = 1 := (by decide); omega), (by have : ((1 : Int32).toInt) = 1 := (by decide); have rf_xe3 : rw_h E a0 (x2.toInt) (x1.toInt).toNat = xe3.toInt := rw_h_of (m := a0) (i := x2) (c := x1) hxr1 exr2 exe3; have rf_xe12 : rw_h E a0 (x3.toInt) (x1.toInt).toNat = xe12.toInt := rw_h_of (m := a0) (i := x3) (c := x1) hxr1 exr11 exe12; have rf_xe16 : rw_h E a0 (x4.toInt) (x1.toInt).toNat = xe16.toInt := rw_h_of (m := a0) (i := x4) (c := x1) hxr1 exr15 exe16; intro a1 a2; (try rw [rf_xe3] at a1); (try rw [rf_xe3] at a2); (try rw [rf_xe12] at a1); (try rw [rf_xe12] at a2); (try rw [rf_xe16] at a1); (try rw [rf_xe16] at a2); omega)⟩, rfl, rfl, rfl⟩ (Nat.le_of_ble_eq_true rfl) (Nat.le_of_ble_eq_true rfl) dX12_stands_112
            · have hf32 : xc24.toInt = 0 := by have z := (fa_eq _ _).mp hc25; have : ((0 : Int32).toInt) = 0 := (by decide); omega
              refine lv_iconst (v := 0) hx hb dX12_stands_92 (by decide) ?_
              exact tw_zret hx hb hr hlocks (by decide) TH hS hex ⟨⟨_, rfl, (show 0 ≤ Int32.toInt 0 from by have : ((0 : Int32).toInt) = 0 := (by decide); omega), (show Int32.toInt 0 ≤ 1 from by have : ((0 : Int32).toInt) = 0 := (by decide); omega), (by have : ((0 : Int32).toInt) = 0 := (by decide); have rf_xe3 : rw_h E a0 (x2.toInt) (x1.toInt).toNat = xe3.toInt := rw_h_of (m := a0) (i := x2) (c := x1) hxr1 exr2 exe3; have rf_xe12 : rw_h E a0 (x3.toInt) (x1.toInt).toNat = xe12.toInt := rw_h_of (m := a0) (i := x3) (c := x1) hxr1 exr11 exe12; have rf_xe16 : rw_h E a0 (x4.toInt) (x1.toInt).toNat = xe16.toInt := rw_h_of (m := a0) (i := x4) (c := x1) hxr1 exr15 exe16; intro a1 a2; (try rw [rf_xe3] at a1); (try rw [rf_xe3] at a2); (try rw [rf_xe12] at a1); (try rw [rf_xe12] at a2); (try rw [rf_xe16] at a1); (try rw [rf_xe16] at a2); omega)⟩, rfl, rfl, rfl⟩ (Nat.le_of_ble_eq_true rfl) (Nat.le_of_ble_eq_true rfl) dX12_stands_93
          · have hf33 : ¬ (xe3.toInt = 0) := fun q => hc21 ((fa_eq _ _).mpr (by have : ((0 : Int32).toInt) = 0 := (by decide); omega))
            exfalso; omega
        · have hf34 : xe16.toInt = 0 := by have z := (fa_eq _ _).mp hc17; have : ((0 : Int32).toInt) = 0 := (by decide); omega
          refine lv_iconst (v := 1) hx hb dX12_stands_60 (by decide) ?_
          exact tw_zret hx hb hr hlocks (by decide) TH hS hex ⟨⟨_, rfl, (show 0 ≤ Int32.toInt 1 from by have : ((1 : Int32).toInt) = 1 := (by decide); omega), (show Int32.toInt 1 ≤ 1 from by have : ((1 : Int32).toInt) = 1 := (by decide); omega), (by have : ((1 : Int32).toInt) = 1 := (by decide); have rf_xe3 : rw_h E a0 (x2.toInt) (x1.toInt).toNat = xe3.toInt := rw_h_of (m := a0) (i := x2) (c := x1) hxr1 exr2 exe3; have rf_xe12 : rw_h E a0 (x3.toInt) (x1.toInt).toNat = xe12.toInt := rw_h_of (m := a0) (i := x3) (c := x1) hxr1 exr11 exe12; have rf_xe16 : rw_h E a0 (x4.toInt) (x1.toInt).toNat = xe16.toInt := rw_h_of (m := a0) (i := x4) (c := x1) hxr1 exr15 exe16; intro a1 a2; (try rw [rf_xe3] at a1); (try rw [rf_xe3] at a2); (try rw [rf_xe12] at a1); (try rw [rf_xe12] at a2); (try rw [rf_xe16] at a1); (try rw [rf_xe16] at a2); omega)⟩, rfl, rfl, rfl⟩ (Nat.le_of_ble_eq_true rfl) (Nat.le_of_ble_eq_true rfl) dX12_stands_61
      · have hf35 : xe12.toInt = 0 := by have z := (fa_eq _ _).mp hc13; have : ((0 : Int32).toInt) = 0 := (by decide); omega
        refine lv_iconst (v := 0) hx hb dX12_stands_46 (by decide) ?_
        exact tw_zret hx hb hr hlocks (by decide) TH hS hex ⟨⟨_, rfl, (show 0 ≤ Int32.toInt 0 from by have : ((0 : Int32).toInt) = 0 := (by decide); omega), (show Int32.toInt 0 ≤ 1 from by have : ((0 : Int32).toInt) = 0 := (by decide); omega), (by have : ((0 : Int32).toInt) = 0 := (by decide); have rf_xe3 : rw_h E a0 (x2.toInt) (x1.toInt).toNat = xe3.toInt := rw_h_of (m := a0) (i := x2) (c := x1) hxr1 exr2 exe3; have rf_xe12 : rw_h E a0 (x3.toInt) (x1.toInt).toNat = xe12.toInt := rw_h_of (m := a0) (i := x3) (c := x1) hxr1 exr11 exe12; intro a1 a2; (try rw [rf_xe3] at a1); (try rw [rf_xe3] at a2); (try rw [rf_xe12] at a1); (try rw [rf_xe12] at a2); omega)⟩, rfl, rfl, rfl⟩ (Nat.le_of_ble_eq_true rfl) (Nat.le_of_ble_eq_true rfl) dX12_stands_47
  · have hf36 : ¬ (xe3.toInt = 0) := fun q => hc4 ((fa_eq _ _).mpr (by have : ((0 : Int32).toInt) = 0 := (by decide); omega))
    refine lv_aload_n hx hb dX12_stands_11 rfl (lv_at hl 0 rfl) ?_
    refine tw_get (ci := 12) (C := RX12) (T := TX12) (N := 64) hx hb hB cx_inX12 hown hK TH hm0 hk0 rfl ⟨by decide, rfl⟩ 16 (by decide) cw_1209 (fun _ h9 => h9) dX12_stands_12 (fun hv => ?_)
    rw [hxr1]
    refine lv_iload_n hx hb dX12_stands_15 rfl (lv_at hl 3 rfl) ?_
    refine tw_aald (k := 316) (t0 := 5) (n := 16) (lo := 326) (hi := 0) (ty := .boolean) hx hb hK TH hmxr1 hkxr1 (by decide) rfl rfl (i := x3) (vp_in_iff.mpr ⟨by  omega, by  omega⟩) dX12_stands_16 (fun xr37 exr37 hmxr37 hkxr37 => ?_)
    have hkxr37 : kp xr37 = 326 := hkxr37
    refine lv_iload_n hx hb dX12_stands_17 rfl (lv_at hl 1 rfl) ?_
    refine tw_zald (k := 326) (t0 := 3) (n := 150) (lo := 0) (hi := 1) hx hb hK TH hmxr37 hkxr37 (by decide) rfl rfl (i := x1) (vp_in_iff.mpr ⟨by  omega, by  omega⟩) dX12_stands_18 (fun hxe38a hxe38b => ?_)
    obtain ⟨xe38, exe38⟩ : ∃ z : Int32, tw_iv E xr37 (Int32.toNatClampNeg x1) = z := ⟨_, rfl⟩
    rw [exe38] at hxe38a hxe38b ⊢
    refine lv_if_eq (tgt := 24) hx hb dX12_stands_19 (by decide) (fun hc39 => ?_) (fun hc39 => ?_)
    · have hf40 : xe38.toInt = 0 := by have z := (fa_eq _ _).mp hc39; have : ((0 : Int32).toInt) = 0 := (by decide); omega
      refine lv_aload_n hx hb dX12_stands_24 rfl (lv_at hl 0 rfl) ?_
      refine tw_get (ci := 12) (C := RX12) (T := TX12) (N := 64) hx hb hB cx_inX12 hown hK TH hm0 hk0 rfl ⟨by decide, rfl⟩ 16 (by decide) cw_1209 (fun _ h9 => h9) dX12_stands_25 (fun hv => ?_)
      rw [hxr1]
      refine lv_iload_n hx hb dX12_stands_28 rfl (lv_at hl 2 rfl) ?_
      refine tw_aald (k := 316) (t0 := 5) (n := 16) (lo := 326) (hi := 0) (ty := .boolean) hx hb hK TH hmxr1 hkxr1 (by decide) rfl rfl (i := x2) (vp_in_iff.mpr ⟨by  omega, by  omega⟩) dX12_stands_29 (fun xr41 exr41 hmxr41 hkxr41 => ?_)
      have ezxr41 : xr2 = xr41 := exr2.symm.trans exr41
      subst ezxr41
      refine lv_iload_n hx hb dX12_stands_30 rfl (lv_at hl 1 rfl) ?_
      refine tw_zald (k := 326) (t0 := 3) (n := 150) (lo := 0) (hi := 1) hx hb hK TH hmxr2 hkxr2 (by decide) rfl rfl (i := x1) (vp_in_iff.mpr ⟨by  omega, by  omega⟩) dX12_stands_31 (fun hxe42a hxe42b => ?_)
      rw [exe3]
      refine lv_if_ne (tgt := 48) hx hb dX12_stands_32 (by decide) (fun hc43 => ?_) (fun hc43 => ?_)
      · have hf44 : ¬ (xe3.toInt = 0) := fun q => hc43 ((fa_eq _ _).mpr (by have : ((0 : Int32).toInt) = 0 := (by decide); omega))
        refine lv_aload_n hx hb dX12_stands_48 rfl (lv_at hl 0 rfl) ?_
        refine tw_get (ci := 12) (C := RX12) (T := TX12) (N := 64) hx hb hB cx_inX12 hown hK TH hm0 hk0 rfl ⟨by decide, rfl⟩ 16 (by decide) cw_1209 (fun _ h9 => h9) dX12_stands_49 (fun hv => ?_)
        rw [hxr1]
        refine lv_iload hx hb dX12_stands_52 (lv_at hl 4 rfl) ?_
        refine tw_aald (k := 316) (t0 := 5) (n := 16) (lo := 326) (hi := 0) (ty := .boolean) hx hb hK TH hmxr1 hkxr1 (by decide) rfl rfl (i := x4) (vp_in_iff.mpr ⟨by  omega, by  omega⟩) dX12_stands_54 (fun xr45 exr45 hmxr45 hkxr45 => ?_)
        have hkxr45 : kp xr45 = 326 := hkxr45
        refine lv_iload_n hx hb dX12_stands_55 rfl (lv_at hl 1 rfl) ?_
        refine tw_zald (k := 326) (t0 := 3) (n := 150) (lo := 0) (hi := 1) hx hb hK TH hmxr45 hkxr45 (by decide) rfl rfl (i := x1) (vp_in_iff.mpr ⟨by  omega, by  omega⟩) dX12_stands_56 (fun hxe46a hxe46b => ?_)
        obtain ⟨xe46, exe46⟩ : ∃ z : Int32, tw_iv E xr45 (Int32.toNatClampNeg x1) = z := ⟨_, rfl⟩
        rw [exe46] at hxe46a hxe46b ⊢
        refine lv_if_ne (tgt := 62) hx hb dX12_stands_57 (by decide) (fun hc47 => ?_) (fun hc47 => ?_)
        · have hf48 : ¬ (xe46.toInt = 0) := fun q => hc47 ((fa_eq _ _).mpr (by have : ((0 : Int32).toInt) = 0 := (by decide); omega))
          refine lv_aload_n hx hb dX12_stands_62 rfl (lv_at hl 0 rfl) ?_
          refine tw_get (ci := 12) (C := RX12) (T := TX12) (N := 64) hx hb hB cx_inX12 hown hK TH hm0 hk0 rfl ⟨by decide, rfl⟩ 16 (by decide) cw_1209 (fun _ h9 => h9) dX12_stands_63 (fun hv => ?_)
          rw [hxr1]
          refine lv_iload_n hx hb dX12_stands_66 rfl (lv_at hl 2 rfl) ?_
          refine tw_aald (k := 316) (t0 := 5) (n := 16) (lo := 326) (hi := 0) (ty := .boolean) hx hb hK TH hmxr1 hkxr1 (by decide) rfl rfl (i := x2) (vp_in_iff.mpr ⟨by  omega, by  omega⟩) dX12_stands_67 (fun xr49 exr49 hmxr49 hkxr49 => ?_)
          have ezxr49 : xr2 = xr49 := exr2.symm.trans exr49
          subst ezxr49
          refine lv_iload_n hx hb dX12_stands_68 rfl (lv_at hl 1 rfl) ?_
          refine tw_zald (k := 326) (t0 := 3) (n := 150) (lo := 0) (hi := 1) hx hb hK TH hmxr2 hkxr2 (by decide) rfl rfl (i := x1) (vp_in_iff.mpr ⟨by  omega, by  omega⟩) dX12_stands_69 (fun hxe50a hxe50b => ?_)
          rw [exe3]
          refine lv_if_eq (tgt := 77) hx hb dX12_stands_70 (by decide) (fun hc51 => ?_) (fun hc51 => ?_)
          · have hf52 : xe3.toInt = 0 := by have z := (fa_eq _ _).mp hc51; have : ((0 : Int32).toInt) = 0 := (by decide); omega
            exfalso; omega
          · have hf53 : ¬ (xe3.toInt = 0) := fun q => hc51 ((fa_eq _ _).mpr (by have : ((0 : Int32).toInt) = 0 := (by decide); omega))
            refine lv_iload_n hx hb dX12_stands_73 rfl (lv_at hl 2 rfl) ?_
            refine lv_goto (tgt := 78) hx hb dX12_stands_74 (by decide) ?_
            refine lv_istore (lv' := [(5, .int x2), (0, .ref a0), (1, .int x1), (2, .int x2), (3, .int x3), (4, .int x4)]) hx hb dX12_stands_78 hl (by decide) rfl (fun ls hl => ?_)
            refine lv_aload_n hx hb dX12_stands_80 rfl (lv_at hl 1 rfl) ?_
            refine lv_iload hx hb dX12_stands_81 (lv_at hl 0 rfl) ?_
            refine lv_iload_n hx hb dX12_stands_83 rfl (lv_at hl 2 rfl) ?_
            refine lv_iload hx hb dX12_stands_84 (lv_at hl 5 rfl) ?_
            refine tw_Vc (o := a0) (ci := 12) (n := 3) (post := (fun v kq Lq Eq => (∃ x : Int32, v = some (.int x) ∧ 0 ≤ x.toInt ∧ x.toInt ≤ 1) ∧ kp = kq ∧ L = Lq ∧ E = Eq)) (As := [.int x2, .int x1, .int x4]) (rest := []) ⟨hx, hb, hml, hown, hB⟩ (fun sz => tX12_isTouched l D cs a0 x2 x1 x4 hm0 hk0 (by omega) (by omega) (by omega) (by omega) hg0 sz) cg_12_465_X12_isTouched rfl rfl (by decide +kernel) ⟨Nat.le_of_ble_eq_true rfl, Nat.le_of_ble_eq_true rfl⟩ hK hN TH hS hA rfl hm0 hk0 (by decide) rfl hl.1 rfl (Nat.le_of_ble_eq_true rfl) dX12_stands_86 ⟨Nat.le_of_ble_eq_true rfl, Nat.le_of_ble_eq_true rfl⟩ (fun v54 kp54 L54 E54 H locs hq54 hx54 TH hS => ?_)
            obtain ⟨⟨xc55, rfl, hxc55a, hxc55b⟩, rfl, rfl, rfl⟩ := hq54
            refine W.eq (g2 := F0 m 89 ls [.int xc55]) rfl ?_
            refine lv_if_ne (tgt := 94) hx hb dX12_stands_89 (by decide) (fun hc56 => ?_) (fun hc56 => ?_)
            · have hf57 : ¬ (xc55.toInt = 0) := fun q => hc56 ((fa_eq _ _).mpr (by have : ((0 : Int32).toInt) = 0 := (by decide); omega))
              refine lv_aload_n hx hb dX12_stands_94 rfl (lv_at hl 1 rfl) ?_
              refine lv_iload_n hx hb dX12_stands_95 rfl (lv_at hl 2 rfl) ?_
              refine lv_iconst (v := 1) hx hb dX12_stands_96 (by decide) ?_
              refine lv_iload_n hx hb dX12_stands_97 rfl (lv_at hl 3 rfl) ?_
              refine lv_iload_n hx hb dX12_stands_98 rfl (lv_at hl 4 rfl) ?_
              refine tw_Vc (o := a0) (ci := 12) (n := 4) (post := (fun v kq Lq Eq => (∃ x : Int32, v = some (.int x) ∧ (-1) ≤ x.toInt ∧ x.toInt ≤ 11 ∧ (x.toInt = -1 ↔ st_ns E a0 x1.toInt (1 : Int32).toInt x2.toInt x3.toInt)) ∧ kp = kq ∧ L = Lq ∧ E = Eq)) (As := [.int x1, .int 1, .int x2, .int x3]) (rest := []) ⟨hx, hb, hml, hown, hB⟩ (fun sz => tX12_settledFor l D cs a0 x1 (1 : Int32) x2 x3 hm0 hk0 sz) cg_12_461_X12_settledFor rfl rfl (by decide +kernel) ⟨Nat.le_of_ble_eq_true rfl, Nat.le_of_ble_eq_true rfl⟩ hK hN TH hS hA rfl hm0 hk0 (by decide) rfl hl.1 rfl (Nat.le_of_ble_eq_true rfl) dX12_stands_99 ⟨Nat.le_of_ble_eq_true rfl, Nat.le_of_ble_eq_true rfl⟩ (fun v58 kp58 L58 E58 H locs hq58 hx58 TH hS => ?_)
              obtain ⟨⟨xc59, rfl, hxc59a, hxc59b, hpoxc59_0⟩, rfl, rfl, rfl⟩ := hq58
              refine W.eq (g2 := F0 m 102 ls [.int xc59]) rfl ?_
              refine lv_iload hx hb dX12_stands_102 (lv_at hl 0 rfl) ?_
              refine lv_icmp_ne (tgt := 111) hx hb dX12_stands_104 (by decide) (fun hc60 => ?_) (fun hc60 => ?_)
              · have hf61 : ¬ (xc59.toInt = x2.toInt) := fun q => hc60 ((fa_eq _ _).mpr (by  omega))
                refine lv_iconst (v := 0) hx hb dX12_stands_111 (by decide) ?_
                exact tw_zret hx hb hr hlocks (by decide) TH hS hex ⟨⟨_, rfl, (show 0 ≤ Int32.toInt 0 from by have : ((0 : Int32).toInt) = 0 := (by decide); omega), (show Int32.toInt 0 ≤ 1 from by have : ((0 : Int32).toInt) = 0 := (by decide); omega), (by have : ((0 : Int32).toInt) = 0 := (by decide); have rf_xe3 : rw_h E a0 (x2.toInt) (x1.toInt).toNat = xe3.toInt := rw_h_of (m := a0) (i := x2) (c := x1) hxr1 exr2 exe3; have rf_xe38 : rw_h E a0 (x3.toInt) (x1.toInt).toNat = xe38.toInt := rw_h_of (m := a0) (i := x3) (c := x1) hxr1 exr37 exe38; have rf_xe46 : rw_h E a0 (x4.toInt) (x1.toInt).toNat = xe46.toInt := rw_h_of (m := a0) (i := x4) (c := x1) hxr1 exr45 exe46; intro a1 a2; (try rw [rf_xe3] at a1); (try rw [rf_xe3] at a2); (try rw [rf_xe38] at a1); (try rw [rf_xe38] at a2); (try rw [rf_xe46] at a1); (try rw [rf_xe46] at a2); omega)⟩, rfl, rfl, rfl⟩ (Nat.le_of_ble_eq_true rfl) (Nat.le_of_ble_eq_true rfl) dX12_stands_112
              · have hf62 : xc59.toInt = x2.toInt := by have z := (fa_eq _ _).mp hc60;  omega
                refine lv_iconst (v := 1) hx hb dX12_stands_107 (by decide) ?_
                refine lv_goto (tgt := 112) hx hb dX12_stands_108 (by decide) ?_
                exact tw_zret hx hb hr hlocks (by decide) TH hS hex ⟨⟨_, rfl, (show 0 ≤ Int32.toInt 1 from by have : ((1 : Int32).toInt) = 1 := (by decide); omega), (show Int32.toInt 1 ≤ 1 from by have : ((1 : Int32).toInt) = 1 := (by decide); omega), (by have : ((1 : Int32).toInt) = 1 := (by decide); have rf_xe3 : rw_h E a0 (x2.toInt) (x1.toInt).toNat = xe3.toInt := rw_h_of (m := a0) (i := x2) (c := x1) hxr1 exr2 exe3; have rf_xe38 : rw_h E a0 (x3.toInt) (x1.toInt).toNat = xe38.toInt := rw_h_of (m := a0) (i := x3) (c := x1) hxr1 exr37 exe38; have rf_xe46 : rw_h E a0 (x4.toInt) (x1.toInt).toNat = xe46.toInt := rw_h_of (m := a0) (i := x4) (c := x1) hxr1 exr45 exe46; intro a1 a2; (try rw [rf_xe3] at a1); (try rw [rf_xe3] at a2); (try rw [rf_xe38] at a1); (try rw [rf_xe38] at a2); (try rw [rf_xe46] at a1); (try rw [rf_xe46] at a2); omega)⟩, rfl, rfl, rfl⟩ (Nat.le_of_ble_eq_true rfl) (Nat.le_of_ble_eq_true rfl) dX12_stands_112
            · have hf63 : xc55.toInt = 0 := by have z := (fa_eq _ _).mp hc56; have : ((0 : Int32).toInt) = 0 := (by decide); omega
              refine lv_iconst (v := 0) hx hb dX12_stands_92 (by decide) ?_
              exact tw_zret hx hb hr hlocks (by decide) TH hS hex ⟨⟨_, rfl, (show 0 ≤ Int32.toInt 0 from by have : ((0 : Int32).toInt) = 0 := (by decide); omega), (show Int32.toInt 0 ≤ 1 from by have : ((0 : Int32).toInt) = 0 := (by decide); omega), (by have : ((0 : Int32).toInt) = 0 := (by decide); have rf_xe3 : rw_h E a0 (x2.toInt) (x1.toInt).toNat = xe3.toInt := rw_h_of (m := a0) (i := x2) (c := x1) hxr1 exr2 exe3; have rf_xe38 : rw_h E a0 (x3.toInt) (x1.toInt).toNat = xe38.toInt := rw_h_of (m := a0) (i := x3) (c := x1) hxr1 exr37 exe38; have rf_xe46 : rw_h E a0 (x4.toInt) (x1.toInt).toNat = xe46.toInt := rw_h_of (m := a0) (i := x4) (c := x1) hxr1 exr45 exe46; intro a1 a2; (try rw [rf_xe3] at a1); (try rw [rf_xe3] at a2); (try rw [rf_xe38] at a1); (try rw [rf_xe38] at a2); (try rw [rf_xe46] at a1); (try rw [rf_xe46] at a2); omega)⟩, rfl, rfl, rfl⟩ (Nat.le_of_ble_eq_true rfl) (Nat.le_of_ble_eq_true rfl) dX12_stands_93
        · have hf64 : xe46.toInt = 0 := by have z := (fa_eq _ _).mp hc47; have : ((0 : Int32).toInt) = 0 := (by decide); omega
          refine lv_iconst (v := 1) hx hb dX12_stands_60 (by decide) ?_
          exact tw_zret hx hb hr hlocks (by decide) TH hS hex ⟨⟨_, rfl, (show 0 ≤ Int32.toInt 1 from by have : ((1 : Int32).toInt) = 1 := (by decide); omega), (show Int32.toInt 1 ≤ 1 from by have : ((1 : Int32).toInt) = 1 := (by decide); omega), (by have : ((1 : Int32).toInt) = 1 := (by decide); have rf_xe3 : rw_h E a0 (x2.toInt) (x1.toInt).toNat = xe3.toInt := rw_h_of (m := a0) (i := x2) (c := x1) hxr1 exr2 exe3; have rf_xe38 : rw_h E a0 (x3.toInt) (x1.toInt).toNat = xe38.toInt := rw_h_of (m := a0) (i := x3) (c := x1) hxr1 exr37 exe38; have rf_xe46 : rw_h E a0 (x4.toInt) (x1.toInt).toNat = xe46.toInt := rw_h_of (m := a0) (i := x4) (c := x1) hxr1 exr45 exe46; intro a1 a2; (try rw [rf_xe3] at a1); (try rw [rf_xe3] at a2); (try rw [rf_xe38] at a1); (try rw [rf_xe38] at a2); (try rw [rf_xe46] at a1); (try rw [rf_xe46] at a2); omega)⟩, rfl, rfl, rfl⟩ (Nat.le_of_ble_eq_true rfl) (Nat.le_of_ble_eq_true rfl) dX12_stands_61
      · have hf65 : xe3.toInt = 0 := by have z := (fa_eq _ _).mp hc43; have : ((0 : Int32).toInt) = 0 := (by decide); omega
        exfalso; omega
    · have hf66 : ¬ (xe38.toInt = 0) := fun q => hc39 ((fa_eq _ _).mpr (by have : ((0 : Int32).toInt) = 0 := (by decide); omega))
      refine lv_iconst (v := 1) hx hb dX12_stands_22 (by decide) ?_
      exact tw_zret hx hb hr hlocks (by decide) TH hS hex ⟨⟨_, rfl, (show 0 ≤ Int32.toInt 1 from by have : ((1 : Int32).toInt) = 1 := (by decide); omega), (show Int32.toInt 1 ≤ 1 from by have : ((1 : Int32).toInt) = 1 := (by decide); omega), (by have : ((1 : Int32).toInt) = 1 := (by decide); have rf_xe3 : rw_h E a0 (x2.toInt) (x1.toInt).toNat = xe3.toInt := rw_h_of (m := a0) (i := x2) (c := x1) hxr1 exr2 exe3; have rf_xe38 : rw_h E a0 (x3.toInt) (x1.toInt).toNat = xe38.toInt := rw_h_of (m := a0) (i := x3) (c := x1) hxr1 exr37 exe38; intro a1 a2; (try rw [rf_xe3] at a1); (try rw [rf_xe3] at a2); (try rw [rf_xe38] at a1); (try rw [rf_xe38] at a2); omega)⟩, rfl, rfl, rfl⟩ (Nat.le_of_ble_eq_true rfl) (Nat.le_of_ble_eq_true rfl) dX12_stands_23
set_option maxHeartbeats 4000000 in
set_option maxRecDepth 100000 in
theorem tX12_firstQuarrels (l : Launch) (D : va_G) (cs : Nat → ClassId) {kp : Nat → Nat} {L : List Nat} {E : Nat → va_E} (a0 : Nat) (x1 : Int32) (x2 : Int32) (x3 : Int32) (hm0 : a0 ∈ L) (hk0 : kp a0 = 12) (hp1a : 0 ≤ x1.toInt) (hp1b : x1.toInt ≤ 15) (hp2a : 0 ≤ x2.toInt) (hp2b : x2.toInt ≤ 15) (hp3a : 0 ≤ x3.toInt) (hp3b : x3.toInt ≤ 15) (hg0 : rw_ok E a0 (x1.toInt)) (hg1 : rw_ok E a0 (x2.toInt)) (sz : Nat) : Met l yX12_firstQuarrels (.code yX12_firstQuarrels cX12_firstQuarrels 6 none :: cx_big) { frames := 2, cells := 0, slots := 0, locals := 52 } (tw_P D cs kp L E [.ref a0, .int x1, .int x2, .int x3] sz) (tw_Q D cs kp L (fun v kq Lq Eq => v = none ∧ kp = kq ∧ L = Lq ∧ tw_fr kp L [(12, 57)] [359] E Eq ∧ (tw_fi Eq a0 57 = 0 → fq_ok E a0 x1.toInt x2.toInt x3.toInt 4 0) ∧ (∃ z0 : Int32, tw_fv Eq a0 57 = .int z0 ∧ (z0.toInt ≤ 450))) (va_A (va_pl L E) sz)) 0 0 (va_A (va_pl L E) sz) := by
  refine tw_ofW (by decide) (Nat.le_of_ble_eq_true rfl) ?_
  intro p e s m below meth c A ls hx hb hr hml hB hown hlocks hK hN hA TH hS hl
  have hown : s.vm.findClass "TreeMergeModel" = some m.cls := hown
  have hl : lv_has ls 6 [(0, .ref a0), (1, .int x1), (2, .int x2), (3, .int x3)] := hl
  obtain ⟨kp0, ekp⟩ : ∃ z, z = kp := ⟨_, rfl⟩
  obtain ⟨L0, eL⟩ : ∃ z, z = L := ⟨_, rfl⟩
  rw [show tw_Q D cs kp L = tw_Q D cs kp0 L0 by rw [ekp, eL]]
  have hex : ∀ a : Nat, a ∈ L0 → a ∈ L ∧ kp a = kp0 a := fun a h => ⟨by rw [← eL]; exact h, by rw [ekp]⟩
  have hF : tw_fr kp L [(12, 57)] [359] E E := tw_fr.rf
  refine lv_aload_n hx hb dX12_firstQuarrels_0 rfl (lv_at hl 0 rfl) ?_
  refine lv_iconst (v := 0) hx hb dX12_firstQuarrels_1 (by decide) ?_
  refine tw_put (ci := 12) (v := .int 0) (ty := .int) (C := RX12) (T := TX12) (N := 64) hx hb hB cx_inX12 tyX12 tyX12_ok nmX12 hown hK TH hS hm0 hk0 rfl ⟨by decide, rfl⟩ 57 (by decide) cw_1250 (fun _ h9 => h9) rfl (by decide +kernel) rfl rfl ⟨_, rfl, (show 0 ≤ Int32.toInt 0 from by have : ((0 : Int32).toInt) = 0 := (by decide); omega), (show Int32.toInt 0 ≤ 1200 from by have : ((0 : Int32).toInt) = 0 := (by decide); omega)⟩ dX12_firstQuarrels_2 (fun H locs E1 TH hS hmf5 hp2 hp3 => ?_)
  have hst4 : tw_fr kp L [(12, 57)] [] E E1 := tw_fr.put tw_fr.rf (fun _ => hk0) (by decide) hp2 hp3 (by decide)
  have hF := hF.tr hst4 (fun _ h => ⟨h, rfl⟩) (by decide) (by decide)
  have hg0 : rw_ok E1 a0 (x1.toInt) := rw_ok_fr TH hst4 hm0 hk0 (by decide) (by decide) (by omega) hg0
  have hg1 : rw_ok E1 a0 (x2.toInt) := rw_ok_fr TH hst4 hm0 hk0 (by decide) (by decide) (by omega) hg1
  refine lv_iconst (v := 0) hx hb dX12_firstQuarrels_5 (by decide) ?_
  refine lv_istore (lv' := [(4, .int 0), (0, .ref a0), (1, .int x1), (2, .int x2), (3, .int x3)]) hx hb dX12_firstQuarrels_6 hl (by decide) rfl (fun ls hl => ?_)
  have hJ8 : ∀ (n8 : Nat) (y8_4 : Int32) (u8_0_57 : Int32) (Eg8 : Nat → va_E) (H : Heap) (locs : List Loc) (ls : Array Slot), 0 ≤ y8_4.toInt → y8_4.toInt ≤ 150 → 0 ≤ u8_0_57.toInt → u8_0_57.toInt ≤ 1200 → (u8_0_57.toInt ≤ y8_4.toInt) → 150 - y8_4.toInt ≤ (n8 : Int) → tw_fv Eg8 a0 57 = .int u8_0_57 → tw_fr kp L [(12, 57)] [359] E1 Eg8 → rw_ok Eg8 a0 (x1.toInt) → rw_ok Eg8 a0 (x2.toInt) → tw_H D cs kp L Eg8 A H → va_S A s.heap H locs → lv_has ls 6 [(4, .int y8_4), (0, .ref a0), (1, .int x1), (2, .int x2), (3, .int x3)] → W p l e { frames := 2, cells := 0, slots := 0, locals := 52 } s m [.ref a0, .int x1, .int x2, .int x3].toArray below meth c H locs 0 0 (MQ below (tw_Q D cs kp0 L0 (fun v kq Lq Eq => v = none ∧ kp = kq ∧ L = Lq ∧ tw_fr kp L [(12, 57)] [359] E Eq ∧ (tw_fi Eq a0 57 = 0 → fq_ok E a0 x1.toInt x2.toInt x3.toInt 4 0) ∧ (∃ z0 : Int32, tw_fv Eq a0 57 = .int z0 ∧ (z0.toInt ≤ 450))) A) [.ref a0, .int x1, .int x2, .int x3].toArray s 0 0 A) (F0 m 8 ls []) := by
    intro n8
    induction n8 using Nat.strongRecOn with
    | _ n8 ih8 =>
      intro y8_4 u8_0_57 Eg8 H locs ls hy8_4a hy8_4b hu8_0_57a hu8_0_57b hin8_0 hmeas8 hfm8_0 hG8 hg0 hg1 TH hS hl
      have hF := hF.tr hG8 (fun _ h => ⟨h, rfl⟩) (by decide) (by decide)
      refine lv_iload hx hb dX12_firstQuarrels_8 (lv_at hl 0 rfl) ?_
      refine lv_aload_n hx hb dX12_firstQuarrels_10 rfl (lv_at hl 1 rfl) ?_
      refine tw_get (ci := 12) (C := RX12) (T := TX12) (N := 64) hx hb hB cx_inX12 hown hK TH hm0 hk0 rfl ⟨by decide, rfl⟩ 26 (by decide) cw_1219 (fun _ h9 => h9) dX12_firstQuarrels_11 (fun hv => ?_)
      obtain ⟨xi6, hxi6, hxi6a, hxi6b⟩ : ∃ x : Int32, tw_fv Eg8 a0 26 = .int x ∧ 0 ≤ x.toInt ∧ x.toInt ≤ 150 := hv
      rw [hxi6]
      refine lv_icmp_ge (tgt := 106) hx hb dX12_firstQuarrels_14 (by decide) (fun hc7 => ?_) (fun hc7 => ?_)
      · have hf8 : xi6.toInt ≤ y8_4.toInt := by have z := (fa_le _ _).mp hc7;  omega
        refine lv_iconst (v := 2) hx hb dX12_firstQuarrels_106 (by decide) ?_
        refine lv_istore (lv' := [(4, .int 2), (0, .ref a0), (1, .int x1), (2, .int x2), (3, .int x3)]) hx hb dX12_firstQuarrels_107 hl (by decide) rfl (fun ls hl => ?_)
        have hJ109 : ∀ (n109 : Nat) (y109_4 : Int32) (u109_0_57 : Int32) (Eg109 : Nat → va_E) (H : Heap) (locs : List Loc) (ls : Array Slot), 2 ≤ y109_4.toInt → y109_4.toInt ≤ 4 → 0 ≤ u109_0_57.toInt → u109_0_57.toInt ≤ 1200 → (u109_0_57.toInt ≤ 150 * y109_4.toInt - 150) → (u109_0_57.toInt = 0 → fq_ok E a0 (x1.toInt) (x2.toInt) (x3.toInt) (y109_4.toInt) 0) → 4 - y109_4.toInt ≤ (n109 : Int) → tw_fv Eg109 a0 57 = .int u109_0_57 → tw_fr kp L [(12, 57)] [359] Eg8 Eg109 → rw_ok Eg109 a0 (x1.toInt) → rw_ok Eg109 a0 (x2.toInt) → tw_H D cs kp L Eg109 A H → va_S A s.heap H locs → lv_has ls 6 [(4, .int y109_4), (0, .ref a0), (1, .int x1), (2, .int x2), (3, .int x3)] → W p l e { frames := 2, cells := 0, slots := 0, locals := 52 } s m [.ref a0, .int x1, .int x2, .int x3].toArray below meth c H locs 0 0 (MQ below (tw_Q D cs kp0 L0 (fun v kq Lq Eq => v = none ∧ kp = kq ∧ L = Lq ∧ tw_fr kp L [(12, 57)] [359] E Eq ∧ (tw_fi Eq a0 57 = 0 → fq_ok E a0 x1.toInt x2.toInt x3.toInt 4 0) ∧ (∃ z0 : Int32, tw_fv Eq a0 57 = .int z0 ∧ (z0.toInt ≤ 450))) A) [.ref a0, .int x1, .int x2, .int x3].toArray s 0 0 A) (F0 m 109 ls []) := by
          intro n109
          induction n109 using Nat.strongRecOn with
          | _ n109 ih109 =>
            intro y109_4 u109_0_57 Eg109 H locs ls hy109_4a hy109_4b hu109_0_57a hu109_0_57b hin109_0 hin109_1 hmeas109 hfm109_0 hG109 hg0 hg1 TH hS hl
            have hF := hF.tr hG109 (fun _ h => ⟨h, rfl⟩) (by decide) (by decide)
            have hG8 := hG8.tr hG109 (fun _ h => ⟨h, rfl⟩) (by decide) (by decide)
            have hmf9 : tw_fv Eg109 a0 26 = .int xi6 := (hG109.1 a0 26 hm0 (by rw [hk0]; decide)).trans hxi6
            refine lv_iload hx hb dX12_firstQuarrels_109 (lv_at hl 0 rfl) ?_
            refine lv_iconst (v := 3) hx hb dX12_firstQuarrels_111 (by decide) ?_
            refine lv_icmp_gt (tgt := 195) hx hb dX12_firstQuarrels_112 (by decide) (fun hc10 => ?_) (fun hc10 => ?_)
            · have hf11 : 3 < y109_4.toInt := by have z := (fa_lt _ _).mp hc10; have : ((3 : Int32).toInt) = 3 := (by decide); omega
              exact tw_vret hx hb hr hlocks TH hS hex ⟨rfl, rfl, rfl, hF, (by  intro q0; rw [tw_fi_of hfm109_0] at q0; have z := hin109_1 q0; rw [show y109_4.toInt = 4 by omega] at z; exact z), ⟨u109_0_57, hfm109_0, by  omega⟩⟩ (Nat.le_of_ble_eq_true rfl) (Nat.le_of_ble_eq_true rfl) dX12_firstQuarrels_195
            · have hf12 : ¬ (3 < y109_4.toInt) := fun q => hc10 ((fa_lt _ _).mpr (by have : ((3 : Int32).toInt) = 3 := (by decide); omega))
              refine lv_iconst (v := 0) hx hb dX12_firstQuarrels_115 (by decide) ?_
              refine lv_istore (lv' := [(5, .int 0), (4, .int y109_4), (0, .ref a0), (1, .int x1), (2, .int x2), (3, .int x3)]) hx hb dX12_firstQuarrels_116 hl (by decide) rfl (fun ls hl => ?_)
              have hJ118 : ∀ (n118 : Nat) (y118_5 : Int32) (u118_0_57 : Int32) (Eg118 : Nat → va_E) (H : Heap) (locs : List Loc) (ls : Array Slot), 0 ≤ y118_5.toInt → y118_5.toInt ≤ 150 → 0 ≤ u118_0_57.toInt → u118_0_57.toInt ≤ 1200 → (u118_0_57.toInt ≤ 150 * y109_4.toInt - 150 + y118_5.toInt) → (u118_0_57.toInt = 0 → fq_ok E a0 (x1.toInt) (x2.toInt) (x3.toInt) (y109_4.toInt) (y118_5.toInt)) → 150 - y118_5.toInt ≤ (n118 : Int) → tw_fv Eg118 a0 57 = .int u118_0_57 → tw_fr kp L [(12, 57)] [359] Eg109 Eg118 → rw_ok Eg118 a0 (x1.toInt) → rw_ok Eg118 a0 (x2.toInt) → tw_H D cs kp L Eg118 A H → va_S A s.heap H locs → lv_has ls 6 [(5, .int y118_5), (4, .int y109_4), (0, .ref a0), (1, .int x1), (2, .int x2), (3, .int x3)] → W p l e { frames := 2, cells := 0, slots := 0, locals := 52 } s m [.ref a0, .int x1, .int x2, .int x3].toArray below meth c H locs 0 0 (MQ below (tw_Q D cs kp0 L0 (fun v kq Lq Eq => v = none ∧ kp = kq ∧ L = Lq ∧ tw_fr kp L [(12, 57)] [359] E Eq ∧ (tw_fi Eq a0 57 = 0 → fq_ok E a0 x1.toInt x2.toInt x3.toInt 4 0) ∧ (∃ z0 : Int32, tw_fv Eq a0 57 = .int z0 ∧ (z0.toInt ≤ 450))) A) [.ref a0, .int x1, .int x2, .int x3].toArray s 0 0 A) (F0 m 118 ls []) := by
                intro n118
                induction n118 using Nat.strongRecOn with
                | _ n118 ih118 =>
                  intro y118_5 u118_0_57 Eg118 H locs ls hy118_5a hy118_5b hu118_0_57a hu118_0_57b hin118_0 hin118_1 hmeas118 hfm118_0 hG118 hg0 hg1 TH hS hl
                  have hF := hF.tr hG118 (fun _ h => ⟨h, rfl⟩) (by decide) (by decide)
                  have hG8 := hG8.tr hG118 (fun _ h => ⟨h, rfl⟩) (by decide) (by decide)
                  have hG109 := hG109.tr hG118 (fun _ h => ⟨h, rfl⟩) (by decide) (by decide)
                  have hmf13 : tw_fv Eg118 a0 26 = .int xi6 := (hG118.1 a0 26 hm0 (by rw [hk0]; decide)).trans hmf9
                  refine lv_iload hx hb dX12_firstQuarrels_118 (lv_at hl 0 rfl) ?_
                  refine lv_aload_n hx hb dX12_firstQuarrels_120 rfl (lv_at hl 2 rfl) ?_
                  refine tw_get (ci := 12) (C := RX12) (T := TX12) (N := 64) hx hb hB cx_inX12 hown hK TH hm0 hk0 rfl ⟨by decide, rfl⟩ 26 (by decide) cw_1219 (fun _ h9 => h9) dX12_firstQuarrels_121 (fun hv => ?_)
                  rw [hmf13]
                  refine lv_icmp_ge (tgt := 189) hx hb dX12_firstQuarrels_124 (by decide) (fun hc14 => ?_) (fun hc14 => ?_)
                  · have hf15 : xi6.toInt ≤ y118_5.toInt := by have z := (fa_le _ _).mp hc14;  omega
                    obtain ⟨zi16, ezi16⟩ : ∃ z : Int32, z = y109_4 + Int32.ofInt 1 := ⟨_, rfl⟩
                    have hzi16 : zi16.toInt = y109_4.toInt + 1 := by rw [ezi16]; have : ((Int32.ofInt 1).toInt) = 1 := (by decide);  exact (ia_add (by omega) (by omega)).trans (by omega)
                    refine lv_iinc (v := zi16) (lv' := [(4, .int zi16), (5, .int y118_5), (0, .ref a0), (1, .int x1), (2, .int x2), (3, .int x3)]) hx hb dX12_firstQuarrels_189 hl (k := 1) rfl ezi16.symm (by decide) rfl (fun ls hl => ?_)
                    refine lv_goto (tgt := 109) hx hb dX12_firstQuarrels_192 (by decide) ?_
                    exact ih109 (n109 - 1) (by   omega) zi16 u118_0_57 _ _ _ ls (by omega) (by omega) (by omega) (by omega) (by  omega) (by  intro q0; exact fq_next (hin118_1 q0) (by omega) (by rw [← tw_fi_fr hF hm0 hk0 (k := 26) (by decide), tw_fi_of hmf13]; omega) (by omega)) (by   omega) hfm118_0 hG109 hg0 hg1 TH hS (lv_sub hl [0, 2, 3, 4, 5] rfl)
                  · have hf17 : ¬ (xi6.toInt ≤ y118_5.toInt) := fun q => hc14 ((fa_le _ _).mpr (by  omega))
                    refine lv_aload_n hx hb dX12_firstQuarrels_127 rfl (lv_at hl 2 rfl) ?_
                    refine tw_get (ci := 12) (C := RX12) (T := TX12) (N := 64) hx hb hB cx_inX12 hown hK TH hm0 hk0 rfl ⟨by decide, rfl⟩ 16 (by decide) cw_1209 (fun _ h9 => h9) dX12_firstQuarrels_128 (fun hv => ?_)
                    obtain ⟨xr18, hxr18, hmxr18, hkxr18⟩ : ∃ a : Nat, tw_fv Eg118 a0 16 = .ref a ∧ a ∈ L ∧ kp a = 316 := hv
                    rw [hxr18]
                    refine lv_iload_n hx hb dX12_firstQuarrels_131 rfl (lv_at hl 3 rfl) ?_
                    refine tw_aald (k := 316) (t0 := 5) (n := 16) (lo := 326) (hi := 0) (ty := .boolean) hx hb hK TH hmxr18 hkxr18 (by decide) rfl rfl (i := x1) (vp_in_iff.mpr ⟨by  omega, by  omega⟩) dX12_firstQuarrels_132 (fun xr19 exr19 hmxr19 hkxr19 => ?_)
                    have hkxr19 : kp xr19 = 326 := hkxr19
                    refine lv_iload hx hb dX12_firstQuarrels_133 (lv_at hl 0 rfl) ?_
                    refine tw_zald (k := 326) (t0 := 3) (n := 150) (lo := 0) (hi := 1) hx hb hK TH hmxr19 hkxr19 (by decide) rfl rfl (i := y118_5) (vp_in_iff.mpr ⟨by  omega, by  omega⟩) dX12_firstQuarrels_135 (fun hxe20a hxe20b => ?_)
                    obtain ⟨xe20, exe20⟩ : ∃ z : Int32, tw_iv Eg118 xr19 (Int32.toNatClampNeg y118_5) = z := ⟨_, rfl⟩
                    rw [exe20] at hxe20a hxe20b ⊢
                    have hJ183 : ∀ (u183_0_57 : Int32) (Eg183 : Nat → va_E) (H : Heap) (locs : List Loc) (ls : Array Slot), 0 ≤ u183_0_57.toInt → u183_0_57.toInt ≤ 1200 → (u183_0_57.toInt ≤ 150 * y109_4.toInt - 149 + y118_5.toInt) → (u183_0_57.toInt = 0 → fq_ok E a0 (x1.toInt) (x2.toInt) (x3.toInt) (y109_4.toInt) (y118_5.toInt + 1)) → tw_fv Eg183 a0 57 = .int u183_0_57 → tw_fr kp L [(12, 57)] [359] Eg118 Eg183 → rw_ok Eg183 a0 (x1.toInt) → rw_ok Eg183 a0 (x2.toInt) → tw_H D cs kp L Eg183 A H → va_S A s.heap H locs → lv_has ls 6 [(5, .int y118_5), (4, .int y109_4), (0, .ref a0), (1, .int x1), (2, .int x2), (3, .int x3)] → W p l e { frames := 2, cells := 0, slots := 0, locals := 52 } s m [.ref a0, .int x1, .int x2, .int x3].toArray below meth c H locs 0 0 (MQ below (tw_Q D cs kp0 L0 (fun v kq Lq Eq => v = none ∧ kp = kq ∧ L = Lq ∧ tw_fr kp L [(12, 57)] [359] E Eq ∧ (tw_fi Eq a0 57 = 0 → fq_ok E a0 x1.toInt x2.toInt x3.toInt 4 0) ∧ (∃ z0 : Int32, tw_fv Eq a0 57 = .int z0 ∧ (z0.toInt ≤ 450))) A) [.ref a0, .int x1, .int x2, .int x3].toArray s 0 0 A) (F0 m 183 ls []) := by
                      intro u183_0_57 Eg183 H locs ls hu183_0_57a hu183_0_57b hin183_0 hin183_1 hfm183_0 hG183 hg0 hg1 TH hS hl
                      have hF := hF.tr hG183 (fun _ h => ⟨h, rfl⟩) (by decide) (by decide)
                      have hG8 := hG8.tr hG183 (fun _ h => ⟨h, rfl⟩) (by decide) (by decide)
                      have hG109 := hG109.tr hG183 (fun _ h => ⟨h, rfl⟩) (by decide) (by decide)
                      have hG118 := hG118.tr hG183 (fun _ h => ⟨h, rfl⟩) (by decide) (by decide)
                      have hmf21 : tw_fv Eg183 a0 26 = .int xi6 := (hG183.1 a0 26 hm0 (by rw [hk0]; decide)).trans hmf13
                      have hmf22 : tw_fv Eg183 a0 16 = .ref xr18 := (hG183.1 a0 16 hm0 (by rw [hk0]; decide)).trans hxr18
                      obtain ⟨zi23, ezi23⟩ : ∃ z : Int32, z = y118_5 + Int32.ofInt 1 := ⟨_, rfl⟩
                      have hzi23 : zi23.toInt = y118_5.toInt + 1 := by rw [ezi23]; have : ((Int32.ofInt 1).toInt) = 1 := (by decide);  exact (ia_add (by omega) (by omega)).trans (by omega)
                      refine lv_iinc (v := zi23) (lv' := [(5, .int zi23), (4, .int y109_4), (0, .ref a0), (1, .int x1), (2, .int x2), (3, .int x3)]) hx hb dX12_firstQuarrels_183 hl (k := 0) rfl ezi23.symm (by decide) rfl (fun ls hl => ?_)
                      refine lv_goto (tgt := 118) hx hb dX12_firstQuarrels_186 (by decide) ?_
                      exact ih118 (n118 - 1) (by   omega) zi23 u183_0_57 _ _ _ ls (by omega) (by omega) (by omega) (by omega) (by  omega) (by  intro q0; rw [show (zi23.toInt) = y118_5.toInt + 1 by omega]; exact hin183_1 q0) (by   omega) hfm183_0 hG118 hg0 hg1 TH hS (lv_sub hl [0, 1, 2, 3, 4, 5] rfl)
                    have hG183 : tw_fr kp L [(12, 57)] [359] Eg118 Eg118 := tw_fr.rf
                    refine lv_if_eq (tgt := 183) hx hb dX12_firstQuarrels_136 (by decide) (fun hc24 => ?_) (fun hc24 => ?_)
                    · have hf25 : xe20.toInt = 0 := by have z := (fa_eq _ _).mp hc24; have : ((0 : Int32).toInt) = 0 := (by decide); omega
                      exact hJ183 u118_0_57 _ _ _ ls (by omega) (by omega) (by  omega) (by  intro q0; refine fq_step (hin118_1 (by omega)) rfl (fun q => ?_) (fun q => ?_); (have rf_xe20 : rw_h Eg118 a0 (x1.toInt) (y118_5.toInt).toNat = xe20.toInt := rw_h_of (m := a0) (i := x1) (c := y118_5) hxr18 exr19 exe20; have fa := rw_h_fr TH hF hm0 hk0 (by decide) (by decide) (by decide) (i := x1.toInt) (by omega); have fb := rw_h_fr TH hF hm0 hk0 (by decide) (by decide) (by decide) (i := x2.toInt) (by omega); intro u; have u1 := u.1; have u2 := u.2.1; rw [← fa] at u1; rw [← fb] at u2; (try rw [rf_xe20] at u1); (try rw [rf_xe20] at u2); omega); (have rf_xe20 : rw_h Eg118 a0 (x1.toInt) (y118_5.toInt).toNat = xe20.toInt := rw_h_of (m := a0) (i := x1) (c := y118_5) hxr18 exr19 exe20; have fa := rw_h_fr TH hF hm0 hk0 (by decide) (by decide) (by decide) (i := x1.toInt) (by omega); have fb := rw_h_fr TH hF hm0 hk0 (by decide) (by decide) (by decide) (i := x2.toInt) (by omega); intro u; have u1 := u.1; have u2 := u.2.1; rw [← fa] at u1; rw [← fb] at u2; (try rw [rf_xe20] at u1); (try rw [rf_xe20] at u2); omega)) hfm118_0 hG183 hg0 hg1 TH hS (lv_sub hl [0, 1, 2, 3, 4, 5] rfl)
                    · have hf26 : ¬ (xe20.toInt = 0) := fun q => hc24 ((fa_eq _ _).mpr (by have : ((0 : Int32).toInt) = 0 := (by decide); omega))
                      refine lv_aload_n hx hb dX12_firstQuarrels_139 rfl (lv_at hl 2 rfl) ?_
                      refine tw_get (ci := 12) (C := RX12) (T := TX12) (N := 64) hx hb hB cx_inX12 hown hK TH hm0 hk0 rfl ⟨by decide, rfl⟩ 16 (by decide) cw_1209 (fun _ h9 => h9) dX12_firstQuarrels_140 (fun hv => ?_)
                      rw [hxr18]
                      refine lv_iload_n hx hb dX12_firstQuarrels_143 rfl (lv_at hl 4 rfl) ?_
                      refine tw_aald (k := 316) (t0 := 5) (n := 16) (lo := 326) (hi := 0) (ty := .boolean) hx hb hK TH hmxr18 hkxr18 (by decide) rfl rfl (i := x2) (vp_in_iff.mpr ⟨by  omega, by  omega⟩) dX12_firstQuarrels_144 (fun xr27 exr27 hmxr27 hkxr27 => ?_)
                      have hkxr27 : kp xr27 = 326 := hkxr27
                      refine lv_iload hx hb dX12_firstQuarrels_145 (lv_at hl 0 rfl) ?_
                      refine tw_zald (k := 326) (t0 := 3) (n := 150) (lo := 0) (hi := 1) hx hb hK TH hmxr27 hkxr27 (by decide) rfl rfl (i := y118_5) (vp_in_iff.mpr ⟨by  omega, by  omega⟩) dX12_firstQuarrels_147 (fun hxe28a hxe28b => ?_)
                      obtain ⟨xe28, exe28⟩ : ∃ z : Int32, tw_iv Eg118 xr27 (Int32.toNatClampNeg y118_5) = z := ⟨_, rfl⟩
                      rw [exe28] at hxe28a hxe28b ⊢
                      refine lv_if_eq (tgt := 183) hx hb dX12_firstQuarrels_148 (by decide) (fun hc29 => ?_) (fun hc29 => ?_)
                      · have hf30 : xe28.toInt = 0 := by have z := (fa_eq _ _).mp hc29; have : ((0 : Int32).toInt) = 0 := (by decide); omega
                        exact hJ183 u118_0_57 _ _ _ ls (by omega) (by omega) (by  omega) (by  intro q0; refine fq_step (hin118_1 (by omega)) rfl (fun q => ?_) (fun q => ?_); (have rf_xe20 : rw_h Eg118 a0 (x1.toInt) (y118_5.toInt).toNat = xe20.toInt := rw_h_of (m := a0) (i := x1) (c := y118_5) hxr18 exr19 exe20; have rf_xe28 : rw_h Eg118 a0 (x2.toInt) (y118_5.toInt).toNat = xe28.toInt := rw_h_of (m := a0) (i := x2) (c := y118_5) hxr18 exr27 exe28; have fa := rw_h_fr TH hF hm0 hk0 (by decide) (by decide) (by decide) (i := x1.toInt) (by omega); have fb := rw_h_fr TH hF hm0 hk0 (by decide) (by decide) (by decide) (i := x2.toInt) (by omega); intro u; have u1 := u.1; have u2 := u.2.1; rw [← fa] at u1; rw [← fb] at u2; (try rw [rf_xe20] at u1); (try rw [rf_xe20] at u2); (try rw [rf_xe28] at u1); (try rw [rf_xe28] at u2); omega); (have rf_xe20 : rw_h Eg118 a0 (x1.toInt) (y118_5.toInt).toNat = xe20.toInt := rw_h_of (m := a0) (i := x1) (c := y118_5) hxr18 exr19 exe20; have rf_xe28 : rw_h Eg118 a0 (x2.toInt) (y118_5.toInt).toNat = xe28.toInt := rw_h_of (m := a0) (i := x2) (c := y118_5) hxr18 exr27 exe28; have fa := rw_h_fr TH hF hm0 hk0 (by decide) (by decide) (by decide) (i := x1.toInt) (by omega); have fb := rw_h_fr TH hF hm0 hk0 (by decide) (by decide) (by decide) (i := x2.toInt) (by omega); intro u; have u1 := u.1; have u2 := u.2.1; rw [← fa] at u1; rw [← fb] at u2; (try rw [rf_xe20] at u1); (try rw [rf_xe20] at u2); (try rw [rf_xe28] at u1); (try rw [rf_xe28] at u2); omega)) hfm118_0 hG183 hg0 hg1 TH hS (lv_sub hl [0, 1, 2, 3, 4, 5] rfl)
                      · have hf31 : ¬ (xe28.toInt = 0) := fun q => hc29 ((fa_eq _ _).mpr (by have : ((0 : Int32).toInt) = 0 := (by decide); omega))
                        refine lv_aload_n hx hb dX12_firstQuarrels_151 rfl (lv_at hl 2 rfl) ?_
                        refine lv_iload hx hb dX12_firstQuarrels_152 (lv_at hl 0 rfl) ?_
                        refine lv_iload_n hx hb dX12_firstQuarrels_154 rfl (lv_at hl 3 rfl) ?_
                        refine lv_iload_n hx hb dX12_firstQuarrels_155 rfl (lv_at hl 4 rfl) ?_
                        refine lv_iload_n hx hb dX12_firstQuarrels_156 rfl (lv_at hl 5 rfl) ?_
                        refine lv_iload hx hb dX12_firstQuarrels_157 (lv_at hl 1 rfl) ?_
                        refine lv_iconst (v := 2) hx hb dX12_firstQuarrels_159 (by decide) ?_
                        refine lv_icmp_ne (tgt := 167) hx hb dX12_firstQuarrels_160 (by decide) (fun hc32 => ?_) (fun hc32 => ?_)
                        · have hf33 : ¬ (y109_4.toInt = 2) := fun q => hc32 ((fa_eq _ _).mpr (by have : ((2 : Int32).toInt) = 2 := (by decide); omega))
                          refine lv_iconst (v := 0) hx hb dX12_firstQuarrels_167 (by decide) ?_
                          refine tw_Vc (o := a0) (ci := 12) (n := 5) (post := (fun v kq Lq Eq => (∃ x : Int32, v = some (.int x) ∧ (-2) ≤ x.toInt ∧ x.toInt ≤ 15 ∧ (x.toInt ≠ -1 ∧ ((0 : Int32).toInt ≠ 0 → (x.toInt = -2 ↔ un_w Eg118 a0 y118_5.toInt x1.toInt x2.toInt x3.toInt)) ∧ ((0 : Int32).toInt = 0 → (x.toInt = -2 ↔ un_p Eg118 a0 y118_5.toInt x1.toInt x2.toInt x3.toInt))) ∧ (rw_h Eg118 a0 x1.toInt (y118_5.toInt).toNat ≠ 0 → rw_h Eg118 a0 x2.toInt (y118_5.toInt).toNat ≠ 0 → (0 : Int32).toInt = 0 → rw_p Eg118 a0 x1.toInt (y118_5.toInt).toNat = rw_p Eg118 a0 x2.toInt (y118_5.toInt).toNat → x.toInt = x1.toInt)) ∧ kp = kq ∧ L = Lq ∧ Eg118 = Eq)) (As := [.int y118_5, .int x1, .int x2, .int x3, .int 0]) (rest := []) ⟨hx, hb, hml, hown, hB⟩ (fun sz => tX12_sideOf l D cs a0 y118_5 x1 x2 x3 (0 : Int32) hm0 hk0 (by omega) (by omega) (by omega) (by omega) (by omega) (by omega) (by omega) (by omega) (by have : ((0 : Int32).toInt) = 0 := (by decide); omega) (by have : ((0 : Int32).toInt) = 0 := (by decide); omega) sz) cg_12_470_X12_sideOf rfl rfl (by decide +kernel) ⟨Nat.le_of_ble_eq_true rfl, Nat.le_of_ble_eq_true rfl⟩ hK hN TH hS hA rfl hm0 hk0 (by decide) rfl hl.1 rfl (Nat.le_of_ble_eq_true rfl) dX12_firstQuarrels_168 ⟨Nat.le_of_ble_eq_true rfl, Nat.le_of_ble_eq_true rfl⟩ (fun v34 kp34 L34 E34 H locs hq34 hx34 TH hS => ?_)
                          obtain ⟨⟨xc35, rfl, hxc35a, hxc35b, hpoxc35_0, hpoxc35_1⟩, rfl, rfl, rfl⟩ := hq34
                          refine W.eq (g2 := F0 m 171 ls [.int xc35]) rfl ?_
                          refine lv_iconst (v := (-1)) hx hb dX12_firstQuarrels_171 (by decide) ?_
                          refine lv_icmp_ge (tgt := 183) hx hb dX12_firstQuarrels_172 (by decide) (fun hc36 => ?_) (fun hc36 => ?_)
                          · have hf37 : (-1) ≤ xc35.toInt := by have z := (fa_le _ _).mp hc36; have : (((-1) : Int32).toInt) = (-1) := (by decide); omega
                            exact hJ183 u118_0_57 _ _ _ ls (by omega) (by omega) (by  omega) (by  intro q0; refine fq_step (hin118_1 (by omega)) rfl (fun q => ?_) (fun q => ?_); (have e1 : ((1 : Int32).toInt) = 1 := (by decide); have e0 : ((0 : Int32).toInt) = 0 := (by decide); have hu := un_fr TH hF hm0 hk0 (by decide) (by decide) (n := y118_5.toInt) (a := x1.toInt) (b := x2.toInt) (o := x3.toInt) (by omega) (by omega) (by omega);  rw [← hu.1]; intro u; have z := (hpoxc35_0.2.1 (by omega)).2 u; omega); (have e1 : ((1 : Int32).toInt) = 1 := (by decide); have e0 : ((0 : Int32).toInt) = 0 := (by decide); have hu := un_fr TH hF hm0 hk0 (by decide) (by decide) (n := y118_5.toInt) (a := x1.toInt) (b := x2.toInt) (o := x3.toInt) (by omega) (by omega) (by omega);  rw [← hu.2]; intro u; have z := (hpoxc35_0.2.2 (by omega)).2 u; omega)) hfm118_0 hG183 hg0 hg1 TH hS (lv_sub hl [0, 1, 2, 3, 4, 5] rfl)
                          · have hf38 : ¬ ((-1) ≤ xc35.toInt) := fun q => hc36 ((fa_le _ _).mpr (by have : (((-1) : Int32).toInt) = (-1) := (by decide); omega))
                            refine lv_aload_n hx hb dX12_firstQuarrels_175 rfl (lv_at hl 2 rfl) ?_
                            refine lv_iload hx hb dX12_firstQuarrels_176 (lv_at hl 1 rfl) ?_
                            refine lv_iload hx hb dX12_firstQuarrels_178 (lv_at hl 0 rfl) ?_
                            refine tw_Vc (o := a0) (ci := 12) (n := 2) (post := (fun v kq Lq Eq => v = none ∧ kp = kq ∧ L = Lq ∧ tw_fr kp L [(12, 57)] [359] Eg118 Eq ∧ (∃ z0 : Int32, tw_fv Eq a0 57 = .int z0 ∧ (z0.toInt = u118_0_57.toInt + 1)))) (As := [.int y109_4, .int y118_5]) (rest := []) ⟨hx, hb, hml, hown, hB⟩ (fun sz => tX12_quarrels l D cs a0 y109_4 y118_5 u118_0_57 hm0 hk0 hfm118_0 (by  omega) sz) cg_12_468_X12_quarrels rfl rfl (by decide +kernel) ⟨Nat.le_of_ble_eq_true rfl, Nat.le_of_ble_eq_true rfl⟩ hK hN TH hS hA rfl hm0 hk0 (by decide) rfl hl.1 rfl (Nat.le_of_ble_eq_true rfl) dX12_firstQuarrels_180 ⟨Nat.le_of_ble_eq_true rfl, Nat.le_of_ble_eq_true rfl⟩ (fun v39 kp39 L39 E39 H locs hq39 hx39 TH hS => ?_)
                            obtain ⟨rfl, rfl, rfl, hst39, ⟨zfxc40_0_0, hzfxc40_0_0, hzpxc40_0⟩⟩ := hq39
                            have hF := hF.tr hst39 (fun _ h => ⟨h, rfl⟩) (by decide) (by decide)
                            have hG8 := hG8.tr hst39 (fun _ h => ⟨h, rfl⟩) (by decide) (by decide)
                            have hG109 := hG109.tr hst39 (fun _ h => ⟨h, rfl⟩) (by decide) (by decide)
                            have hG118 := hG118.tr hst39 (fun _ h => ⟨h, rfl⟩) (by decide) (by decide)
                            have hG183 := hG183.tr hst39 (fun _ h => ⟨h, rfl⟩) (by decide) (by decide)
                            have hmf41 : tw_fv E39 a0 26 = .int xi6 := (hst39.1 a0 26 hm0 (by rw [hk0]; decide)).trans hmf13
                            have hmf42 : tw_fv E39 a0 16 = .ref xr18 := (hst39.1 a0 16 hm0 (by rw [hk0]; decide)).trans hxr18
                            have hg0 : rw_ok E39 a0 (x1.toInt) := rw_ok_fr TH hst39 hm0 hk0 (by decide) (by decide) (by omega) hg0
                            have hg1 : rw_ok E39 a0 (x2.toInt) := rw_ok_fr TH hst39 hm0 hk0 (by decide) (by decide) (by omega) hg1
                            obtain ⟨qzfxc40_0_0, hqzfxc40_0_0, hqzfxc40_0_0a, hqzfxc40_0_0b⟩ := tw_rd TH hm0 hk0 (by decide) (by decide) (k := 57) rfl
                            have eqzfxc40_0_0 : qzfxc40_0_0 = zfxc40_0_0 := by have q := hqzfxc40_0_0.symm.trans hzfxc40_0_0; injection q
                            rw [eqzfxc40_0_0] at hqzfxc40_0_0a hqzfxc40_0_0b
                            refine W.eq (g2 := F0 m 183 ls []) rfl ?_
                            exact hJ183 zfxc40_0_0 _ _ _ ls (by omega) (by omega) (by  omega) (by  intro q0; exfalso; omega) hzfxc40_0_0 hG183 hg0 hg1 TH hS (lv_sub hl [0, 1, 2, 3, 4, 5] rfl)
                        · have hf43 : y109_4.toInt = 2 := by have z := (fa_eq _ _).mp hc32; have : ((2 : Int32).toInt) = 2 := (by decide); omega
                          refine lv_iconst (v := 1) hx hb dX12_firstQuarrels_163 (by decide) ?_
                          refine lv_goto (tgt := 168) hx hb dX12_firstQuarrels_164 (by decide) ?_
                          refine tw_Vc (o := a0) (ci := 12) (n := 5) (post := (fun v kq Lq Eq => (∃ x : Int32, v = some (.int x) ∧ (-2) ≤ x.toInt ∧ x.toInt ≤ 15 ∧ (x.toInt ≠ -1 ∧ ((1 : Int32).toInt ≠ 0 → (x.toInt = -2 ↔ un_w Eg118 a0 y118_5.toInt x1.toInt x2.toInt x3.toInt)) ∧ ((1 : Int32).toInt = 0 → (x.toInt = -2 ↔ un_p Eg118 a0 y118_5.toInt x1.toInt x2.toInt x3.toInt))) ∧ (rw_h Eg118 a0 x1.toInt (y118_5.toInt).toNat ≠ 0 → rw_h Eg118 a0 x2.toInt (y118_5.toInt).toNat ≠ 0 → (1 : Int32).toInt = 0 → rw_p Eg118 a0 x1.toInt (y118_5.toInt).toNat = rw_p Eg118 a0 x2.toInt (y118_5.toInt).toNat → x.toInt = x1.toInt)) ∧ kp = kq ∧ L = Lq ∧ Eg118 = Eq)) (As := [.int y118_5, .int x1, .int x2, .int x3, .int 1]) (rest := []) ⟨hx, hb, hml, hown, hB⟩ (fun sz => tX12_sideOf l D cs a0 y118_5 x1 x2 x3 (1 : Int32) hm0 hk0 (by omega) (by omega) (by omega) (by omega) (by omega) (by omega) (by omega) (by omega) (by have : ((1 : Int32).toInt) = 1 := (by decide); omega) (by have : ((1 : Int32).toInt) = 1 := (by decide); omega) sz) cg_12_470_X12_sideOf rfl rfl (by decide +kernel) ⟨Nat.le_of_ble_eq_true rfl, Nat.le_of_ble_eq_true rfl⟩ hK hN TH hS hA rfl hm0 hk0 (by decide) rfl hl.1 rfl (Nat.le_of_ble_eq_true rfl) dX12_firstQuarrels_168 ⟨Nat.le_of_ble_eq_true rfl, Nat.le_of_ble_eq_true rfl⟩ (fun v44 kp44 L44 E44 H locs hq44 hx44 TH hS => ?_)
                          obtain ⟨⟨xc45, rfl, hxc45a, hxc45b, hpoxc45_0, hpoxc45_1⟩, rfl, rfl, rfl⟩ := hq44
                          refine W.eq (g2 := F0 m 171 ls [.int xc45]) rfl ?_
                          refine lv_iconst (v := (-1)) hx hb dX12_firstQuarrels_171 (by decide) ?_
                          refine lv_icmp_ge (tgt := 183) hx hb dX12_firstQuarrels_172 (by decide) (fun hc46 => ?_) (fun hc46 => ?_)
                          · have hf47 : (-1) ≤ xc45.toInt := by have z := (fa_le _ _).mp hc46; have : (((-1) : Int32).toInt) = (-1) := (by decide); omega
                            exact hJ183 u118_0_57 _ _ _ ls (by omega) (by omega) (by  omega) (by  intro q0; refine fq_step (hin118_1 (by omega)) rfl (fun q => ?_) (fun q => ?_); (have e1 : ((1 : Int32).toInt) = 1 := (by decide); have e0 : ((0 : Int32).toInt) = 0 := (by decide); have hu := un_fr TH hF hm0 hk0 (by decide) (by decide) (n := y118_5.toInt) (a := x1.toInt) (b := x2.toInt) (o := x3.toInt) (by omega) (by omega) (by omega);  rw [← hu.1]; intro u; have z := (hpoxc45_0.2.1 (by omega)).2 u; omega); (have e1 : ((1 : Int32).toInt) = 1 := (by decide); have e0 : ((0 : Int32).toInt) = 0 := (by decide); have hu := un_fr TH hF hm0 hk0 (by decide) (by decide) (n := y118_5.toInt) (a := x1.toInt) (b := x2.toInt) (o := x3.toInt) (by omega) (by omega) (by omega);  rw [← hu.2]; intro u; have z := (hpoxc45_0.2.2 (by omega)).2 u; omega)) hfm118_0 hG183 hg0 hg1 TH hS (lv_sub hl [0, 1, 2, 3, 4, 5] rfl)
                          · have hf48 : ¬ ((-1) ≤ xc45.toInt) := fun q => hc46 ((fa_le _ _).mpr (by have : (((-1) : Int32).toInt) = (-1) := (by decide); omega))
                            refine lv_aload_n hx hb dX12_firstQuarrels_175 rfl (lv_at hl 2 rfl) ?_
                            refine lv_iload hx hb dX12_firstQuarrels_176 (lv_at hl 1 rfl) ?_
                            refine lv_iload hx hb dX12_firstQuarrels_178 (lv_at hl 0 rfl) ?_
                            refine tw_Vc (o := a0) (ci := 12) (n := 2) (post := (fun v kq Lq Eq => v = none ∧ kp = kq ∧ L = Lq ∧ tw_fr kp L [(12, 57)] [359] Eg118 Eq ∧ (∃ z0 : Int32, tw_fv Eq a0 57 = .int z0 ∧ (z0.toInt = u118_0_57.toInt + 1)))) (As := [.int y109_4, .int y118_5]) (rest := []) ⟨hx, hb, hml, hown, hB⟩ (fun sz => tX12_quarrels l D cs a0 y109_4 y118_5 u118_0_57 hm0 hk0 hfm118_0 (by  omega) sz) cg_12_468_X12_quarrels rfl rfl (by decide +kernel) ⟨Nat.le_of_ble_eq_true rfl, Nat.le_of_ble_eq_true rfl⟩ hK hN TH hS hA rfl hm0 hk0 (by decide) rfl hl.1 rfl (Nat.le_of_ble_eq_true rfl) dX12_firstQuarrels_180 ⟨Nat.le_of_ble_eq_true rfl, Nat.le_of_ble_eq_true rfl⟩ (fun v49 kp49 L49 E49 H locs hq49 hx49 TH hS => ?_)
                            obtain ⟨rfl, rfl, rfl, hst49, ⟨zfxc50_0_0, hzfxc50_0_0, hzpxc50_0⟩⟩ := hq49
                            have hF := hF.tr hst49 (fun _ h => ⟨h, rfl⟩) (by decide) (by decide)
                            have hG8 := hG8.tr hst49 (fun _ h => ⟨h, rfl⟩) (by decide) (by decide)
                            have hG109 := hG109.tr hst49 (fun _ h => ⟨h, rfl⟩) (by decide) (by decide)
                            have hG118 := hG118.tr hst49 (fun _ h => ⟨h, rfl⟩) (by decide) (by decide)
                            have hG183 := hG183.tr hst49 (fun _ h => ⟨h, rfl⟩) (by decide) (by decide)
                            have hmf51 : tw_fv E49 a0 26 = .int xi6 := (hst49.1 a0 26 hm0 (by rw [hk0]; decide)).trans hmf13
                            have hmf52 : tw_fv E49 a0 16 = .ref xr18 := (hst49.1 a0 16 hm0 (by rw [hk0]; decide)).trans hxr18
                            have hg0 : rw_ok E49 a0 (x1.toInt) := rw_ok_fr TH hst49 hm0 hk0 (by decide) (by decide) (by omega) hg0
                            have hg1 : rw_ok E49 a0 (x2.toInt) := rw_ok_fr TH hst49 hm0 hk0 (by decide) (by decide) (by omega) hg1
                            obtain ⟨qzfxc50_0_0, hqzfxc50_0_0, hqzfxc50_0_0a, hqzfxc50_0_0b⟩ := tw_rd TH hm0 hk0 (by decide) (by decide) (k := 57) rfl
                            have eqzfxc50_0_0 : qzfxc50_0_0 = zfxc50_0_0 := by have q := hqzfxc50_0_0.symm.trans hzfxc50_0_0; injection q
                            rw [eqzfxc50_0_0] at hqzfxc50_0_0a hqzfxc50_0_0b
                            refine W.eq (g2 := F0 m 183 ls []) rfl ?_
                            exact hJ183 zfxc50_0_0 _ _ _ ls (by omega) (by omega) (by  omega) (by  intro q0; exfalso; omega) hzfxc50_0_0 hG183 hg0 hg1 TH hS (lv_sub hl [0, 1, 2, 3, 4, 5] rfl)
              exact hJ118 151 (0 : Int32) u109_0_57 _ _ _ ls (by have : ((0 : Int32).toInt) = 0 := (by decide); omega) (by have : ((0 : Int32).toInt) = 0 := (by decide); omega) (by omega) (by omega) (by have : ((0 : Int32).toInt) = 0 := (by decide); omega) (by have : ((0 : Int32).toInt) = 0 := (by decide); intro q0; exact fq_n0 (hin109_1 (by omega)) rfl (by decide)) (by have : ((0 : Int32).toInt) = 0 := (by decide);  omega) hfm109_0 tw_fr.rf hg0 hg1 TH hS (lv_sub hl [0, 1, 2, 3, 4, 5] rfl)
        exact hJ109 3 (2 : Int32) u8_0_57 _ _ _ ls (by have : ((2 : Int32).toInt) = 2 := (by decide); omega) (by have : ((2 : Int32).toInt) = 2 := (by decide); omega) (by omega) (by omega) (by have : ((2 : Int32).toInt) = 2 := (by decide); omega) (by have : ((2 : Int32).toInt) = 2 := (by decide); intro _; exact fq_init (by decide) rfl) (by have : ((2 : Int32).toInt) = 2 := (by decide);  omega) hfm8_0 tw_fr.rf hg0 hg1 TH hS (lv_sub hl [0, 1, 2, 3, 4] rfl)
      · have hf53 : ¬ (xi6.toInt ≤ y8_4.toInt) := fun q => hc7 ((fa_le _ _).mpr (by  omega))
        refine lv_aload_n hx hb dX12_firstQuarrels_17 rfl (lv_at hl 1 rfl) ?_
        refine tw_get (ci := 12) (C := RX12) (T := TX12) (N := 64) hx hb hB cx_inX12 hown hK TH hm0 hk0 rfl ⟨by decide, rfl⟩ 16 (by decide) cw_1209 (fun _ h9 => h9) dX12_firstQuarrels_18 (fun hv => ?_)
        obtain ⟨xr54, hxr54, hmxr54, hkxr54⟩ : ∃ a : Nat, tw_fv Eg8 a0 16 = .ref a ∧ a ∈ L ∧ kp a = 316 := hv
        rw [hxr54]
        refine lv_iload_n hx hb dX12_firstQuarrels_21 rfl (lv_at hl 4 rfl) ?_
        refine tw_aald (k := 316) (t0 := 5) (n := 16) (lo := 326) (hi := 0) (ty := .boolean) hx hb hK TH hmxr54 hkxr54 (by decide) rfl rfl (i := x3) (vp_in_iff.mpr ⟨by  omega, by  omega⟩) dX12_firstQuarrels_22 (fun xr55 exr55 hmxr55 hkxr55 => ?_)
        have hkxr55 : kp xr55 = 326 := hkxr55
        refine lv_iload hx hb dX12_firstQuarrels_23 (lv_at hl 0 rfl) ?_
        refine tw_zald (k := 326) (t0 := 3) (n := 150) (lo := 0) (hi := 1) hx hb hK TH hmxr55 hkxr55 (by decide) rfl rfl (i := y8_4) (vp_in_iff.mpr ⟨by  omega, by  omega⟩) dX12_firstQuarrels_25 (fun hxe56a hxe56b => ?_)
        obtain ⟨xe56, exe56⟩ : ∃ z : Int32, tw_iv Eg8 xr55 (Int32.toNatClampNeg y8_4) = z := ⟨_, rfl⟩
        rw [exe56] at hxe56a hxe56b ⊢
        have hJ100 : ∀ (u100_0_57 : Int32) (Eg100 : Nat → va_E) (H : Heap) (locs : List Loc) (ls : Array Slot), 0 ≤ u100_0_57.toInt → u100_0_57.toInt ≤ 1200 → (u100_0_57.toInt ≤ y8_4.toInt + 1) → tw_fv Eg100 a0 57 = .int u100_0_57 → tw_fr kp L [(12, 57)] [359] Eg8 Eg100 → rw_ok Eg100 a0 (x1.toInt) → rw_ok Eg100 a0 (x2.toInt) → tw_H D cs kp L Eg100 A H → va_S A s.heap H locs → lv_has ls 6 [(4, .int y8_4), (0, .ref a0), (1, .int x1), (2, .int x2), (3, .int x3)] → W p l e { frames := 2, cells := 0, slots := 0, locals := 52 } s m [.ref a0, .int x1, .int x2, .int x3].toArray below meth c H locs 0 0 (MQ below (tw_Q D cs kp0 L0 (fun v kq Lq Eq => v = none ∧ kp = kq ∧ L = Lq ∧ tw_fr kp L [(12, 57)] [359] E Eq ∧ (tw_fi Eq a0 57 = 0 → fq_ok E a0 x1.toInt x2.toInt x3.toInt 4 0) ∧ (∃ z0 : Int32, tw_fv Eq a0 57 = .int z0 ∧ (z0.toInt ≤ 450))) A) [.ref a0, .int x1, .int x2, .int x3].toArray s 0 0 A) (F0 m 100 ls []) := by
          intro u100_0_57 Eg100 H locs ls hu100_0_57a hu100_0_57b hin100_0 hfm100_0 hG100 hg0 hg1 TH hS hl
          have hF := hF.tr hG100 (fun _ h => ⟨h, rfl⟩) (by decide) (by decide)
          have hG8 := hG8.tr hG100 (fun _ h => ⟨h, rfl⟩) (by decide) (by decide)
          have hmf57 : tw_fv Eg100 a0 26 = .int xi6 := (hG100.1 a0 26 hm0 (by rw [hk0]; decide)).trans hxi6
          have hmf58 : tw_fv Eg100 a0 16 = .ref xr54 := (hG100.1 a0 16 hm0 (by rw [hk0]; decide)).trans hxr54
          obtain ⟨zi59, ezi59⟩ : ∃ z : Int32, z = y8_4 + Int32.ofInt 1 := ⟨_, rfl⟩
          have hzi59 : zi59.toInt = y8_4.toInt + 1 := by rw [ezi59]; have : ((Int32.ofInt 1).toInt) = 1 := (by decide);  exact (ia_add (by omega) (by omega)).trans (by omega)
          refine lv_iinc (v := zi59) (lv' := [(4, .int zi59), (0, .ref a0), (1, .int x1), (2, .int x2), (3, .int x3)]) hx hb dX12_firstQuarrels_100 hl (k := 0) rfl ezi59.symm (by decide) rfl (fun ls hl => ?_)
          refine lv_goto (tgt := 8) hx hb dX12_firstQuarrels_103 (by decide) ?_
          exact ih8 (n8 - 1) (by   omega) zi59 u100_0_57 _ _ _ ls (by omega) (by omega) (by omega) (by omega) (by  omega) (by   omega) hfm100_0 hG8 hg0 hg1 TH hS (lv_sub hl [0, 1, 2, 3, 4] rfl)
        have hG100 : tw_fr kp L [(12, 57)] [359] Eg8 Eg8 := tw_fr.rf
        refine lv_if_eq (tgt := 100) hx hb dX12_firstQuarrels_26 (by decide) (fun hc60 => ?_) (fun hc60 => ?_)
        · have hf61 : xe56.toInt = 0 := by have z := (fa_eq _ _).mp hc60; have : ((0 : Int32).toInt) = 0 := (by decide); omega
          exact hJ100 u8_0_57 _ _ _ ls (by omega) (by omega) (by  omega) hfm8_0 hG100 hg0 hg1 TH hS (lv_sub hl [0, 1, 2, 3, 4] rfl)
        · have hf62 : ¬ (xe56.toInt = 0) := fun q => hc60 ((fa_eq _ _).mpr (by have : ((0 : Int32).toInt) = 0 := (by decide); omega))
          refine lv_aload_n hx hb dX12_firstQuarrels_29 rfl (lv_at hl 1 rfl) ?_
          refine tw_get (ci := 12) (C := RX12) (T := TX12) (N := 64) hx hb hB cx_inX12 hown hK TH hm0 hk0 rfl ⟨by decide, rfl⟩ 16 (by decide) cw_1209 (fun _ h9 => h9) dX12_firstQuarrels_30 (fun hv => ?_)
          rw [hxr54]
          refine lv_iload_n hx hb dX12_firstQuarrels_33 rfl (lv_at hl 2 rfl) ?_
          refine tw_aald (k := 316) (t0 := 5) (n := 16) (lo := 326) (hi := 0) (ty := .boolean) hx hb hK TH hmxr54 hkxr54 (by decide) rfl rfl (i := x1) (vp_in_iff.mpr ⟨by  omega, by  omega⟩) dX12_firstQuarrels_34 (fun xr63 exr63 hmxr63 hkxr63 => ?_)
          have hkxr63 : kp xr63 = 326 := hkxr63
          refine lv_iload hx hb dX12_firstQuarrels_35 (lv_at hl 0 rfl) ?_
          refine tw_zald (k := 326) (t0 := 3) (n := 150) (lo := 0) (hi := 1) hx hb hK TH hmxr63 hkxr63 (by decide) rfl rfl (i := y8_4) (vp_in_iff.mpr ⟨by  omega, by  omega⟩) dX12_firstQuarrels_37 (fun hxe64a hxe64b => ?_)
          obtain ⟨xe64, exe64⟩ : ∃ z : Int32, tw_iv Eg8 xr63 (Int32.toNatClampNeg y8_4) = z := ⟨_, rfl⟩
          rw [exe64] at hxe64a hxe64b ⊢
          refine lv_aload_n hx hb dX12_firstQuarrels_38 rfl (lv_at hl 1 rfl) ?_
          refine tw_get (ci := 12) (C := RX12) (T := TX12) (N := 64) hx hb hB cx_inX12 hown hK TH hm0 hk0 rfl ⟨by decide, rfl⟩ 16 (by decide) cw_1209 (fun _ h9 => h9) dX12_firstQuarrels_39 (fun hv => ?_)
          rw [hxr54]
          refine lv_iload_n hx hb dX12_firstQuarrels_42 rfl (lv_at hl 3 rfl) ?_
          refine tw_aald (k := 316) (t0 := 5) (n := 16) (lo := 326) (hi := 0) (ty := .boolean) hx hb hK TH hmxr54 hkxr54 (by decide) rfl rfl (i := x2) (vp_in_iff.mpr ⟨by  omega, by  omega⟩) dX12_firstQuarrels_43 (fun xr65 exr65 hmxr65 hkxr65 => ?_)
          have hkxr65 : kp xr65 = 326 := hkxr65
          refine lv_iload hx hb dX12_firstQuarrels_44 (lv_at hl 0 rfl) ?_
          refine tw_zald (k := 326) (t0 := 3) (n := 150) (lo := 0) (hi := 1) hx hb hK TH hmxr65 hkxr65 (by decide) rfl rfl (i := y8_4) (vp_in_iff.mpr ⟨by  omega, by  omega⟩) dX12_firstQuarrels_46 (fun hxe66a hxe66b => ?_)
          obtain ⟨xe66, exe66⟩ : ∃ z : Int32, tw_iv Eg8 xr65 (Int32.toNatClampNeg y8_4) = z := ⟨_, rfl⟩
          rw [exe66] at hxe66a hxe66b ⊢
          refine lv_icmp_ne (tgt := 53) hx hb dX12_firstQuarrels_47 (by decide) (fun hc67 => ?_) (fun hc67 => ?_)
          · have hf68 : ¬ (xe64.toInt = xe66.toInt) := fun q => hc67 ((fa_eq _ _).mpr (by  omega))
            refine lv_aload_n hx hb dX12_firstQuarrels_53 rfl (lv_at hl 1 rfl) ?_
            refine lv_aload_n hx hb dX12_firstQuarrels_54 rfl (lv_at hl 1 rfl) ?_
            refine tw_get (ci := 12) (C := RX12) (T := TX12) (N := 64) hx hb hB cx_inX12 hown hK TH hm0 hk0 rfl ⟨by decide, rfl⟩ 16 (by decide) cw_1209 (fun _ h9 => h9) dX12_firstQuarrels_55 (fun hv => ?_)
            rw [hxr54]
            refine lv_iload_n hx hb dX12_firstQuarrels_58 rfl (lv_at hl 2 rfl) ?_
            refine tw_aald (k := 316) (t0 := 5) (n := 16) (lo := 326) (hi := 0) (ty := .boolean) hx hb hK TH hmxr54 hkxr54 (by decide) rfl rfl (i := x1) (vp_in_iff.mpr ⟨by  omega, by  omega⟩) dX12_firstQuarrels_59 (fun xr69 exr69 hmxr69 hkxr69 => ?_)
            have ezxr69 : xr63 = xr69 := exr63.symm.trans exr69
            subst ezxr69
            refine lv_iload hx hb dX12_firstQuarrels_60 (lv_at hl 0 rfl) ?_
            refine tw_zald (k := 326) (t0 := 3) (n := 150) (lo := 0) (hi := 1) hx hb hK TH hmxr63 hkxr63 (by decide) rfl rfl (i := y8_4) (vp_in_iff.mpr ⟨by  omega, by  omega⟩) dX12_firstQuarrels_62 (fun hxe70a hxe70b => ?_)
            rw [exe64]
            refine lv_if_eq (tgt := 70) hx hb dX12_firstQuarrels_63 (by decide) (fun hc71 => ?_) (fun hc71 => ?_)
            · have hf72 : xe64.toInt = 0 := by have z := (fa_eq _ _).mp hc71; have : ((0 : Int32).toInt) = 0 := (by decide); omega
              refine lv_iload_n hx hb dX12_firstQuarrels_70 rfl (lv_at hl 3 rfl) ?_
              refine lv_iload hx hb dX12_firstQuarrels_71 (lv_at hl 0 rfl) ?_
              refine lv_iload_n hx hb dX12_firstQuarrels_73 rfl (lv_at hl 4 rfl) ?_
              refine tw_Vc (o := a0) (ci := 12) (n := 3) (post := (fun v kq Lq Eq => (∃ x : Int32, v = some (.int x) ∧ 0 ≤ x.toInt ∧ x.toInt ≤ 1) ∧ kp = kq ∧ L = Lq ∧ Eg8 = Eq)) (As := [.int x2, .int y8_4, .int x3]) (rest := []) ⟨hx, hb, hml, hown, hB⟩ (fun sz => tX12_isTouched l D cs a0 x2 y8_4 x3 hm0 hk0 (by omega) (by omega) (by omega) (by omega) hg1 sz) cg_12_465_X12_isTouched rfl rfl (by decide +kernel) ⟨Nat.le_of_ble_eq_true rfl, Nat.le_of_ble_eq_true rfl⟩ hK hN TH hS hA rfl hm0 hk0 (by decide) rfl hl.1 rfl (Nat.le_of_ble_eq_true rfl) dX12_firstQuarrels_74 ⟨Nat.le_of_ble_eq_true rfl, Nat.le_of_ble_eq_true rfl⟩ (fun v73 kp73 L73 E73 H locs hq73 hx73 TH hS => ?_)
              obtain ⟨⟨xc74, rfl, hxc74a, hxc74b⟩, rfl, rfl, rfl⟩ := hq73
              refine W.eq (g2 := F0 m 77 ls [.int xc74]) rfl ?_
              refine lv_if_eq (tgt := 100) hx hb dX12_firstQuarrels_77 (by decide) (fun hc75 => ?_) (fun hc75 => ?_)
              · have hf76 : xc74.toInt = 0 := by have z := (fa_eq _ _).mp hc75; have : ((0 : Int32).toInt) = 0 := (by decide); omega
                exact hJ100 u8_0_57 _ _ _ ls (by omega) (by omega) (by  omega) hfm8_0 hG100 hg0 hg1 TH hS (lv_sub hl [0, 1, 2, 3, 4] rfl)
              · have hf77 : ¬ (xc74.toInt = 0) := fun q => hc75 ((fa_eq _ _).mpr (by have : ((0 : Int32).toInt) = 0 := (by decide); omega))
                refine lv_aload_n hx hb dX12_firstQuarrels_80 rfl (lv_at hl 1 rfl) ?_
                refine lv_iload hx hb dX12_firstQuarrels_81 (lv_at hl 0 rfl) ?_
                refine lv_iconst (v := 1) hx hb dX12_firstQuarrels_83 (by decide) ?_
                refine lv_iload_n hx hb dX12_firstQuarrels_84 rfl (lv_at hl 2 rfl) ?_
                refine lv_iload_n hx hb dX12_firstQuarrels_85 rfl (lv_at hl 3 rfl) ?_
                refine tw_Vc (o := a0) (ci := 12) (n := 4) (post := (fun v kq Lq Eq => (∃ x : Int32, v = some (.int x) ∧ (-1) ≤ x.toInt ∧ x.toInt ≤ 11 ∧ (x.toInt = -1 ↔ st_ns Eg8 a0 y8_4.toInt (1 : Int32).toInt x1.toInt x2.toInt)) ∧ kp = kq ∧ L = Lq ∧ Eg8 = Eq)) (As := [.int y8_4, .int 1, .int x1, .int x2]) (rest := []) ⟨hx, hb, hml, hown, hB⟩ (fun sz => tX12_settledFor l D cs a0 y8_4 (1 : Int32) x1 x2 hm0 hk0 sz) cg_12_461_X12_settledFor rfl rfl (by decide +kernel) ⟨Nat.le_of_ble_eq_true rfl, Nat.le_of_ble_eq_true rfl⟩ hK hN TH hS hA rfl hm0 hk0 (by decide) rfl hl.1 rfl (Nat.le_of_ble_eq_true rfl) dX12_firstQuarrels_86 ⟨Nat.le_of_ble_eq_true rfl, Nat.le_of_ble_eq_true rfl⟩ (fun v78 kp78 L78 E78 H locs hq78 hx78 TH hS => ?_)
                obtain ⟨⟨xc79, rfl, hxc79a, hxc79b, hpoxc79_0⟩, rfl, rfl, rfl⟩ := hq78
                refine W.eq (g2 := F0 m 89 ls [.int xc79]) rfl ?_
                refine lv_iconst (v := (-1)) hx hb dX12_firstQuarrels_89 (by decide) ?_
                refine lv_icmp_ne (tgt := 100) hx hb dX12_firstQuarrels_90 (by decide) (fun hc80 => ?_) (fun hc80 => ?_)
                · have hf81 : ¬ (xc79.toInt = (-1)) := fun q => hc80 ((fa_eq _ _).mpr (by have : (((-1) : Int32).toInt) = (-1) := (by decide); omega))
                  exact hJ100 u8_0_57 _ _ _ ls (by omega) (by omega) (by  omega) hfm8_0 hG100 hg0 hg1 TH hS (lv_sub hl [0, 1, 2, 3, 4] rfl)
                · have hf82 : xc79.toInt = (-1) := by have z := (fa_eq _ _).mp hc80; have : (((-1) : Int32).toInt) = (-1) := (by decide); omega
                  refine lv_aload_n hx hb dX12_firstQuarrels_93 rfl (lv_at hl 1 rfl) ?_
                  refine lv_iconst (v := 1) hx hb dX12_firstQuarrels_94 (by decide) ?_
                  refine lv_iload hx hb dX12_firstQuarrels_95 (lv_at hl 0 rfl) ?_
                  refine tw_Vc (o := a0) (ci := 12) (n := 2) (post := (fun v kq Lq Eq => v = none ∧ kp = kq ∧ L = Lq ∧ tw_fr kp L [(12, 57)] [359] Eg8 Eq ∧ (∃ z0 : Int32, tw_fv Eq a0 57 = .int z0 ∧ (z0.toInt = u8_0_57.toInt + 1)))) (As := [.int 1, .int y8_4]) (rest := []) ⟨hx, hb, hml, hown, hB⟩ (fun sz => tX12_quarrels l D cs a0 (1 : Int32) y8_4 u8_0_57 hm0 hk0 hfm8_0 (by have : ((1 : Int32).toInt) = 1 := (by decide); omega) sz) cg_12_468_X12_quarrels rfl rfl (by decide +kernel) ⟨Nat.le_of_ble_eq_true rfl, Nat.le_of_ble_eq_true rfl⟩ hK hN TH hS hA rfl hm0 hk0 (by decide) rfl hl.1 rfl (Nat.le_of_ble_eq_true rfl) dX12_firstQuarrels_97 ⟨Nat.le_of_ble_eq_true rfl, Nat.le_of_ble_eq_true rfl⟩ (fun v83 kp83 L83 E83 H locs hq83 hx83 TH hS => ?_)
                  obtain ⟨rfl, rfl, rfl, hst83, ⟨zfxc84_0_0, hzfxc84_0_0, hzpxc84_0⟩⟩ := hq83
                  have hF := hF.tr hst83 (fun _ h => ⟨h, rfl⟩) (by decide) (by decide)
                  have hG8 := hG8.tr hst83 (fun _ h => ⟨h, rfl⟩) (by decide) (by decide)
                  have hG100 := hG100.tr hst83 (fun _ h => ⟨h, rfl⟩) (by decide) (by decide)
                  have hmf85 : tw_fv E83 a0 26 = .int xi6 := (hst83.1 a0 26 hm0 (by rw [hk0]; decide)).trans hxi6
                  have hmf86 : tw_fv E83 a0 16 = .ref xr54 := (hst83.1 a0 16 hm0 (by rw [hk0]; decide)).trans hxr54
                  have hg0 : rw_ok E83 a0 (x1.toInt) := rw_ok_fr TH hst83 hm0 hk0 (by decide) (by decide) (by omega) hg0
                  have hg1 : rw_ok E83 a0 (x2.toInt) := rw_ok_fr TH hst83 hm0 hk0 (by decide) (by decide) (by omega) hg1
                  obtain ⟨qzfxc84_0_0, hqzfxc84_0_0, hqzfxc84_0_0a, hqzfxc84_0_0b⟩ := tw_rd TH hm0 hk0 (by decide) (by decide) (k := 57) rfl
                  have eqzfxc84_0_0 : qzfxc84_0_0 = zfxc84_0_0 := by have q := hqzfxc84_0_0.symm.trans hzfxc84_0_0; injection q
                  rw [eqzfxc84_0_0] at hqzfxc84_0_0a hqzfxc84_0_0b
                  refine W.eq (g2 := F0 m 100 ls []) rfl ?_
                  exact hJ100 zfxc84_0_0 _ _ _ ls (by omega) (by omega) (by  omega) hzfxc84_0_0 hG100 hg0 hg1 TH hS (lv_sub hl [0, 1, 2, 3, 4] rfl)
            · have hf87 : ¬ (xe64.toInt = 0) := fun q => hc71 ((fa_eq _ _).mpr (by have : ((0 : Int32).toInt) = 0 := (by decide); omega))
              refine lv_iload_n hx hb dX12_firstQuarrels_66 rfl (lv_at hl 2 rfl) ?_
              refine lv_goto (tgt := 71) hx hb dX12_firstQuarrels_67 (by decide) ?_
              refine lv_iload hx hb dX12_firstQuarrels_71 (lv_at hl 0 rfl) ?_
              refine lv_iload_n hx hb dX12_firstQuarrels_73 rfl (lv_at hl 4 rfl) ?_
              refine tw_Vc (o := a0) (ci := 12) (n := 3) (post := (fun v kq Lq Eq => (∃ x : Int32, v = some (.int x) ∧ 0 ≤ x.toInt ∧ x.toInt ≤ 1) ∧ kp = kq ∧ L = Lq ∧ Eg8 = Eq)) (As := [.int x1, .int y8_4, .int x3]) (rest := []) ⟨hx, hb, hml, hown, hB⟩ (fun sz => tX12_isTouched l D cs a0 x1 y8_4 x3 hm0 hk0 (by omega) (by omega) (by omega) (by omega) hg0 sz) cg_12_465_X12_isTouched rfl rfl (by decide +kernel) ⟨Nat.le_of_ble_eq_true rfl, Nat.le_of_ble_eq_true rfl⟩ hK hN TH hS hA rfl hm0 hk0 (by decide) rfl hl.1 rfl (Nat.le_of_ble_eq_true rfl) dX12_firstQuarrels_74 ⟨Nat.le_of_ble_eq_true rfl, Nat.le_of_ble_eq_true rfl⟩ (fun v88 kp88 L88 E88 H locs hq88 hx88 TH hS => ?_)
              obtain ⟨⟨xc89, rfl, hxc89a, hxc89b⟩, rfl, rfl, rfl⟩ := hq88
              refine W.eq (g2 := F0 m 77 ls [.int xc89]) rfl ?_
              refine lv_if_eq (tgt := 100) hx hb dX12_firstQuarrels_77 (by decide) (fun hc90 => ?_) (fun hc90 => ?_)
              · have hf91 : xc89.toInt = 0 := by have z := (fa_eq _ _).mp hc90; have : ((0 : Int32).toInt) = 0 := (by decide); omega
                exact hJ100 u8_0_57 _ _ _ ls (by omega) (by omega) (by  omega) hfm8_0 hG100 hg0 hg1 TH hS (lv_sub hl [0, 1, 2, 3, 4] rfl)
              · have hf92 : ¬ (xc89.toInt = 0) := fun q => hc90 ((fa_eq _ _).mpr (by have : ((0 : Int32).toInt) = 0 := (by decide); omega))
                refine lv_aload_n hx hb dX12_firstQuarrels_80 rfl (lv_at hl 1 rfl) ?_
                refine lv_iload hx hb dX12_firstQuarrels_81 (lv_at hl 0 rfl) ?_
                refine lv_iconst (v := 1) hx hb dX12_firstQuarrels_83 (by decide) ?_
                refine lv_iload_n hx hb dX12_firstQuarrels_84 rfl (lv_at hl 2 rfl) ?_
                refine lv_iload_n hx hb dX12_firstQuarrels_85 rfl (lv_at hl 3 rfl) ?_
                refine tw_Vc (o := a0) (ci := 12) (n := 4) (post := (fun v kq Lq Eq => (∃ x : Int32, v = some (.int x) ∧ (-1) ≤ x.toInt ∧ x.toInt ≤ 11 ∧ (x.toInt = -1 ↔ st_ns Eg8 a0 y8_4.toInt (1 : Int32).toInt x1.toInt x2.toInt)) ∧ kp = kq ∧ L = Lq ∧ Eg8 = Eq)) (As := [.int y8_4, .int 1, .int x1, .int x2]) (rest := []) ⟨hx, hb, hml, hown, hB⟩ (fun sz => tX12_settledFor l D cs a0 y8_4 (1 : Int32) x1 x2 hm0 hk0 sz) cg_12_461_X12_settledFor rfl rfl (by decide +kernel) ⟨Nat.le_of_ble_eq_true rfl, Nat.le_of_ble_eq_true rfl⟩ hK hN TH hS hA rfl hm0 hk0 (by decide) rfl hl.1 rfl (Nat.le_of_ble_eq_true rfl) dX12_firstQuarrels_86 ⟨Nat.le_of_ble_eq_true rfl, Nat.le_of_ble_eq_true rfl⟩ (fun v93 kp93 L93 E93 H locs hq93 hx93 TH hS => ?_)
                obtain ⟨⟨xc94, rfl, hxc94a, hxc94b, hpoxc94_0⟩, rfl, rfl, rfl⟩ := hq93
                refine W.eq (g2 := F0 m 89 ls [.int xc94]) rfl ?_
                refine lv_iconst (v := (-1)) hx hb dX12_firstQuarrels_89 (by decide) ?_
                refine lv_icmp_ne (tgt := 100) hx hb dX12_firstQuarrels_90 (by decide) (fun hc95 => ?_) (fun hc95 => ?_)
                · have hf96 : ¬ (xc94.toInt = (-1)) := fun q => hc95 ((fa_eq _ _).mpr (by have : (((-1) : Int32).toInt) = (-1) := (by decide); omega))
                  exact hJ100 u8_0_57 _ _ _ ls (by omega) (by omega) (by  omega) hfm8_0 hG100 hg0 hg1 TH hS (lv_sub hl [0, 1, 2, 3, 4] rfl)
                · have hf97 : xc94.toInt = (-1) := by have z := (fa_eq _ _).mp hc95; have : (((-1) : Int32).toInt) = (-1) := (by decide); omega
                  refine lv_aload_n hx hb dX12_firstQuarrels_93 rfl (lv_at hl 1 rfl) ?_
                  refine lv_iconst (v := 1) hx hb dX12_firstQuarrels_94 (by decide) ?_
                  refine lv_iload hx hb dX12_firstQuarrels_95 (lv_at hl 0 rfl) ?_
                  refine tw_Vc (o := a0) (ci := 12) (n := 2) (post := (fun v kq Lq Eq => v = none ∧ kp = kq ∧ L = Lq ∧ tw_fr kp L [(12, 57)] [359] Eg8 Eq ∧ (∃ z0 : Int32, tw_fv Eq a0 57 = .int z0 ∧ (z0.toInt = u8_0_57.toInt + 1)))) (As := [.int 1, .int y8_4]) (rest := []) ⟨hx, hb, hml, hown, hB⟩ (fun sz => tX12_quarrels l D cs a0 (1 : Int32) y8_4 u8_0_57 hm0 hk0 hfm8_0 (by have : ((1 : Int32).toInt) = 1 := (by decide); omega) sz) cg_12_468_X12_quarrels rfl rfl (by decide +kernel) ⟨Nat.le_of_ble_eq_true rfl, Nat.le_of_ble_eq_true rfl⟩ hK hN TH hS hA rfl hm0 hk0 (by decide) rfl hl.1 rfl (Nat.le_of_ble_eq_true rfl) dX12_firstQuarrels_97 ⟨Nat.le_of_ble_eq_true rfl, Nat.le_of_ble_eq_true rfl⟩ (fun v98 kp98 L98 E98 H locs hq98 hx98 TH hS => ?_)
                  obtain ⟨rfl, rfl, rfl, hst98, ⟨zfxc99_0_0, hzfxc99_0_0, hzpxc99_0⟩⟩ := hq98
                  have hF := hF.tr hst98 (fun _ h => ⟨h, rfl⟩) (by decide) (by decide)
                  have hG8 := hG8.tr hst98 (fun _ h => ⟨h, rfl⟩) (by decide) (by decide)
                  have hG100 := hG100.tr hst98 (fun _ h => ⟨h, rfl⟩) (by decide) (by decide)
                  have hmf100 : tw_fv E98 a0 26 = .int xi6 := (hst98.1 a0 26 hm0 (by rw [hk0]; decide)).trans hxi6
                  have hmf101 : tw_fv E98 a0 16 = .ref xr54 := (hst98.1 a0 16 hm0 (by rw [hk0]; decide)).trans hxr54
                  have hg0 : rw_ok E98 a0 (x1.toInt) := rw_ok_fr TH hst98 hm0 hk0 (by decide) (by decide) (by omega) hg0
                  have hg1 : rw_ok E98 a0 (x2.toInt) := rw_ok_fr TH hst98 hm0 hk0 (by decide) (by decide) (by omega) hg1
                  obtain ⟨qzfxc99_0_0, hqzfxc99_0_0, hqzfxc99_0_0a, hqzfxc99_0_0b⟩ := tw_rd TH hm0 hk0 (by decide) (by decide) (k := 57) rfl
                  have eqzfxc99_0_0 : qzfxc99_0_0 = zfxc99_0_0 := by have q := hqzfxc99_0_0.symm.trans hzfxc99_0_0; injection q
                  rw [eqzfxc99_0_0] at hqzfxc99_0_0a hqzfxc99_0_0b
                  refine W.eq (g2 := F0 m 100 ls []) rfl ?_
                  exact hJ100 zfxc99_0_0 _ _ _ ls (by omega) (by omega) (by  omega) hzfxc99_0_0 hG100 hg0 hg1 TH hS (lv_sub hl [0, 1, 2, 3, 4] rfl)
          · have hf102 : xe64.toInt = xe66.toInt := by have z := (fa_eq _ _).mp hc67;  omega
            refine lv_goto (tgt := 100) hx hb dX12_firstQuarrels_50 (by decide) ?_
            exact hJ100 u8_0_57 _ _ _ ls (by omega) (by omega) (by  omega) hfm8_0 hG100 hg0 hg1 TH hS (lv_sub hl [0, 1, 2, 3, 4] rfl)
  exact hJ8 151 (0 : Int32) (0 : Int32) _ _ _ ls (by have : ((0 : Int32).toInt) = 0 := (by decide); omega) (by have : ((0 : Int32).toInt) = 0 := (by decide); omega) (by have : ((0 : Int32).toInt) = 0 := (by decide); omega) (by have : ((0 : Int32).toInt) = 0 := (by decide); omega) (by have : ((0 : Int32).toInt) = 0 := (by decide); omega) (by have : ((0 : Int32).toInt) = 0 := (by decide);  omega) hmf5 tw_fr.rf hg0 hg1 TH hS (lv_sub hl [0, 1, 2, 3, 4] rfl)
