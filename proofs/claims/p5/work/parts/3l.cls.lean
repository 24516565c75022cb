set_option maxHeartbeats 4000000 in
set_option maxRecDepth 100000 in
theorem tX12_isFrom_v9 (l : Launch) (D : va_G) (cs : Nat → ClassId) {kp : Nat → Nat} {L : List Nat} {E : Nat → va_E} (a0 : Nat) (x1 : Int32) (x2 : Int32) (fv0_27 : Int32) (hm0 : a0 ∈ L) (hk0 : kp a0 = 12) (hp1a : 0 ≤ x1.toInt) (hp1b : x1.toInt ≤ 9) (hp2a : 0 ≤ x2.toInt) (hp2b : x2.toInt ≤ 11) (hfv0_27 : tw_fv E a0 27 = .int fv0_27) (hpre0 : x1.toInt < fv0_27.toInt) (hg0 : eo_ok E a0) (hg1 : ln_ok E a0) (sz : Nat) : Met l yX12_isFrom (.code yX12_isFrom cX12_isFrom 3 (some .boolean) :: cx_big) { frames := 9, cells := 0, slots := 0, locals := 198 } (tw_P D cs kp L E [.ref a0, .int x1, .int x2] sz) (tw_Q D cs kp L (fun v kq Lq Eq => (∃ x : Int32, v = some (.int x) ∧ 0 ≤ x.toInt ∧ x.toInt ≤ 1 ∧ (x.toInt ≠ 0 → r2_ok E a0 x1.toInt x2.toInt)) ∧ kp = kq ∧ L = Lq ∧ E = Eq) (va_A (va_pl L E) sz)) 0 0 (va_A (va_pl L E) sz) := by
  refine tw_ofW (by decide) (Nat.le_of_ble_eq_true rfl) ?_
  intro p e s m below meth c A ls hx hb hr hml hB hown hlocks hK hN hA TH hS hl
  have hown : s.vm.findClass "TreeMergeModel" = some m.cls := hown
  have hl : lv_has ls 3 [(0, .ref a0), (1, .int x1), (2, .int x2)] := hl
  obtain ⟨kp0, ekp⟩ : ∃ z, z = kp := ⟨_, rfl⟩
  obtain ⟨L0, eL⟩ : ∃ z, z = L := ⟨_, rfl⟩
  rw [show tw_Q D cs kp L = tw_Q D cs kp0 L0 by rw [ekp, eL]]
  have hex : ∀ a : Nat, a ∈ L0 → a ∈ L ∧ kp a = kp0 a := fun a h => ⟨by rw [← eL]; exact h, by rw [ekp]⟩
  obtain ⟨qfv0_27, hqfv0_27, hqfv0_27a, hqfv0_27b⟩ := tw_rd TH hm0 hk0 (by decide) (by decide) (k := 27) rfl
  have eqfv0_27 : qfv0_27 = fv0_27 := by have q := hqfv0_27.symm.trans hfv0_27; injection q
  rw [eqfv0_27] at hqfv0_27a hqfv0_27b
  refine lv_iload_n hx hb dX12_isFrom_0 rfl (lv_at hl 1 rfl) ?_
  refine lv_iload_n hx hb dX12_isFrom_1 rfl (lv_at hl 2 rfl) ?_
  refine lv_icmp_ne (tgt := 7) hx hb dX12_isFrom_2 (by decide) (fun hc1 => ?_) (fun hc1 => ?_)
  · have hf2 : ¬ (x1.toInt = x2.toInt) := fun q => hc1 ((fa_eq _ _).mpr (by  omega))
    refine lv_aload_n hx hb dX12_isFrom_7 rfl (lv_at hl 0 rfl) ?_
    refine tw_get (ci := 12) (C := RX12) (T := TX12) (N := 64) hx hb hB cx_inX12 hown hK TH hm0 hk0 rfl ⟨by decide, rfl⟩ 24 (by decide) cw_1217 (fun _ h9 => h9) dX12_isFrom_8 (fun hv => ?_)
    obtain ⟨xr3, hxr3, hmxr3, hkxr3⟩ : ∃ a : Nat, tw_fv E a0 24 = .ref a ∧ a ∈ L ∧ kp a = 334 := hv
    rw [hxr3]
    refine lv_iload_n hx hb dX12_isFrom_11 rfl (lv_at hl 1 rfl) ?_
    refine tw_iald (k := 334) (t0 := 0) (n := 12) (lo := (-1)) (hi := 11) hx hb hK TH hmxr3 hkxr3 (by decide) rfl rfl (i := x1) (vp_in_iff.mpr ⟨by  omega, by  omega⟩) dX12_isFrom_12 (fun hxe4a hxe4b => ?_)
    obtain ⟨xe4, exe4⟩ : ∃ z : Int32, tw_iv E xr3 (Int32.toNatClampNeg x1) = z := ⟨_, rfl⟩
    rw [exe4] at hxe4a hxe4b ⊢
    have hl13 : xe4.toInt = -1 ∨ (0 ≤ xe4.toInt ∧ xe4.toInt < x1.toInt ∧ r2_ok E a0 (x1.toInt) (xe4.toInt)) := (by have q := hg1 (x1.toInt).toNat (by rw [tw_fi_of hfv0_27]; omega) 24 (by decide); have w : tw_el E a0 24 (x1.toInt).toNat = xe4.toInt := (by rw [tw_el_of hxr3]; exact congrArg Int32.toInt exe4); rw [w, show (((x1.toInt).toNat : Nat) : Int) = x1.toInt by omega] at q; exact q)
    have hn13 : xe4.toInt = -1 ∨ (0 ≤ xe4.toInt ∧ xe4.toInt < x1.toInt) := hl13.imp id (fun q => ⟨q.1, q.2.1⟩)
    refine lv_iconst (v := (-1)) hx hb dX12_isFrom_13 (by decide) ?_
    refine lv_icmp_eq (tgt := 31) hx hb dX12_isFrom_14 (by decide) (fun hc5 => ?_) (fun hc5 => ?_)
    · have hf6 : xe4.toInt = (-1) := by have z := (fa_eq _ _).mp hc5; have : (((-1) : Int32).toInt) = (-1) := (by decide); omega
      refine lv_aload_n hx hb dX12_isFrom_31 rfl (lv_at hl 0 rfl) ?_
      refine tw_get (ci := 12) (C := RX12) (T := TX12) (N := 64) hx hb hB cx_inX12 hown hK TH hm0 hk0 rfl ⟨by decide, rfl⟩ 25 (by decide) cw_1218 (fun _ h9 => h9) dX12_isFrom_32 (fun hv => ?_)
      obtain ⟨xr7, hxr7, hmxr7, hkxr7⟩ : ∃ a : Nat, tw_fv E a0 25 = .ref a ∧ a ∈ L ∧ kp a = 335 := hv
      rw [hxr7]
      refine lv_iload_n hx hb dX12_isFrom_35 rfl (lv_at hl 1 rfl) ?_
      refine tw_iald (k := 335) (t0 := 0) (n := 12) (lo := (-1)) (hi := 11) hx hb hK TH hmxr7 hkxr7 (by decide) rfl rfl (i := x1) (vp_in_iff.mpr ⟨by  omega, by  omega⟩) dX12_isFrom_36 (fun hxe8a hxe8b => ?_)
      obtain ⟨xe8, exe8⟩ : ∃ z : Int32, tw_iv E xr7 (Int32.toNatClampNeg x1) = z := ⟨_, rfl⟩
      rw [exe8] at hxe8a hxe8b ⊢
      have hl37 : xe8.toInt = -1 ∨ (0 ≤ xe8.toInt ∧ xe8.toInt < x1.toInt ∧ r2_ok E a0 (x1.toInt) (xe8.toInt)) := (by have q := hg1 (x1.toInt).toNat (by rw [tw_fi_of hfv0_27]; omega) 25 (by decide); have w : tw_el E a0 25 (x1.toInt).toNat = xe8.toInt := (by rw [tw_el_of hxr7]; exact congrArg Int32.toInt exe8); rw [w, show (((x1.toInt).toNat : Nat) : Int) = x1.toInt by omega] at q; exact q)
      have hn37 : xe8.toInt = -1 ∨ (0 ≤ xe8.toInt ∧ xe8.toInt < x1.toInt) := hl37.imp id (fun q => ⟨q.1, q.2.1⟩)
      refine lv_iconst (v := (-1)) hx hb dX12_isFrom_37 (by decide) ?_
      refine lv_icmp_eq (tgt := 59) hx hb dX12_isFrom_38 (by decide) (fun hc9 => ?_) (fun hc9 => ?_)
      · have hf10 : xe8.toInt = (-1) := by have z := (fa_eq _ _).mp hc9; have : (((-1) : Int32).toInt) = (-1) := (by decide); omega
        refine lv_iconst (v := 0) hx hb dX12_isFrom_59 (by decide) ?_
        exact tw_zret hx hb hr hlocks (by decide) TH hS hex ⟨⟨_, rfl, (show 0 ≤ Int32.toInt 0 from by have : ((0 : Int32).toInt) = 0 := (by decide); omega), (show Int32.toInt 0 ≤ 1 from by have : ((0 : Int32).toInt) = 0 := (by decide); omega), (by have : ((0 : Int32).toInt) = 0 := (by decide); intro q; exfalso; exact q (by decide))⟩, rfl, rfl, rfl⟩ (Nat.le_of_ble_eq_true rfl) (Nat.le_of_ble_eq_true rfl) dX12_isFrom_60
      · have hf11 : ¬ (xe8.toInt = (-1)) := fun q => hc9 ((fa_eq _ _).mpr (by have : (((-1) : Int32).toInt) = (-1) := (by decide); omega))
        refine lv_aload_n hx hb dX12_isFrom_41 rfl (lv_at hl 0 rfl) ?_
        refine lv_aload_n hx hb dX12_isFrom_42 rfl (lv_at hl 0 rfl) ?_
        refine tw_get (ci := 12) (C := RX12) (T := TX12) (N := 64) hx hb hB cx_inX12 hown hK TH hm0 hk0 rfl ⟨by decide, rfl⟩ 25 (by decide) cw_1218 (fun _ h9 => h9) dX12_isFrom_43 (fun hv => ?_)
        rw [hxr7]
        refine lv_iload_n hx hb dX12_isFrom_46 rfl (lv_at hl 1 rfl) ?_
        refine tw_iald (k := 335) (t0 := 0) (n := 12) (lo := (-1)) (hi := 11) hx hb hK TH hmxr7 hkxr7 (by decide) rfl rfl (i := x1) (vp_in_iff.mpr ⟨by  omega, by  omega⟩) dX12_isFrom_47 (fun hxe12a hxe12b => ?_)
        rw [exe8]
        refine lv_iload_n hx hb dX12_isFrom_48 rfl (lv_at hl 2 rfl) ?_
        refine tw_Vc (o := a0) (ci := 12) (n := 2) (post := (fun v kq Lq Eq => (∃ x : Int32, v = some (.int x) ∧ 0 ≤ x.toInt ∧ x.toInt ≤ 1 ∧ (x.toInt ≠ 0 → r2_ok E a0 xe8.toInt x2.toInt)) ∧ kp = kq ∧ L = Lq ∧ E = Eq)) (As := [.int xe8, .int x2]) (rest := []) ⟨hx, hb, hml, hown, hB⟩ (fun sz => tX12_isFrom_v8 l D cs a0 xe8 x2 fv0_27 hm0 hk0 (by omega) (by omega) (by omega) (by omega) hfv0_27 (by  omega) hg0 hg1 sz) cg_12_512_X12_isFrom rfl rfl (by decide +kernel) ⟨Nat.le_of_ble_eq_true rfl, Nat.le_of_ble_eq_true rfl⟩ hK hN TH hS hA rfl hm0 hk0 (by decide) rfl hl.1 rfl (Nat.le_of_ble_eq_true rfl) dX12_isFrom_49 ⟨Nat.le_of_ble_eq_true rfl, Nat.le_of_ble_eq_true rfl⟩ (fun v13 kp13 L13 E13 H locs hq13 hx13 TH hS => ?_)
        obtain ⟨⟨xc14, rfl, hxc14a, hxc14b, hpoxc14_0⟩, rfl, rfl, rfl⟩ := hq13
        refine W.eq (g2 := F0 m 52 ls [.int xc14]) rfl ?_
        refine lv_if_eq (tgt := 59) hx hb dX12_isFrom_52 (by decide) (fun hc15 => ?_) (fun hc15 => ?_)
        · have hf16 : xc14.toInt = 0 := by have z := (fa_eq _ _).mp hc15; have : ((0 : Int32).toInt) = 0 := (by decide); omega
          refine lv_iconst (v := 0) hx hb dX12_isFrom_59 (by decide) ?_
          exact tw_zret hx hb hr hlocks (by decide) TH hS hex ⟨⟨_, rfl, (show 0 ≤ Int32.toInt 0 from by have : ((0 : Int32).toInt) = 0 := (by decide); omega), (show Int32.toInt 0 ≤ 1 from by have : ((0 : Int32).toInt) = 0 := (by decide); omega), (by have : ((0 : Int32).toInt) = 0 := (by decide); intro q; exfalso; exact q (by decide))⟩, rfl, rfl, rfl⟩ (Nat.le_of_ble_eq_true rfl) (Nat.le_of_ble_eq_true rfl) dX12_isFrom_60
        · have hf17 : ¬ (xc14.toInt = 0) := fun q => hc15 ((fa_eq _ _).mpr (by have : ((0 : Int32).toInt) = 0 := (by decide); omega))
          refine lv_iconst (v := 1) hx hb dX12_isFrom_55 (by decide) ?_
          refine lv_goto (tgt := 60) hx hb dX12_isFrom_56 (by decide) ?_
          exact tw_zret hx hb hr hlocks (by decide) TH hS hex ⟨⟨_, rfl, (show 0 ≤ Int32.toInt 1 from by have : ((1 : Int32).toInt) = 1 := (by decide); omega), (show Int32.toInt 1 ≤ 1 from by have : ((1 : Int32).toInt) = 1 := (by decide); omega), (by have : ((1 : Int32).toInt) = 1 := (by decide); intro _; have hl := hl37.resolve_left (by omega); exact r2_tr (hg0 (xe8.toInt) (by omega) (by rw [tw_fi_of hfv0_27]; omega)).1 hl.2.2 (hpoxc14_0 (by omega)))⟩, rfl, rfl, rfl⟩ (Nat.le_of_ble_eq_true rfl) (Nat.le_of_ble_eq_true rfl) dX12_isFrom_60
    · have hf18 : ¬ (xe4.toInt = (-1)) := fun q => hc5 ((fa_eq _ _).mpr (by have : (((-1) : Int32).toInt) = (-1) := (by decide); omega))
      refine lv_aload_n hx hb dX12_isFrom_17 rfl (lv_at hl 0 rfl) ?_
      refine lv_aload_n hx hb dX12_isFrom_18 rfl (lv_at hl 0 rfl) ?_
      refine tw_get (ci := 12) (C := RX12) (T := TX12) (N := 64) hx hb hB cx_inX12 hown hK TH hm0 hk0 rfl ⟨by decide, rfl⟩ 24 (by decide) cw_1217 (fun _ h9 => h9) dX12_isFrom_19 (fun hv => ?_)
      rw [hxr3]
      refine lv_iload_n hx hb dX12_isFrom_22 rfl (lv_at hl 1 rfl) ?_
      refine tw_iald (k := 334) (t0 := 0) (n := 12) (lo := (-1)) (hi := 11) hx hb hK TH hmxr3 hkxr3 (by decide) rfl rfl (i := x1) (vp_in_iff.mpr ⟨by  omega, by  omega⟩) dX12_isFrom_23 (fun hxe19a hxe19b => ?_)
      rw [exe4]
      refine lv_iload_n hx hb dX12_isFrom_24 rfl (lv_at hl 2 rfl) ?_
      refine tw_Vc (o := a0) (ci := 12) (n := 2) (post := (fun v kq Lq Eq => (∃ x : Int32, v = some (.int x) ∧ 0 ≤ x.toInt ∧ x.toInt ≤ 1 ∧ (x.toInt ≠ 0 → r2_ok E a0 xe4.toInt x2.toInt)) ∧ kp = kq ∧ L = Lq ∧ E = Eq)) (As := [.int xe4, .int x2]) (rest := []) ⟨hx, hb, hml, hown, hB⟩ (fun sz => tX12_isFrom_v8 l D cs a0 xe4 x2 fv0_27 hm0 hk0 (by omega) (by omega) (by omega) (by omega) hfv0_27 (by  omega) hg0 hg1 sz) cg_12_512_X12_isFrom rfl rfl (by decide +kernel) ⟨Nat.le_of_ble_eq_true rfl, Nat.le_of_ble_eq_true rfl⟩ hK hN TH hS hA rfl hm0 hk0 (by decide) rfl hl.1 rfl (Nat.le_of_ble_eq_true rfl) dX12_isFrom_25 ⟨Nat.le_of_ble_eq_true rfl, Nat.le_of_ble_eq_true rfl⟩ (fun v20 kp20 L20 E20 H locs hq20 hx20 TH hS => ?_)
      obtain ⟨⟨xc21, rfl, hxc21a, hxc21b, hpoxc21_0⟩, rfl, rfl, rfl⟩ := hq20
      refine W.eq (g2 := F0 m 28 ls [.int xc21]) rfl ?_
      refine lv_if_ne (tgt := 55) hx hb dX12_isFrom_28 (by decide) (fun hc22 => ?_) (fun hc22 => ?_)
      · have hf23 : ¬ (xc21.toInt = 0) := fun q => hc22 ((fa_eq _ _).mpr (by have : ((0 : Int32).toInt) = 0 := (by decide); omega))
        refine lv_iconst (v := 1) hx hb dX12_isFrom_55 (by decide) ?_
        refine lv_goto (tgt := 60) hx hb dX12_isFrom_56 (by decide) ?_
        exact tw_zret hx hb hr hlocks (by decide) TH hS hex ⟨⟨_, rfl, (show 0 ≤ Int32.toInt 1 from by have : ((1 : Int32).toInt) = 1 := (by decide); omega), (show Int32.toInt 1 ≤ 1 from by have : ((1 : Int32).toInt) = 1 := (by decide); omega), (by have : ((1 : Int32).toInt) = 1 := (by decide); intro _; have hl := hl13.resolve_left (by omega); exact r2_tr (hg0 (xe4.toInt) (by omega) (by rw [tw_fi_of hfv0_27]; omega)).1 hl.2.2 (hpoxc21_0 (by omega)))⟩, rfl, rfl, rfl⟩ (Nat.le_of_ble_eq_true rfl) (Nat.le_of_ble_eq_true rfl) dX12_isFrom_60
      · have hf24 : xc21.toInt = 0 := by have z := (fa_eq _ _).mp hc22; have : ((0 : Int32).toInt) = 0 := (by decide); omega
        refine lv_aload_n hx hb dX12_isFrom_31 rfl (lv_at hl 0 rfl) ?_
        refine tw_get (ci := 12) (C := RX12) (T := TX12) (N := 64) hx hb hB cx_inX12 hown hK TH hm0 hk0 rfl ⟨by decide, rfl⟩ 25 (by decide) cw_1218 (fun _ h9 => h9) dX12_isFrom_32 (fun hv => ?_)
        obtain ⟨xr25, hxr25, hmxr25, hkxr25⟩ : ∃ a : Nat, tw_fv E a0 25 = .ref a ∧ a ∈ L ∧ kp a = 335 := hv
        rw [hxr25]
        refine lv_iload_n hx hb dX12_isFrom_35 rfl (lv_at hl 1 rfl) ?_
        refine tw_iald (k := 335) (t0 := 0) (n := 12) (lo := (-1)) (hi := 11) hx hb hK TH hmxr25 hkxr25 (by decide) rfl rfl (i := x1) (vp_in_iff.mpr ⟨by  omega, by  omega⟩) dX12_isFrom_36 (fun hxe26a hxe26b => ?_)
        obtain ⟨xe26, exe26⟩ : ∃ z : Int32, tw_iv E xr25 (Int32.toNatClampNeg x1) = z := ⟨_, rfl⟩
        rw [exe26] at hxe26a hxe26b ⊢
        have hl37 : xe26.toInt = -1 ∨ (0 ≤ xe26.toInt ∧ xe26.toInt < x1.toInt ∧ r2_ok E a0 (x1.toInt) (xe26.toInt)) := (by have q := hg1 (x1.toInt).toNat (by rw [tw_fi_of hfv0_27]; omega) 25 (by decide); have w : tw_el E a0 25 (x1.toInt).toNat = xe26.toInt := (by rw [tw_el_of hxr25]; exact congrArg Int32.toInt exe26); rw [w, show (((x1.toInt).toNat : Nat) : Int) = x1.toInt by omega] at q; exact q)
        have hn37 : xe26.toInt = -1 ∨ (0 ≤ xe26.toInt ∧ xe26.toInt < x1.toInt) := hl37.imp id (fun q => ⟨q.1, q.2.1⟩)
        refine lv_iconst (v := (-1)) hx hb dX12_isFrom_37 (by decide) ?_
        refine lv_icmp_eq (tgt := 59) hx hb dX12_isFrom_38 (by decide) (fun hc27 => ?_) (fun hc27 => ?_)
        · have hf28 : xe26.toInt = (-1) := by have z := (fa_eq _ _).mp hc27; have : (((-1) : Int32).toInt) = (-1) := (by decide); omega
          refine lv_iconst (v := 0) hx hb dX12_isFrom_59 (by decide) ?_
          exact tw_zret hx hb hr hlocks (by decide) TH hS hex ⟨⟨_, rfl, (show 0 ≤ Int32.toInt 0 from by have : ((0 : Int32).toInt) = 0 := (by decide); omega), (show Int32.toInt 0 ≤ 1 from by have : ((0 : Int32).toInt) = 0 := (by decide); omega), (by have : ((0 : Int32).toInt) = 0 := (by decide); intro q; exfalso; exact q (by decide))⟩, rfl, rfl, rfl⟩ (Nat.le_of_ble_eq_true rfl) (Nat.le_of_ble_eq_true rfl) dX12_isFrom_60
        · have hf29 : ¬ (xe26.toInt = (-1)) := fun q => hc27 ((fa_eq _ _).mpr (by have : (((-1) : Int32).toInt) = (-1) := (by decide); omega))
          refine lv_aload_n hx hb dX12_isFrom_41 rfl (lv_at hl 0 rfl) ?_
          refine lv_aload_n hx hb dX12_isFrom_42 rfl (lv_at hl 0 rfl) ?_
          refine tw_get (ci := 12) (C := RX12) (T := TX12) (N := 64) hx hb hB cx_inX12 hown hK TH hm0 hk0 rfl ⟨by decide, rfl⟩ 25 (by decide) cw_1218 (fun _ h9 => h9) dX12_isFrom_43 (fun hv => ?_)
          rw [hxr25]
          refine lv_iload_n hx hb dX12_isFrom_46 rfl (lv_at hl 1 rfl) ?_
          refine tw_iald (k := 335) (t0 := 0) (n := 12) (lo := (-1)) (hi := 11) hx hb hK TH hmxr25 hkxr25 (by decide) rfl rfl (i := x1) (vp_in_iff.mpr ⟨by  omega, by  omega⟩) dX12_isFrom_47 (fun hxe30a hxe30b => ?_)
          rw [exe26]
          refine lv_iload_n hx hb dX12_isFrom_48 rfl (lv_at hl 2 rfl) ?_
          refine tw_Vc (o := a0) (ci := 12) (n := 2) (post := (fun v kq Lq Eq => (∃ x : Int32, v = some (.int x) ∧ 0 ≤ x.toInt ∧ x.toInt ≤ 1 ∧ (x.toInt ≠ 0 → r2_ok E a0 xe26.toInt x2.toInt)) ∧ kp = kq ∧ L = Lq ∧ E = Eq)) (As := [.int xe26, .int x2]) (rest := []) ⟨hx, hb, hml, hown, hB⟩ (fun sz => tX12_isFrom_v8 l D cs a0 xe26 x2 fv0_27 hm0 hk0 (by omega) (by omega) (by omega) (by omega) hfv0_27 (by  omega) hg0 hg1 sz) cg_12_512_X12_isFrom rfl rfl (by decide +kernel) ⟨Nat.le_of_ble_eq_true rfl, Nat.le_of_ble_eq_true rfl⟩ hK hN TH hS hA rfl hm0 hk0 (by decide) rfl hl.1 rfl (Nat.le_of_ble_eq_true rfl) dX12_isFrom_49 ⟨Nat.le_of_ble_eq_true rfl, Nat.le_of_ble_eq_true rfl⟩ (fun v31 kp31 L31 E31 H locs hq31 hx31 TH hS => ?_)
          obtain ⟨⟨xc32, rfl, hxc32a, hxc32b, hpoxc32_0⟩, rfl, rfl, rfl⟩ := hq31
          refine W.eq (g2 := F0 m 52 ls [.int xc32]) rfl ?_
          refine lv_if_eq (tgt := 59) hx hb dX12_isFrom_52 (by decide) (fun hc33 => ?_) (fun hc33 => ?_)
          · have hf34 : xc32.toInt = 0 := by have z := (fa_eq _ _).mp hc33; have : ((0 : Int32).toInt) = 0 := (by decide); omega
            refine lv_iconst (v := 0) hx hb dX12_isFrom_59 (by decide) ?_
            exact tw_zret hx hb hr hlocks (by decide) TH hS hex ⟨⟨_, rfl, (show 0 ≤ Int32.toInt 0 from by have : ((0 : Int32).toInt) = 0 := (by decide); omega), (show Int32.toInt 0 ≤ 1 from by have : ((0 : Int32).toInt) = 0 := (by decide); omega), (by have : ((0 : Int32).toInt) = 0 := (by decide); intro q; exfalso; exact q (by decide))⟩, rfl, rfl, rfl⟩ (Nat.le_of_ble_eq_true rfl) (Nat.le_of_ble_eq_true rfl) dX12_isFrom_60
          · have hf35 : ¬ (xc32.toInt = 0) := fun q => hc33 ((fa_eq _ _).mpr (by have : ((0 : Int32).toInt) = 0 := (by decide); omega))
            refine lv_iconst (v := 1) hx hb dX12_isFrom_55 (by decide) ?_
            refine lv_goto (tgt := 60) hx hb dX12_isFrom_56 (by decide) ?_
            exact tw_zret hx hb hr hlocks (by decide) TH hS hex ⟨⟨_, rfl, (show 0 ≤ Int32.toInt 1 from by have : ((1 : Int32).toInt) = 1 := (by decide); omega), (show Int32.toInt 1 ≤ 1 from by have : ((1 : Int32).toInt) = 1 := (by decide); omega), (by have : ((1 : Int32).toInt) = 1 := (by decide); intro _; have hl := hl37.resolve_left (by omega); exact r2_tr (hg0 (xe26.toInt) (by omega) (by rw [tw_fi_of hfv0_27]; omega)).1 hl.2.2 (hpoxc32_0 (by omega)))⟩, rfl, rfl, rfl⟩ (Nat.le_of_ble_eq_true rfl) (Nat.le_of_ble_eq_true rfl) dX12_isFrom_60
  · have hf36 : x1.toInt = x2.toInt := by have z := (fa_eq _ _).mp hc1;  omega
    refine lv_iconst (v := 1) hx hb dX12_isFrom_5 (by decide) ?_
    exact tw_zret hx hb hr hlocks (by decide) TH hS hex ⟨⟨_, rfl, (show 0 ≤ Int32.toInt 1 from by have : ((1 : Int32).toInt) = 1 := (by decide); omega), (show Int32.toInt 1 ≤ 1 from by have : ((1 : Int32).toInt) = 1 := (by decide); omega), (by have : ((1 : Int32).toInt) = 1 := (by decide); intro _; rw [show x2.toInt = x1.toInt by omega]; exact r2_rf (hg0 (x1.toInt) (by omega) (by rw [tw_fi_of hfv0_27]; omega)))⟩, rfl, rfl, rfl⟩ (Nat.le_of_ble_eq_true rfl) (Nat.le_of_ble_eq_true rfl) dX12_isFrom_6
set_option maxHeartbeats 4000000 in
set_option maxRecDepth 100000 in
theorem tX12_isFrom_v10 (l : Launch) (D : va_G) (cs : Nat → ClassId) {kp : Nat → Nat} {L : List Nat} {E : Nat → va_E} (a0 : Nat) (x1 : Int32) (x2 : Int32) (fv0_27 : Int32) (hm0 : a0 ∈ L) (hk0 : kp a0 = 12) (hp1a : 0 ≤ x1.toInt) (hp1b : x1.toInt ≤ 10) (hp2a : 0 ≤ x2.toInt) (hp2b : x2.toInt ≤ 11) (hfv0_27 : tw_fv E a0 27 = .int fv0_27) (hpre0 : x1.toInt < fv0_27.toInt) (hg0 : eo_ok E a0) (hg1 : ln_ok E a0) (sz : Nat) : Met l yX12_isFrom (.code yX12_isFrom cX12_isFrom 3 (some .boolean) :: cx_big) { frames := 10, cells := 0, slots := 0, locals := 220 } (tw_P D cs kp L E [.ref a0, .int x1, .int x2] sz) (tw_Q D cs kp L (fun v kq Lq Eq => (∃ x : Int32, v = some (.int x) ∧ 0 ≤ x.toInt ∧ x.toInt ≤ 1 ∧ (x.toInt ≠ 0 → r2_ok E a0 x1.toInt x2.toInt)) ∧ kp = kq ∧ L = Lq ∧ E = Eq) (va_A (va_pl L E) sz)) 0 0 (va_A (va_pl L E) sz) := by
  refine tw_ofW (by decide) (Nat.le_of_ble_eq_true rfl) ?_
  intro p e s m below meth c A ls hx hb hr hml hB hown hlocks hK hN hA TH hS hl
  have hown : s.vm.findClass "TreeMergeModel" = some m.cls := hown
  have hl : lv_has ls 3 [(0, .ref a0), (1, .int x1), (2, .int x2)] := hl
  obtain ⟨kp0, ekp⟩ : ∃ z, z = kp := ⟨_, rfl⟩
  obtain ⟨L0, eL⟩ : ∃ z, z = L := ⟨_, rfl⟩
  rw [show tw_Q D cs kp L = tw_Q D cs kp0 L0 by rw [ekp, eL]]
  have hex : ∀ a : Nat, a ∈ L0 → a ∈ L ∧ kp a = kp0 a := fun a h => ⟨by rw [← eL]; exact h, by rw [ekp]⟩
  obtain ⟨qfv0_27, hqfv0_27, hqfv0_27a, hqfv0_27b⟩ := tw_rd TH hm0 hk0 (by decide) (by decide) (k := 27) rfl
  have eqfv0_27 : qfv0_27 = fv0_27 := by have q := hqfv0_27.symm.trans hfv0_27; injection q
  rw [eqfv0_27] at hqfv0_27a hqfv0_27b
  refine lv_iload_n hx hb dX12_isFrom_0 rfl (lv_at hl 1 rfl) ?_
  refine lv_iload_n hx hb dX12_isFrom_1 rfl (lv_at hl 2 rfl) ?_
  refine lv_icmp_ne (tgt := 7) hx hb dX12_isFrom_2 (by decide) (fun hc1 => ?_) (fun hc1 => ?_)
  · have hf2 : ¬ (x1.toInt = x2.toInt) := fun q => hc1 ((fa_eq _ _).mpr (by  omega))
    refine lv_aload_n hx hb dX12_isFrom_7 rfl (lv_at hl 0 rfl) ?_
    refine tw_get (ci := 12) (C := RX12) (T := TX12) (N := 64) hx hb hB cx_inX12 hown hK TH hm0 hk0 rfl ⟨by decide, rfl⟩ 24 (by decide) cw_1217 (fun _ h9 => h9) dX12_isFrom_8 (fun hv => ?_)
    obtain ⟨xr3, hxr3, hmxr3, hkxr3⟩ : ∃ a : Nat, tw_fv E a0 24 = .ref a ∧ a ∈ L ∧ kp a = 334 := hv
    rw [hxr3]
    refine lv_iload_n hx hb dX12_isFrom_11 rfl (lv_at hl 1 rfl) ?_
    refine tw_iald (k := 334) (t0 := 0) (n := 12) (lo := (-1)) (hi := 11) hx hb hK TH hmxr3 hkxr3 (by decide) rfl rfl (i := x1) (vp_in_iff.mpr ⟨by  omega, by  omega⟩) dX12_isFrom_12 (fun hxe4a hxe4b => ?_)
    obtain ⟨xe4, exe4⟩ : ∃ z : Int32, tw_iv E xr3 (Int32.toNatClampNeg x1) = z := ⟨_, rfl⟩
    rw [exe4] at hxe4a hxe4b ⊢
    have hl13 : xe4.toInt = -1 ∨ (0 ≤ xe4.toInt ∧ xe4.toInt < x1.toInt ∧ r2_ok E a0 (x1.toInt) (xe4.toInt)) := (by have q := hg1 (x1.toInt).toNat (by rw [tw_fi_of hfv0_27]; omega) 24 (by decide); have w : tw_el E a0 24 (x1.toInt).toNat = xe4.toInt := (by rw [tw_el_of hxr3]; exact congrArg Int32.toInt exe4); rw [w, show (((x1.toInt).toNat : Nat) : Int) = x1.toInt by omega] at q; exact q)
    have hn13 : xe4.toInt = -1 ∨ (0 ≤ xe4.toInt ∧ xe4.toInt < x1.toInt) := hl13.imp id (fun q => ⟨q.1, q.2.1⟩)
    refine lv_iconst (v := (-1)) hx hb dX12_isFrom_13 (by decide) ?_
    refine lv_icmp_eq (tgt := 31) hx hb dX12_isFrom_14 (by decide) (fun hc5 => ?_) (fun hc5 => ?_)
    · have hf6 : xe4.toInt = (-1) := by have z := (fa_eq _ _).mp hc5; have : (((-1) : Int32).toInt) = (-1) := (by decide); omega
      refine lv_aload_n hx hb dX12_isFrom_31 rfl (lv_at hl 0 rfl) ?_
      refine tw_get (ci := 12) (C := RX12) (T := TX12) (N := 64) hx hb hB cx_inX12 hown hK TH hm0 hk0 rfl ⟨by decide, rfl⟩ 25 (by decide) cw_1218 (fun _ h9 => h9) dX12_isFrom_32 (fun hv => ?_)
      obtain ⟨xr7, hxr7, hmxr7, hkxr7⟩ : ∃ a : Nat, tw_fv E a0 25 = .ref a ∧ a ∈ L ∧ kp a = 335 := hv
      rw [hxr7]
      refine lv_iload_n hx hb dX12_isFrom_35 rfl (lv_at hl 1 rfl) ?_
      refine tw_iald (k := 335) (t0 := 0) (n := 12) (lo := (-1)) (hi := 11) hx hb hK TH hmxr7 hkxr7 (by decide) rfl rfl (i := x1) (vp_in_iff.mpr ⟨by  omega, by  omega⟩) dX12_isFrom_36 (fun hxe8a hxe8b => ?_)
      obtain ⟨xe8, exe8⟩ : ∃ z : Int32, tw_iv E xr7 (Int32.toNatClampNeg x1) = z := ⟨_, rfl⟩
      rw [exe8] at hxe8a hxe8b ⊢
      have hl37 : xe8.toInt = -1 ∨ (0 ≤ xe8.toInt ∧ xe8.toInt < x1.toInt ∧ r2_ok E a0 (x1.toInt) (xe8.toInt)) := (by have q := hg1 (x1.toInt).toNat (by rw [tw_fi_of hfv0_27]; omega) 25 (by decide); have w : tw_el E a0 25 (x1.toInt).toNat = xe8.toInt := (by rw [tw_el_of hxr7]; exact congrArg Int32.toInt exe8); rw [w, show (((x1.toInt).toNat : Nat) : Int) = x1.toInt by omega] at q; exact q)
      have hn37 : xe8.toInt = -1 ∨ (0 ≤ xe8.toInt ∧ xe8.toInt < x1.toInt) := hl37.imp id (fun q => ⟨q.1, q.2.1⟩)
      refine lv_iconst (v := (-1)) hx hb dX12_isFrom_37 (by decide) ?_
      refine lv_icmp_eq (tgt := 59) hx hb dX12_isFrom_38 (by decide) (fun hc9 => ?_) (fun hc9 => ?_)
      · have hf10 : xe8.toInt = (-1) := by have z := (fa_eq _ _).mp hc9; have : (((-1) : Int32).toInt) = (-1) := (by decide); omega
        refine lv_iconst (v := 0) hx hb dX12_isFrom_59 (by decide) ?_
        exact tw_zret hx hb hr hlocks (by decide) TH hS hex ⟨⟨_, rfl, (show 0 ≤ Int32.toInt 0 from by have : ((0 : Int32).toInt) = 0 := (by decide); omega), (show Int32.toInt 0 ≤ 1 from by have : ((0 : Int32).toInt) = 0 := (by decide); omega), (by have : ((0 : Int32).toInt) = 0 := (by decide); intro q; exfalso; exact q (by decide))⟩, rfl, rfl, rfl⟩ (Nat.le_of_ble_eq_true rfl) (Nat.le_of_ble_eq_true rfl) dX12_isFrom_60
      · have hf11 : ¬ (xe8.toInt = (-1)) := fun q => hc9 ((fa_eq _ _).mpr (by have : (((-1) : Int32).toInt) = (-1) := (by decide); omega))
        refine lv_aload_n hx hb dX12_isFrom_41 rfl (lv_at hl 0 rfl) ?_
        refine lv_aload_n hx hb dX12_isFrom_42 rfl (lv_at hl 0 rfl) ?_
        refine tw_get (ci := 12) (C := RX12) (T := TX12) (N := 64) hx hb hB cx_inX12 hown hK TH hm0 hk0 rfl ⟨by decide, rfl⟩ 25 (by decide) cw_1218 (fun _ h9 => h9) dX12_isFrom_43 (fun hv => ?_)
        rw [hxr7]
        refine lv_iload_n hx hb dX12_isFrom_46 rfl (lv_at hl 1 rfl) ?_
        refine tw_iald (k := 335) (t0 := 0) (n := 12) (lo := (-1)) (hi := 11) hx hb hK TH hmxr7 hkxr7 (by decide) rfl rfl (i := x1) (vp_in_iff.mpr ⟨by  omega, by  omega⟩) dX12_isFrom_47 (fun hxe12a hxe12b => ?_)
        rw [exe8]
        refine lv_iload_n hx hb dX12_isFrom_48 rfl (lv_at hl 2 rfl) ?_
        refine tw_Vc (o := a0) (ci := 12) (n := 2) (post := (fun v kq Lq Eq => (∃ x : Int32, v = some (.int x) ∧ 0 ≤ x.toInt ∧ x.toInt ≤ 1 ∧ (x.toInt ≠ 0 → r2_ok E a0 xe8.toInt x2.toInt)) ∧ kp = kq ∧ L = Lq ∧ E = Eq)) (As := [.int xe8, .int x2]) (rest := []) ⟨hx, hb, hml, hown, hB⟩ (fun sz => tX12_isFrom_v9 l D cs a0 xe8 x2 fv0_27 hm0 hk0 (by omega) (by omega) (by omega) (by omega) hfv0_27 (by  omega) hg0 hg1 sz) cg_12_512_X12_isFrom rfl rfl (by decide +kernel) ⟨Nat.le_of_ble_eq_true rfl, Nat.le_of_ble_eq_true rfl⟩ hK hN TH hS hA rfl hm0 hk0 (by decide) rfl hl.1 rfl (Nat.le_of_ble_eq_true rfl) dX12_isFrom_49 ⟨Nat.le_of_ble_eq_true rfl, Nat.le_of_ble_eq_true rfl⟩ (fun v13 kp13 L13 E13 H locs hq13 hx13 TH hS => ?_)
        obtain ⟨⟨xc14, rfl, hxc14a, hxc14b, hpoxc14_0⟩, rfl, rfl, rfl⟩ := hq13
        refine W.eq (g2 := F0 m 52 ls [.int xc14]) rfl ?_
        refine lv_if_eq (tgt := 59) hx hb dX12_isFrom_52 (by decide) (fun hc15 => ?_) (fun hc15 => ?_)
        · have hf16 : xc14.toInt = 0 := by have z := (fa_eq _ _).mp hc15; have : ((0 : Int32).toInt) = 0 := (by decide); omega
          refine lv_iconst (v := 0) hx hb dX12_isFrom_59 (by decide) ?_
          exact tw_zret hx hb hr hlocks (by decide) TH hS hex ⟨⟨_, rfl, (show 0 ≤ Int32.toInt 0 from by have : ((0 : Int32).toInt) = 0 := (by decide); omega), (show Int32.toInt 0 ≤ 1 from by have : ((0 : Int32).toInt) = 0 := (by decide); omega), (by have : ((0 : Int32).toInt) = 0 := (by decide); intro q; exfalso; exact q (by decide))⟩, rfl, rfl, rfl⟩ (Nat.le_of_ble_eq_true rfl) (Nat.le_of_ble_eq_true rfl) dX12_isFrom_60
        · have hf17 : ¬ (xc14.toInt = 0) := fun q => hc15 ((fa_eq _ _).mpr (by have : ((0 : Int32).toInt) = 0 := (by decide); omega))
          refine lv_iconst (v := 1) hx hb dX12_isFrom_55 (by decide) ?_
          refine lv_goto (tgt := 60) hx hb dX12_isFrom_56 (by decide) ?_
          exact tw_zret hx hb hr hlocks (by decide) TH hS hex ⟨⟨_, rfl, (show 0 ≤ Int32.toInt 1 from by have : ((1 : Int32).toInt) = 1 := (by decide); omega), (show Int32.toInt 1 ≤ 1 from by have : ((1 : Int32).toInt) = 1 := (by decide); omega), (by have : ((1 : Int32).toInt) = 1 := (by decide); intro _; have hl := hl37.resolve_left (by omega); exact r2_tr (hg0 (xe8.toInt) (by omega) (by rw [tw_fi_of hfv0_27]; omega)).1 hl.2.2 (hpoxc14_0 (by omega)))⟩, rfl, rfl, rfl⟩ (Nat.le_of_ble_eq_true rfl) (Nat.le_of_ble_eq_true rfl) dX12_isFrom_60
    · have hf18 : ¬ (xe4.toInt = (-1)) := fun q => hc5 ((fa_eq _ _).mpr (by have : (((-1) : Int32).toInt) = (-1) := (by decide); omega))
      refine lv_aload_n hx hb dX12_isFrom_17 rfl (lv_at hl 0 rfl) ?_
      refine lv_aload_n hx hb dX12_isFrom_18 rfl (lv_at hl 0 rfl) ?_
      refine tw_get (ci := 12) (C := RX12) (T := TX12) (N := 64) hx hb hB cx_inX12 hown hK TH hm0 hk0 rfl ⟨by decide, rfl⟩ 24 (by decide) cw_1217 (fun _ h9 => h9) dX12_isFrom_19 (fun hv => ?_)
      rw [hxr3]
      refine lv_iload_n hx hb dX12_isFrom_22 rfl (lv_at hl 1 rfl) ?_
      refine tw_iald (k := 334) (t0 := 0) (n := 12) (lo := (-1)) (hi := 11) hx hb hK TH hmxr3 hkxr3 (by decide) rfl rfl (i := x1) (vp_in_iff.mpr ⟨by  omega, by  omega⟩) dX12_isFrom_23 (fun hxe19a hxe19b => ?_)
      rw [exe4]
      refine lv_iload_n hx hb dX12_isFrom_24 rfl (lv_at hl 2 rfl) ?_
      refine tw_Vc (o := a0) (ci := 12) (n := 2) (post := (fun v kq Lq Eq => (∃ x : Int32, v = some (.int x) ∧ 0 ≤ x.toInt ∧ x.toInt ≤ 1 ∧ (x.toInt ≠ 0 → r2_ok E a0 xe4.toInt x2.toInt)) ∧ kp = kq ∧ L = Lq ∧ E = Eq)) (As := [.int xe4, .int x2]) (rest := []) ⟨hx, hb, hml, hown, hB⟩ (fun sz => tX12_isFrom_v9 l D cs a0 xe4 x2 fv0_27 hm0 hk0 (by omega) (by omega) (by omega) (by omega) hfv0_27 (by  omega) hg0 hg1 sz) cg_12_512_X12_isFrom rfl rfl (by decide +kernel) ⟨Nat.le_of_ble_eq_true rfl, Nat.le_of_ble_eq_true rfl⟩ hK hN TH hS hA rfl hm0 hk0 (by decide) rfl hl.1 rfl (Nat.le_of_ble_eq_true rfl) dX12_isFrom_25 ⟨Nat.le_of_ble_eq_true rfl, Nat.le_of_ble_eq_true rfl⟩ (fun v20 kp20 L20 E20 H locs hq20 hx20 TH hS => ?_)
      obtain ⟨⟨xc21, rfl, hxc21a, hxc21b, hpoxc21_0⟩, rfl, rfl, rfl⟩ := hq20
      refine W.eq (g2 := F0 m 28 ls [.int xc21]) rfl ?_
      refine lv_if_ne (tgt := 55) hx hb dX12_isFrom_28 (by decide) (fun hc22 => ?_) (fun hc22 => ?_)
      · have hf23 : ¬ (xc21.toInt = 0) := fun q => hc22 ((fa_eq _ _).mpr (by have : ((0 : Int32).toInt) = 0 := (by decide); omega))
        refine lv_iconst (v := 1) hx hb dX12_isFrom_55 (by decide) ?_
        refine lv_goto (tgt := 60) hx hb dX12_isFrom_56 (by decide) ?_
        exact tw_zret hx hb hr hlocks (by decide) TH hS hex ⟨⟨_, rfl, (show 0 ≤ Int32.toInt 1 from by have : ((1 : Int32).toInt) = 1 := (by decide); omega), (show Int32.toInt 1 ≤ 1 from by have : ((1 : Int32).toInt) = 1 := (by decide); omega), (by have : ((1 : Int32).toInt) = 1 := (by decide); intro _; have hl := hl13.resolve_left (by omega); exact r2_tr (hg0 (xe4.toInt) (by omega) (by rw [tw_fi_of hfv0_27]; omega)).1 hl.2.2 (hpoxc21_0 (by omega)))⟩, rfl, rfl, rfl⟩ (Nat.le_of_ble_eq_true rfl) (Nat.le_of_ble_eq_true rfl) dX12_isFrom_60
      · have hf24 : xc21.toInt = 0 := by have z := (fa_eq _ _).mp hc22; have : ((0 : Int32).toInt) = 0 := (by decide); omega
        refine lv_aload_n hx hb dX12_isFrom_31 rfl (lv_at hl 0 rfl) ?_
        refine tw_get (ci := 12) (C := RX12) (T := TX12) (N := 64) hx hb hB cx_inX12 hown hK TH hm0 hk0 rfl ⟨by decide, rfl⟩ 25 (by decide) cw_1218 (fun _ h9 => h9) dX12_isFrom_32 (fun hv => ?_)
        obtain ⟨xr25, hxr25, hmxr25, hkxr25⟩ : ∃ a : Nat, tw_fv E a0 25 = .ref a ∧ a ∈ L ∧ kp a = 335 := hv
        rw [hxr25]
        refine lv_iload_n hx hb dX12_isFrom_35 rfl (lv_at hl 1 rfl) ?_
        refine tw_iald (k := 335) (t0 := 0) (n := 12) (lo := (-1)) (hi := 11) hx hb hK TH hmxr25 hkxr25 (by decide) rfl rfl (i := x1) (vp_in_iff.mpr ⟨by  omega, by  omega⟩) dX12_isFrom_36 (fun hxe26a hxe26b => ?_)
        obtain ⟨xe26, exe26⟩ : ∃ z : Int32, tw_iv E xr25 (Int32.toNatClampNeg x1) = z := ⟨_, rfl⟩
        rw [exe26] at hxe26a hxe26b ⊢
        have hl37 : xe26.toInt = -1 ∨ (0 ≤ xe26.toInt ∧ xe26.toInt < x1.toInt ∧ r2_ok E a0 (x1.toInt) (xe26.toInt)) := (by have q := hg1 (x1.toInt).toNat (by rw [tw_fi_of hfv0_27]; omega) 25 (by decide); have w : tw_el E a0 25 (x1.toInt).toNat = xe26.toInt := (by rw [tw_el_of hxr25]; exact congrArg Int32.toInt exe26); rw [w, show (((x1.toInt).toNat : Nat) : Int) = x1.toInt by omega] at q; exact q)
        have hn37 : xe26.toInt = -1 ∨ (0 ≤ xe26.toInt ∧ xe26.toInt < x1.toInt) := hl37.imp id (fun q => ⟨q.1, q.2.1⟩)
        refine lv_iconst (v := (-1)) hx hb dX12_isFrom_37 (by decide) ?_
        refine lv_icmp_eq (tgt := 59) hx hb dX12_isFrom_38 (by decide) (fun hc27 => ?_) (fun hc27 => ?_)
        · have hf28 : xe26.toInt = (-1) := by have z := (fa_eq _ _).mp hc27; have : (((-1) : Int32).toInt) = (-1) := (by decide); omega
          refine lv_iconst (v := 0) hx hb dX12_isFrom_59 (by decide) ?_
          exact tw_zret hx hb hr hlocks (by decide) TH hS hex ⟨⟨_, rfl, (show 0 ≤ Int32.toInt 0 from by have : ((0 : Int32).toInt) = 0 := (by decide); omega), (show Int32.toInt 0 ≤ 1 from by have : ((0 : Int32).toInt) = 0 := (by decide); omega), (by have : ((0 : Int32).toInt) = 0 := (by decide); intro q; exfalso; exact q (by decide))⟩, rfl, rfl, rfl⟩ (Nat.le_of_ble_eq_true rfl) (Nat.le_of_ble_eq_true rfl) dX12_isFrom_60
        · have hf29 : ¬ (xe26.toInt = (-1)) := fun q => hc27 ((fa_eq _ _).mpr (by have : (((-1) : Int32).toInt) = (-1) := (by decide); omega))
          refine lv_aload_n hx hb dX12_isFrom_41 rfl (lv_at hl 0 rfl) ?_
          refine lv_aload_n hx hb dX12_isFrom_42 rfl (lv_at hl 0 rfl) ?_
          refine tw_get (ci := 12) (C := RX12) (T := TX12) (N := 64) hx hb hB cx_inX12 hown hK TH hm0 hk0 rfl ⟨by decide, rfl⟩ 25 (by decide) cw_1218 (fun _ h9 => h9) dX12_isFrom_43 (fun hv => ?_)
          rw [hxr25]
          refine lv_iload_n hx hb dX12_isFrom_46 rfl (lv_at hl 1 rfl) ?_
          refine tw_iald (k := 335) (t0 := 0) (n := 12) (lo := (-1)) (hi := 11) hx hb hK TH hmxr25 hkxr25 (by decide) rfl rfl (i := x1) (vp_in_iff.mpr ⟨by  omega, by  omega⟩) dX12_isFrom_47 (fun hxe30a hxe30b => ?_)
          rw [exe26]
          refine lv_iload_n hx hb dX12_isFrom_48 rfl (lv_at hl 2 rfl) ?_
          refine tw_Vc (o := a0) (ci := 12) (n := 2) (post := (fun v kq Lq Eq => (∃ x : Int32, v = some (.int x) ∧ 0 ≤ x.toInt ∧ x.toInt ≤ 1 ∧ (x.toInt ≠ 0 → r2_ok E a0 xe26.toInt x2.toInt)) ∧ kp = kq ∧ L = Lq ∧ E = Eq)) (As := [.int xe26, .int x2]) (rest := []) ⟨hx, hb, hml, hown, hB⟩ (fun sz => tX12_isFrom_v9 l D cs a0 xe26 x2 fv0_27 hm0 hk0 (by omega) (by omega) (by omega) (by omega) hfv0_27 (by  omega) hg0 hg1 sz) cg_12_512_X12_isFrom rfl rfl (by decide +kernel) ⟨Nat.le_of_ble_eq_true rfl, Nat.le_of_ble_eq_true rfl⟩ hK hN TH hS hA rfl hm0 hk0 (by decide) rfl hl.1 rfl (Nat.le_of_ble_eq_true rfl) dX12_isFrom_49 ⟨Nat.le_of_ble_eq_true rfl, Nat.le_of_ble_eq_true rfl⟩ (fun v31 kp31 L31 E31 H locs hq31 hx31 TH hS => ?_)
          obtain ⟨⟨xc32, rfl, hxc32a, hxc32b, hpoxc32_0⟩, rfl, rfl, rfl⟩ := hq31
          refine W.eq (g2 := F0 m 52 ls [.int xc32]) rfl ?_
          refine lv_if_eq (tgt := 59) hx hb dX12_isFrom_52 (by decide) (fun hc33 => ?_) (fun hc33 => ?_)
          · have hf34 : xc32.toInt = 0 := by have z := (fa_eq _ _).mp hc33; have : ((0 : Int32).toInt) = 0 := (by decide); omega
            refine lv_iconst (v := 0) hx hb dX12_isFrom_59 (by decide) ?_
            exact tw_zret hx hb hr hlocks (by decide) TH hS hex ⟨⟨_, rfl, (show 0 ≤ Int32.toInt 0 from by have : ((0 : Int32).toInt) = 0 := (by decide); omega), (show Int32.toInt 0 ≤ 1 from by have : ((0 : Int32).toInt) = 0 := (by decide); omega), (by have : ((0 : Int32).toInt) = 0 := (by decide); intro q; exfalso; exact q (by decide))⟩, rfl, rfl, rfl⟩ (Nat.le_of_ble_eq_true rfl) (Nat.le_of_ble_eq_true rfl) dX12_isFrom_60
          · have hf35 : ¬ (xc32.toInt = 0) := fun q => hc33 ((fa_eq _ _).mpr (by have : ((0 : Int32).toInt) = 0 := (by decide); omega))
            refine lv_iconst (v := 1) hx hb dX12_isFrom_55 (by decide) ?_
            refine lv_goto (tgt := 60) hx hb dX12_isFrom_56 (by decide) ?_
            exact tw_zret hx hb hr hlocks (by decide) TH hS hex ⟨⟨_, rfl, (show 0 ≤ Int32.toInt 1 from by have : ((1 : Int32).toInt) = 1 := (by decide); omega), (show Int32.toInt 1 ≤ 1 from by have : ((1 : Int32).toInt) = 1 := (by decide); omega), (by have : ((1 : Int32).toInt) = 1 := (by decide); intro _; have hl := hl37.resolve_left (by omega); exact r2_tr (hg0 (xe26.toInt) (by omega) (by rw [tw_fi_of hfv0_27]; omega)).1 hl.2.2 (hpoxc32_0 (by omega)))⟩, rfl, rfl, rfl⟩ (Nat.le_of_ble_eq_true rfl) (Nat.le_of_ble_eq_true rfl) dX12_isFrom_60
  · have hf36 : x1.toInt = x2.toInt := by have z := (fa_eq _ _).mp hc1;  omega
    refine lv_iconst (v := 1) hx hb dX12_isFrom_5 (by decide) ?_
    exact tw_zret hx hb hr hlocks (by decide) TH hS hex ⟨⟨_, rfl, (show 0 ≤ Int32.toInt 1 from by have : ((1 : Int32).toInt) = 1 := (by decide); omega), (show Int32.toInt 1 ≤ 1 from by have : ((1 : Int32).toInt) = 1 := (by decide); omega), (by have : ((1 : Int32).toInt) = 1 := (by decide); intro _; rw [show x2.toInt = x1.toInt by omega]; exact r2_rf (hg0 (x1.toInt) (by omega) (by rw [tw_fi_of hfv0_27]; omega)))⟩, rfl, rfl, rfl⟩ (Nat.le_of_ble_eq_true rfl) (Nat.le_of_ble_eq_true rfl) dX12_isFrom_6
set_option maxHeartbeats 4000000 in
set_option maxRecDepth 100000 in
theorem tX12_isFrom_v11 (l : Launch) (D : va_G) (cs : Nat → ClassId) {kp : Nat → Nat} {L : List Nat} {E : Nat → va_E} (a0 : Nat) (x1 : Int32) (x2 : Int32) (fv0_27 : Int32) (hm0 : a0 ∈ L) (hk0 : kp a0 = 12) (hp1a : 0 ≤ x1.toInt) (hp1b : x1.toInt ≤ 11) (hp2a : 0 ≤ x2.toInt) (hp2b : x2.toInt ≤ 11) (hfv0_27 : tw_fv E a0 27 = .int fv0_27) (hpre0 : x1.toInt < fv0_27.toInt) (hg0 : eo_ok E a0) (hg1 : ln_ok E a0) (sz : Nat) : Met l yX12_isFrom (.code yX12_isFrom cX12_isFrom 3 (some .boolean) :: cx_big) { frames := 11, cells := 0, slots := 0, locals := 242 } (tw_P D cs kp L E [.ref a0, .int x1, .int x2] sz) (tw_Q D cs kp L (fun v kq Lq Eq => (∃ x : Int32, v = some (.int x) ∧ 0 ≤ x.toInt ∧ x.toInt ≤ 1 ∧ (x.toInt ≠ 0 → r2_ok E a0 x1.toInt x2.toInt)) ∧ kp = kq ∧ L = Lq ∧ E = Eq) (va_A (va_pl L E) sz)) 0 0 (va_A (va_pl L E) sz) := by
  refine tw_ofW (by decide) (Nat.le_of_ble_eq_true rfl) ?_
  intro p e s m below meth c A ls hx hb hr hml hB hown hlocks hK hN hA TH hS hl
  have hown : s.vm.findClass "TreeMergeModel" = some m.cls := hown
  have hl : lv_has ls 3 [(0, .ref a0), (1, .int x1), (2, .int x2)] := hl
  obtain ⟨kp0, ekp⟩ : ∃ z, z = kp := ⟨_, rfl⟩
  obtain ⟨L0, eL⟩ : ∃ z, z = L := ⟨_, rfl⟩
  rw [show tw_Q D cs kp L = tw_Q D cs kp0 L0 by rw [ekp, eL]]
  have hex : ∀ a : Nat, a ∈ L0 → a ∈ L ∧ kp a = kp0 a := fun a h => ⟨by rw [← eL]; exact h, by rw [ekp]⟩
  obtain ⟨qfv0_27, hqfv0_27, hqfv0_27a, hqfv0_27b⟩ := tw_rd TH hm0 hk0 (by decide) (by decide) (k := 27) rfl
  have eqfv0_27 : qfv0_27 = fv0_27 := by have q := hqfv0_27.symm.trans hfv0_27; injection q
  rw [eqfv0_27] at hqfv0_27a hqfv0_27b
  refine lv_iload_n hx hb dX12_isFrom_0 rfl (lv_at hl 1 rfl) ?_
  refine lv_iload_n hx hb dX12_isFrom_1 rfl (lv_at hl 2 rfl) ?_
  refine lv_icmp_ne (tgt := 7) hx hb dX12_isFrom_2 (by decide) (fun hc1 => ?_) (fun hc1 => ?_)
  · have hf2 : ¬ (x1.toInt = x2.toInt) := fun q => hc1 ((fa_eq _ _).mpr (by  omega))
    refine lv_aload_n hx hb dX12_isFrom_7 rfl (lv_at hl 0 rfl) ?_
    refine tw_get (ci := 12) (C := RX12) (T := TX12) (N := 64) hx hb hB cx_inX12 hown hK TH hm0 hk0 rfl ⟨by decide, rfl⟩ 24 (by decide) cw_1217 (fun _ h9 => h9) dX12_isFrom_8 (fun hv => ?_)
    obtain ⟨xr3, hxr3, hmxr3, hkxr3⟩ : ∃ a : Nat, tw_fv E a0 24 = .ref a ∧ a ∈ L ∧ kp a = 334 := hv
    rw [hxr3]
    refine lv_iload_n hx hb dX12_isFrom_11 rfl (lv_at hl 1 rfl) ?_
    refine tw_iald (k := 334) (t0 := 0) (n := 12) (lo := (-1)) (hi := 11) hx hb hK TH hmxr3 hkxr3 (by decide) rfl rfl (i := x1) (vp_in_iff.mpr ⟨by  omega, by  omega⟩) dX12_isFrom_12 (fun hxe4a hxe4b => ?_)
    obtain ⟨xe4, exe4⟩ : ∃ z : Int32, tw_iv E xr3 (Int32.toNatClampNeg x1) = z := ⟨_, rfl⟩
    rw [exe4] at hxe4a hxe4b ⊢
    have hl13 : xe4.toInt = -1 ∨ (0 ≤ xe4.toInt ∧ xe4.toInt < x1.toInt ∧ r2_ok E a0 (x1.toInt) (xe4.toInt)) := (by have q := hg1 (x1.toInt).toNat (by rw [tw_fi_of hfv0_27]; omega) 24 (by decide); have w : tw_el E a0 24 (x1.toInt).toNat = xe4.toInt := (by rw [tw_el_of hxr3]; exact congrArg Int32.toInt exe4); rw [w, show (((x1.toInt).toNat : Nat) : Int) = x1.toInt by omega] at q; exact q)
    have hn13 : xe4.toInt = -1 ∨ (0 ≤ xe4.toInt ∧ xe4.toInt < x1.toInt) := hl13.imp id (fun q => ⟨q.1, q.2.1⟩)
    refine lv_iconst (v := (-1)) hx hb dX12_isFrom_13 (by decide) ?_
    refine lv_icmp_eq (tgt := 31) hx hb dX12_isFrom_14 (by decide) (fun hc5 => ?_) (fun hc5 => ?_)
    · have hf6 : xe4.toInt = (-1) := by have z := (fa_eq _ _).mp hc5; have : (((-1) : Int32).toInt) = (-1) := (by decide); omega
      refine lv_aload_n hx hb dX12_isFrom_31 rfl (lv_at hl 0 rfl) ?_
      refine tw_get (ci := 12) (C := RX12) (T := TX12) (N := 64) hx hb hB cx_inX12 hown hK TH hm0 hk0 rfl ⟨by decide, rfl⟩ 25 (by decide) cw_1218 (fun _ h9 => h9) dX12_isFrom_32 (fun hv => ?_)
      obtain ⟨xr7, hxr7, hmxr7, hkxr7⟩ : ∃ a : Nat, tw_fv E a0 25 = .ref a ∧ a ∈ L ∧ kp a = 335 := hv
      rw [hxr7]
      refine lv_iload_n hx hb dX12_isFrom_35 rfl (lv_at hl 1 rfl) ?_
      refine tw_iald (k := 335) (t0 := 0) (n := 12) (lo := (-1)) (hi := 11) hx hb hK TH hmxr7 hkxr7 (by decide) rfl rfl (i := x1) (vp_in_iff.mpr ⟨by  omega, by  omega⟩) dX12_isFrom_36 (fun hxe8a hxe8b => ?_)
      obtain ⟨xe8, exe8⟩ : ∃ z : Int32, tw_iv E xr7 (Int32.toNatClampNeg x1) = z := ⟨_, rfl⟩
      rw [exe8] at hxe8a hxe8b ⊢
      have hl37 : xe8.toInt = -1 ∨ (0 ≤ xe8.toInt ∧ xe8.toInt < x1.toInt ∧ r2_ok E a0 (x1.toInt) (xe8.toInt)) := (by have q := hg1 (x1.toInt).toNat (by rw [tw_fi_of hfv0_27]; omega) 25 (by decide); have w : tw_el E a0 25 (x1.toInt).toNat = xe8.toInt := (by rw [tw_el_of hxr7]; exact congrArg Int32.toInt exe8); rw [w, show (((x1.toInt).toNat : Nat) : Int) = x1.toInt by omega] at q; exact q)
      have hn37 : xe8.toInt = -1 ∨ (0 ≤ xe8.toInt ∧ xe8.toInt < x1.toInt) := hl37.imp id (fun q => ⟨q.1, q.2.1⟩)
      refine lv_iconst (v := (-1)) hx hb dX12_isFrom_37 (by decide) ?_
      refine lv_icmp_eq (tgt := 59) hx hb dX12_isFrom_38 (by decide) (fun hc9 => ?_) (fun hc9 => ?_)
      · have hf10 : xe8.toInt = (-1) := by have z := (fa_eq _ _).mp hc9; have : (((-1) : Int32).toInt) = (-1) := (by decide); omega
        refine lv_iconst (v := 0) hx hb dX12_isFrom_59 (by decide) ?_
        exact tw_zret hx hb hr hlocks (by decide) TH hS hex ⟨⟨_, rfl, (show 0 ≤ Int32.toInt 0 from by have : ((0 : Int32).toInt) = 0 := (by decide); omega), (show Int32.toInt 0 ≤ 1 from by have : ((0 : Int32).toInt) = 0 := (by decide); omega), (by have : ((0 : Int32).toInt) = 0 := (by decide); intro q; exfalso; exact q (by decide))⟩, rfl, rfl, rfl⟩ (Nat.le_of_ble_eq_true rfl) (Nat.le_of_ble_eq_true rfl) dX12_isFrom_60
      · have hf11 : ¬ (xe8.toInt = (-1)) := fun q => hc9 ((fa_eq _ _).mpr (by have : (((-1) : Int32).toInt) = (-1) := (by decide); omega))
        refine lv_aload_n hx hb dX12_isFrom_41 rfl (lv_at hl 0 rfl) ?_
        refine lv_aload_n hx hb dX12_isFrom_42 rfl (lv_at hl 0 rfl) ?_
        refine tw_get (ci := 12) (C := RX12) (T := TX12) (N := 64) hx hb hB cx_inX12 hown hK TH hm0 hk0 rfl ⟨by decide, rfl⟩ 25 (by decide) cw_1218 (fun _ h9 => h9) dX12_isFrom_43 (fun hv => ?_)
        rw [hxr7]
        refine lv_iload_n hx hb dX12_isFrom_46 rfl (lv_at hl 1 rfl) ?_
        refine tw_iald (k := 335) (t0 := 0) (n := 12) (lo := (-1)) (hi := 11) hx hb hK TH hmxr7 hkxr7 (by decide) rfl rfl (i := x1) (vp_in_iff.mpr ⟨by  omega, by  omega⟩) dX12_isFrom_47 (fun hxe12a hxe12b => ?_)
        rw [exe8]
        refine lv_iload_n hx hb dX12_isFrom_48 rfl (lv_at hl 2 rfl) ?_
        refine tw_Vc (o := a0) (ci := 12) (n := 2) (post := (fun v kq Lq Eq => (∃ x : Int32, v = some (.int x) ∧ 0 ≤ x.toInt ∧ x.toInt ≤ 1 ∧ (x.toInt ≠ 0 → r2_ok E a0 xe8.toInt x2.toInt)) ∧ kp = kq ∧ L = Lq ∧ E = Eq)) (As := [.int xe8, .int x2]) (rest := []) ⟨hx, hb, hml, hown, hB⟩ (fun sz => tX12_isFrom_v10 l D cs a0 xe8 x2 fv0_27 hm0 hk0 (by omega) (by omega) (by omega) (by omega) hfv0_27 (by  omega) hg0 hg1 sz) cg_12_512_X12_isFrom rfl rfl (by decide +kernel) ⟨Nat.le_of_ble_eq_true rfl, Nat.le_of_ble_eq_true rfl⟩ hK hN TH hS hA rfl hm0 hk0 (by decide) rfl hl.1 rfl (Nat.le_of_ble_eq_true rfl) dX12_isFrom_49 ⟨Nat.le_of_ble_eq_true rfl, Nat.le_of_ble_eq_true rfl⟩ (fun v13 kp13 L13 E13 H locs hq13 hx13 TH hS => ?_)
        obtain ⟨⟨xc14, rfl, hxc14a, hxc14b, hpoxc14_0⟩, rfl, rfl, rfl⟩ := hq13
        refine W.eq (g2 := F0 m 52 ls [.int xc14]) rfl ?_
        refine lv_if_eq (tgt := 59) hx hb dX12_isFrom_52 (by decide) (fun hc15 => ?_) (fun hc15 => ?_)
        · have hf16 : xc14.toInt = 0 := by have z := (fa_eq _ _).mp hc15; have : ((0 : Int32).toInt) = 0 := (by decide); omega
          refine lv_iconst (v := 0) hx hb dX12_isFrom_59 (by decide) ?_
          exact tw_zret hx hb hr hlocks (by decide) TH hS hex ⟨⟨_, rfl, (show 0 ≤ Int32.toInt 0 from by have : ((0 : Int32).toInt) = 0 := (by decide); omega), (show Int32.toInt 0 ≤ 1 from by have : ((0 : Int32).toInt) = 0 := (by decide); omega), (by have : ((0 : Int32).toInt) = 0 := (by decide); intro q; exfalso; exact q (by decide))⟩, rfl, rfl, rfl⟩ (Nat.le_of_ble_eq_true rfl) (Nat.le_of_ble_eq_true rfl) dX12_isFrom_60
        · have hf17 : ¬ (xc14.toInt = 0) := fun q => hc15 ((fa_eq _ _).mpr (by have : ((0 : Int32).toInt) = 0 := (by decide); omega))
          refine lv_iconst (v := 1) hx hb dX12_isFrom_55 (by decide) ?_
          refine lv_goto (tgt := 60) hx hb dX12_isFrom_56 (by decide) ?_
          exact tw_zret hx hb hr hlocks (by decide) TH hS hex ⟨⟨_, rfl, (show 0 ≤ Int32.toInt 1 from by have : ((1 : Int32).toInt) = 1 := (by decide); omega), (show Int32.toInt 1 ≤ 1 from by have : ((1 : Int32).toInt) = 1 := (by decide); omega), (by have : ((1 : Int32).toInt) = 1 := (by decide); intro _; have hl := hl37.resolve_left (by omega); exact r2_tr (hg0 (xe8.toInt) (by omega) (by rw [tw_fi_of hfv0_27]; omega)).1 hl.2.2 (hpoxc14_0 (by omega)))⟩, rfl, rfl, rfl⟩ (Nat.le_of_ble_eq_true rfl) (Nat.le_of_ble_eq_true rfl) dX12_isFrom_60
    · have hf18 : ¬ (xe4.toInt = (-1)) := fun q => hc5 ((fa_eq _ _).mpr (by have : (((-1) : Int32).toInt) = (-1) := (by decide); omega))
      refine lv_aload_n hx hb dX12_isFrom_17 rfl (lv_at hl 0 rfl) ?_
      refine lv_aload_n hx hb dX12_isFrom_18 rfl (lv_at hl 0 rfl) ?_
      refine tw_get (ci := 12) (C := RX12) (T := TX12) (N := 64) hx hb hB cx_inX12 hown hK TH hm0 hk0 rfl ⟨by decide, rfl⟩ 24 (by decide) cw_1217 (fun _ h9 => h9) dX12_isFrom_19 (fun hv => ?_)
      rw [hxr3]
      refine lv_iload_n hx hb dX12_isFrom_22 rfl (lv_at hl 1 rfl) ?_
      refine tw_iald (k := 334) (t0 := 0) (n := 12) (lo := (-1)) (hi := 11) hx hb hK TH hmxr3 hkxr3 (by decide) rfl rfl (i := x1) (vp_in_iff.mpr ⟨by  omega, by  omega⟩) dX12_isFrom_23 (fun hxe19a hxe19b => ?_)
      rw [exe4]
      refine lv_iload_n hx hb dX12_isFrom_24 rfl (lv_at hl 2 rfl) ?_
      refine tw_Vc (o := a0) (ci := 12) (n := 2) (post := (fun v kq Lq Eq => (∃ x : Int32, v = some (.int x) ∧ 0 ≤ x.toInt ∧ x.toInt ≤ 1 ∧ (x.toInt ≠ 0 → r2_ok E a0 xe4.toInt x2.toInt)) ∧ kp = kq ∧ L = Lq ∧ E = Eq)) (As := [.int xe4, .int x2]) (rest := []) ⟨hx, hb, hml, hown, hB⟩ (fun sz => tX12_isFrom_v10 l D cs a0 xe4 x2 fv0_27 hm0 hk0 (by omega) (by omega) (by omega) (by omega) hfv0_27 (by  omega) hg0 hg1 sz) cg_12_512_X12_isFrom rfl rfl (by decide +kernel) ⟨Nat.le_of_ble_eq_true rfl, Nat.le_of_ble_eq_true rfl⟩ hK hN TH hS hA rfl hm0 hk0 (by decide) rfl hl.1 rfl (Nat.le_of_ble_eq_true rfl) dX12_isFrom_25 ⟨Nat.le_of_ble_eq_true rfl, Nat.le_of_ble_eq_true rfl⟩ (fun v20 kp20 L20 E20 H locs hq20 hx20 TH hS => ?_)
      obtain ⟨⟨xc21, rfl, hxc21a, hxc21b, hpoxc21_0⟩, rfl, rfl, rfl⟩ := hq20
      refine W.eq (g2 := F0 m 28 ls [.int xc21]) rfl ?_
      refine lv_if_ne (tgt := 55) hx hb dX12_isFrom_28 (by decide) (fun hc22 => ?_) (fun hc22 => ?_)
      · have hf23 : ¬ (xc21.toInt = 0) := fun q => hc22 ((fa_eq _ _).mpr (by have : ((0 : Int32).toInt) = 0 := (by decide); omega))
        refine lv_iconst (v := 1) hx hb dX12_isFrom_55 (by decide) ?_
        refine lv_goto (tgt := 60) hx hb dX12_isFrom_56 (by decide) ?_
        exact tw_zret hx hb hr hlocks (by decide) TH hS hex ⟨⟨_, rfl, (show 0 ≤ Int32.toInt 1 from by have : ((1 : Int32).toInt) = 1 := (by decide); omega), (show Int32.toInt 1 ≤ 1 from by have : ((1 : Int32).toInt) = 1 := (by decide); omega), (by have : ((1 : Int32).toInt) = 1 := (by decide); intro _; have hl := hl13.resolve_left (by omega); exact r2_tr (hg0 (xe4.toInt) (by omega) (by rw [tw_fi_of hfv0_27]; omega)).1 hl.2.2 (hpoxc21_0 (by omega)))⟩, rfl, rfl, rfl⟩ (Nat.le_of_ble_eq_true rfl) (Nat.le_of_ble_eq_true rfl) dX12_isFrom_60
      · have hf24 : xc21.toInt = 0 := by have z := (fa_eq _ _).mp hc22; have : ((0 : Int32).toInt) = 0 := (by decide); omega
        refine lv_aload_n hx hb dX12_isFrom_31 rfl (lv_at hl 0 rfl) ?_
        refine tw_get (ci := 12) (C := RX12) (T := TX12) (N := 64) hx hb hB cx_inX12 hown hK TH hm0 hk0 rfl ⟨by decide, rfl⟩ 25 (by decide) cw_1218 (fun _ h9 => h9) dX12_isFrom_32 (fun hv => ?_)
        obtain ⟨xr25, hxr25, hmxr25, hkxr25⟩ : ∃ a : Nat, tw_fv E a0 25 = .ref a ∧ a ∈ L ∧ kp a = 335 := hv
        rw [hxr25]
        refine lv_iload_n hx hb dX12_isFrom_35 rfl (lv_at hl 1 rfl) ?_
        refine tw_iald (k := 335) (t0 := 0) (n := 12) (lo := (-1)) (hi := 11) hx hb hK TH hmxr25 hkxr25 (by decide) rfl rfl (i := x1) (vp_in_iff.mpr ⟨by  omega, by  omega⟩) dX12_isFrom_36 (fun hxe26a hxe26b => ?_)
        obtain ⟨xe26, exe26⟩ : ∃ z : Int32, tw_iv E xr25 (Int32.toNatClampNeg x1) = z := ⟨_, rfl⟩
        rw [exe26] at hxe26a hxe26b ⊢
        have hl37 : xe26.toInt = -1 ∨ (0 ≤ xe26.toInt ∧ xe26.toInt < x1.toInt ∧ r2_ok E a0 (x1.toInt) (xe26.toInt)) := (by have q := hg1 (x1.toInt).toNat (by rw [tw_fi_of hfv0_27]; omega) 25 (by decide); have w : tw_el E a0 25 (x1.toInt).toNat = xe26.toInt := (by rw [tw_el_of hxr25]; exact congrArg Int32.toInt exe26); rw [w, show (((x1.toInt).toNat : Nat) : Int) = x1.toInt by omega] at q; exact q)
        have hn37 : xe26.toInt = -1 ∨ (0 ≤ xe26.toInt ∧ xe26.toInt < x1.toInt) := hl37.imp id (fun q => ⟨q.1, q.2.1⟩)
        refine lv_iconst (v := (-1)) hx hb dX12_isFrom_37 (by decide) ?_
        refine lv_icmp_eq (tgt := 59) hx hb dX12_isFrom_38 (by decide) (fun hc27 => ?_) (fun hc27 => ?_)
        · have hf28 : xe26.toInt = (-1) := by have z := (fa_eq _ _).mp hc27; have : (((-1) : Int32).toInt) = (-1) := (by decide); omega
          refine lv_iconst (v := 0) hx hb dX12_isFrom_59 (by decide) ?_
          exact tw_zret hx hb hr hlocks (by decide) TH hS hex ⟨⟨_, rfl, (show 0 ≤ Int32.toInt 0 from by have : ((0 : Int32).toInt) = 0 := (by decide); omega), (show Int32.toInt 0 ≤ 1 from by have : ((0 : Int32).toInt) = 0 := (by decide); omega), (by have : ((0 : Int32).toInt) = 0 := (by decide); intro q; exfalso; exact q (by decide))⟩, rfl, rfl, rfl⟩ (Nat.le_of_ble_eq_true rfl) (Nat.le_of_ble_eq_true rfl) dX12_isFrom_60
        · have hf29 : ¬ (xe26.toInt = (-1)) := fun q => hc27 ((fa_eq _ _).mpr (by have : (((-1) : Int32).toInt) = (-1) := (by decide); omega))
          refine lv_aload_n hx hb dX12_isFrom_41 rfl (lv_at hl 0 rfl) ?_
          refine lv_aload_n hx hb dX12_isFrom_42 rfl (lv_at hl 0 rfl) ?_
          refine tw_get (ci := 12) (C := RX12) (T := TX12) (N := 64) hx hb hB cx_inX12 hown hK TH hm0 hk0 rfl ⟨by decide, rfl⟩ 25 (by decide) cw_1218 (fun _ h9 => h9) dX12_isFrom_43 (fun hv => ?_)
          rw [hxr25]
          refine lv_iload_n hx hb dX12_isFrom_46 rfl (lv_at hl 1 rfl) ?_
          refine tw_iald (k := 335) (t0 := 0) (n := 12) (lo := (-1)) (hi := 11) hx hb hK TH hmxr25 hkxr25 (by decide) rfl rfl (i := x1) (vp_in_iff.mpr ⟨by  omega, by  omega⟩) dX12_isFrom_47 (fun hxe30a hxe30b => ?_)
          rw [exe26]
          refine lv_iload_n hx hb dX12_isFrom_48 rfl (lv_at hl 2 rfl) ?_
          refine tw_Vc (o := a0) (ci := 12) (n := 2) (post := (fun v kq Lq Eq => (∃ x : Int32, v = some (.int x) ∧ 0 ≤ x.toInt ∧ x.toInt ≤ 1 ∧ (x.toInt ≠ 0 → r2_ok E a0 xe26.toInt x2.toInt)) ∧ kp = kq ∧ L = Lq ∧ E = Eq)) (As := [.int xe26, .int x2]) (rest := []) ⟨hx, hb, hml, hown, hB⟩ (fun sz => tX12_isFrom_v10 l D cs a0 xe26 x2 fv0_27 hm0 hk0 (by omega) (by omega) (by omega) (by omega) hfv0_27 (by  omega) hg0 hg1 sz) cg_12_512_X12_isFrom rfl rfl (by decide +kernel) ⟨Nat.le_of_ble_eq_true rfl, Nat.le_of_ble_eq_true rfl⟩ hK hN TH hS hA rfl hm0 hk0 (by decide) rfl hl.1 rfl (Nat.le_of_ble_eq_true rfl) dX12_isFrom_49 ⟨Nat.le_of_ble_eq_true rfl, Nat.le_of_ble_eq_true rfl⟩ (fun v31 kp31 L31 E31 H locs hq31 hx31 TH hS => ?_)
          obtain ⟨⟨xc32, rfl, hxc32a, hxc32b, hpoxc32_0⟩, rfl, rfl, rfl⟩ := hq31
          refine W.eq (g2 := F0 m 52 ls [.int xc32]) rfl ?_
          refine lv_if_eq (tgt := 59) hx hb dX12_isFrom_52 (by decide) (fun hc33 => ?_) (fun hc33 => ?_)
          · have hf34 : xc32.toInt = 0 := by have z := (fa_eq _ _).mp hc33; have : ((0 : Int32).toInt) = 0 := (by decide); omega
            refine lv_iconst (v := 0) hx hb dX12_isFrom_59 (by decide) ?_
            exact tw_zret hx hb hr hlocks (by decide) TH hS hex ⟨⟨_, rfl, (show 0 ≤ Int32.toInt 0 from by have : ((0 : Int32).toInt) = 0 := (by decide); omega), (show Int32.toInt 0 ≤ 1 from by have : ((0 : Int32).toInt) = 0 := (by decide); omega), (by have : ((0 : Int32).toInt) = 0 := (by decide); intro q; exfalso; exact q (by decide))⟩, rfl, rfl, rfl⟩ (Nat.le_of_ble_eq_true rfl) (Nat.le_of_ble_eq_true rfl) dX12_isFrom_60
          · have hf35 : ¬ (xc32.toInt = 0) := fun q => hc33 ((fa_eq _ _).mpr (by have : ((0 : Int32).toInt) = 0 := (by decide); omega))
            refine lv_iconst (v := 1) hx hb dX12_isFrom_55 (by decide) ?_
            refine lv_goto (tgt := 60) hx hb dX12_isFrom_56 (by decide) ?_
            exact tw_zret hx hb hr hlocks (by decide) TH hS hex ⟨⟨_, rfl, (show 0 ≤ Int32.toInt 1 from by have : ((1 : Int32).toInt) = 1 := (by decide); omega), (show Int32.toInt 1 ≤ 1 from by have : ((1 : Int32).toInt) = 1 := (by decide); omega), (by have : ((1 : Int32).toInt) = 1 := (by decide); intro _; have hl := hl37.resolve_left (by omega); exact r2_tr (hg0 (xe26.toInt) (by omega) (by rw [tw_fi_of hfv0_27]; omega)).1 hl.2.2 (hpoxc32_0 (by omega)))⟩, rfl, rfl, rfl⟩ (Nat.le_of_ble_eq_true rfl) (Nat.le_of_ble_eq_true rfl) dX12_isFrom_60
  · have hf36 : x1.toInt = x2.toInt := by have z := (fa_eq _ _).mp hc1;  omega
    refine lv_iconst (v := 1) hx hb dX12_isFrom_5 (by decide) ?_
    exact tw_zret hx hb hr hlocks (by decide) TH hS hex ⟨⟨_, rfl, (show 0 ≤ Int32.toInt 1 from by have : ((1 : Int32).toInt) = 1 := (by decide); omega), (show Int32.toInt 1 ≤ 1 from by have : ((1 : Int32).toInt) = 1 := (by decide); omega), (by have : ((1 : Int32).toInt) = 1 := (by decide); intro _; rw [show x2.toInt = x1.toInt by omega]; exact r2_rf (hg0 (x1.toInt) (by omega) (by rw [tw_fi_of hfv0_27]; omega)))⟩, rfl, rfl, rfl⟩ (Nat.le_of_ble_eq_true rfl) (Nat.le_of_ble_eq_true rfl) dX12_isFrom_6
set_option maxHeartbeats 4000000 in
set_option maxRecDepth 100000 in
theorem tX12_isBaseOf (l : Launch) (D : va_G) (cs : Nat → ClassId) {kp : Nat → Nat} {L : List Nat} {E : Nat → va_E} (a0 : Nat) (x1 : Int32) (x2 : Int32) (x3 : Int32) (fv0_27 : Int32) (hm0 : a0 ∈ L) (hk0 : kp a0 = 12) (hp1a : 0 ≤ x1.toInt) (hp1b : x1.toInt ≤ 11) (hp2a : 0 ≤ x2.toInt) (hp2b : x2.toInt ≤ 11) (hp3a : 0 ≤ x3.toInt) (hp3b : x3.toInt ≤ 11) (hfv0_27 : tw_fv E a0 27 = .int fv0_27) (hpre0 : x1.toInt < fv0_27.toInt) (hpre1 : x2.toInt < fv0_27.toInt) (hpre2 : x3.toInt < fv0_27.toInt) (hg0 : eo_ok E a0) (hg1 : ln_ok E a0) (sz : Nat) : Met l yX12_isBaseOf (.code yX12_isBaseOf cX12_isBaseOf 5 (some .boolean) :: cx_big) { frames := 12, cells := 0, slots := 0, locals := 264 } (tw_P D cs kp L E [.ref a0, .int x1, .int x2, .int x3] sz) (tw_Q D cs kp L (fun v kq Lq Eq => (∃ x : Int32, v = some (.int x) ∧ 0 ≤ x.toInt ∧ x.toInt ≤ 1 ∧ (x.toInt ≠ 0 → r2_ok E a0 x2.toInt x1.toInt ∧ r2_ok E a0 x3.toInt x1.toInt)) ∧ kp = kq ∧ L = Lq ∧ E = Eq) (va_A (va_pl L E) sz)) 0 0 (va_A (va_pl L E) sz) := by
  refine tw_ofW (by decide) (Nat.le_of_ble_eq_true rfl) ?_
  intro p e s m below meth c A ls hx hb hr hml hB hown hlocks hK hN hA TH hS hl
  have hown : s.vm.findClass "TreeMergeModel" = some m.cls := hown
  have hl : lv_has ls 5 [(0, .ref a0), (1, .int x1), (2, .int x2), (3, .int x3)] := hl
  obtain ⟨kp0, ekp⟩ : ∃ z, z = kp := ⟨_, rfl⟩
  obtain ⟨L0, eL⟩ : ∃ z, z = L := ⟨_, rfl⟩
  rw [show tw_Q D cs kp L = tw_Q D cs kp0 L0 by rw [ekp, eL]]
  have hex : ∀ a : Nat, a ∈ L0 → a ∈ L ∧ kp a = kp0 a := fun a h => ⟨by rw [← eL]; exact h, by rw [ekp]⟩
  obtain ⟨qfv0_27, hqfv0_27, hqfv0_27a, hqfv0_27b⟩ := tw_rd TH hm0 hk0 (by decide) (by decide) (k := 27) rfl
  have eqfv0_27 : qfv0_27 = fv0_27 := by have q := hqfv0_27.symm.trans hfv0_27; injection q
  rw [eqfv0_27] at hqfv0_27a hqfv0_27b
  refine lv_aload_n hx hb dX12_isBaseOf_0 rfl (lv_at hl 0 rfl) ?_
  refine lv_iload_n hx hb dX12_isBaseOf_1 rfl (lv_at hl 2 rfl) ?_
  refine lv_iload_n hx hb dX12_isBaseOf_2 rfl (lv_at hl 1 rfl) ?_
  refine tw_Vc (o := a0) (ci := 12) (n := 2) (post := (fun v kq Lq Eq => (∃ x : Int32, v = some (.int x) ∧ 0 ≤ x.toInt ∧ x.toInt ≤ 1 ∧ (x.toInt ≠ 0 → r2_ok E a0 x2.toInt x1.toInt)) ∧ kp = kq ∧ L = Lq ∧ E = Eq)) (As := [.int x2, .int x1]) (rest := []) ⟨hx, hb, hml, hown, hB⟩ (fun sz => tX12_isFrom_v11 l D cs a0 x2 x1 fv0_27 hm0 hk0 (by omega) (by omega) (by omega) (by omega) hfv0_27 (by  omega) hg0 hg1 sz) cg_12_512_X12_isFrom rfl rfl (by decide +kernel) ⟨Nat.le_of_ble_eq_true rfl, Nat.le_of_ble_eq_true rfl⟩ hK hN TH hS hA rfl hm0 hk0 (by decide) rfl hl.1 rfl (Nat.le_of_ble_eq_true rfl) dX12_isBaseOf_3 ⟨Nat.le_of_ble_eq_true rfl, Nat.le_of_ble_eq_true rfl⟩ (fun v1 kp1 L1 E1 H locs hq1 hx1 TH hS => ?_)
  obtain ⟨⟨xc2, rfl, hxc2a, hxc2b, hpoxc2_0⟩, rfl, rfl, rfl⟩ := hq1
  refine W.eq (g2 := F0 m 6 ls [.int xc2]) rfl ?_
  refine lv_if_eq (tgt := 18) hx hb dX12_isBaseOf_6 (by decide) (fun hc3 => ?_) (fun hc3 => ?_)
  · have hf4 : xc2.toInt = 0 := by have z := (fa_eq _ _).mp hc3; have : ((0 : Int32).toInt) = 0 := (by decide); omega
    refine lv_iconst (v := 0) hx hb dX12_isBaseOf_18 (by decide) ?_
    exact tw_zret hx hb hr hlocks (by decide) TH hS hex ⟨⟨_, rfl, (show 0 ≤ Int32.toInt 0 from by have : ((0 : Int32).toInt) = 0 := (by decide); omega), (show Int32.toInt 0 ≤ 1 from by have : ((0 : Int32).toInt) = 0 := (by decide); omega), (by have : ((0 : Int32).toInt) = 0 := (by decide); intro q; exfalso; exact q (by decide))⟩, rfl, rfl, rfl⟩ (Nat.le_of_ble_eq_true rfl) (Nat.le_of_ble_eq_true rfl) dX12_isBaseOf_19
  · have hf5 : ¬ (xc2.toInt = 0) := fun q => hc3 ((fa_eq _ _).mpr (by have : ((0 : Int32).toInt) = 0 := (by decide); omega))
    refine lv_aload_n hx hb dX12_isBaseOf_9 rfl (lv_at hl 0 rfl) ?_
    refine lv_iload_n hx hb dX12_isBaseOf_10 rfl (lv_at hl 3 rfl) ?_
    refine lv_iload_n hx hb dX12_isBaseOf_11 rfl (lv_at hl 1 rfl) ?_
    refine tw_Vc (o := a0) (ci := 12) (n := 2) (post := (fun v kq Lq Eq => (∃ x : Int32, v = some (.int x) ∧ 0 ≤ x.toInt ∧ x.toInt ≤ 1 ∧ (x.toInt ≠ 0 → r2_ok E a0 x3.toInt x1.toInt)) ∧ kp = kq ∧ L = Lq ∧ E = Eq)) (As := [.int x3, .int x1]) (rest := []) ⟨hx, hb, hml, hown, hB⟩ (fun sz => tX12_isFrom_v11 l D cs a0 x3 x1 fv0_27 hm0 hk0 (by omega) (by omega) (by omega) (by omega) hfv0_27 (by  omega) hg0 hg1 sz) cg_12_512_X12_isFrom rfl rfl (by decide +kernel) ⟨Nat.le_of_ble_eq_true rfl, Nat.le_of_ble_eq_true rfl⟩ hK hN TH hS hA rfl hm0 hk0 (by decide) rfl hl.1 rfl (Nat.le_of_ble_eq_true rfl) dX12_isBaseOf_12 ⟨Nat.le_of_ble_eq_true rfl, Nat.le_of_ble_eq_true rfl⟩ (fun v6 kp6 L6 E6 H locs hq6 hx6 TH hS => ?_)
    obtain ⟨⟨xc7, rfl, hxc7a, hxc7b, hpoxc7_0⟩, rfl, rfl, rfl⟩ := hq6
    refine W.eq (g2 := F0 m 15 ls [.int xc7]) rfl ?_
    refine lv_if_ne (tgt := 20) hx hb dX12_isBaseOf_15 (by decide) (fun hc8 => ?_) (fun hc8 => ?_)
    · have hf9 : ¬ (xc7.toInt = 0) := fun q => hc8 ((fa_eq _ _).mpr (by have : ((0 : Int32).toInt) = 0 := (by decide); omega))
      have hb1 := hpoxc2_0 (by omega)
      have hb2 := hpoxc7_0 (by omega)
      refine lv_iconst (v := 0) hx hb dX12_isBaseOf_20 (by decide) ?_
      refine lv_istore (lv' := [(4, .int 0), (0, .ref a0), (1, .int x1), (2, .int x2), (3, .int x3)]) hx hb dX12_isBaseOf_21 hl (by decide) rfl (fun ls hl => ?_)
      have hJ23 : ∀ (n23 : Nat) (y23_4 : Int32) (H : Heap) (locs : List Loc) (ls : Array Slot), 0 ≤ y23_4.toInt → y23_4.toInt ≤ 12 → 12 - y23_4.toInt ≤ (n23 : Int) → tw_H D cs kp L E A H → va_S A s.heap H locs → lv_has ls 5 [(4, .int y23_4), (0, .ref a0), (1, .int x1), (2, .int x2), (3, .int x3)] → W p l e { frames := 12, cells := 0, slots := 0, locals := 264 } s m [.ref a0, .int x1, .int x2, .int x3].toArray below meth c H locs 0 0 (MQ below (tw_Q D cs kp0 L0 (fun v kq Lq Eq => (∃ x : Int32, v = some (.int x) ∧ 0 ≤ x.toInt ∧ x.toInt ≤ 1 ∧ (x.toInt ≠ 0 → r2_ok E a0 x2.toInt x1.toInt ∧ r2_ok E a0 x3.toInt x1.toInt)) ∧ kp = kq ∧ L = Lq ∧ E = Eq) A) [.ref a0, .int x1, .int x2, .int x3].toArray s 0 0 A) (F0 m 23 ls []) := by
        intro n23
        induction n23 using Nat.strongRecOn with
        | _ n23 ih23 =>
          intro y23_4 H locs ls hy23_4a hy23_4b hmeas23 TH hS hl
          refine lv_iload hx hb dX12_isBaseOf_23 (lv_at hl 0 rfl) ?_
          refine lv_aload_n hx hb dX12_isBaseOf_25 rfl (lv_at hl 1 rfl) ?_
          refine tw_get (ci := 12) (C := RX12) (T := TX12) (N := 64) hx hb hB cx_inX12 hown hK TH hm0 hk0 rfl ⟨by decide, rfl⟩ 27 (by decide) cw_1220 (fun _ h9 => h9) dX12_isBaseOf_26 (fun hv => ?_)
          rw [hfv0_27]
          refine lv_icmp_ge (tgt := 76) hx hb dX12_isBaseOf_29 (by decide) (fun hc10 => ?_) (fun hc10 => ?_)
          · have hf11 : fv0_27.toInt ≤ y23_4.toInt := by have z := (fa_le _ _).mp hc10;  omega
            refine lv_iconst (v := 1) hx hb dX12_isBaseOf_76 (by decide) ?_
            exact tw_zret hx hb hr hlocks (by decide) TH hS hex ⟨⟨_, rfl, (show 0 ≤ Int32.toInt 1 from by have : ((1 : Int32).toInt) = 1 := (by decide); omega), (show Int32.toInt 1 ≤ 1 from by have : ((1 : Int32).toInt) = 1 := (by decide); omega), (by have : ((1 : Int32).toInt) = 1 := (by decide); intro _; exact ⟨hb1, hb2⟩)⟩, rfl, rfl, rfl⟩ (Nat.le_of_ble_eq_true rfl) (Nat.le_of_ble_eq_true rfl) dX12_isBaseOf_77
          · have hf12 : ¬ (fv0_27.toInt ≤ y23_4.toInt) := fun q => hc10 ((fa_le _ _).mpr (by  omega))
            refine lv_iload hx hb dX12_isBaseOf_32 (lv_at hl 0 rfl) ?_
            refine lv_iload_n hx hb dX12_isBaseOf_34 rfl (lv_at hl 2 rfl) ?_
            have hJ70 : ∀  (H : Heap) (locs : List Loc) (ls : Array Slot), tw_H D cs kp L E A H → va_S A s.heap H locs → lv_has ls 5 [(4, .int y23_4), (0, .ref a0), (1, .int x1), (2, .int x2), (3, .int x3)] → W p l e { frames := 12, cells := 0, slots := 0, locals := 264 } s m [.ref a0, .int x1, .int x2, .int x3].toArray below meth c H locs 0 0 (MQ below (tw_Q D cs kp0 L0 (fun v kq Lq Eq => (∃ x : Int32, v = some (.int x) ∧ 0 ≤ x.toInt ∧ x.toInt ≤ 1 ∧ (x.toInt ≠ 0 → r2_ok E a0 x2.toInt x1.toInt ∧ r2_ok E a0 x3.toInt x1.toInt)) ∧ kp = kq ∧ L = Lq ∧ E = Eq) A) [.ref a0, .int x1, .int x2, .int x3].toArray s 0 0 A) (F0 m 70 ls []) := by
              intro H locs ls TH hS hl
              obtain ⟨zi13, ezi13⟩ : ∃ z : Int32, z = y23_4 + Int32.ofInt 1 := ⟨_, rfl⟩
              have hzi13 : zi13.toInt = y23_4.toInt + 1 := by rw [ezi13]; have : ((Int32.ofInt 1).toInt) = 1 := (by decide);  exact (ia_add (by omega) (by omega)).trans (by omega)
              refine lv_iinc (v := zi13) (lv' := [(4, .int zi13), (0, .ref a0), (1, .int x1), (2, .int x2), (3, .int x3)]) hx hb dX12_isBaseOf_70 hl (k := 0) rfl ezi13.symm (by decide) rfl (fun ls hl => ?_)
              refine lv_goto (tgt := 23) hx hb dX12_isBaseOf_73 (by decide) ?_
              exact ih23 (n23 - 1) (by   omega) zi13 _ _ ls (by omega) (by omega) (by   omega) TH hS (lv_sub hl [0, 1, 2, 3, 4] rfl)
            refine lv_icmp_eq (tgt := 70) hx hb dX12_isBaseOf_35 (by decide) (fun hc14 => ?_) (fun hc14 => ?_)
            · have hf15 : y23_4.toInt = x1.toInt := by have z := (fa_eq _ _).mp hc14;  omega
              exact hJ70  _ _ ls  TH hS (lv_sub hl [0, 1, 2, 3, 4] rfl)
            · have hf16 : ¬ (y23_4.toInt = x1.toInt) := fun q => hc14 ((fa_eq _ _).mpr (by  omega))
              refine lv_aload_n hx hb dX12_isBaseOf_38 rfl (lv_at hl 1 rfl) ?_
              refine lv_iload_n hx hb dX12_isBaseOf_39 rfl (lv_at hl 3 rfl) ?_
              refine lv_iload hx hb dX12_isBaseOf_40 (lv_at hl 0 rfl) ?_
              refine tw_Vc (o := a0) (ci := 12) (n := 2) (post := (fun v kq Lq Eq => (∃ x : Int32, v = some (.int x) ∧ 0 ≤ x.toInt ∧ x.toInt ≤ 1 ∧ (x.toInt ≠ 0 → r2_ok E a0 x2.toInt y23_4.toInt)) ∧ kp = kq ∧ L = Lq ∧ E = Eq)) (As := [.int x2, .int y23_4]) (rest := []) ⟨hx, hb, hml, hown, hB⟩ (fun sz => tX12_isFrom_v11 l D cs a0 x2 y23_4 fv0_27 hm0 hk0 (by omega) (by omega) (by omega) (by omega) hfv0_27 (by  omega) hg0 hg1 sz) cg_12_512_X12_isFrom rfl rfl (by decide +kernel) ⟨Nat.le_of_ble_eq_true rfl, Nat.le_of_ble_eq_true rfl⟩ hK hN TH hS hA rfl hm0 hk0 (by decide) rfl hl.1 rfl (Nat.le_of_ble_eq_true rfl) dX12_isBaseOf_42 ⟨Nat.le_of_ble_eq_true rfl, Nat.le_of_ble_eq_true rfl⟩ (fun v17 kp17 L17 E17 H locs hq17 hx17 TH hS => ?_)
              obtain ⟨⟨xc18, rfl, hxc18a, hxc18b, hpoxc18_0⟩, rfl, rfl, rfl⟩ := hq17
              refine W.eq (g2 := F0 m 45 ls [.int xc18]) rfl ?_
              refine lv_if_eq (tgt := 70) hx hb dX12_isBaseOf_45 (by decide) (fun hc19 => ?_) (fun hc19 => ?_)
              · have hf20 : xc18.toInt = 0 := by have z := (fa_eq _ _).mp hc19; have : ((0 : Int32).toInt) = 0 := (by decide); omega
                exact hJ70  _ _ ls  TH hS (lv_sub hl [0, 1, 2, 3, 4] rfl)
              · have hf21 : ¬ (xc18.toInt = 0) := fun q => hc19 ((fa_eq _ _).mpr (by have : ((0 : Int32).toInt) = 0 := (by decide); omega))
                refine lv_aload_n hx hb dX12_isBaseOf_48 rfl (lv_at hl 1 rfl) ?_
                refine lv_iload_n hx hb dX12_isBaseOf_49 rfl (lv_at hl 4 rfl) ?_
                refine lv_iload hx hb dX12_isBaseOf_50 (lv_at hl 0 rfl) ?_
                refine tw_Vc (o := a0) (ci := 12) (n := 2) (post := (fun v kq Lq Eq => (∃ x : Int32, v = some (.int x) ∧ 0 ≤ x.toInt ∧ x.toInt ≤ 1 ∧ (x.toInt ≠ 0 → r2_ok E a0 x3.toInt y23_4.toInt)) ∧ kp = kq ∧ L = Lq ∧ E = Eq)) (As := [.int x3, .int y23_4]) (rest := []) ⟨hx, hb, hml, hown, hB⟩ (fun sz => tX12_isFrom_v11 l D cs a0 x3 y23_4 fv0_27 hm0 hk0 (by omega) (by omega) (by omega) (by omega) hfv0_27 (by  omega) hg0 hg1 sz) cg_12_512_X12_isFrom rfl rfl (by decide +kernel) ⟨Nat.le_of_ble_eq_true rfl, Nat.le_of_ble_eq_true rfl⟩ hK hN TH hS hA rfl hm0 hk0 (by decide) rfl hl.1 rfl (Nat.le_of_ble_eq_true rfl) dX12_isBaseOf_52 ⟨Nat.le_of_ble_eq_true rfl, Nat.le_of_ble_eq_true rfl⟩ (fun v22 kp22 L22 E22 H locs hq22 hx22 TH hS => ?_)
                obtain ⟨⟨xc23, rfl, hxc23a, hxc23b, hpoxc23_0⟩, rfl, rfl, rfl⟩ := hq22
                refine W.eq (g2 := F0 m 55 ls [.int xc23]) rfl ?_
                refine lv_if_eq (tgt := 70) hx hb dX12_isBaseOf_55 (by decide) (fun hc24 => ?_) (fun hc24 => ?_)
                · have hf25 : xc23.toInt = 0 := by have z := (fa_eq _ _).mp hc24; have : ((0 : Int32).toInt) = 0 := (by decide); omega
                  exact hJ70  _ _ ls  TH hS (lv_sub hl [0, 1, 2, 3, 4] rfl)
                · have hf26 : ¬ (xc23.toInt = 0) := fun q => hc24 ((fa_eq _ _).mpr (by have : ((0 : Int32).toInt) = 0 := (by decide); omega))
                  refine lv_aload_n hx hb dX12_isBaseOf_58 rfl (lv_at hl 1 rfl) ?_
                  refine lv_iload hx hb dX12_isBaseOf_59 (lv_at hl 0 rfl) ?_
                  refine lv_iload_n hx hb dX12_isBaseOf_61 rfl (lv_at hl 2 rfl) ?_
                  refine tw_Vc (o := a0) (ci := 12) (n := 2) (post := (fun v kq Lq Eq => (∃ x : Int32, v = some (.int x) ∧ 0 ≤ x.toInt ∧ x.toInt ≤ 1 ∧ (x.toInt ≠ 0 → r2_ok E a0 y23_4.toInt x1.toInt)) ∧ kp = kq ∧ L = Lq ∧ E = Eq)) (As := [.int y23_4, .int x1]) (rest := []) ⟨hx, hb, hml, hown, hB⟩ (fun sz => tX12_isFrom_v11 l D cs a0 y23_4 x1 fv0_27 hm0 hk0 (by omega) (by omega) (by omega) (by omega) hfv0_27 (by  omega) hg0 hg1 sz) cg_12_512_X12_isFrom rfl rfl (by decide +kernel) ⟨Nat.le_of_ble_eq_true rfl, Nat.le_of_ble_eq_true rfl⟩ hK hN TH hS hA rfl hm0 hk0 (by decide) rfl hl.1 rfl (Nat.le_of_ble_eq_true rfl) dX12_isBaseOf_62 ⟨Nat.le_of_ble_eq_true rfl, Nat.le_of_ble_eq_true rfl⟩ (fun v27 kp27 L27 E27 H locs hq27 hx27 TH hS => ?_)
                  obtain ⟨⟨xc28, rfl, hxc28a, hxc28b, hpoxc28_0⟩, rfl, rfl, rfl⟩ := hq27
                  refine W.eq (g2 := F0 m 65 ls [.int xc28]) rfl ?_
                  refine lv_if_eq (tgt := 70) hx hb dX12_isBaseOf_65 (by decide) (fun hc29 => ?_) (fun hc29 => ?_)
                  · have hf30 : xc28.toInt = 0 := by have z := (fa_eq _ _).mp hc29; have : ((0 : Int32).toInt) = 0 := (by decide); omega
                    exact hJ70  _ _ ls  TH hS (lv_sub hl [0, 1, 2, 3, 4] rfl)
                  · have hf31 : ¬ (xc28.toInt = 0) := fun q => hc29 ((fa_eq _ _).mpr (by have : ((0 : Int32).toInt) = 0 := (by decide); omega))
                    refine lv_iconst (v := 0) hx hb dX12_isBaseOf_68 (by decide) ?_
                    exact tw_zret hx hb hr hlocks (by decide) TH hS hex ⟨⟨_, rfl, (show 0 ≤ Int32.toInt 0 from by have : ((0 : Int32).toInt) = 0 := (by decide); omega), (show Int32.toInt 0 ≤ 1 from by have : ((0 : Int32).toInt) = 0 := (by decide); omega), (by have : ((0 : Int32).toInt) = 0 := (by decide); intro q; exfalso; exact q (by decide))⟩, rfl, rfl, rfl⟩ (Nat.le_of_ble_eq_true rfl) (Nat.le_of_ble_eq_true rfl) dX12_isBaseOf_69
      exact hJ23 13 (0 : Int32) _ _ ls (by have : ((0 : Int32).toInt) = 0 := (by decide); omega) (by have : ((0 : Int32).toInt) = 0 := (by decide); omega) (by have : ((0 : Int32).toInt) = 0 := (by decide);  omega) TH hS (lv_sub hl [0, 1, 2, 3, 4] rfl)
    · have hf32 : xc7.toInt = 0 := by have z := (fa_eq _ _).mp hc8; have : ((0 : Int32).toInt) = 0 := (by decide); omega
      refine lv_iconst (v := 0) hx hb dX12_isBaseOf_18 (by decide) ?_
      exact tw_zret hx hb hr hlocks (by decide) TH hS hex ⟨⟨_, rfl, (show 0 ≤ Int32.toInt 0 from by have : ((0 : Int32).toInt) = 0 := (by decide); omega), (show Int32.toInt 0 ≤ 1 from by have : ((0 : Int32).toInt) = 0 := (by decide); omega), (by have : ((0 : Int32).toInt) = 0 := (by decide); intro q; exfalso; exact q (by decide))⟩, rfl, rfl, rfl⟩ (Nat.le_of_ble_eq_true rfl) (Nat.le_of_ble_eq_true rfl) dX12_isBaseOf_19
set_option maxHeartbeats 4000000 in
set_option maxRecDepth 100000 in
theorem tX12_nthBase (l : Launch) (D : va_G) (cs : Nat → ClassId) {kp : Nat → Nat} {L : List Nat} {E : Nat → va_E} (a0 : Nat) (x1 : Int32) (x2 : Int32) (x3 : Int32) (fv0_27 : Int32) (hm0 : a0 ∈ L) (hk0 : kp a0 = 12) (hp1a : 0 ≤ x1.toInt) (hp1b : x1.toInt ≤ 11) (hp2a : 0 ≤ x2.toInt) (hp2b : x2.toInt ≤ 11) (hp3a : 0 ≤ x3.toInt) (hp3b : x3.toInt ≤ 1) (hfv0_27 : tw_fv E a0 27 = .int fv0_27) (hpre0 : x1.toInt < fv0_27.toInt) (hpre1 : x2.toInt < fv0_27.toInt) (hg0 : eo_ok E a0) (hg1 : ln_ok E a0) (sz : Nat) : Met l yX12_nthBase (.code yX12_nthBase cX12_nthBase 6 (some .int) :: cx_big) { frames := 13, cells := 0, slots := 0, locals := 288 } (tw_P D cs kp L E [.ref a0, .int x1, .int x2, .int x3] sz) (tw_Q D cs kp L (fun v kq Lq Eq => (∃ x : Int32, v = some (.int x) ∧ (-1) ≤ x.toInt ∧ x.toInt ≤ 11 ∧ (x.toInt < fv0_27.toInt ∧ (x.toInt ≠ -1 → r2_ok E a0 x1.toInt x.toInt ∧ r2_ok E a0 x2.toInt x.toInt))) ∧ kp = kq ∧ L = Lq ∧ E = Eq) (va_A (va_pl L E) sz)) 0 0 (va_A (va_pl L E) sz) := by
  refine tw_ofW (by decide) (Nat.le_of_ble_eq_true rfl) ?_
  intro p e s m below meth c A ls hx hb hr hml hB hown hlocks hK hN hA TH hS hl
  have hown : s.vm.findClass "TreeMergeModel" = some m.cls := hown
  have hl : lv_has ls 6 [(0, .ref a0), (1, .int x1), (2, .int x2), (3, .int x3)] := hl
  obtain ⟨kp0, ekp⟩ : ∃ z, z = kp := ⟨_, rfl⟩
  obtain ⟨L0, eL⟩ : ∃ z, z = L := ⟨_, rfl⟩
  rw [show tw_Q D cs kp L = tw_Q D cs kp0 L0 by rw [ekp, eL]]
  have hex : ∀ a : Nat, a ∈ L0 → a ∈ L ∧ kp a = kp0 a := fun a h => ⟨by rw [← eL]; exact h, by rw [ekp]⟩
  obtain ⟨qfv0_27, hqfv0_27, hqfv0_27a, hqfv0_27b⟩ := tw_rd TH hm0 hk0 (by decide) (by decide) (k := 27) rfl
  have eqfv0_27 : qfv0_27 = fv0_27 := by have q := hqfv0_27.symm.trans hfv0_27; injection q
  rw [eqfv0_27] at hqfv0_27a hqfv0_27b
  refine lv_iload_n hx hb dX12_nthBase_0 rfl (lv_at hl 3 rfl) ?_
  refine lv_istore (lv' := [(4, .int x3), (0, .ref a0), (1, .int x1), (2, .int x2), (3, .int x3)]) hx hb dX12_nthBase_1 hl (by decide) rfl (fun ls hl => ?_)
  refine lv_iconst (v := 0) hx hb dX12_nthBase_3 (by decide) ?_
  refine lv_istore (lv' := [(5, .int 0), (4, .int x3), (0, .ref a0), (1, .int x1), (2, .int x2), (3, .int x3)]) hx hb dX12_nthBase_4 hl (by decide) rfl (fun ls hl => ?_)
  have hJ6 : ∀ (n6 : Nat) (y6_5 : Int32) (y6_4 : Int32) (H : Heap) (locs : List Loc) (ls : Array Slot), 0 ≤ y6_5.toInt → y6_5.toInt ≤ 12 → 0 ≤ y6_4.toInt → y6_4.toInt ≤ 1 → (0 ≤ y6_4.toInt) → 12 - y6_5.toInt ≤ (n6 : Int) → tw_H D cs kp L E A H → va_S A s.heap H locs → lv_has ls 6 [(5, .int y6_5), (4, .int y6_4), (0, .ref a0), (1, .int x1), (2, .int x2)] → W p l e { frames := 13, cells := 0, slots := 0, locals := 288 } s m [.ref a0, .int x1, .int x2, .int x3].toArray below meth c H locs 0 0 (MQ below (tw_Q D cs kp0 L0 (fun v kq Lq Eq => (∃ x : Int32, v = some (.int x) ∧ (-1) ≤ x.toInt ∧ x.toInt ≤ 11 ∧ (x.toInt < fv0_27.toInt ∧ (x.toInt ≠ -1 → r2_ok E a0 x1.toInt x.toInt ∧ r2_ok E a0 x2.toInt x.toInt))) ∧ kp = kq ∧ L = Lq ∧ E = Eq) A) [.ref a0, .int x1, .int x2, .int x3].toArray s 0 0 A) (F0 m 6 ls []) := by
    intro n6
    induction n6 using Nat.strongRecOn with
    | _ n6 ih6 =>
      intro y6_5 y6_4 H locs ls hy6_5a hy6_5b hy6_4a hy6_4b hin6_0 hmeas6 TH hS hl
      refine lv_iload hx hb dX12_nthBase_6 (lv_at hl 0 rfl) ?_
      refine lv_aload_n hx hb dX12_nthBase_8 rfl (lv_at hl 2 rfl) ?_
      refine tw_get (ci := 12) (C := RX12) (T := TX12) (N := 64) hx hb hB cx_inX12 hown hK TH hm0 hk0 rfl ⟨by decide, rfl⟩ 27 (by decide) cw_1220 (fun _ h9 => h9) dX12_nthBase_9 (fun hv => ?_)
      rw [hfv0_27]
      refine lv_icmp_ge (tgt := 46) hx hb dX12_nthBase_12 (by decide) (fun hc1 => ?_) (fun hc1 => ?_)
      · have hf2 : fv0_27.toInt ≤ y6_5.toInt := by have z := (fa_le _ _).mp hc1;  omega
        refine lv_iconst (v := (-1)) hx hb dX12_nthBase_46 (by decide) ?_
        exact tw_iret hx hb hr hlocks TH hS hex ⟨⟨_, rfl, (show (-1) ≤ Int32.toInt (-1) from by have : (((-1) : Int32).toInt) = (-1) := (by decide); omega), (show Int32.toInt (-1) ≤ 11 from by have : (((-1) : Int32).toInt) = (-1) := (by decide); omega), (by have : (((-1) : Int32).toInt) = (-1) := (by decide); refine ⟨by omega, fun q => ?_⟩; exfalso; exact q (by decide))⟩, rfl, rfl, rfl⟩ (Nat.le_of_ble_eq_true rfl) (Nat.le_of_ble_eq_true rfl) dX12_nthBase_47
      · have hf3 : ¬ (fv0_27.toInt ≤ y6_5.toInt) := fun q => hc1 ((fa_le _ _).mpr (by  omega))
        refine lv_aload_n hx hb dX12_nthBase_15 rfl (lv_at hl 2 rfl) ?_
        refine lv_iload hx hb dX12_nthBase_16 (lv_at hl 0 rfl) ?_
        refine lv_iload_n hx hb dX12_nthBase_18 rfl (lv_at hl 3 rfl) ?_
        refine lv_iload_n hx hb dX12_nthBase_19 rfl (lv_at hl 4 rfl) ?_
        refine tw_Vc (o := a0) (ci := 12) (n := 3) (post := (fun v kq Lq Eq => (∃ x : Int32, v = some (.int x) ∧ 0 ≤ x.toInt ∧ x.toInt ≤ 1 ∧ (x.toInt ≠ 0 → r2_ok E a0 x1.toInt y6_5.toInt ∧ r2_ok E a0 x2.toInt y6_5.toInt)) ∧ kp = kq ∧ L = Lq ∧ E = Eq)) (As := [.int y6_5, .int x1, .int x2]) (rest := []) ⟨hx, hb, hml, hown, hB⟩ (fun sz => tX12_isBaseOf l D cs a0 y6_5 x1 x2 fv0_27 hm0 hk0 (by omega) (by omega) (by omega) (by omega) (by omega) (by omega) hfv0_27 (by  omega) (by  omega) (by  omega) hg0 hg1 sz) cg_12_515_X12_isBaseOf rfl rfl (by decide +kernel) ⟨Nat.le_of_ble_eq_true rfl, Nat.le_of_ble_eq_true rfl⟩ hK hN TH hS hA rfl hm0 hk0 (by decide) rfl hl.1 rfl (Nat.le_of_ble_eq_true rfl) dX12_nthBase_20 ⟨Nat.le_of_ble_eq_true rfl, Nat.le_of_ble_eq_true rfl⟩ (fun v4 kp4 L4 E4 H locs hq4 hx4 TH hS => ?_)
        obtain ⟨⟨xc5, rfl, hxc5a, hxc5b, hpoxc5_0⟩, rfl, rfl, rfl⟩ := hq4
        refine W.eq (g2 := F0 m 23 ls [.int xc5]) rfl ?_
        have hJ40 : ∀ (y40_4 : Int32) (H : Heap) (locs : List Loc) (ls : Array Slot), 0 ≤ y40_4.toInt → y40_4.toInt ≤ 1 → tw_H D cs kp L E A H → va_S A s.heap H locs → lv_has ls 6 [(5, .int y6_5), (4, .int y40_4), (0, .ref a0), (1, .int x1), (2, .int x2)] → W p l e { frames := 13, cells := 0, slots := 0, locals := 288 } s m [.ref a0, .int x1, .int x2, .int x3].toArray below meth c H locs 0 0 (MQ below (tw_Q D cs kp0 L0 (fun v kq Lq Eq => (∃ x : Int32, v = some (.int x) ∧ (-1) ≤ x.toInt ∧ x.toInt ≤ 11 ∧ (x.toInt < fv0_27.toInt ∧ (x.toInt ≠ -1 → r2_ok E a0 x1.toInt x.toInt ∧ r2_ok E a0 x2.toInt x.toInt))) ∧ kp = kq ∧ L = Lq ∧ E = Eq) A) [.ref a0, .int x1, .int x2, .int x3].toArray s 0 0 A) (F0 m 40 ls []) := by
          intro y40_4 H locs ls hy40_4a hy40_4b TH hS hl
          obtain ⟨zi6, ezi6⟩ : ∃ z : Int32, z = y6_5 + Int32.ofInt 1 := ⟨_, rfl⟩
          have hzi6 : zi6.toInt = y6_5.toInt + 1 := by rw [ezi6]; have : ((Int32.ofInt 1).toInt) = 1 := (by decide);  exact (ia_add (by omega) (by omega)).trans (by omega)
          refine lv_iinc (v := zi6) (lv' := [(5, .int zi6), (4, .int y40_4), (0, .ref a0), (1, .int x1), (2, .int x2)]) hx hb dX12_nthBase_40 hl (k := 0) rfl ezi6.symm (by decide) rfl (fun ls hl => ?_)
          refine lv_goto (tgt := 6) hx hb dX12_nthBase_43 (by decide) ?_
          exact ih6 (n6 - 1) (by   omega) zi6 y40_4 _ _ ls (by omega) (by omega) (by omega) (by omega) (by  omega) (by   omega) TH hS (lv_sub hl [0, 1, 2, 3, 4] rfl)
        refine lv_if_ne (tgt := 29) hx hb dX12_nthBase_23 (by decide) (fun hc7 => ?_) (fun hc7 => ?_)
        · have hf8 : ¬ (xc5.toInt = 0) := fun q => hc7 ((fa_eq _ _).mpr (by have : ((0 : Int32).toInt) = 0 := (by decide); omega))
          refine lv_iload hx hb dX12_nthBase_29 (lv_at hl 1 rfl) ?_
          refine lv_if_ne (tgt := 37) hx hb dX12_nthBase_31 (by decide) (fun hc9 => ?_) (fun hc9 => ?_)
          · have hf10 : ¬ (y6_4.toInt = 0) := fun q => hc9 ((fa_eq _ _).mpr (by have : ((0 : Int32).toInt) = 0 := (by decide); omega))
            obtain ⟨zi11, ezi11⟩ : ∃ z : Int32, z = y6_4 + Int32.ofInt (-1) := ⟨_, rfl⟩
            have hzi11 : zi11.toInt = y6_4.toInt + (-1) := by rw [ezi11]; have : ((Int32.ofInt (-1)).toInt) = (-1) := (by decide);  exact (ia_add (by omega) (by omega)).trans (by omega)
            refine lv_iinc (v := zi11) (lv' := [(4, .int zi11), (5, .int y6_5), (0, .ref a0), (1, .int x1), (2, .int x2)]) hx hb dX12_nthBase_37 hl (k := 1) rfl ezi11.symm (by decide) rfl (fun ls hl => ?_)
            exact hJ40 zi11 _ _ ls (by omega) (by omega) TH hS (lv_sub hl [1, 0, 2, 3, 4] rfl)
          · have hf12 : y6_4.toInt = 0 := by have z := (fa_eq _ _).mp hc9; have : ((0 : Int32).toInt) = 0 := (by decide); omega
            refine lv_iload hx hb dX12_nthBase_34 (lv_at hl 0 rfl) ?_
            exact tw_iret hx hb hr hlocks TH hS hex ⟨⟨_, rfl, (show (-1) ≤ Int32.toInt y6_5 from by  omega), (show Int32.toInt y6_5 ≤ 11 from by  omega), (by  refine ⟨by omega, fun _ => ?_⟩; exact hpoxc5_0 (by omega))⟩, rfl, rfl, rfl⟩ (Nat.le_of_ble_eq_true rfl) (Nat.le_of_ble_eq_true rfl) dX12_nthBase_36
        · have hf13 : xc5.toInt = 0 := by have z := (fa_eq _ _).mp hc7; have : ((0 : Int32).toInt) = 0 := (by decide); omega
          refine lv_goto (tgt := 40) hx hb dX12_nthBase_26 (by decide) ?_
          exact hJ40 y6_4 _ _ ls (by omega) (by omega) TH hS (lv_sub hl [0, 1, 2, 3, 4] rfl)
  exact hJ6 13 (0 : Int32) x3 _ _ ls (by have : ((0 : Int32).toInt) = 0 := (by decide); omega) (by have : ((0 : Int32).toInt) = 0 := (by decide); omega) (by omega) (by omega) (by have : ((0 : Int32).toInt) = 0 := (by decide); omega) (by have : ((0 : Int32).toInt) = 0 := (by decide);  omega) TH hS (lv_sub hl [0, 1, 2, 3, 4] rfl)
set_option maxHeartbeats 4000000 in
set_option maxRecDepth 100000 in
theorem tX12_from (l : Launch) (D : va_G) (cs : Nat → ClassId) {kp : Nat → Nat} {L : List Nat} {E : Nat → va_E} (a0 : Nat) (x1 : Int32) (x2 : Int32) (hm0 : a0 ∈ L) (hk0 : kp a0 = 12) (hg0 : eo_ok E a0) (hg1 : ln_ok E a0) (sz : Nat) : Met l yX12_from (.code yX12_from cX12_from 3 (some .boolean) :: cx_big) { frames := 12, cells := 0, slots := 0, locals := 264 } (tw_P D cs kp L E [.ref a0, .int x1, .int x2] sz) (tw_Q D cs kp L (fun v kq Lq Eq => (∃ x : Int32, v = some (.int x) ∧ 0 ≤ x.toInt ∧ x.toInt ≤ 1) ∧ kp = kq ∧ L = Lq ∧ E = Eq) (va_A (va_pl L E) sz)) 0 0 (va_A (va_pl L E) sz) := by
  refine tw_ofW (by decide) (Nat.le_of_ble_eq_true rfl) ?_
  intro p e s m below meth c A ls hx hb hr hml hB hown hlocks hK hN hA TH hS hl
  have hown : s.vm.findClass "TreeMergeModel" = some m.cls := hown
  have hl : lv_has ls 3 [(0, .ref a0), (1, .int x1), (2, .int x2)] := hl
  obtain ⟨kp0, ekp⟩ : ∃ z, z = kp := ⟨_, rfl⟩
  obtain ⟨L0, eL⟩ : ∃ z, z = L := ⟨_, rfl⟩
  rw [show tw_Q D cs kp L = tw_Q D cs kp0 L0 by rw [ekp, eL]]
  have hex : ∀ a : Nat, a ∈ L0 → a ∈ L ∧ kp a = kp0 a := fun a h => ⟨by rw [← eL]; exact h, by rw [ekp]⟩
  refine lv_aload_n hx hb dX12_from_0 rfl (lv_at hl 0 rfl) ?_
  refine lv_iload_n hx hb dX12_from_1 rfl (lv_at hl 1 rfl) ?_
  obtain ⟨xi1, hxi1, hxi1a, hxi1b⟩ := tw_rd TH hm0 hk0 (by decide) (by decide) (k := 27) rfl
  refine tw_Vc (o := a0) (ci := 12) (n := 1) (post := (fun v kq Lq Eq => (∃ x : Int32, v = some (.int x) ∧ 0 ≤ x.toInt ∧ x.toInt ≤ 1 ∧ (x.toInt ≠ 0 → 0 ≤ x1.toInt ∧ x1.toInt < xi1.toInt)) ∧ kp = kq ∧ L = Lq ∧ E = Eq)) (As := [.int x1]) (rest := []) ⟨hx, hb, hml, hown, hB⟩ (fun sz => tX12_isEdition l D cs a0 x1 xi1 hm0 hk0 hxi1 sz) cg_12_396_X12_isEdition rfl rfl (by decide +kernel) ⟨Nat.le_of_ble_eq_true rfl, Nat.le_of_ble_eq_true rfl⟩ hK hN TH hS hA rfl hm0 hk0 (by decide) rfl hl.1 rfl (Nat.le_of_ble_eq_true rfl) dX12_from_2 ⟨Nat.le_of_ble_eq_true rfl, Nat.le_of_ble_eq_true rfl⟩ (fun v2 kp2 L2 E2 H locs hq2 hx2 TH hS => ?_)
  obtain ⟨⟨xc3, rfl, hxc3a, hxc3b, hpoxc3_0⟩, rfl, rfl, rfl⟩ := hq2
  refine W.eq (g2 := F0 m 5 ls [.int xc3]) rfl ?_
  refine lv_if_eq (tgt := 29) hx hb dX12_from_5 (by decide) (fun hc4 => ?_) (fun hc4 => ?_)
  · have hf5 : xc3.toInt = 0 := by have z := (fa_eq _ _).mp hc4; have : ((0 : Int32).toInt) = 0 := (by decide); omega
    refine lv_iconst (v := 0) hx hb dX12_from_29 (by decide) ?_
    exact tw_zret hx hb hr hlocks (by decide) TH hS hex ⟨⟨_, rfl, (show 0 ≤ Int32.toInt 0 from by have : ((0 : Int32).toInt) = 0 := (by decide); omega), (show Int32.toInt 0 ≤ 1 from by have : ((0 : Int32).toInt) = 0 := (by decide); omega)⟩, rfl, rfl, rfl⟩ (Nat.le_of_ble_eq_true rfl) (Nat.le_of_ble_eq_true rfl) dX12_from_30
  · have hf6 : ¬ (xc3.toInt = 0) := fun q => hc4 ((fa_eq _ _).mpr (by have : ((0 : Int32).toInt) = 0 := (by decide); omega))
    refine lv_aload_n hx hb dX12_from_8 rfl (lv_at hl 0 rfl) ?_
    refine lv_iload_n hx hb dX12_from_9 rfl (lv_at hl 2 rfl) ?_
    refine tw_Vc (o := a0) (ci := 12) (n := 1) (post := (fun v kq Lq Eq => (∃ x : Int32, v = some (.int x) ∧ 0 ≤ x.toInt ∧ x.toInt ≤ 1 ∧ (x.toInt ≠ 0 → 0 ≤ x2.toInt ∧ x2.toInt < xi1.toInt)) ∧ kp = kq ∧ L = Lq ∧ E = Eq)) (As := [.int x2]) (rest := []) ⟨hx, hb, hml, hown, hB⟩ (fun sz => tX12_isEdition l D cs a0 x2 xi1 hm0 hk0 hxi1 sz) cg_12_396_X12_isEdition rfl rfl (by decide +kernel) ⟨Nat.le_of_ble_eq_true rfl, Nat.le_of_ble_eq_true rfl⟩ hK hN TH hS hA rfl hm0 hk0 (by decide) rfl hl.1 rfl (Nat.le_of_ble_eq_true rfl) dX12_from_10 ⟨Nat.le_of_ble_eq_true rfl, Nat.le_of_ble_eq_true rfl⟩ (fun v7 kp7 L7 E7 H locs hq7 hx7 TH hS => ?_)
    obtain ⟨⟨xc8, rfl, hxc8a, hxc8b, hpoxc8_0⟩, rfl, rfl, rfl⟩ := hq7
    refine W.eq (g2 := F0 m 13 ls [.int xc8]) rfl ?_
    refine lv_if_eq (tgt := 29) hx hb dX12_from_13 (by decide) (fun hc9 => ?_) (fun hc9 => ?_)
    · have hf10 : xc8.toInt = 0 := by have z := (fa_eq _ _).mp hc9; have : ((0 : Int32).toInt) = 0 := (by decide); omega
      refine lv_iconst (v := 0) hx hb dX12_from_29 (by decide) ?_
      exact tw_zret hx hb hr hlocks (by decide) TH hS hex ⟨⟨_, rfl, (show 0 ≤ Int32.toInt 0 from by have : ((0 : Int32).toInt) = 0 := (by decide); omega), (show Int32.toInt 0 ≤ 1 from by have : ((0 : Int32).toInt) = 0 := (by decide); omega)⟩, rfl, rfl, rfl⟩ (Nat.le_of_ble_eq_true rfl) (Nat.le_of_ble_eq_true rfl) dX12_from_30
    · have hf11 : ¬ (xc8.toInt = 0) := fun q => hc9 ((fa_eq _ _).mpr (by have : ((0 : Int32).toInt) = 0 := (by decide); omega))
      refine lv_aload_n hx hb dX12_from_16 rfl (lv_at hl 0 rfl) ?_
      refine lv_iload_n hx hb dX12_from_17 rfl (lv_at hl 1 rfl) ?_
      refine lv_iload_n hx hb dX12_from_18 rfl (lv_at hl 2 rfl) ?_
      refine tw_Vc (o := a0) (ci := 12) (n := 2) (post := (fun v kq Lq Eq => (∃ x : Int32, v = some (.int x) ∧ 0 ≤ x.toInt ∧ x.toInt ≤ 1 ∧ (x.toInt ≠ 0 → r2_ok E a0 x1.toInt x2.toInt)) ∧ kp = kq ∧ L = Lq ∧ E = Eq)) (As := [.int x1, .int x2]) (rest := []) ⟨hx, hb, hml, hown, hB⟩ (fun sz => tX12_isFrom_v11 l D cs a0 x1 x2 xi1 hm0 hk0 (by omega) (by omega) (by omega) (by omega) hxi1 (by  omega) hg0 hg1 sz) cg_12_512_X12_isFrom rfl rfl (by decide +kernel) ⟨Nat.le_of_ble_eq_true rfl, Nat.le_of_ble_eq_true rfl⟩ hK hN TH hS hA rfl hm0 hk0 (by decide) rfl hl.1 rfl (Nat.le_of_ble_eq_true rfl) dX12_from_19 ⟨Nat.le_of_ble_eq_true rfl, Nat.le_of_ble_eq_true rfl⟩ (fun v12 kp12 L12 E12 H locs hq12 hx12 TH hS => ?_)
      obtain ⟨⟨xc13, rfl, hxc13a, hxc13b, hpoxc13_0⟩, rfl, rfl, rfl⟩ := hq12
      refine W.eq (g2 := F0 m 22 ls [.int xc13]) rfl ?_
      refine lv_if_eq (tgt := 29) hx hb dX12_from_22 (by decide) (fun hc14 => ?_) (fun hc14 => ?_)
      · have hf15 : xc13.toInt = 0 := by have z := (fa_eq _ _).mp hc14; have : ((0 : Int32).toInt) = 0 := (by decide); omega
        refine lv_iconst (v := 0) hx hb dX12_from_29 (by decide) ?_
        exact tw_zret hx hb hr hlocks (by decide) TH hS hex ⟨⟨_, rfl, (show 0 ≤ Int32.toInt 0 from by have : ((0 : Int32).toInt) = 0 := (by decide); omega), (show Int32.toInt 0 ≤ 1 from by have : ((0 : Int32).toInt) = 0 := (by decide); omega)⟩, rfl, rfl, rfl⟩ (Nat.le_of_ble_eq_true rfl) (Nat.le_of_ble_eq_true rfl) dX12_from_30
      · have hf16 : ¬ (xc13.toInt = 0) := fun q => hc14 ((fa_eq _ _).mpr (by have : ((0 : Int32).toInt) = 0 := (by decide); omega))
        refine lv_iconst (v := 1) hx hb dX12_from_25 (by decide) ?_
        refine lv_goto (tgt := 30) hx hb dX12_from_26 (by decide) ?_
        exact tw_zret hx hb hr hlocks (by decide) TH hS hex ⟨⟨_, rfl, (show 0 ≤ Int32.toInt 1 from by have : ((1 : Int32).toInt) = 1 := (by decide); omega), (show Int32.toInt 1 ≤ 1 from by have : ((1 : Int32).toInt) = 1 := (by decide); omega)⟩, rfl, rfl, rfl⟩ (Nat.le_of_ble_eq_true rfl) (Nat.le_of_ble_eq_true rfl) dX12_from_30
