set_option maxHeartbeats 4000000 in
set_option maxRecDepth 100000 in
theorem tX12_isFrom_v2 (l : Launch) (D : va_G) (cs : Nat → ClassId) {kp : Nat → Nat} {L : List Nat} {E : Nat → va_E} (a0 : Nat) (x1 : Int32) (x2 : Int32) (fv0_27 : Int32) (hm0 : a0 ∈ L) (hk0 : kp a0 = 12) (hp1a : 0 ≤ x1.toInt) (hp1b : x1.toInt ≤ 2) (hp2a : 0 ≤ x2.toInt) (hp2b : x2.toInt ≤ 11) (hfv0_27 : tw_fv E a0 27 = .int fv0_27) (hpre0 : x1.toInt < fv0_27.toInt) (hg0 : eo_ok E a0) (hg1 : ln_ok E a0) (sz : Nat) : Met l yX12_isFrom (.code yX12_isFrom cX12_isFrom 3 (some .boolean) :: cx_big) { frames := 2, cells := 0, slots := 0, locals := 44 } (tw_P D cs kp L E [.ref a0, .int x1, .int x2] sz) (tw_Q D cs kp L (fun v kq Lq Eq => (∃ x : Int32, v = some (.int x) ∧ 0 ≤ x.toInt ∧ x.toInt ≤ 1 ∧ (x.toInt ≠ 0 → r2_ok E a0 x1.toInt x2.toInt)) ∧ kp = kq ∧ L = Lq ∧ E = Eq) (va_A (va_pl L E) sz)) 0 0 (va_A (va_pl L E) sz) := by
  refine tw_ofW (by decide) (Nat.le_of_ble_eq_true rfl) ?_
  intro p e s m below meth c A ls hx hb hr hml hB hown hlocks hK hN hA TH hS hl
  have hown : s.vm.findClass "TreeMergeModel" = some m.cls := hown
  have hl : lv_has ls 3 [(0, .ref a0), (1, .int x1), (2, .int x2)] := hl
  obtain ⟨kp0, ekp⟩ : ∃ z, z = kp := ⟨_, rfl⟩
  obtain ⟨L0, eL⟩ : ∃ z, z = L := ⟨_, rfl⟩
  rw [show tw_Q D cs kp L = tw_Q D cs kp0 L0 by rw [ekp, eL]]
  have hex : ∀ a : Nat, a ∈ L0 → a ∈ L ∧ kp a = kp0 a := fun a h => ⟨by rw [← eL]; exact h, by rw [ekp]⟩
  obtain ⟨qfv0_27, hqfv0_27, hqfv0_27a, hqfv0_27b⟩ := tw_rd TH hm0 hk0 (by decide) (by decide) (k := 27) rfl
  have eqfv0_27 : qfv0_27 = fv0_27 := by have q := hqfv0_27.symm.trans hfv0_27; injection q
  rw [eqfv0_27] at hqfv0_27a hqfv0_27b
  refine lv_iload_n hx hb dX12_isFrom_0 rfl (lv_at hl 1 rfl) ?_
  refine lv_iload_n hx hb dX12_isFrom_1 rfl (lv_at hl 2 rfl) ?_
  refine lv_icmp_ne (tgt := 7) hx hb dX12_isFrom_2 (by decide) (fun hc1 => ?_) (fun hc1 => ?_)
  · have hf2 : ¬ (x1.toInt = x2.toInt) := fun q => hc1 ((fa_eq _ _).mpr (by  omega))
    refine lv_aload_n hx hb dX12_isFrom_7 rfl (lv_at hl 0 rfl) ?_
    refine tw_get (ci := 12) (C := RX12) (T := TX12) (N := 64) hx hb hB cx_inX12 hown hK TH hm0 hk0 rfl ⟨by decide, rfl⟩ 24 (by decide) cw_1217 (fun _ h9 => h9) dX12_isFrom_8 (fun hv => ?_)
    obtain ⟨xr3, hxr3, hmxr3, hkxr3⟩ : ∃ a : Nat, tw_fv E a0 24 = .ref a ∧ a ∈ L ∧ kp a = 334 := hv
    rw [hxr3]
    refine lv_iload_n hx hb dX12_isFrom_11 rfl (lv_at hl 1 rfl) ?_
    refine tw_iald (k := 334) (t0 := 0) (n := 12) (lo := (-1)) (hi := 11) hx hb hK TH hmxr3 hkxr3 (by decide) rfl rfl (i := x1) (vp_in_iff.mpr ⟨by  omega, by  omega⟩) dX12_isFrom_12 (fun hxe4a hxe4b => ?_)
    obtain ⟨xe4, exe4⟩ : ∃ z : Int32, tw_iv E xr3 (Int32.toNatClampNeg x1) = z := ⟨_, rfl⟩
    rw [exe4] at hxe4a hxe4b ⊢
    have hl13 : xe4.toInt = -1 ∨ (0 ≤ xe4.toInt ∧ xe4.toInt < x1.toInt ∧ r2_ok E a0 (x1.toInt) (xe4.toInt)) := (by have q := hg1 (x1.toInt).toNat (by rw [tw_fi_of hfv0_27]; omega) 24 (by decide); have w : tw_el E a0 24 (x1.toInt).toNat = xe4.toInt := (by rw [tw_el_of hxr3]; exact congrArg Int32.toInt exe4); rw [w, show (((x1.toInt).toNat : Nat) : Int) = x1.toInt by omega] at q; exact q)
    have hn13 : xe4.toInt = -1 ∨ (0 ≤ xe4.toInt ∧ xe4.toInt < x1.toInt) := hl13.imp id (fun q => ⟨q.1, q.2.1⟩)
    refine lv_iconst (v := (-1)) hx hb dX12_isFrom_13 (by decide) ?_
    refine lv_icmp_eq (tgt := 31) hx hb dX12_isFrom_14 (by decide) (fun hc5 => ?_) (fun hc5 => ?_)
    · have hf6 : xe4.toInt = (-1) := by have z := (fa_eq _ _).mp hc5; have : (((-1) : Int32).toInt) = (-1) := (by decide); omega
      refine lv_aload_n hx hb dX12_isFrom_31 rfl (lv_at hl 0 rfl) ?_
      refine tw_get (ci := 12) (C := RX12) (T := TX12) (N := 64) hx hb hB cx_inX12 hown hK TH hm0 hk0 rfl ⟨by decide, rfl⟩ 25 (by decide) cw_1218 (fun _ h9 => h9) dX12_isFrom_32 (fun hv => ?_)
      obtain ⟨xr7, hxr7, hmxr7, hkxr7⟩ : ∃ a : Nat, tw_fv E a0 25 = .ref a ∧ a ∈ L ∧ kp a = 335 := hv
      rw [hxr7]
      refine lv_iload_n hx hb dX12_isFrom_35 rfl (lv_at hl 1 rfl) ?_
      refine tw_iald (k := 335) (t0 := 0) (n := 12) (lo := (-1)) (hi := 11) hx hb hK TH hmxr7 hkxr7 (by decide) rfl rfl (i := x1) (vp_in_iff.mpr ⟨by  omega, by  omega⟩) dX12_isFrom_36 (fun hxe8a hxe8b => ?_)
      obtain ⟨xe8, exe8⟩ : ∃ z : Int32, tw_iv E xr7 (Int32.toNatClampNeg x1) = z := ⟨_, rfl⟩
      rw [exe8] at hxe8a hxe8b ⊢
      have hl37 : xe8.toInt = -1 ∨ (0 ≤ xe8.toInt ∧ xe8.toInt < x1.toInt ∧ r2_ok E a0 (x1.toInt) (xe8.toInt)) := (by have q := hg1 (x1.toInt).toNat (by rw [tw_fi_of hfv0_27]; omega) 25 (by decide); have w : tw_el E a0 25 (x1.toInt).toNat = xe8.toInt := (by rw [tw_el_of hxr7]; exact congrArg Int32.toInt exe8); rw [w, show (((x1.toInt).toNat : Nat) : Int) = x1.toInt by omega] at q; exact q)
      have hn37 : xe8.toInt = -1 ∨ (0 ≤ xe8.toInt ∧ xe8.toInt < x1.toInt) := hl37.imp id (fun q => ⟨q.1, q.2.1⟩)
      refine lv_iconst (v := (-1)) hx hb dX12_isFrom_37 (by decide) ?_
      refine lv_icmp_eq (tgt := 59) hx hb dX12_isFrom_38 (by decide) (fun hc9 => ?_) (fun hc9 => ?_)
      · have hf10 : xe8.toInt = (-1) := by have z := (fa_eq _ _).mp hc9; have : (((-1) : Int32).toInt) = (-1) := (by decide); omega
        refine lv_iconst (v := 0) hx hb dX12_isFrom_59 (by decide) ?_
        exact tw_zret hx hb hr hlocks (by decide) TH hS hex ⟨⟨_, rfl, (show 0 ≤ Int32.toInt 0 from by have : ((0 : Int32).toInt) = 0 := (by decide); omega), (show Int32.toInt 0 ≤ 1 from by have : ((0 : Int32).toInt) = 0 := (by decide); omega), (by have : ((0 : Int32).toInt) = 0 := (by decide); intro q; exfalso; exact q (by decide))⟩, rfl, rfl, rfl⟩ (Nat.le_of_ble_eq_true rfl) (Nat.le_of_ble_eq_true rfl) dX12_isFrom_60
      · have hf11 : ¬ (xe8.toInt = (-1)) := fun q => hc9 ((fa_eq _ _).mpr (by have : (((-1) : Int32).toInt) = (-1) := (by decide); omega))
        refine lv_aload_n hx hb dX12_isFrom_41 rfl (lv_at hl 0 rfl) ?_
        refine lv_aload_n hx hb dX12_isFrom_42 rfl (lv_at hl 0 rfl) ?_
        refine tw_get (ci := 12) (C := RX12) (T := TX12) (N := 64) hx hb hB cx_inX12 hown hK TH hm0 hk0 rfl ⟨by decide, rfl⟩ 25 (by decide) cw_1218 (fun _ h9 => h9) dX12_isFrom_43 (fun hv => ?_)
        rw [hxr7]
        refine lv_iload_n hx hb dX12_isFrom_46 rfl (lv_at hl 1 rfl) ?_
        refine tw_iald (k := 335) (t0 := 0) (n := 12) (lo := (-1)) (hi := 11) hx hb hK TH hmxr7 hkxr7 (by decide) rfl rfl (i := x1) (vp_in_iff.mpr ⟨by  omega, by  omega⟩) dX12_isFrom_47 (fun hxe12a hxe12b => ?_)
        rw [exe8]
        refine lv_iload_n hx hb dX12_isFrom_48 rfl (lv_at hl 2 rfl) ?_
        refine tw_Vc (o := a0) (ci := 12) (n := 2) (post := (fun v kq Lq Eq => (∃ x : Int32, v = some (.int x) ∧ 0 ≤ x.toInt ∧ x.toInt ≤ 1 ∧ (x.toInt ≠ 0 → r2_ok E a0 xe8.toInt x2.toInt)) ∧ kp = kq ∧ L = Lq ∧ E = Eq)) (As := [.int xe8, .int x2]) (rest := []) ⟨hx, hb, hml, hown, hB⟩ (fun sz => tX12_isFrom_v1 l D cs a0 xe8 x2 fv0_27 hm0 hk0 (by omega) (by omega) (by omega) (by omega) hfv0_27 (by  omega) hg0 hg1 sz) cg_12_512_X12_isFrom rfl rfl (by decide +kernel) ⟨Nat.le_of_ble_eq_true rfl, Nat.le_of_ble_eq_true rfl⟩ hK hN TH hS hA rfl hm0 hk0 (by decide) rfl hl.1 rfl (Nat.le_of_ble_eq_true rfl) dX12_isFrom_49 ⟨Nat.le_of_ble_eq_true rfl, Nat.le_of_ble_eq_true rfl⟩ (fun v13 kp13 L13 E13 H locs hq13 hx13 TH hS => ?_)
        obtain ⟨⟨xc14, rfl, hxc14a, hxc14b, hpoxc14_0⟩, rfl, rfl, rfl⟩ := hq13
        refine W.eq (g2 := F0 m 52 ls [.int xc14]) rfl ?_
        refine lv_if_eq (tgt := 59) hx hb dX12_isFrom_52 (by decide) (fun hc15 => ?_) (fun hc15 => ?_)
        · have hf16 : xc14.toInt = 0 := by have z := (fa_eq _ _).mp hc15; have : ((0 : Int32).toInt) = 0 := (by decide); omega
          refine lv_iconst (v := 0) hx hb dX12_isFrom_59 (by decide) ?_
          exact tw_zret hx hb hr hlocks (by decide) TH hS hex ⟨⟨_, rfl, (show 0 ≤ Int32.toInt 0 from by have : ((0 : Int32).toInt) = 0 := (by decide); omega), (show Int32.toInt 0 ≤ 1 from by have : ((0 : Int32).toInt) = 0 := (by decide); omega), (by have : ((0 : Int32).toInt) = 0 := (by decide); intro q; exfalso; exact q (by decide))⟩, rfl, rfl, rfl⟩ (Nat.le_of_ble_eq_true rfl) (Nat.le_of_ble_eq_true rfl) dX12_isFrom_60
        · have hf17 : ¬ (xc14.toInt = 0) := fun q => hc15 ((fa_eq _ _).mpr (by have : ((0 : Int32).toInt) = 0 := (by decide); omega))
          refine lv_iconst (v := 1) hx hb dX12_isFrom_55 (by decide) ?_
          refine lv_goto (tgt := 60) hx hb dX12_isFrom_56 (by decide) ?_
          exact tw_zret hx hb hr hlocks (by decide) TH hS hex ⟨⟨_, rfl, (show 0 ≤ Int32.toInt 1 from by have : ((1 : Int32).toInt) = 1 := (by decide); omega), (show Int32.toInt 1 ≤ 1 from by have : ((1 : Int32).toInt) = 1 := (by decide); omega), (by have : ((1 : Int32).toInt) = 1 := (by decide); intro _; have hl := hl37.resolve_left (by omega); exact r2_tr (hg0 (xe8.toInt) (by omega) (by rw [tw_fi_of hfv0_27]; omega)).1 hl.2.2 (hpoxc14_0 (by omega)))⟩, rfl, rfl, rfl⟩ (Nat.le_of_ble_eq_true rfl) (Nat.le_of_ble_eq_true rfl) dX12_isFrom_60
    · have hf18 : ¬ (xe4.toInt = (-1)) := fun q => hc5 ((fa_eq _ _).mpr (by have : (((-1) : Int32).toInt) = (-1) := (by decide); omega))
      refine lv_aload_n hx hb dX12_isFrom_17 rfl (lv_at hl 0 rfl) ?_
      refine lv_aload_n hx hb dX12_isFrom_18 rfl (lv_at hl 0 rfl) ?_
      refine tw_get (ci := 12) (C := RX12) (T := TX12) (N := 64) hx hb hB cx_inX12 hown hK TH hm0 hk0 rfl ⟨by decide, rfl⟩ 24 (by decide) cw_1217 (fun _ h9 => h9) dX12_isFrom_19 (fun hv => ?_)
      rw [hxr3]
      refine lv_iload_n hx hb dX12_isFrom_22 rfl (lv_at hl 1 rfl) ?_
      refine tw_iald (k := 334) (t0 := 0) (n := 12) (lo := (-1)) (hi := 11) hx hb hK TH hmxr3 hkxr3 (by decide) rfl rfl (i := x1) (vp_in_iff.mpr ⟨by  omega, by  omega⟩) dX12_isFrom_23 (fun hxe19a hxe19b => ?_)
      rw [exe4]
      refine lv_iload_n hx hb dX12_isFrom_24 rfl (lv_at hl 2 rfl) ?_
      refine tw_Vc (o := a0) (ci := 12) (n := 2) (post := (fun v kq Lq Eq => (∃ x : Int32, v = some (.int x) ∧ 0 ≤ x.toInt ∧ x.toInt ≤ 1 ∧ (x.toInt ≠ 0 → r2_ok E a0 xe4.toInt x2.toInt)) ∧ kp = kq ∧ L = Lq ∧ E = Eq)) (As := [.int xe4, .int x2]) (rest := []) ⟨hx, hb, hml, hown, hB⟩ (fun sz => tX12_isFrom_v1 l D cs a0 xe4 x2 fv0_27 hm0 hk0 (by omega) (by omega) (by omega) (by omega) hfv0_27 (by  omega) hg0 hg1 sz) cg_12_512_X12_isFrom rfl rfl (by decide +kernel) ⟨Nat.le_of_ble_eq_true rfl, Nat.le_of_ble_eq_true rfl⟩ hK hN TH hS hA rfl hm0 hk0 (by decide) rfl hl.1 rfl (Nat.le_of_ble_eq_true rfl) dX12_isFrom_25 ⟨Nat.le_of_ble_eq_true rfl, Nat.le_of_ble_eq_true rfl⟩ (fun v20 kp20 L20 E20 H locs hq20 hx20 TH hS => ?_)
      obtain ⟨⟨xc21, rfl, hxc21a, hxc21b, hpoxc21_0⟩, rfl, rfl, rfl⟩ := hq20
      refine W.eq (g2 := F0 m 28 ls [.int xc21]) rfl ?_
      refine lv_if_ne (tgt := 55) hx hb dX12_isFrom_28 (by decide) (fun hc22 => ?_) (fun hc22 => ?_)
      · have hf23 : ¬ (xc21.toInt = 0) := fun q => hc22 ((fa_eq _ _).mpr (by have : ((0 : Int32).toInt) = 0 := (by decide); omega))
        refine lv_iconst (v := 1) hx hb dX12_isFrom_55 (by decide) ?_
        refine lv_goto (tgt := 60) hx hb dX12_isFrom_56 (by decide) ?_
        exact tw_zret hx hb hr hlocks (by decide) TH hS hex ⟨⟨_, rfl, (show 0 ≤ Int32.toInt 1 from by have : ((1 : Int32).toInt) = 1 := (by decide); omega), (show Int32.toInt 1 ≤ 1 from by have : ((1 : Int32).toInt) = 1 := (by decide); omega), (by have : ((1 : Int32).toInt) = 1 := (by decide); intro _; have hl := hl13.resolve_left (by omega); exact r2_tr (hg0 (xe4.toInt) (by omega) (by rw [tw_fi_of hfv0_27]; omega)).1 hl.2.2 (hpoxc21_0 (by omega)))⟩, rfl, rfl, rfl⟩ (Nat.le_of_ble_eq_true rfl) (Nat.le_of_ble_eq_true rfl) dX12_isFrom_60
      · have hf24 : xc21.toInt = 0 := by have z := (fa_eq _ _).mp hc22; have : ((0 : Int32).toInt) = 0 := (by decide); omega
        refine lv_aload_n hx hb dX12_isFrom_31 rfl (lv_at hl 0 rfl) ?_
        refine tw_get (ci := 12) (C := RX12) (T := TX12) (N := 64) hx hb hB cx_inX12 hown hK TH hm0 hk0 rfl ⟨by decide, rfl⟩ 25 (by decide) cw_1218 (fun _ h9 => h9) dX12_isFrom_32 (fun hv => ?_)
        obtain ⟨xr25, hxr25, hmxr25, hkxr25⟩ : ∃ a : Nat, tw_fv E a0 25 = .ref a ∧ a ∈ L ∧ kp a = 335 := hv
        rw [hxr25]
        refine lv_iload_n hx hb dX12_isFrom_35 rfl (lv_at hl 1 rfl) ?_
        refine tw_iald (k := 335) (t0 := 0) (n := 12) (lo := (-1)) (hi := 11) hx hb hK TH hmxr25 hkxr25 (by decide) rfl rfl (i := x1) (vp_in_iff.mpr ⟨by  omega, by  omega⟩) dX12_isFrom_36 (fun hxe26a hxe26b => ?_)
        obtain ⟨xe26, exe26⟩ : ∃ z : Int32, tw_iv E xr25 (Int32.toNatClampNeg x1) = z := ⟨_, rfl⟩
        rw [exe26] at hxe26a hxe26b ⊢
        have hl37 : xe26.toInt = -1 ∨ (0 ≤ xe26.toInt ∧ xe26.toInt < x1.toInt ∧ r2_ok E a0 (x1.toInt) (xe26.toInt)) := (by have q := hg1 (x1.toInt).toNat (by rw [tw_fi_of hfv0_27]; omega) 25 (by decide); have w : tw_el E a0 25 (x1.toInt).toNat = xe26.toInt := (by rw [tw_el_of hxr25]; exact congrArg Int32.toInt exe26); rw [w, show (((x1.toInt).toNat : Nat) : Int) = x1.toInt by omega] at q; exact q)
        have hn37 : xe26.toInt = -1 ∨ (0 ≤ xe26.toInt ∧ xe26.toInt < x1.toInt) := hl37.imp id (fun q => ⟨q.1, q.2.1⟩)
        refine lv_iconst (v := (-1)) hx hb dX12_isFrom_37 (by decide) ?_
        refine lv_icmp_eq (tgt := 59) hx hb dX12_isFrom_38 (by decide) (fun hc27 => ?_) (fun hc27 => ?_)
        · have hf28 : xe26.toInt = (-1) := by have z := (fa_eq _ _).mp hc27; have : (((-1) : Int32).toInt) = (-1) := (by decide); omega
          refine lv_iconst (v := 0) hx hb dX12_isFrom_59 (by decide) ?_
          exact tw_zret hx hb hr hlocks (by decide) TH hS hex ⟨⟨_, rfl, (show 0 ≤ Int32.toInt 0 from by have : ((0 : Int32).toInt) = 0 := (by decide); omega), (show Int32.toInt 0 ≤ 1 from by have : ((0 : Int32).toInt) = 0 := (by decide); omega), (by have : ((0 : Int32).toInt) = 0 := (by decide); intro q; exfalso; exact q (by decide))⟩, rfl, rfl, rfl⟩ (Nat.le_of_ble_eq_true rfl) (Nat.le_of_ble_eq_true rfl) dX12_isFrom_60
        · have hf29 : ¬ (xe26.toInt = (-1)) := fun q => hc27 ((fa_eq _ _).mpr (by have : (((-1) : Int32).toInt) = (-1) := (by decide); omega))
          refine lv_aload_n hx hb dX12_isFrom_41 rfl (lv_at hl 0 rfl) ?_
          refine lv_aload_n hx hb dX12_isFrom_42 rfl (lv_at hl 0 rfl) ?_
          refine tw_get (ci := 12) (C := RX12) (T := TX12) (N := 64) hx hb hB cx_inX12 hown hK TH hm0 hk0 rfl ⟨by decide, rfl⟩ 25 (by decide) cw_1218 (fun _ h9 => h9) dX12_isFrom_43 (fun hv => ?_)
          rw [hxr25]
          refine lv_iload_n hx hb dX12_isFrom_46 rfl (lv_at hl 1 rfl) ?_
          refine tw_iald (k := 335) (t0 := 0) (n := 12) (lo := (-1)) (hi := 11) hx hb hK TH hmxr25 hkxr25 (by decide) rfl rfl (i := x1) (vp_in_iff.mpr ⟨by  omega, by  omega⟩) dX12_isFrom_47 (fun hxe30a hxe30b => ?_)
          rw [exe26]
          refine lv_iload_n hx hb dX12_isFrom_48 rfl (lv_at hl 2 rfl) ?_
          refine tw_Vc (o := a0) (ci := 12) (n := 2) (post := (fun v kq Lq Eq => (∃ x : Int32, v = some (.int x) ∧ 0 ≤ x.toInt ∧ x.toInt ≤ 1 ∧ (x.toInt ≠ 0 → r2_ok E a0 xe26.toInt x2.toInt)) ∧ kp = kq ∧ L = Lq ∧ E = Eq)) (As := [.int xe26, .int x2]) (rest := []) ⟨hx, hb, hml, hown, hB⟩ (fun sz => tX12_isFrom_v1 l D cs a0 xe26 x2 fv0_27 hm0 hk0 (by omega) (by omega) (by omega) (by omega) hfv0_27 (by  omega) hg0 hg1 sz) cg_12_512_X12_isFrom rfl rfl (by decide +kernel) ⟨Nat.le_of_ble_eq_true rfl, Nat.le_of_ble_eq_true rfl⟩ hK hN TH hS hA rfl hm0 hk0 (by decide) rfl hl.1 rfl (Nat.le_of_ble_eq_true rfl) dX12_isFrom_49 ⟨Nat.le_of_ble_eq_true rfl, Nat.le_of_ble_eq_true rfl⟩ (fun v31 kp31 L31 E31 H locs hq31 hx31 TH hS => ?_)
          obtain ⟨⟨xc32, rfl, hxc32a, hxc32b, hpoxc32_0⟩, rfl, rfl, rfl⟩ := hq31
          refine W.eq (g2 := F0 m 52 ls [.int xc32]) rfl ?_
          refine lv_if_eq (tgt := 59) hx hb dX12_isFrom_52 (by decide) (fun hc33 => ?_) (fun hc33 => ?_)
          · have hf34 : xc32.toInt = 0 := by have z := (fa_eq _ _).mp hc33; have : ((0 : Int32).toInt) = 0 := (by decide); omega
            refine lv_iconst (v := 0) hx hb dX12_isFrom_59 (by decide) ?_
            exact tw_zret hx hb hr hlocks (by decide) TH hS hex ⟨⟨_, rfl, (show 0 ≤ Int32.toInt 0 from by have : ((0 : Int32).toInt) = 0 := (by decide); omega), (show Int32.toInt 0 ≤ 1 from by have : ((0 : Int32).toInt) = 0 := (by decide); omega), (by have : ((0 : Int32).toInt) = 0 := (by decide); intro q; exfalso; exact q (by decide))⟩, rfl, rfl, rfl⟩ (Nat.le_of_ble_eq_true rfl) (Nat.le_of_ble_eq_true rfl) dX12_isFrom_60
          · have hf35 : ¬ (xc32.toInt = 0) := fun q => hc33 ((fa_eq _ _).mpr (by have : ((0 : Int32).toInt) = 0 := (by decide); omega))
            refine lv_iconst (v := 1) hx hb dX12_isFrom_55 (by decide) ?_
            refine lv_goto (tgt := 60) hx hb dX12_isFrom_56 (by decide) ?_
            exact tw_zret hx hb hr hlocks (by decide) TH hS hex ⟨⟨_, rfl, (show 0 ≤ Int32.toInt 1 from by have : ((1 : Int32).toInt) = 1 := (by decide); omega), (show Int32.toInt 1 ≤ 1 from by have : ((1 : Int32).toInt) = 1 := (by decide); omega), (by have : ((1 : Int32).toInt) = 1 := (by decide); intro _; have hl := hl37.resolve_left (by omega); exact r2_tr (hg0 (xe26.toInt) (by omega) (by rw [tw_fi_of hfv0_27]; omega)).1 hl.2.2 (hpoxc32_0 (by omega)))⟩, rfl, rfl, rfl⟩ (Nat.le_of_ble_eq_true rfl) (Nat.le_of_ble_eq_true rfl) dX12_isFrom_60
  · have hf36 : x1.toInt = x2.toInt := by have z := (fa_eq _ _).mp hc1;  omega
    refine lv_iconst (v := 1) hx hb dX12_isFrom_5 (by decide) ?_
    exact tw_zret hx hb hr hlocks (by decide) TH hS hex ⟨⟨_, rfl, (show 0 ≤ Int32.toInt 1 from by have : ((1 : Int32).toInt) = 1 := (by decide); omega), (show Int32.toInt 1 ≤ 1 from by have : ((1 : Int32).toInt) = 1 := (by decide); omega), (by have : ((1 : Int32).toInt) = 1 := (by decide); intro _; rw [show x2.toInt = x1.toInt by omega]; exact r2_rf (hg0 (x1.toInt) (by omega) (by rw [tw_fi_of hfv0_27]; omega)))⟩, rfl, rfl, rfl⟩ (Nat.le_of_ble_eq_true rfl) (Nat.le_of_ble_eq_true rfl) dX12_isFrom_6
set_option maxHeartbeats 4000000 in
set_option maxRecDepth 100000 in
theorem tX12_isFrom_v3 (l : Launch) (D : va_G) (cs : Nat → ClassId) {kp : Nat → Nat} {L : List Nat} {E : Nat → va_E} (a0 : Nat) (x1 : Int32) (x2 : Int32) (fv0_27 : Int32) (hm0 : a0 ∈ L) (hk0 : kp a0 = 12) (hp1a : 0 ≤ x1.toInt) (hp1b : x1.toInt ≤ 3) (hp2a : 0 ≤ x2.toInt) (hp2b : x2.toInt ≤ 11) (hfv0_27 : tw_fv E a0 27 = .int fv0_27) (hpre0 : x1.toInt < fv0_27.toInt) (hg0 : eo_ok E a0) (hg1 : ln_ok E a0) (sz : Nat) : Met l yX12_isFrom (.code yX12_isFrom cX12_isFrom 3 (some .boolean) :: cx_big) { frames := 3, cells := 0, slots := 0, locals := 66 } (tw_P D cs kp L E [.ref a0, .int x1, .int x2] sz) (tw_Q D cs kp L (fun v kq Lq Eq => (∃ x : Int32, v = some (.int x) ∧ 0 ≤ x.toInt ∧ x.toInt ≤ 1 ∧ (x.toInt ≠ 0 → r2_ok E a0 x1.toInt x2.toInt)) ∧ kp = kq ∧ L = Lq ∧ E = Eq) (va_A (va_pl L E) sz)) 0 0 (va_A (va_pl L E) sz) := by
  refine tw_ofW (by decide) (Nat.le_of_ble_eq_true rfl) ?_
  intro p e s m below meth c A ls hx hb hr hml hB hown hlocks hK hN hA TH hS hl
  have hown : s.vm.findClass "TreeMergeModel" = some m.cls := hown
  have hl : lv_has ls 3 [(0, .ref a0), (1, .int x1), (2, .int x2)] := hl
  obtain ⟨kp0, ekp⟩ : ∃ z, z = kp := ⟨_, rfl⟩
  obtain ⟨L0, eL⟩ : ∃ z, z = L := ⟨_, rfl⟩
  rw [show tw_Q D cs kp L = tw_Q D cs kp0 L0 by rw [ekp, eL]]
  have hex : ∀ a : Nat, a ∈ L0 → a ∈ L ∧ kp a = kp0 a := fun a h => ⟨by rw [← eL]; exact h, by rw [ekp]⟩
  obtain ⟨qfv0_27, hqfv0_27, hqfv0_27a, hqfv0_27b⟩ := tw_rd TH hm0 hk0 (by decide) (by decide) (k := 27) rfl
  have eqfv0_27 : qfv0_27 = fv0_27 := by have q := hqfv0_27.symm.trans hfv0_27; injection q
  rw [eqfv0_27] at hqfv0_27a hqfv0_27b
  refine lv_iload_n hx hb dX12_isFrom_0 rfl (lv_at hl 1 rfl) ?_
  refine lv_iload_n hx hb dX12_isFrom_1 rfl (lv_at hl 2 rfl) ?_
  refine lv_icmp_ne (tgt := 7) hx hb dX12_isFrom_2 (by decide) (fun hc1 => ?_) (fun hc1 => ?_)
  · have hf2 : ¬ (x1.toInt = x2.toInt) := fun q => hc1 ((fa_eq _ _).mpr (by  omega))
    refine lv_aload_n hx hb dX12_isFrom_7 rfl (lv_at hl 0 rfl) ?_
    refine tw_get (ci := 12) (C := RX12) (T := TX12) (N := 64) hx hb hB cx_inX12 hown hK TH hm0 hk0 rfl ⟨by decide, rfl⟩ 24 (by decide) cw_1217 (fun _ h9 => h9) dX12_isFrom_8 (fun hv => ?_)
    obtain ⟨xr3, hxr3, hmxr3, hkxr3⟩ : ∃ a : Nat, tw_fv E a0 24 = .ref a ∧ a ∈ L ∧ kp a = 334 := hv
    rw [hxr3]
    refine lv_iload_n hx hb dX12_isFrom_11 rfl (lv_at hl 1 rfl) ?_
    refine tw_iald (k := 334) (t0 := 0) (n := 12) (lo := (-1)) (hi := 11) hx hb hK TH hmxr3 hkxr3 (by decide) rfl rfl (i := x1) (vp_in_iff.mpr ⟨by  omega, by  omega⟩) dX12_isFrom_12 (fun hxe4a hxe4b => ?_)
    obtain ⟨xe4, exe4⟩ : ∃ z : Int32, tw_iv E xr3 (Int32.toNatClampNeg x1) = z := ⟨_, rfl⟩
    rw [exe4] at hxe4a hxe4b ⊢
    have hl13 : xe4.toInt = -1 ∨ (0 ≤ xe4.toInt ∧ xe4.toInt < x1.toInt ∧ r2_ok E a0 (x1.toInt) (xe4.toInt)) := (by have q := hg1 (x1.toInt).toNat (by rw [tw_fi_of hfv0_27]; omega) 24 (by decide); have w : tw_el E a0 24 (x1.toInt).toNat = xe4.toInt := (by rw [tw_el_of hxr3]; exact congrArg Int32.toInt exe4); rw [w, show (((x1.toInt).toNat : Nat) : Int) = x1.toInt by omega] at q; exact q)
    have hn13 : xe4.toInt = -1 ∨ (0 ≤ xe4.toInt ∧ xe4.toInt < x1.toInt) := hl13.imp id (fun q => ⟨q.1, q.2.1⟩)
    refine lv_iconst (v := (-1)) hx hb dX12_isFrom_13 (by decide) ?_
    refine lv_icmp_eq (tgt := 31) hx hb dX12_isFrom_14 (by decide) (fun hc5 => ?_) (fun hc5 => ?_)
    · have hf6 : xe4.toInt = (-1) := by have z := (fa_eq _ _).mp hc5; have : (((-1) : Int32).toInt) = (-1) := (by decide); omega
      refine lv_aload_n hx hb dX12_isFrom_31 rfl (lv_at hl 0 rfl) ?_
      refine tw_get (ci := 12) (C := RX12) (T := TX12) (N := 64) hx hb hB cx_inX12 hown hK TH hm0 hk0 rfl ⟨by decide, rfl⟩ 25 (by decide) cw_1218 (fun _ h9 => h9) dX12_isFrom_32 (fun hv => ?_)
      obtain ⟨xr7, hxr7, hmxr7, hkxr7⟩ : ∃ a : Nat, tw_fv E a0 25 = .ref a ∧ a ∈ L ∧ kp a = 335 := hv
      rw [hxr7]
      refine lv_iload_n hx hb dX12_isFrom_35 rfl (lv_at hl 1 rfl) ?_
      refine tw_iald (k := 335) (t0 := 0) (n := 12) (lo := (-1)) (hi := 11) hx hb hK TH hmxr7 hkxr7 (by decide) rfl rfl (i := x1) (vp_in_iff.mpr ⟨by  omega, by  omega⟩) dX12_isFrom_36 (fun hxe8a hxe8b => ?_)
      obtain ⟨xe8, exe8⟩ : ∃ z : Int32, tw_iv E xr7 (Int32.toNatClampNeg x1) = z := ⟨_, rfl⟩
      rw [exe8] at hxe8a hxe8b ⊢
      have hl37 : xe8.toInt = -1 ∨ (0 ≤ xe8.toInt ∧ xe8.toInt < x1.toInt ∧ r2_ok E a0 (x1.toInt) (xe8.toInt)) := (by have q := hg1 (x1.toInt).toNat (by rw [tw_fi_of hfv0_27]; omega) 25 (by decide); have w : tw_el E a0 25 (x1.toInt).toNat = xe8.toInt := (by rw [tw_el_of hxr7]; exact congrArg Int32.toInt exe8); rw [w, show (((x1.toInt).toNat : Nat) : Int) = x1.toInt by omega] at q; exact q)
      have hn37 : xe8.toInt = -1 ∨ (0 ≤ xe8.toInt ∧ xe8.toInt < x1.toInt) := hl37.imp id (fun q => ⟨q.1, q.2.1⟩)
      refine lv_iconst (v := (-1)) hx hb dX12_isFrom_37 (by decide) ?_
      refine lv_icmp_eq (tgt := 59) hx hb dX12_isFrom_38 (by decide) (fun hc9 => ?_) (fun hc9 => ?_)
      · have hf10 : xe8.toInt = (-1) := by have z := (fa_eq _ _).mp hc9; have : (((-1) : Int32).toInt) = (-1) := (by decide); omega
        refine lv_iconst (v := 0) hx hb dX12_isFrom_59 (by decide) ?_
        exact tw_zret hx hb hr hlocks (by decide) TH hS hex ⟨⟨_, rfl, (show 0 ≤ Int32.toInt 0 from by have : ((0 : Int32).toInt) = 0 := (by decide); omega), (show Int32.toInt 0 ≤ 1 from by have : ((0 : Int32).toInt) = 0 := (by decide); omega), (by have : ((0 : Int32).toInt) = 0 := (by decide); intro q; exfalso; exact q (by decide))⟩, rfl, rfl, rfl⟩ (Nat.le_of_ble_eq_true rfl) (Nat.le_of_ble_eq_true rfl) dX12_isFrom_60
      · have hf11 : ¬ (xe8.toInt = (-1)) := fun q => hc9 ((fa_eq _ _).mpr (by have : (((-1) : Int32).toInt) = (-1) := (by decide); omega))
        refine lv_aload_n hx hb dX12_isFrom_41 rfl (lv_at hl 0 rfl) ?_
        refine lv_aload_n hx hb dX12_isFrom_42 rfl (lv_at hl 0 rfl) ?_
        refine tw_get (ci := 12) (C := RX12) (T := TX12) (N := 64) hx hb hB cx_inX12 hown hK TH hm0 hk0 rfl ⟨by decide, rfl⟩ 25 (by decide) cw_1218 (fun _ h9 => h9) dX12_isFrom_43 (fun hv => ?_)
        rw [hxr7]
        refine lv_iload_n hx hb dX12_isFrom_46 rfl (lv_at hl 1 rfl) ?_
        refine tw_iald (k := 335) (t0 := 0) (n := 12) (lo := (-1)) (hi := 11) hx hb hK TH hmxr7 hkxr7 (by decide) rfl rfl (i := x1) (vp_in_iff.mpr ⟨by  omega, by  omega⟩) dX12_isFrom_47 (fun hxe12a hxe12b => ?_)
        rw [exe8]
        refine lv_iload_n hx hb dX12_isFrom_48 rfl (lv_at hl 2 rfl) ?_
        refine tw_Vc (o := a0) (ci := 12) (n := 2) (post := (fun v kq Lq Eq => (∃ x : Int32, v = some (.int x) ∧ 0 ≤ x.toInt ∧ x.toInt ≤ 1 ∧ (x.toInt ≠ 0 → r2_ok E a0 xe8.toInt x2.toInt)) ∧ kp = kq ∧ L = Lq ∧ E = Eq)) (As := [.int xe8, .int x2]) (rest := []) ⟨hx, hb, hml, hown, hB⟩ (fun sz => tX12_isFrom_v2 l D cs a0 xe8 x2 fv0_27 hm0 hk0 (by omega) (by omega) (by omega) (by omega) hfv0_27 (by  omega) hg0 hg1 sz) cg_12_512_X12_isFrom rfl rfl (by decide +kernel) ⟨Nat.le_of_ble_eq_true rfl, Nat.le_of_ble_eq_true rfl⟩ hK hN TH hS hA rfl hm0 hk0 (by decide) rfl hl.1 rfl (Nat.le_of_ble_eq_true rfl) dX12_isFrom_49 ⟨Nat.le_of_ble_eq_true rfl, Nat.le_of_ble_eq_true rfl⟩ (fun v13 kp13 L13 E13 H locs hq13 hx13 TH hS => ?_)
        obtain ⟨⟨xc14, rfl, hxc14a, hxc14b, hpoxc14_0⟩, rfl, rfl, rfl⟩ := hq13
        refine W.eq (g2 := F0 m 52 ls [.int xc14]) rfl ?_
        refine lv_if_eq (tgt := 59) hx hb dX12_isFrom_52 (by decide) (fun hc15 => ?_) (fun hc15 => ?_)
        · have hf16 : xc14.toInt = 0 := by have z := (fa_eq _ _).mp hc15; have : ((0 : Int32).toInt) = 0 := (by decide); omega
          refine lv_iconst (v := 0) hx hb dX12_isFrom_59 (by decide) ?_
          exact tw_zret hx hb hr hlocks (by decide) TH hS hex ⟨⟨_, rfl, (show 0 ≤ Int32.toInt 0 from by have : ((0 : Int32).toInt) = 0 := (by decide); omega), (show Int32.toInt 0 ≤ 1 from by have : ((0 : Int32).toInt) = 0 := (by decide); omega), (by have : ((0 : Int32).toInt) = 0 := (by decide); intro q; exfalso; exact q (by decide))⟩, rfl, rfl, rfl⟩ (Nat.le_of_ble_eq_true rfl) (Nat.le_of_ble_eq_true rfl) dX12_isFrom_60
        · have hf17 : ¬ (xc14.toInt = 0) := fun q => hc15 ((fa_eq _ _).mpr (by have : ((0 : Int32).toInt) = 0 := (by decide); omega))
          refine lv_iconst (v := 1) hx hb dX12_isFrom_55 (by decide) ?_
          refine lv_goto (tgt := 60) hx hb dX12_isFrom_56 (by decide) ?_
          exact tw_zret hx hb hr hlocks (by decide) TH hS hex ⟨⟨_, rfl, (show 0 ≤ Int32.toInt 1 from by have : ((1 : Int32).toInt) = 1 := (by decide); omega), (show Int32.toInt 1 ≤ 1 from by have : ((1 : Int32).toInt) = 1 := (by decide); omega), (by have : ((1 : Int32).toInt) = 1 := (by decide); intro _; have hl := hl37.resolve_left (by omega); exact r2_tr (hg0 (xe8.toInt) (by omega) (by rw [tw_fi_of hfv0_27]; omega)).1 hl.2.2 (hpoxc14_0 (by omega)))⟩, rfl, rfl, rfl⟩ (Nat.le_of_ble_eq_true rfl) (Nat.le_of_ble_eq_true rfl) dX12_isFrom_60
    · have hf18 : ¬ (xe4.toInt = (-1)) := fun q => hc5 ((fa_eq _ _).mpr (by have : (((-1) : Int32).toInt) = (-1) := (by decide); omega))
      refine lv_aload_n hx hb dX12_isFrom_17 rfl (lv_at hl 0 rfl) ?_
      refine lv_aload_n hx hb dX12_isFrom_18 rfl (lv_at hl 0 rfl) ?_
      refine tw_get (ci := 12) (C := RX12) (T := TX12) (N := 64) hx hb hB cx_inX12 hown hK TH hm0 hk0 rfl ⟨by decide, rfl⟩ 24 (by decide) cw_1217 (fun _ h9 => h9) dX12_isFrom_19 (fun hv => ?_)
      rw [hxr3]
      refine lv_iload_n hx hb dX12_isFrom_22 rfl (lv_at hl 1 rfl) ?_
      refine tw_iald (k := 334) (t0 := 0) (n := 12) (lo := (-1)) (hi := 11) hx hb hK TH hmxr3 hkxr3 (by decide) rfl rfl (i := x1) (vp_in_iff.mpr ⟨by  omega, by  omega⟩) dX12_isFrom_23 (fun hxe19a hxe19b => ?_)
      rw [exe4]
      refine lv_iload_n hx hb dX12_isFrom_24 rfl (lv_at hl 2 rfl) ?_
      refine tw_Vc (o := a0) (ci := 12) (n := 2) (post := (fun v kq Lq Eq => (∃ x : Int32, v = some (.int x) ∧ 0 ≤ x.toInt ∧ x.toInt ≤ 1 ∧ (x.toInt ≠ 0 → r2_ok E a0 xe4.toInt x2.toInt)) ∧ kp = kq ∧ L = Lq ∧ E = Eq)) (As := [.int xe4, .int x2]) (rest := []) ⟨hx, hb, hml, hown, hB⟩ (fun sz => tX12_isFrom_v2 l D cs a0 xe4 x2 fv0_27 hm0 hk0 (by omega) (by omega) (by omega) (by omega) hfv0_27 (by  omega) hg0 hg1 sz) cg_12_512_X12_isFrom rfl rfl (by decide +kernel) ⟨Nat.le_of_ble_eq_true rfl, Nat.le_of_ble_eq_true rfl⟩ hK hN TH hS hA rfl hm0 hk0 (by decide) rfl hl.1 rfl (Nat.le_of_ble_eq_true rfl) dX12_isFrom_25 ⟨Nat.le_of_ble_eq_true rfl, Nat.le_of_ble_eq_true rfl⟩ (fun v20 kp20 L20 E20 H locs hq20 hx20 TH hS => ?_)
      obtain ⟨⟨xc21, rfl, hxc21a, hxc21b, hpoxc21_0⟩, rfl, rfl, rfl⟩ := hq20
      refine W.eq (g2 := F0 m 28 ls [.int xc21]) rfl ?_
      refine lv_if_ne (tgt := 55) hx hb dX12_isFrom_28 (by decide) (fun hc22 => ?_) (fun hc22 => ?_)
      · have hf23 : ¬ (xc21.toInt = 0) := fun q => hc22 ((fa_eq _ _).mpr (by have : ((0 : Int32).toInt) = 0 := (by decide); omega))
        refine lv_iconst (v := 1) hx hb dX12_isFrom_55 (by decide) ?_
        refine lv_goto (tgt := 60) hx hb dX12_isFrom_56 (by decide) ?_
        exact tw_zret hx hb hr hlocks (by decide) TH hS hex ⟨⟨_, rfl, (show 0 ≤ Int32.toInt 1 from by have : ((1 : Int32).toInt) = 1 := (by decide); omega), (show Int32.toInt 1 ≤ 1 from by have : ((1 : Int32).toInt) = 1 := (by decide); omega), (by have : ((1 : Int32).toInt) = 1 := (by decide); intro _; have hl := hl13.resolve_left (by omega); exact r2_tr (hg0 (xe4.toInt) (by omega) (by rw [tw_fi_of hfv0_27]; omega)).1 hl.2.2 (hpoxc21_0 (by omega)))⟩, rfl, rfl, rfl⟩ (Nat.le_of_ble_eq_true rfl) (Nat.le_of_ble_eq_true rfl) dX12_isFrom_60
      · have hf24 : xc21.toInt = 0 := by have z := (fa_eq _ _).mp hc22; have : ((0 : Int32).toInt) = 0 := (by decide); omega
        refine lv_aload_n hx hb dX12_isFrom_31 rfl (lv_at hl 0 rfl) ?_
        refine tw_get (ci := 12) (C := RX12) (T := TX12) (N := 64) hx hb hB cx_inX12 hown hK TH hm0 hk0 rfl ⟨by decide, rfl⟩ 25 (by decide) cw_1218 (fun _ h9 => h9) dX12_isFrom_32 (fun hv => ?_)
        obtain ⟨xr25, hxr25, hmxr25, hkxr25⟩ : ∃ a : Nat, tw_fv E a0 25 = .ref a ∧ a ∈ L ∧ kp a = 335 := hv
        rw [hxr25]
        refine lv_iload_n hx hb dX12_isFrom_35 rfl (lv_at hl 1 rfl) ?_
        refine tw_iald (k := 335) (t0 := 0) (n := 12) (lo := (-1)) (hi := 11) hx hb hK TH hmxr25 hkxr25 (by decide) rfl rfl (i := x1) (vp_in_iff.mpr ⟨by  omega, by  omega⟩) dX12_isFrom_36 (fun hxe26a hxe26b => ?_)
        obtain ⟨xe26, exe26⟩ : ∃ z : Int32, tw_iv E xr25 (Int32.toNatClampNeg x1) = z := ⟨_, rfl⟩
        rw [exe26] at hxe26a hxe26b ⊢
        have hl37 : xe26.toInt = -1 ∨ (0 ≤ xe26.toInt ∧ xe26.toInt < x1.toInt ∧ r2_ok E a0 (x1.toInt) (xe26.toInt)) := (by have q := hg1 (x1.toInt).toNat (by rw [tw_fi_of hfv0_27]; omega) 25 (by decide); have w : tw_el E a0 25 (x1.toInt).toNat = xe26.toInt := (by rw [tw_el_of hxr25]; exact congrArg Int32.toInt exe26); rw [w, show (((x1.toInt).toNat : Nat) : Int) = x1.toInt by omega] at q; exact q)
        have hn37 : xe26.toInt = -1 ∨ (0 ≤ xe26.toInt ∧ xe26.toInt < x1.toInt) := hl37.imp id (fun q => ⟨q.1, q.2.1⟩)
        refine lv_iconst (v := (-1)) hx hb dX12_isFrom_37 (by decide) ?_
        refine lv_icmp_eq (tgt := 59) hx hb dX12_isFrom_38 (by decide) (fun hc27 => ?_) (fun hc27 => ?_)
        · have hf28 : xe26.toInt = (-1) := by have z := (fa_eq _ _).mp hc27; have : (((-1) : Int32).toInt) = (-1) := (by decide); omega
          refine lv_iconst (v := 0) hx hb dX12_isFrom_59 (by decide) ?_
          exact tw_zret hx hb hr hlocks (by decide) TH hS hex ⟨⟨_, rfl, (show 0 ≤ Int32.toInt 0 from by have : ((0 : Int32).toInt) = 0 := (by decide); omega), (show Int32.toInt 0 ≤ 1 from by have : ((0 : Int32).toInt) = 0 := (by decide); omega), (by have : ((0 : Int32).toInt) = 0 := (by decide); intro q; exfalso; exact q (by decide))⟩, rfl, rfl, rfl⟩ (Nat.le_of_ble_eq_true rfl) (Nat.le_of_ble_eq_true rfl) dX12_isFrom_60
        · have hf29 : ¬ (xe26.toInt = (-1)) := fun q => hc27 ((fa_eq _ _).mpr (by have : (((-1) : Int32).toInt) = (-1) := (by decide); omega))
          refine lv_aload_n hx hb dX12_isFrom_41 rfl (lv_at hl 0 rfl) ?_
          refine lv_aload_n hx hb dX12_isFrom_42 rfl (lv_at hl 0 rfl) ?_
          refine tw_get (ci := 12) (C := RX12) (T := TX12) (N := 64) hx hb hB cx_inX12 hown hK TH hm0 hk0 rfl ⟨by decide, rfl⟩ 25 (by decide) cw_1218 (fun _ h9 => h9) dX12_isFrom_43 (fun hv => ?_)
          rw [hxr25]
          refine lv_iload_n hx hb dX12_isFrom_46 rfl (lv_at hl 1 rfl) ?_
          refine tw_iald (k := 335) (t0 := 0) (n := 12) (lo := (-1)) (hi := 11) hx hb hK TH hmxr25 hkxr25 (by decide) rfl rfl (i := x1) (vp_in_iff.mpr ⟨by  omega, by  omega⟩) dX12_isFrom_47 (fun hxe30a hxe30b => ?_)
          rw [exe26]
          refine lv_iload_n hx hb dX12_isFrom_48 rfl (lv_at hl 2 rfl) ?_
          refine tw_Vc (o := a0) (ci := 12) (n := 2) (post := (fun v kq Lq Eq => (∃ x : Int32, v = some (.int x) ∧ 0 ≤ x.toInt ∧ x.toInt ≤ 1 ∧ (x.toInt ≠ 0 → r2_ok E a0 xe26.toInt x2.toInt)) ∧ kp = kq ∧ L = Lq ∧ E = Eq)) (As := [.int xe26, .int x2]) (rest := []) ⟨hx, hb, hml, hown, hB⟩ (fun sz => tX12_isFrom_v2 l D cs a0 xe26 x2 fv0_27 hm0 hk0 (by omega) (by omega) (by omega) (by omega) hfv0_27 (by  omega) hg0 hg1 sz) cg_12_512_X12_isFrom rfl rfl (by decide +kernel) ⟨Nat.le_of_ble_eq_true rfl, Nat.le_of_ble_eq_true rfl⟩ hK hN TH hS hA rfl hm0 hk0 (by decide) rfl hl.1 rfl (Nat.le_of_ble_eq_true rfl) dX12_isFrom_49 ⟨Nat.le_of_ble_eq_true rfl, Nat.le_of_ble_eq_true rfl⟩ (fun v31 kp31 L31 E31 H locs hq31 hx31 TH hS => ?_)
          obtain ⟨⟨xc32, rfl, hxc32a, hxc32b, hpoxc32_0⟩, rfl, rfl, rfl⟩ := hq31
          refine W.eq (g2 := F0 m 52 ls [.int xc32]) rfl ?_
          refine lv_if_eq (tgt := 59) hx hb dX12_isFrom_52 (by decide) (fun hc33 => ?_) (fun hc33 => ?_)
          · have hf34 : xc32.toInt = 0 := by have z := (fa_eq _ _).mp hc33; have : ((0 : Int32).toInt) = 0 := (by decide); omega
            refine lv_iconst (v := 0) hx hb dX12_isFrom_59 (by decide) ?_
            exact tw_zret hx hb hr hlocks (by decide) TH hS hex ⟨⟨_, rfl, (show 0 ≤ Int32.toInt 0 from by have : ((0 : Int32).toInt) = 0 := (by decide); omega), (show Int32.toInt 0 ≤ 1 from by have : ((0 : Int32).toInt) = 0 := (by decide); omega), (by have : ((0 : Int32).toInt) = 0 := (by decide); intro q; exfalso; exact q (by decide))⟩, rfl, rfl, rfl⟩ (Nat.le_of_ble_eq_true rfl) (Nat.le_of_ble_eq_true rfl) dX12_isFrom_60
          · have hf35 : ¬ (xc32.toInt = 0) := fun q => hc33 ((fa_eq _ _).mpr (by have : ((0 : Int32).toInt) = 0 := (by decide); omega))
            refine lv_iconst (v := 1) hx hb dX12_isFrom_55 (by decide) ?_
            refine lv_goto (tgt := 60) hx hb dX12_isFrom_56 (by decide) ?_
            exact tw_zret hx hb hr hlocks (by decide) TH hS hex ⟨⟨_, rfl, (show 0 ≤ Int32.toInt 1 from by have : ((1 : Int32).toInt) = 1 := (by decide); omega), (show Int32.toInt 1 ≤ 1 from by have : ((1 : Int32).toInt) = 1 := (by decide); omega), (by have : ((1 : Int32).toInt) = 1 := (by decide); intro _; have hl := hl37.resolve_left (by omega); exact r2_tr (hg0 (xe26.toInt) (by omega) (by rw [tw_fi_of hfv0_27]; omega)).1 hl.2.2 (hpoxc32_0 (by omega)))⟩, rfl, rfl, rfl⟩ (Nat.le_of_ble_eq_true rfl) (Nat.le_of_ble_eq_true rfl) dX12_isFrom_60
  · have hf36 : x1.toInt = x2.toInt := by have z := (fa_eq _ _).mp hc1;  omega
    refine lv_iconst (v := 1) hx hb dX12_isFrom_5 (by decide) ?_
    exact tw_zret hx hb hr hlocks (by decide) TH hS hex ⟨⟨_, rfl, (show 0 ≤ Int32.toInt 1 from by have : ((1 : Int32).toInt) = 1 := (by decide); omega), (show Int32.toInt 1 ≤ 1 from by have : ((1 : Int32).toInt) = 1 := (by decide); omega), (by have : ((1 : Int32).toInt) = 1 := (by decide); intro _; rw [show x2.toInt = x1.toInt by omega]; exact r2_rf (hg0 (x1.toInt) (by omega) (by rw [tw_fi_of hfv0_27]; omega)))⟩, rfl, rfl, rfl⟩ (Nat.le_of_ble_eq_true rfl) (Nat.le_of_ble_eq_true rfl) dX12_isFrom_6
set_option maxHeartbeats 4000000 in
set_option maxRecDepth 100000 in
theorem tX12_isFrom_v4 (l : Launch) (D : va_G) (cs : Nat → ClassId) {kp : Nat → Nat} {L : List Nat} {E : Nat → va_E} (a0 : Nat) (x1 : Int32) (x2 : Int32) (fv0_27 : Int32) (hm0 : a0 ∈ L) (hk0 : kp a0 = 12) (hp1a : 0 ≤ x1.toInt) (hp1b : x1.toInt ≤ 4) (hp2a : 0 ≤ x2.toInt) (hp2b : x2.toInt ≤ 11) (hfv0_27 : tw_fv E a0 27 = .int fv0_27) (hpre0 : x1.toInt < fv0_27.toInt) (hg0 : eo_ok E a0) (hg1 : ln_ok E a0) (sz : Nat) : Met l yX12_isFrom (.code yX12_isFrom cX12_isFrom 3 (some .boolean) :: cx_big) { frames := 4, cells := 0, slots := 0, locals := 88 } (tw_P D cs kp L E [.ref a0, .int x1, .int x2] sz) (tw_Q D cs kp L (fun v kq Lq Eq => (∃ x : Int32, v = some (.int x) ∧ 0 ≤ x.toInt ∧ x.toInt ≤ 1 ∧ (x.toInt ≠ 0 → r2_ok E a0 x1.toInt x2.toInt)) ∧ kp = kq ∧ L = Lq ∧ E = Eq) (va_A (va_pl L E) sz)) 0 0 (va_A (va_pl L E) sz) := by
  refine tw_ofW (by decide) (Nat.le_of_ble_eq_true rfl) ?_
  intro p e s m below meth c A ls hx hb hr hml hB hown hlocks hK hN hA TH hS hl
  have hown : s.vm.findClass "TreeMergeModel" = some m.cls := hown
  have hl : lv_has ls 3 [(0, .ref a0), (1, .int x1), (2, .int x2)] := hl
  obtain ⟨kp0, ekp⟩ : ∃ z, z = kp := ⟨_, rfl⟩
  obtain ⟨L0, eL⟩ : ∃ z, z = L := ⟨_, rfl⟩
  rw [show tw_Q D cs kp L = tw_Q D cs kp0 L0 by rw [ekp, eL]]
  have hex : ∀ a : Nat, a ∈ L0 → a ∈ L ∧ kp a = kp0 a := fun a h => ⟨by rw [← eL]; exact h, by rw [ekp]⟩
  obtain ⟨qfv0_27, hqfv0_27, hqfv0_27a, hqfv0_27b⟩ := tw_rd TH hm0 hk0 (by decide) (by decide) (k := 27) rfl
  have eqfv0_27 : qfv0_27 = fv0_27 := by have q := hqfv0_27.symm.trans hfv0_27; injection q
  rw [eqfv0_27] at hqfv0_27a hqfv0_27b
  refine lv_iload_n hx hb dX12_isFrom_0 rfl (lv_at hl 1 rfl) ?_
  refine lv_iload_n hx hb dX12_isFrom_1 rfl (lv_at hl 2 rfl) ?_
  refine lv_icmp_ne (tgt := 7) hx hb dX12_isFrom_2 (by decide) (fun hc1 => ?_) (fun hc1 => ?_)
  · have hf2 : ¬ (x1.toInt = x2.toInt) := fun q => hc1 ((fa_eq _ _).mpr (by  omega))
    refine lv_aload_n hx hb dX12_isFrom_7 rfl (lv_at hl 0 rfl) ?_
    refine tw_get (ci := 12) (C := RX12) (T := TX12) (N := 64) hx hb hB cx_inX12 hown hK TH hm0 hk0 rfl ⟨by decide, rfl⟩ 24 (by decide) cw_1217 (fun _ h9 => h9) dX12_isFrom_8 (fun hv => ?_)
    obtain ⟨xr3, hxr3, hmxr3, hkxr3⟩ : ∃ a : Nat, tw_fv E a0 24 = .ref a ∧ a ∈ L ∧ kp a = 334 := hv
    rw [hxr3]
    refine lv_iload_n hx hb dX12_isFrom_11 rfl (lv_at hl 1 rfl) ?_
    refine tw_iald (k := 334) (t0 := 0) (n := 12) (lo := (-1)) (hi := 11) hx hb hK TH hmxr3 hkxr3 (by decide) rfl rfl (i := x1) (vp_in_iff.mpr ⟨by  omega, by  omega⟩) dX12_isFrom_12 (fun hxe4a hxe4b => ?_)
    obtain ⟨xe4, exe4⟩ : ∃ z : Int32, tw_iv E xr3 (Int32.toNatClampNeg x1) = z := ⟨_, rfl⟩
    rw [exe4] at hxe4a hxe4b ⊢
    have hl13 : xe4.toInt = -1 ∨ (0 ≤ xe4.toInt ∧ xe4.toInt < x1.toInt ∧ r2_ok E a0 (x1.toInt) (xe4.toInt)) := (by have q := hg1 (x1.toInt).toNat (by rw [tw_fi_of hfv0_27]; omega) 24 (by decide); have w : tw_el E a0 24 (x1.toInt).toNat = xe4.toInt := (by rw [tw_el_of hxr3]; exact congrArg Int32.toInt exe4); rw [w, show (((x1.toInt).toNat : Nat) : Int) = x1.toInt by omega] at q; exact q)
    have hn13 : xe4.toInt = -1 ∨ (0 ≤ xe4.toInt ∧ xe4.toInt < x1.toInt) := hl13.imp id (fun q => ⟨q.1, q.2.1⟩)
    refine lv_iconst (v := (-1)) hx hb dX12_isFrom_13 (by decide) ?_
    refine lv_icmp_eq (tgt := 31) hx hb dX12_isFrom_14 (by decide) (fun hc5 => ?_) (fun hc5 => ?_)
    · have hf6 : xe4.toInt = (-1) := by have z := (fa_eq _ _).mp hc5; have : (((-1) : Int32).toInt) = (-1) := (by decide); omega
      refine lv_aload_n hx hb dX12_isFrom_31 rfl (lv_at hl 0 rfl) ?_
      refine tw_get (ci := 12) (C := RX12) (T := TX12) (N := 64) hx hb hB cx_inX12 hown hK TH hm0 hk0 rfl ⟨by decide, rfl⟩ 25 (by decide) cw_1218 (fun _ h9 => h9) dX12_isFrom_32 (fun hv => ?_)
      obtain ⟨xr7, hxr7, hmxr7, hkxr7⟩ : ∃ a : Nat, tw_fv E a0 25 = .ref a ∧ a ∈ L ∧ kp a = 335 := hv
      rw [hxr7]
      refine lv_iload_n hx hb dX12_isFrom_35 rfl (lv_at hl 1 rfl) ?_
      refine tw_iald (k := 335) (t0 := 0) (n := 12) (lo := (-1)) (hi := 11) hx hb hK TH hmxr7 hkxr7 (by decide) rfl rfl (i := x1) (vp_in_iff.mpr ⟨by  omega, by  omega⟩) dX12_isFrom_36 (fun hxe8a hxe8b => ?_)
      obtain ⟨xe8, exe8⟩ : ∃ z : Int32, tw_iv E xr7 (Int32.toNatClampNeg x1) = z := ⟨_, rfl⟩
      rw [exe8] at hxe8a hxe8b ⊢
      have hl37 : xe8.toInt = -1 ∨ (0 ≤ xe8.toInt ∧ xe8.toInt < x1.toInt ∧ r2_ok E a0 (x1.toInt) (xe8.toInt)) := (by have q := hg1 (x1.toInt).toNat (by rw [tw_fi_of hfv0_27]; omega) 25 (by decide); have w : tw_el E a0 25 (x1.toInt).toNat = xe8.toInt := (by rw [tw_el_of hxr7]; exact congrArg Int32.toInt exe8); rw [w, show (((x1.toInt).toNat : Nat) : Int) = x1.toInt by omega] at q; exact q)
      have hn37 : xe8.toInt = -1 ∨ (0 ≤ xe8.toInt ∧ xe8.toInt < x1.toInt) := hl37.imp id (fun q => ⟨q.1, q.2.1⟩)
      refine lv_iconst (v := (-1)) hx hb dX12_isFrom_37 (by decide) ?_
      refine lv_icmp_eq (tgt := 59) hx hb dX12_isFrom_38 (by decide) (fun hc9 => ?_) (fun hc9 => ?_)
      · have hf10 : xe8.toInt = (-1) := by have z := (fa_eq _ _).mp hc9; have : (((-1) : Int32).toInt) = (-1) := (by decide); omega
        refine lv_iconst (v := 0) hx hb dX12_isFrom_59 (by decide) ?_
        exact tw_zret hx hb hr hlocks (by decide) TH hS hex ⟨⟨_, rfl, (show 0 ≤ Int32.toInt 0 from by have : ((0 : Int32).toInt) = 0 := (by decide); omega), (show Int32.toInt 0 ≤ 1 from by have : ((0 : Int32).toInt) = 0 := (by decide); omega), (by have : ((0 : Int32).toInt) = 0 := (by decide); intro q; exfalso; exact q (by decide))⟩, rfl, rfl, rfl⟩ (Nat.le_of_ble_eq_true rfl) (Nat.le_of_ble_eq_true rfl) dX12_isFrom_60
      · have hf11 : ¬ (xe8.toInt = (-1)) := fun q => hc9 ((fa_eq _ _).mpr (by have : (((-1) : Int32).toInt) = (-1) := (by decide); omega))
        refine lv_aload_n hx hb dX12_isFrom_41 rfl (lv_at hl 0 rfl) ?_
        refine lv_aload_n hx hb dX12_isFrom_42 rfl (lv_at hl 0 rfl) ?_
        refine tw_get (ci := 12) (C := RX12) (T := TX12) (N := 64) hx hb hB cx_inX12 hown hK TH hm0 hk0 rfl ⟨by decide, rfl⟩ 25 (by decide) cw_1218 (fun _ h9 => h9) dX12_isFrom_43 (fun hv => ?_)
        rw [hxr7]
        refine lv_iload_n hx hb dX12_isFrom_46 rfl (lv_at hl 1 rfl) ?_
        refine tw_iald (k := 335) (t0 := 0) (n := 12) (lo := (-1)) (hi := 11) hx hb hK TH hmxr7 hkxr7 (by decide) rfl rfl (i := x1) (vp_in_iff.mpr ⟨by  omega, by  omega⟩) dX12_isFrom_47 (fun hxe12a hxe12b => ?_)
        rw [exe8]
        refine lv_iload_n hx hb dX12_isFrom_48 rfl (lv_at hl 2 rfl) ?_
        refine tw_Vc (o := a0) (ci := 12) (n := 2) (post := (fun v kq Lq Eq => (∃ x : Int32, v = some (.int x) ∧ 0 ≤ x.toInt ∧ x.toInt ≤ 1 ∧ (x.toInt ≠ 0 → r2_ok E a0 xe8.toInt x2.toInt)) ∧ kp = kq ∧ L = Lq ∧ E = Eq)) (As := [.int xe8, .int x2]) (rest := []) ⟨hx, hb, hml, hown, hB⟩ (fun sz => tX12_isFrom_v3 l D cs a0 xe8 x2 fv0_27 hm0 hk0 (by omega) (by omega) (by omega) (by omega) hfv0_27 (by  omega) hg0 hg1 sz) cg_12_512_X12_isFrom rfl rfl (by decide +kernel) ⟨Nat.le_of_ble_eq_true rfl, Nat.le_of_ble_eq_true rfl⟩ hK hN TH hS hA rfl hm0 hk0 (by decide) rfl hl.1 rfl (Nat.le_of_ble_eq_true rfl) dX12_isFrom_49 ⟨Nat.le_of_ble_eq_true rfl, Nat.le_of_ble_eq_true rfl⟩ (fun v13 kp13 L13 E13 H locs hq13 hx13 TH hS => ?_)
        obtain ⟨⟨xc14, rfl, hxc14a, hxc14b, hpoxc14_0⟩, rfl, rfl, rfl⟩ := hq13
        refine W.eq (g2 := F0 m 52 ls [.int xc14]) rfl ?_
        refine lv_if_eq (tgt := 59) hx hb dX12_isFrom_52 (by decide) (fun hc15 => ?_) (fun hc15 => ?_)
        · have hf16 : xc14.toInt = 0 := by have z := (fa_eq _ _).mp hc15; have : ((0 : Int32).toInt) = 0 := (by decide); omega
          refine lv_iconst (v := 0) hx hb dX12_isFrom_59 (by decide) ?_
          exact tw_zret hx hb hr hlocks (by decide) TH hS hex ⟨⟨_, rfl, (show 0 ≤ Int32.toInt 0 from by have : ((0 : Int32).toInt) = 0 := (by decide); omega), (show Int32.toInt 0 ≤ 1 from by have : ((0 : Int32).toInt) = 0 := (by decide); omega), (by have : ((0 : Int32).toInt) = 0 := (by decide); intro q; exfalso; exact q (by decide))⟩, rfl, rfl, rfl⟩ (Nat.le_of_ble_eq_true rfl) (Nat.le_of_ble_eq_true rfl) dX12_isFrom_60
        · have hf17 : ¬ (xc14.toInt = 0) := fun q => hc15 ((fa_eq _ _).mpr (by have : ((0 : Int32).toInt) = 0 := (by decide); omega))
          refine lv_iconst (v := 1) hx hb dX12_isFrom_55 (by decide) ?_
          refine lv_goto (tgt := 60) hx hb dX12_isFrom_56 (by decide) ?_
          exact tw_zret hx hb hr hlocks (by decide) TH hS hex ⟨⟨_, rfl, (show 0 ≤ Int32.toInt 1 from by have : ((1 : Int32).toInt) = 1 := (by decide); omega), (show Int32.toInt 1 ≤ 1 from by have : ((1 : Int32).toInt) = 1 := (by decide); omega), (by have : ((1 : Int32).toInt) = 1 := (by decide); intro _; have hl := hl37.resolve_left (by omega); exact r2_tr (hg0 (xe8.toInt) (by omega) (by rw [tw_fi_of hfv0_27]; omega)).1 hl.2.2 (hpoxc14_0 (by omega)))⟩, rfl, rfl, rfl⟩ (Nat.le_of_ble_eq_true rfl) (Nat.le_of_ble_eq_true rfl) dX12_isFrom_60
    · have hf18 : ¬ (xe4.toInt = (-1)) := fun q => hc5 ((fa_eq _ _).mpr (by have : (((-1) : Int32).toInt) = (-1) := (by decide); omega))
      refine lv_aload_n hx hb dX12_isFrom_17 rfl (lv_at hl 0 rfl) ?_
      refine lv_aload_n hx hb dX12_isFrom_18 rfl (lv_at hl 0 rfl) ?_
      refine tw_get (ci := 12) (C := RX12) (T := TX12) (N := 64) hx hb hB cx_inX12 hown hK TH hm0 hk0 rfl ⟨by decide, rfl⟩ 24 (by decide) cw_1217 (fun _ h9 => h9) dX12_isFrom_19 (fun hv => ?_)
      rw [hxr3]
      refine lv_iload_n hx hb dX12_isFrom_22 rfl (lv_at hl 1 rfl) ?_
      refine tw_iald (k := 334) (t0 := 0) (n := 12) (lo := (-1)) (hi := 11) hx hb hK TH hmxr3 hkxr3 (by decide) rfl rfl (i := x1) (vp_in_iff.mpr ⟨by  omega, by  omega⟩) dX12_isFrom_23 (fun hxe19a hxe19b => ?_)
      rw [exe4]
      refine lv_iload_n hx hb dX12_isFrom_24 rfl (lv_at hl 2 rfl) ?_
      refine tw_Vc (o := a0) (ci := 12) (n := 2) (post := (fun v kq Lq Eq => (∃ x : Int32, v = some (.int x) ∧ 0 ≤ x.toInt ∧ x.toInt ≤ 1 ∧ (x.toInt ≠ 0 → r2_ok E a0 xe4.toInt x2.toInt)) ∧ kp = kq ∧ L = Lq ∧ E = Eq)) (As := [.int xe4, .int x2]) (rest := []) ⟨hx, hb, hml, hown, hB⟩ (fun sz => tX12_isFrom_v3 l D cs a0 xe4 x2 fv0_27 hm0 hk0 (by omega) (by omega) (by omega) (by omega) hfv0_27 (by  omega) hg0 hg1 sz) cg_12_512_X12_isFrom rfl rfl (by decide +kernel) ⟨Nat.le_of_ble_eq_true rfl, Nat.le_of_ble_eq_true rfl⟩ hK hN TH hS hA rfl hm0 hk0 (by decide) rfl hl.1 rfl (Nat.le_of_ble_eq_true rfl) dX12_isFrom_25 ⟨Nat.le_of_ble_eq_true rfl, Nat.le_of_ble_eq_true rfl⟩ (fun v20 kp20 L20 E20 H locs hq20 hx20 TH hS => ?_)
      obtain ⟨⟨xc21, rfl, hxc21a, hxc21b, hpoxc21_0⟩, rfl, rfl, rfl⟩ := hq20
      refine W.eq (g2 := F0 m 28 ls [.int xc21]) rfl ?_
      refine lv_if_ne (tgt := 55) hx hb dX12_isFrom_28 (by decide) (fun hc22 => ?_) (fun hc22 => ?_)
      · have hf23 : ¬ (xc21.toInt = 0) := fun q => hc22 ((fa_eq _ _).mpr (by have : ((0 : Int32).toInt) = 0 := (by decide); omega))
        refine lv_iconst (v := 1) hx hb dX12_isFrom_55 (by decide) ?_
        refine lv_goto (tgt := 60) hx hb dX12_isFrom_56 (by decide) ?_
        exact tw_zret hx hb hr hlocks (by decide) TH hS hex ⟨⟨_, rfl, (show 0 ≤ Int32.toInt 1 from by have : ((1 : Int32).toInt) = 1 := (by decide); omega), (show Int32.toInt 1 ≤ 1 from by have : ((1 : Int32).toInt) = 1 := (by decide); omega), (by have : ((1 : Int32).toInt) = 1 := (by decide); intro _; have hl := hl13.resolve_left (by omega); exact r2_tr (hg0 (xe4.toInt) (by omega) (by rw [tw_fi_of hfv0_27]; omega)).1 hl.2.2 (hpoxc21_0 (by omega)))⟩, rfl, rfl, rfl⟩ (Nat.le_of_ble_eq_true rfl) (Nat.le_of_ble_eq_true rfl) dX12_isFrom_60
      · have hf24 : xc21.toInt = 0 := by have z := (fa_eq _ _).mp hc22; have : ((0 : Int32).toInt) = 0 := (by decide); omega
        refine lv_aload_n hx hb dX12_isFrom_31 rfl (lv_at hl 0 rfl) ?_
        refine tw_get (ci := 12) (C := RX12) (T := TX12) (N := 64) hx hb hB cx_inX12 hown hK TH hm0 hk0 rfl ⟨by decide, rfl⟩ 25 (by decide) cw_1218 (fun _ h9 => h9) dX12_isFrom_32 (fun hv => ?_)
        obtain ⟨xr25, hxr25, hmxr25, hkxr25⟩ : ∃ a : Nat, tw_fv E a0 25 = .ref a ∧ a ∈ L ∧ kp a = 335 := hv
        rw [hxr25]
        refine lv_iload_n hx hb dX12_isFrom_35 rfl (lv_at hl 1 rfl) ?_
        refine tw_iald (k := 335) (t0 := 0) (n := 12) (lo := (-1)) (hi := 11) hx hb hK TH hmxr25 hkxr25 (by decide) rfl rfl (i := x1) (vp_in_iff.mpr ⟨by  omega, by  omega⟩) dX12_isFrom_36 (fun hxe26a hxe26b => ?_)
        obtain ⟨xe26, exe26⟩ : ∃ z : Int32, tw_iv E xr25 (Int32.toNatClampNeg x1) = z := ⟨_, rfl⟩
        rw [exe26] at hxe26a hxe26b ⊢
        have hl37 : xe26.toInt = -1 ∨ (0 ≤ xe26.toInt ∧ xe26.toInt < x1.toInt ∧ r2_ok E a0 (x1.toInt) (xe26.toInt)) := (by have q := hg1 (x1.toInt).toNat (by rw [tw_fi_of hfv0_27]; omega) 25 (by decide); have w : tw_el E a0 25 (x1.toInt).toNat = xe26.toInt := (by rw [tw_el_of hxr25]; exact congrArg Int32.toInt exe26); rw [w, show (((x1.toInt).toNat : Nat) : Int) = x1.toInt by omega] at q; exact q)
        have hn37 : xe26.toInt = -1 ∨ (0 ≤ xe26.toInt ∧ xe26.toInt < x1.toInt) := hl37.imp id (fun q => ⟨q.1, q.2.1⟩)
        refine lv_iconst (v := (-1)) hx hb dX12_isFrom_37 (by decide) ?_
        refine lv_icmp_eq (tgt := 59) hx hb dX12_isFrom_38 (by decide) (fun hc27 => ?_) (fun hc27 => ?_)
        · have hf28 : xe26.toInt = (-1) := by have z := (fa_eq _ _).mp hc27; have : (((-1) : Int32).toInt) = (-1) := (by decide); omega
          refine lv_iconst (v := 0) hx hb dX12_isFrom_59 (by decide) ?_
          exact tw_zret hx hb hr hlocks (by decide) TH hS hex ⟨⟨_, rfl, (show 0 ≤ Int32.toInt 0 from by have : ((0 : Int32).toInt) = 0 := (by decide); omega), (show Int32.toInt 0 ≤ 1 from by have : ((0 : Int32).toInt) = 0 := (by decide); omega), (by have : ((0 : Int32).toInt) = 0 := (by decide); intro q; exfalso; exact q (by decide))⟩, rfl, rfl, rfl⟩ (Nat.le_of_ble_eq_true rfl) (Nat.le_of_ble_eq_true rfl) dX12_isFrom_60
        · have hf29 : ¬ (xe26.toInt = (-1)) := fun q => hc27 ((fa_eq _ _).mpr (by have : (((-1) : Int32).toInt) = (-1) := (by decide); omega))
          refine lv_aload_n hx hb dX12_isFrom_41 rfl (lv_at hl 0 rfl) ?_
          refine lv_aload_n hx hb dX12_isFrom_42 rfl (lv_at hl 0 rfl) ?_
          refine tw_get (ci := 12) (C := RX12) (T := TX12) (N := 64) hx hb hB cx_inX12 hown hK TH hm0 hk0 rfl ⟨by decide, rfl⟩ 25 (by decide) cw_1218 (fun _ h9 => h9) dX12_isFrom_43 (fun hv => ?_)
          rw [hxr25]
          refine lv_iload_n hx hb dX12_isFrom_46 rfl (lv_at hl 1 rfl) ?_
          refine tw_iald (k := 335) (t0 := 0) (n := 12) (lo := (-1)) (hi := 11) hx hb hK TH hmxr25 hkxr25 (by decide) rfl rfl (i := x1) (vp_in_iff.mpr ⟨by  omega, by  omega⟩) dX12_isFrom_47 (fun hxe30a hxe30b => ?_)
          rw [exe26]
          refine lv_iload_n hx hb dX12_isFrom_48 rfl (lv_at hl 2 rfl) ?_
          refine tw_Vc (o := a0) (ci := 12) (n := 2) (post := (fun v kq Lq Eq => (∃ x : Int32, v = some (.int x) ∧ 0 ≤ x.toInt ∧ x.toInt ≤ 1 ∧ (x.toInt ≠ 0 → r2_ok E a0 xe26.toInt x2.toInt)) ∧ kp = kq ∧ L = Lq ∧ E = Eq)) (As := [.int xe26, .int x2]) (rest := []) ⟨hx, hb, hml, hown, hB⟩ (fun sz => tX12_isFrom_v3 l D cs a0 xe26 x2 fv0_27 hm0 hk0 (by omega) (by omega) (by omega) (by omega) hfv0_27 (by  omega) hg0 hg1 sz) cg_12_512_X12_isFrom rfl rfl (by decide +kernel) ⟨Nat.le_of_ble_eq_true rfl, Nat.le_of_ble_eq_true rfl⟩ hK hN TH hS hA rfl hm0 hk0 (by decide) rfl hl.1 rfl (Nat.le_of_ble_eq_true rfl) dX12_isFrom_49 ⟨Nat.le_of_ble_eq_true rfl, Nat.le_of_ble_eq_true rfl⟩ (fun v31 kp31 L31 E31 H locs hq31 hx31 TH hS => ?_)
          obtain ⟨⟨xc32, rfl, hxc32a, hxc32b, hpoxc32_0⟩, rfl, rfl, rfl⟩ := hq31
          refine W.eq (g2 := F0 m 52 ls [.int xc32]) rfl ?_
          refine lv_if_eq (tgt := 59) hx hb dX12_isFrom_52 (by decide) (fun hc33 => ?_) (fun hc33 => ?_)
          · have hf34 : xc32.toInt = 0 := by have z := (fa_eq _ _).mp hc33; have : ((0 : Int32).toInt) = 0 := (by decide); omega
            refine lv_iconst (v := 0) hx hb dX12_isFrom_59 (by decide) ?_
            exact tw_zret hx hb hr hlocks (by decide) TH hS hex ⟨⟨_, rfl, (show 0 ≤ Int32.toInt 0 from by have : ((0 : Int32).toInt) = 0 := (by decide); omega), (show Int32.toInt 0 ≤ 1 from by have : ((0 : Int32).toInt) = 0 := (by decide); omega), (by have : ((0 : Int32).toInt) = 0 := (by decide); intro q; exfalso; exact q (by decide))⟩, rfl, rfl, rfl⟩ (Nat.le_of_ble_eq_true rfl) (Nat.le_of_ble_eq_true rfl) dX12_isFrom_60
          · have hf35 : ¬ (xc32.toInt = 0) := fun q => hc33 ((fa_eq _ _).mpr (by have : ((0 : Int32).toInt) = 0 := (by decide); omega))
            refine lv_iconst (v := 1) hx hb dX12_isFrom_55 (by decide) ?_
            refine lv_goto (tgt := 60) hx hb dX12_isFrom_56 (by decide) ?_
            exact tw_zret hx hb hr hlocks (by decide) TH hS hex ⟨⟨_, rfl, (show 0 ≤ Int32.toInt 1 from by have : ((1 : Int32).toInt) = 1 := (by decide); omega), (show Int32.toInt 1 ≤ 1 from by have : ((1 : Int32).toInt) = 1 := (by decide); omega), (by have : ((1 : Int32).toInt) = 1 := (by decide); intro _; have hl := hl37.resolve_left (by omega); exact r2_tr (hg0 (xe26.toInt) (by omega) (by rw [tw_fi_of hfv0_27]; omega)).1 hl.2.2 (hpoxc32_0 (by omega)))⟩, rfl, rfl, rfl⟩ (Nat.le_of_ble_eq_true rfl) (Nat.le_of_ble_eq_true rfl) dX12_isFrom_60
  · have hf36 : x1.toInt = x2.toInt := by have z := (fa_eq _ _).mp hc1;  omega
    refine lv_iconst (v := 1) hx hb dX12_isFrom_5 (by decide) ?_
    exact tw_zret hx hb hr hlocks (by decide) TH hS hex ⟨⟨_, rfl, (show 0 ≤ Int32.toInt 1 from by have : ((1 : Int32).toInt) = 1 := (by decide); omega), (show Int32.toInt 1 ≤ 1 from by have : ((1 : Int32).toInt) = 1 := (by decide); omega), (by have : ((1 : Int32).toInt) = 1 := (by decide); intro _; rw [show x2.toInt = x1.toInt by omega]; exact r2_rf (hg0 (x1.toInt) (by omega) (by rw [tw_fi_of hfv0_27]; omega)))⟩, rfl, rfl, rfl⟩ (Nat.le_of_ble_eq_true rfl) (Nat.le_of_ble_eq_true rfl) dX12_isFrom_6
set_option maxHeartbeats 4000000 in
set_option maxRecDepth 100000 in
theorem tX12_isFrom_v5 (l : Launch) (D : va_G) (cs : Nat → ClassId) {kp : Nat → Nat} {L : List Nat} {E : Nat → va_E} (a0 : Nat) (x1 : Int32) (x2 : Int32) (fv0_27 : Int32) (hm0 : a0 ∈ L) (hk0 : kp a0 = 12) (hp1a : 0 ≤ x1.toInt) (hp1b : x1.toInt ≤ 5) (hp2a : 0 ≤ x2.toInt) (hp2b : x2.toInt ≤ 11) (hfv0_27 : tw_fv E a0 27 = .int fv0_27) (hpre0 : x1.toInt < fv0_27.toInt) (hg0 : eo_ok E a0) (hg1 : ln_ok E a0) (sz : Nat) : Met l yX12_isFrom (.code yX12_isFrom cX12_isFrom 3 (some .boolean) :: cx_big) { frames := 5, cells := 0, slots := 0, locals := 110 } (tw_P D cs kp L E [.ref a0, .int x1, .int x2] sz) (tw_Q D cs kp L (fun v kq Lq Eq => (∃ x : Int32, v = some (.int x) ∧ 0 ≤ x.toInt ∧ x.toInt ≤ 1 ∧ (x.toInt ≠ 0 → r2_ok E a0 x1.toInt x2.toInt)) ∧ kp = kq ∧ L = Lq ∧ E = Eq) (va_A (va_pl L E) sz)) 0 0 (va_A (va_pl L E) sz) := by
  refine tw_ofW (by decide) (Nat.le_of_ble_eq_true rfl) ?_
  intro p e s m below meth c A ls hx hb hr hml hB hown hlocks hK hN hA TH hS hl
  have hown : s.vm.findClass "TreeMergeModel" = some m.cls := hown
  have hl : lv_has ls 3 [(0, .ref a0), (1, .int x1), (2, .int x2)] := hl
  obtain ⟨kp0, ekp⟩ : ∃ z, z = kp := ⟨_, rfl⟩
  obtain ⟨L0, eL⟩ : ∃ z, z = L := ⟨_, rfl⟩
  rw [show tw_Q D cs kp L = tw_Q D cs kp0 L0 by rw [ekp, eL]]
  have hex : ∀ a : Nat, a ∈ L0 → a ∈ L ∧ kp a = kp0 a := fun a h => ⟨by rw [← eL]; exact h, by rw [ekp]⟩
  obtain ⟨qfv0_27, hqfv0_27, hqfv0_27a, hqfv0_27b⟩ := tw_rd TH hm0 hk0 (by decide) (by decide) (k := 27) rfl
  have eqfv0_27 : qfv0_27 = fv0_27 := by have q := hqfv0_27.symm.trans hfv0_27; injection q
  rw [eqfv0_27] at hqfv0_27a hqfv0_27b
  refine lv_iload_n hx hb dX12_isFrom_0 rfl (lv_at hl 1 rfl) ?_
  refine lv_iload_n hx hb dX12_isFrom_1 rfl (lv_at hl 2 rfl) ?_
  refine lv_icmp_ne (tgt := 7) hx hb dX12_isFrom_2 (by decide) (fun hc1 => ?_) (fun hc1 => ?_)
  · have hf2 : ¬ (x1.toInt = x2.toInt) := fun q => hc1 ((fa_eq _ _).mpr (by  omega))
    refine lv_aload_n hx hb dX12_isFrom_7 rfl (lv_at hl 0 rfl) ?_
    refine tw_get (ci := 12) (C := RX12) (T := TX12) (N := 64) hx hb hB cx_inX12 hown hK TH hm0 hk0 rfl ⟨by decide, rfl⟩ 24 (by decide) cw_1217 (fun _ h9 => h9) dX12_isFrom_8 (fun hv => ?_)
    obtain ⟨xr3, hxr3, hmxr3, hkxr3⟩ : ∃ a : Nat, tw_fv E a0 24 = .ref a ∧ a ∈ L ∧ kp a = 334 := hv
    rw [hxr3]
    refine lv_iload_n hx hb dX12_isFrom_11 rfl (lv_at hl 1 rfl) ?_
    refine tw_iald (k := 334) (t0 := 0) (n := 12) (lo := (-1)) (hi := 11) hx hb hK TH hmxr3 hkxr3 (by decide) rfl rfl (i := x1) (vp_in_iff.mpr ⟨by  omega, by  omega⟩) dX12_isFrom_12 (fun hxe4a hxe4b => ?_)
    obtain ⟨xe4, exe4⟩ : ∃ z : Int32, tw_iv E xr3 (Int32.toNatClampNeg x1) = z := ⟨_, rfl⟩
    rw [exe4] at hxe4a hxe4b ⊢
    have hl13 : xe4.toInt = -1 ∨ (0 ≤ xe4.toInt ∧ xe4.toInt < x1.toInt ∧ r2_ok E a0 (x1.toInt) (xe4.toInt)) := (by have q := hg1 (x1.toInt).toNat (by rw [tw_fi_of hfv0_27]; omega) 24 (by decide); have w : tw_el E a0 24 (x1.toInt).toNat = xe4.toInt := (by rw [tw_el_of hxr3]; exact congrArg Int32.toInt exe4); rw [w, show (((x1.toInt).toNat : Nat) : Int) = x1.toInt by omega] at q; exact q)
    have hn13 : xe4.toInt = -1 ∨ (0 ≤ xe4.toInt ∧ xe4.toInt < x1.toInt) := hl13.imp id (fun q => ⟨q.1, q.2.1⟩)
    refine lv_iconst (v := (-1)) hx hb dX12_isFrom_13 (by decide) ?_
    refine lv_icmp_eq (tgt := 31) hx hb dX12_isFrom_14 (by decide) (fun hc5 => ?_) (fun hc5 => ?_)
    · have hf6 : xe4.toInt = (-1) := by have z := (fa_eq _ _).mp hc5; have : (((-1) : Int32).toInt) = (-1) := (by decide); omega
      refine lv_aload_n hx hb dX12_isFrom_31 rfl (lv_at hl 0 rfl) ?_
      refine tw_get (ci := 12) (C := RX12) (T := TX12) (N := 64) hx hb hB cx_inX12 hown hK TH hm0 hk0 rfl ⟨by decide, rfl⟩ 25 (by decide) cw_1218 (fun _ h9 => h9) dX12_isFrom_32 (fun hv => ?_)
      obtain ⟨xr7, hxr7, hmxr7, hkxr7⟩ : ∃ a : Nat, tw_fv E a0 25 = .ref a ∧ a ∈ L ∧ kp a = 335 := hv
      rw [hxr7]
      refine lv_iload_n hx hb dX12_isFrom_35 rfl (lv_at hl 1 rfl) ?_
      refine tw_iald (k := 335) (t0 := 0) (n := 12) (lo := (-1)) (hi := 11) hx hb hK TH hmxr7 hkxr7 (by decide) rfl rfl (i := x1) (vp_in_iff.mpr ⟨by  omega, by  omega⟩) dX12_isFrom_36 (fun hxe8a hxe8b => ?_)
      obtain ⟨xe8, exe8⟩ : ∃ z : Int32, tw_iv E xr7 (Int32.toNatClampNeg x1) = z := ⟨_, rfl⟩
      rw [exe8] at hxe8a hxe8b ⊢
      have hl37 : xe8.toInt = -1 ∨ (0 ≤ xe8.toInt ∧ xe8.toInt < x1.toInt ∧ r2_ok E a0 (x1.toInt) (xe8.toInt)) := (by have q := hg1 (x1.toInt).toNat (by rw [tw_fi_of hfv0_27]; omega) 25 (by decide); have w : tw_el E a0 25 (x1.toInt).toNat = xe8.toInt := (by rw [tw_el_of hxr7]; exact congrArg Int32.toInt exe8); rw [w, show (((x1.toInt).toNat : Nat) : Int) = x1.toInt by omega] at q; exact q)
      have hn37 : xe8.toInt = -1 ∨ (0 ≤ xe8.toInt ∧ xe8.toInt < x1.toInt) := hl37.imp id (fun q => ⟨q.1, q.2.1⟩)
      refine lv_iconst (v := (-1)) hx hb dX12_isFrom_37 (by decide) ?_
      refine lv_icmp_eq (tgt := 59) hx hb dX12_isFrom_38 (by decide) (fun hc9 => ?_) (fun hc9 => ?_)
      · have hf10 : xe8.toInt = (-1) := by have z := (fa_eq _ _).mp hc9; have : (((-1) : Int32).toInt) = (-1) := (by decide); omega
        refine lv_iconst (v := 0) hx hb dX12_isFrom_59 (by decide) ?_
        exact tw_zret hx hb hr hlocks (by decide) TH hS hex ⟨⟨_, rfl, (show 0 ≤ Int32.toInt 0 from by have : ((0 : Int32).toInt) = 0 := (by decide); omega), (show Int32.toInt 0 ≤ 1 from by have : ((0 : Int32).toInt) = 0 := (by decide); omega), (by have : ((0 : Int32).toInt) = 0 := (by decide); intro q; exfalso; exact q (by decide))⟩, rfl, rfl, rfl⟩ (Nat.le_of_ble_eq_true rfl) (Nat.le_of_ble_eq_true rfl) dX12_isFrom_60
      · have hf11 : ¬ (xe8.toInt = (-1)) := fun q => hc9 ((fa_eq _ _).mpr (by have : (((-1) : Int32).toInt) = (-1) := (by decide); omega))
        refine lv_aload_n hx hb dX12_isFrom_41 rfl (lv_at hl 0 rfl) ?_
        refine lv_aload_n hx hb dX12_isFrom_42 rfl (lv_at hl 0 rfl) ?_
        refine tw_get (ci := 12) (C := RX12) (T := TX12) (N := 64) hx hb hB cx_inX12 hown hK TH hm0 hk0 rfl ⟨by decide, rfl⟩ 25 (by decide) cw_1218 (fun _ h9 => h9) dX12_isFrom_43 (fun hv => ?_)
        rw [hxr7]
        refine lv_iload_n hx hb dX12_isFrom_46 rfl (lv_at hl 1 rfl) ?_
        refine tw_iald (k := 335) (t0 := 0) (n := 12) (lo := (-1)) (hi := 11) hx hb hK TH hmxr7 hkxr7 (by decide) rfl rfl (i := x1) (vp_in_iff.mpr ⟨by  omega, by  omega⟩) dX12_isFrom_47 (fun hxe12a hxe12b => ?_)
        rw [exe8]
        refine lv_iload_n hx hb dX12_isFrom_48 rfl (lv_at hl 2 rfl) ?_
        refine tw_Vc (o := a0) (ci := 12) (n := 2) (post := (fun v kq Lq Eq => (∃ x : Int32, v = some (.int x) ∧ 0 ≤ x.toInt ∧ x.toInt ≤ 1 ∧ (x.toInt ≠ 0 → r2_ok E a0 xe8.toInt x2.toInt)) ∧ kp = kq ∧ L = Lq ∧ E = Eq)) (As := [.int xe8, .int x2]) (rest := []) ⟨hx, hb, hml, hown, hB⟩ (fun sz => tX12_isFrom_v4 l D cs a0 xe8 x2 fv0_27 hm0 hk0 (by omega) (by omega) (by omega) (by omega) hfv0_27 (by  omega) hg0 hg1 sz) cg_12_512_X12_isFrom rfl rfl (by decide +kernel) ⟨Nat.le_of_ble_eq_true rfl, Nat.le_of_ble_eq_true rfl⟩ hK hN TH hS hA rfl hm0 hk0 (by decide) rfl hl.1 rfl (Nat.le_of_ble_eq_true rfl) dX12_isFrom_49 ⟨Nat.le_of_ble_eq_true rfl, Nat.le_of_ble_eq_true rfl⟩ (fun v13 kp13 L13 E13 H locs hq13 hx13 TH hS => ?_)
        obtain ⟨⟨xc14, rfl, hxc14a, hxc14b, hpoxc14_0⟩, rfl, rfl, rfl⟩ := hq13
        refine W.eq (g2 := F0 m 52 ls [.int xc14]) rfl ?_
        refine lv_if_eq (tgt := 59) hx hb dX12_isFrom_52 (by decide) (fun hc15 => ?_) (fun hc15 => ?_)
        · have hf16 : xc14.toInt = 0 := by have z := (fa_eq _ _).mp hc15; have : ((0 : Int32).toInt) = 0 := (by decide); omega
          refine lv_iconst (v := 0) hx hb dX12_isFrom_59 (by decide) ?_
          exact tw_zret hx hb hr hlocks (by decide) TH hS hex ⟨⟨_, rfl, (show 0 ≤ Int32.toInt 0 from by have : ((0 : Int32).toInt) = 0 := (by decide); omega), (show Int32.toInt 0 ≤ 1 from by have : ((0 : Int32).toInt) = 0 := (by decide); omega), (by have : ((0 : Int32).toInt) = 0 := (by decide); intro q; exfalso; exact q (by decide))⟩, rfl, rfl, rfl⟩ (Nat.le_of_ble_eq_true rfl) (Nat.le_of_ble_eq_true rfl) dX12_isFrom_60
        · have hf17 : ¬ (xc14.toInt = 0) := fun q => hc15 ((fa_eq _ _).mpr (by have : ((0 : Int32).toInt) = 0 := (by decide); omega))
          refine lv_iconst (v := 1) hx hb dX12_isFrom_55 (by decide) ?_
          refine lv_goto (tgt := 60) hx hb dX12_isFrom_56 (by decide) ?_
          exact tw_zret hx hb hr hlocks (by decide) TH hS hex ⟨⟨_, rfl, (show 0 ≤ Int32.toInt 1 from by have : ((1 : Int32).toInt) = 1 := (by decide); omega), (show Int32.toInt 1 ≤ 1 from by have : ((1 : Int32).toInt) = 1 := (by decide); omega), (by have : ((1 : Int32).toInt) = 1 := (by decide); intro _; have hl := hl37.resolve_left (by omega); exact r2_tr (hg0 (xe8.toInt) (by omega) (by rw [tw_fi_of hfv0_27]; omega)).1 hl.2.2 (hpoxc14_0 (by omega)))⟩, rfl, rfl, rfl⟩ (Nat.le_of_ble_eq_true rfl) (Nat.le_of_ble_eq_true rfl) dX12_isFrom_60
    · have hf18 : ¬ (xe4.toInt = (-1)) := fun q => hc5 ((fa_eq _ _).mpr (by have : (((-1) : Int32).toInt) = (-1) := (by decide); omega))
      refine lv_aload_n hx hb dX12_isFrom_17 rfl (lv_at hl 0 rfl) ?_
      refine lv_aload_n hx hb dX12_isFrom_18 rfl (lv_at hl 0 rfl) ?_
      refine tw_get (ci := 12) (C := RX12) (T := TX12) (N := 64) hx hb hB cx_inX12 hown hK TH hm0 hk0 rfl ⟨by decide, rfl⟩ 24 (by decide) cw_1217 (fun _ h9 => h9) dX12_isFrom_19 (fun hv => ?_)
      rw [hxr3]
      refine lv_iload_n hx hb dX12_isFrom_22 rfl (lv_at hl 1 rfl) ?_
      refine tw_iald (k := 334) (t0 := 0) (n := 12) (lo := (-1)) (hi := 11) hx hb hK TH hmxr3 hkxr3 (by decide) rfl rfl (i := x1) (vp_in_iff.mpr ⟨by  omega, by  omega⟩) dX12_isFrom_23 (fun hxe19a hxe19b => ?_)
      rw [exe4]
      refine lv_iload_n hx hb dX12_isFrom_24 rfl (lv_at hl 2 rfl) ?_
      refine tw_Vc (o := a0) (ci := 12) (n := 2) (post := (fun v kq Lq Eq => (∃ x : Int32, v = some (.int x) ∧ 0 ≤ x.toInt ∧ x.toInt ≤ 1 ∧ (x.toInt ≠ 0 → r2_ok E a0 xe4.toInt x2.toInt)) ∧ kp = kq ∧ L = Lq ∧ E = Eq)) (As := [.int xe4, .int x2]) (rest := []) ⟨hx, hb, hml, hown, hB⟩ (fun sz => tX12_isFrom_v4 l D cs a0 xe4 x2 fv0_27 hm0 hk0 (by omega) (by omega) (by omega) (by omega) hfv0_27 (by  omega) hg0 hg1 sz) cg_12_512_X12_isFrom rfl rfl (by decide +kernel) ⟨Nat.le_of_ble_eq_true rfl, Nat.le_of_ble_eq_true rfl⟩ hK hN TH hS hA rfl hm0 hk0 (by decide) rfl hl.1 rfl (Nat.le_of_ble_eq_true rfl) dX12_isFrom_25 ⟨Nat.le_of_ble_eq_true rfl, Nat.le_of_ble_eq_true rfl⟩ (fun v20 kp20 L20 E20 H locs hq20 hx20 TH hS => ?_)
      obtain ⟨⟨xc21, rfl, hxc21a, hxc21b, hpoxc21_0⟩, rfl, rfl, rfl⟩ := hq20
      refine W.eq (g2 := F0 m 28 ls [.int xc21]) rfl ?_
      refine lv_if_ne (tgt := 55) hx hb dX12_isFrom_28 (by decide) (fun hc22 => ?_) (fun hc22 => ?_)
      · have hf23 : ¬ (xc21.toInt = 0) := fun q => hc22 ((fa_eq _ _).mpr (by have : ((0 : Int32).toInt) = 0 := (by decide); omega))
        refine lv_iconst (v := 1) hx hb dX12_isFrom_55 (by decide) ?_
        refine lv_goto (tgt := 60) hx hb dX12_isFrom_56 (by decide) ?_
        exact tw_zret hx hb hr hlocks (by decide) TH hS hex ⟨⟨_, rfl, (show 0 ≤ Int32.toInt 1 from by have : ((1 : Int32).toInt) = 1 := (by decide); omega), (show Int32.toInt 1 ≤ 1 from by have : ((1 : Int32).toInt) = 1 := (by decide); omega), (by have : ((1 : Int32).toInt) = 1 := (by decide); intro _; have hl := hl13.resolve_left (by omega); exact r2_tr (hg0 (xe4.toInt) (by omega) (by rw [tw_fi_of hfv0_27]; omega)).1 hl.2.2 (hpoxc21_0 (by omega)))⟩, rfl, rfl, rfl⟩ (Nat.le_of_ble_eq_true rfl) (Nat.le_of_ble_eq_true rfl) dX12_isFrom_60
      · have hf24 : xc21.toInt = 0 := by have z := (fa_eq _ _).mp hc22; have : ((0 : Int32).toInt) = 0 := (by decide); omega
        refine lv_aload_n hx hb dX12_isFrom_31 rfl (lv_at hl 0 rfl) ?_
        refine tw_get (ci := 12) (C := RX12) (T := TX12) (N := 64) hx hb hB cx_inX12 hown hK TH hm0 hk0 rfl ⟨by decide, rfl⟩ 25 (by decide) cw_1218 (fun _ h9 => h9) dX12_isFrom_32 (fun hv => ?_)
        obtain ⟨xr25, hxr25, hmxr25, hkxr25⟩ : ∃ a : Nat, tw_fv E a0 25 = .ref a ∧ a ∈ L ∧ kp a = 335 := hv
        rw [hxr25]
        refine lv_iload_n hx hb dX12_isFrom_35 rfl (lv_at hl 1 rfl) ?_
        refine tw_iald (k := 335) (t0 := 0) (n := 12) (lo := (-1)) (hi := 11) hx hb hK TH hmxr25 hkxr25 (by decide) rfl rfl (i := x1) (vp_in_iff.mpr ⟨by  omega, by  omega⟩) dX12_isFrom_36 (fun hxe26a hxe26b => ?_)
        obtain ⟨xe26, exe26⟩ : ∃ z : Int32, tw_iv E xr25 (Int32.toNatClampNeg x1) = z := ⟨_, rfl⟩
        rw [exe26] at hxe26a hxe26b ⊢
        have hl37 : xe26.toInt = -1 ∨ (0 ≤ xe26.toInt ∧ xe26.toInt < x1.toInt ∧ r2_ok E a0 (x1.toInt) (xe26.toInt)) := (by have q := hg1 (x1.toInt).toNat (by rw [tw_fi_of hfv0_27]; omega) 25 (by decide); have w : tw_el E a0 25 (x1.toInt).toNat = xe26.toInt := (by rw [tw_el_of hxr25]; exact congrArg Int32.toInt exe26); rw [w, show (((x1.toInt).toNat : Nat) : Int) = x1.toInt by omega] at q; exact q)
        have hn37 : xe26.toInt = -1 ∨ (0 ≤ xe26.toInt ∧ xe26.toInt < x1.toInt) := hl37.imp id (fun q => ⟨q.1, q.2.1⟩)
        refine lv_iconst (v := (-1)) hx hb dX12_isFrom_37 (by decide) ?_
        refine lv_icmp_eq (tgt := 59) hx hb dX12_isFrom_38 (by decide) (fun hc27 => ?_) (fun hc27 => ?_)
        · have hf28 : xe26.toInt = (-1) := by have z := (fa_eq _ _).mp hc27; have : (((-1) : Int32).toInt) = (-1) := (by decide); omega
          refine lv_iconst (v := 0) hx hb dX12_isFrom_59 (by decide) ?_
          exact tw_zret hx hb hr hlocks (by decide) TH hS hex ⟨⟨_, rfl, (show 0 ≤ Int32.toInt 0 from by have : ((0 : Int32).toInt) = 0 := (by decide); omega), (show Int32.toInt 0 ≤ 1 from by have : ((0 : Int32).toInt) = 0 := (by decide); omega), (by have : ((0 : Int32).toInt) = 0 := (by decide); intro q; exfalso; exact q (by decide))⟩, rfl, rfl, rfl⟩ (Nat.le_of_ble_eq_true rfl) (Nat.le_of_ble_eq_true rfl) dX12_isFrom_60
        · have hf29 : ¬ (xe26.toInt = (-1)) := fun q => hc27 ((fa_eq _ _).mpr (by have : (((-1) : Int32).toInt) = (-1) := (by decide); omega))
          refine lv_aload_n hx hb dX12_isFrom_41 rfl (lv_at hl 0 rfl) ?_
          refine lv_aload_n hx hb dX12_isFrom_42 rfl (lv_at hl 0 rfl) ?_
          refine tw_get (ci := 12) (C := RX12) (T := TX12) (N := 64) hx hb hB cx_inX12 hown hK TH hm0 hk0 rfl ⟨by decide, rfl⟩ 25 (by decide) cw_1218 (fun _ h9 => h9) dX12_isFrom_43 (fun hv => ?_)
          rw [hxr25]
          refine lv_iload_n hx hb dX12_isFrom_46 rfl (lv_at hl 1 rfl) ?_
          refine tw_iald (k := 335) (t0 := 0) (n := 12) (lo := (-1)) (hi := 11) hx hb hK TH hmxr25 hkxr25 (by decide) rfl rfl (i := x1) (vp_in_iff.mpr ⟨by  omega, by  omega⟩) dX12_isFrom_47 (fun hxe30a hxe30b => ?_)
          rw [exe26]
          refine lv_iload_n hx hb dX12_isFrom_48 rfl (lv_at hl 2 rfl) ?_
          refine tw_Vc (o := a0) (ci := 12) (n := 2) (post := (fun v kq Lq Eq => (∃ x : Int32, v = some (.int x) ∧ 0 ≤ x.toInt ∧ x.toInt ≤ 1 ∧ (x.toInt ≠ 0 → r2_ok E a0 xe26.toInt x2.toInt)) ∧ kp = kq ∧ L = Lq ∧ E = Eq)) (As := [.int xe26, .int x2]) (rest := []) ⟨hx, hb, hml, hown, hB⟩ (fun sz => tX12_isFrom_v4 l D cs a0 xe26 x2 fv0_27 hm0 hk0 (by omega) (by omega) (by omega) (by omega) hfv0_27 (by  omega) hg0 hg1 sz) cg_12_512_X12_isFrom rfl rfl (by decide +kernel) ⟨Nat.le_of_ble_eq_true rfl, Nat.le_of_ble_eq_true rfl⟩ hK hN TH hS hA rfl hm0 hk0 (by decide) rfl hl.1 rfl (Nat.le_of_ble_eq_true rfl) dX12_isFrom_49 ⟨Nat.le_of_ble_eq_true rfl, Nat.le_of_ble_eq_true rfl⟩ (fun v31 kp31 L31 E31 H locs hq31 hx31 TH hS => ?_)
          obtain ⟨⟨xc32, rfl, hxc32a, hxc32b, hpoxc32_0⟩, rfl, rfl, rfl⟩ := hq31
          refine W.eq (g2 := F0 m 52 ls [.int xc32]) rfl ?_
          refine lv_if_eq (tgt := 59) hx hb dX12_isFrom_52 (by decide) (fun hc33 => ?_) (fun hc33 => ?_)
          · have hf34 : xc32.toInt = 0 := by have z := (fa_eq _ _).mp hc33; have : ((0 : Int32).toInt) = 0 := (by decide); omega
            refine lv_iconst (v := 0) hx hb dX12_isFrom_59 (by decide) ?_
            exact tw_zret hx hb hr hlocks (by decide) TH hS hex ⟨⟨_, rfl, (show 0 ≤ Int32.toInt 0 from by have : ((0 : Int32).toInt) = 0 := (by decide); omega), (show Int32.toInt 0 ≤ 1 from by have : ((0 : Int32).toInt) = 0 := (by decide); omega), (by have : ((0 : Int32).toInt) = 0 := (by decide); intro q; exfalso; exact q (by decide))⟩, rfl, rfl, rfl⟩ (Nat.le_of_ble_eq_true rfl) (Nat.le_of_ble_eq_true rfl) dX12_isFrom_60
          · have hf35 : ¬ (xc32.toInt = 0) := fun q => hc33 ((fa_eq _ _).mpr (by have : ((0 : Int32).toInt) = 0 := (by decide); omega))
            refine lv_iconst (v := 1) hx hb dX12_isFrom_55 (by decide) ?_
            refine lv_goto (tgt := 60) hx hb dX12_isFrom_56 (by decide) ?_
            exact tw_zret hx hb hr hlocks (by decide) TH hS hex ⟨⟨_, rfl, (show 0 ≤ Int32.toInt 1 from by have : ((1 : Int32).toInt) = 1 := (by decide); omega), (show Int32.toInt 1 ≤ 1 from by have : ((1 : Int32).toInt) = 1 := (by decide); omega), (by have : ((1 : Int32).toInt) = 1 := (by decide); intro _; have hl := hl37.resolve_left (by omega); exact r2_tr (hg0 (xe26.toInt) (by omega) (by rw [tw_fi_of hfv0_27]; omega)).1 hl.2.2 (hpoxc32_0 (by omega)))⟩, rfl, rfl, rfl⟩ (Nat.le_of_ble_eq_true rfl) (Nat.le_of_ble_eq_true rfl) dX12_isFrom_60
  · have hf36 : x1.toInt = x2.toInt := by have z := (fa_eq _ _).mp hc1;  omega
    refine lv_iconst (v := 1) hx hb dX12_isFrom_5 (by decide) ?_
    exact tw_zret hx hb hr hlocks (by decide) TH hS hex ⟨⟨_, rfl, (show 0 ≤ Int32.toInt 1 from by have : ((1 : Int32).toInt) = 1 := (by decide); omega), (show Int32.toInt 1 ≤ 1 from by have : ((1 : Int32).toInt) = 1 := (by decide); omega), (by have : ((1 : Int32).toInt) = 1 := (by decide); intro _; rw [show x2.toInt = x1.toInt by omega]; exact r2_rf (hg0 (x1.toInt) (by omega) (by rw [tw_fi_of hfv0_27]; omega)))⟩, rfl, rfl, rfl⟩ (Nat.le_of_ble_eq_true rfl) (Nat.le_of_ble_eq_true rfl) dX12_isFrom_6
set_option maxHeartbeats 4000000 in
set_option maxRecDepth 100000 in
theorem tX12_isFrom_v6 (l : Launch) (D : va_G) (cs : Nat → ClassId) {kp : Nat → Nat} {L : List Nat} {E : Nat → va_E} (a0 : Nat) (x1 : Int32) (x2 : Int32) (fv0_27 : Int32) (hm0 : a0 ∈ L) (hk0 : kp a0 = 12) (hp1a : 0 ≤ x1.toInt) (hp1b : x1.toInt ≤ 6) (hp2a : 0 ≤ x2.toInt) (hp2b : x2.toInt ≤ 11) (hfv0_27 : tw_fv E a0 27 = .int fv0_27) (hpre0 : x1.toInt < fv0_27.toInt) (hg0 : eo_ok E a0) (hg1 : ln_ok E a0) (sz : Nat) : Met l yX12_isFrom (.code yX12_isFrom cX12_isFrom 3 (some .boolean) :: cx_big) { frames := 6, cells := 0, slots := 0, locals := 132 } (tw_P D cs kp L E [.ref a0, .int x1, .int x2] sz) (tw_Q D cs kp L (fun v kq Lq Eq => (∃ x : Int32, v = some (.int x) ∧ 0 ≤ x.toInt ∧ x.toInt ≤ 1 ∧ (x.toInt ≠ 0 → r2_ok E a0 x1.toInt x2.toInt)) ∧ kp = kq ∧ L = Lq ∧ E = Eq) (va_A (va_pl L E) sz)) 0 0 (va_A (va_pl L E) sz) := by
  refine tw_ofW (by decide) (Nat.le_of_ble_eq_true rfl) ?_
  intro p e s m below meth c A ls hx hb hr hml hB hown hlocks hK hN hA TH hS hl
  have hown : s.vm.findClass "TreeMergeModel" = some m.cls := hown
  have hl : lv_has ls 3 [(0, .ref a0), (1, .int x1), (2, .int x2)] := hl
  obtain ⟨kp0, ekp⟩ : ∃ z, z = kp := ⟨_, rfl⟩
  obtain ⟨L0, eL⟩ : ∃ z, z = L := ⟨_, rfl⟩
  rw [show tw_Q D cs kp L = tw_Q D cs kp0 L0 by rw [ekp, eL]]
  have hex : ∀ a : Nat, a ∈ L0 → a ∈ L ∧ kp a = kp0 a := fun a h => ⟨by rw [← eL]; exact h, by rw [ekp]⟩
  obtain ⟨qfv0_27, hqfv0_27, hqfv0_27a, hqfv0_27b⟩ := tw_rd TH hm0 hk0 (by decide) (by decide) (k := 27) rfl
  have eqfv0_27 : qfv0_27 = fv0_27 := by have q := hqfv0_27.symm.trans hfv0_27; injection q
  rw [eqfv0_27] at hqfv0_27a hqfv0_27b
  refine lv_iload_n hx hb dX12_isFrom_0 rfl (lv_at hl 1 rfl) ?_
  refine lv_iload_n hx hb dX12_isFrom_1 rfl (lv_at hl 2 rfl) ?_
  refine lv_icmp_ne (tgt := 7) hx hb dX12_isFrom_2 (by decide) (fun hc1 => ?_) (fun hc1 => ?_)
  · have hf2 : ¬ (x1.toInt = x2.toInt) := fun q => hc1 ((fa_eq _ _).mpr (by  omega))
    refine lv_aload_n hx hb dX12_isFrom_7 rfl (lv_at hl 0 rfl) ?_
    refine tw_get (ci := 12) (C := RX12) (T := TX12) (N := 64) hx hb hB cx_inX12 hown hK TH hm0 hk0 rfl ⟨by decide, rfl⟩ 24 (by decide) cw_1217 (fun _ h9 => h9) dX12_isFrom_8 (fun hv => ?_)
    obtain ⟨xr3, hxr3, hmxr3, hkxr3⟩ : ∃ a : Nat, tw_fv E a0 24 = .ref a ∧ a ∈ L ∧ kp a = 334 := hv
    rw [hxr3]
    refine lv_iload_n hx hb dX12_isFrom_11 rfl (lv_at hl 1 rfl) ?_
    refine tw_iald (k := 334) (t0 := 0) (n := 12) (lo := (-1)) (hi := 11) hx hb hK TH hmxr3 hkxr3 (by decide) rfl rfl (i := x1) (vp_in_iff.mpr ⟨by  omega, by  omega⟩) dX12_isFrom_12 (fun hxe4a hxe4b => ?_)
    obtain ⟨xe4, exe4⟩ : ∃ z : Int32, tw_iv E xr3 (Int32.toNatClampNeg x1) = z := ⟨_, rfl⟩
    rw [exe4] at hxe4a hxe4b ⊢
    have hl13 : xe4.toInt = -1 ∨ (0 ≤ xe4.toInt ∧ xe4.toInt < x1.toInt ∧ r2_ok E a0 (x1.toInt) (xe4.toInt)) := (by have q := hg1 (x1.toInt).toNat (by rw [tw_fi_of hfv0_27]; omega) 24 (by decide); have w : tw_el E a0 24 (x1.toInt).toNat = xe4.toInt := (by rw [tw_el_of hxr3]; exact congrArg Int32.toInt exe4); rw [w, show (((x1.toInt).toNat : Nat) : Int) = x1.toInt by omega] at q; exact q)
    have hn13 : xe4.toInt = -1 ∨ (0 ≤ xe4.toInt ∧ xe4.toInt < x1.toInt) := hl13.imp id (fun q => ⟨q.1, q.2.1⟩)
    refine lv_iconst (v := (-1)) hx hb dX12_isFrom_13 (by decide) ?_
    refine lv_icmp_eq (tgt := 31) hx hb dX12_isFrom_14 (by decide) (fun hc5 => ?_) (fun hc5 => ?_)
    · have hf6 : xe4.toInt = (-1) := by have z := (fa_eq _ _).mp hc5; have : (((-1) : Int32).toInt) = (-1) := (by decide); omega
      refine lv_aload_n hx hb dX12_isFrom_31 rfl (lv_at hl 0 rfl) ?_
      refine tw_get (ci := 12) (C := RX12) (T := TX12) (N := 64) hx hb hB cx_inX12 hown hK TH hm0 hk0 rfl ⟨by decide, rfl⟩ 25 (by decide) cw_1218 (fun _ h9 => h9) dX12_isFrom_32 (fun hv => ?_)
      obtain ⟨xr7, hxr7, hmxr7, hkxr7⟩ : ∃ a : Nat, tw_fv E a0 25 = .ref a ∧ a ∈ L ∧ kp a = 335 := hv
      rw [hxr7]
      refine lv_iload_n hx hb dX12_isFrom_35 rfl (lv_at hl 1 rfl) ?_
      refine tw_iald (k := 335) (t0 := 0) (n := 12) (lo := (-1)) (hi := 11) hx hb hK TH hmxr7 hkxr7 (by decide) rfl rfl (i := x1) (vp_in_iff.mpr ⟨by  omega, by  omega⟩) dX12_isFrom_36 (fun hxe8a hxe8b => ?_)
      obtain ⟨xe8, exe8⟩ : ∃ z : Int32, tw_iv E xr7 (Int32.toNatClampNeg x1) = z := ⟨_, rfl⟩
      rw [exe8] at hxe8a hxe8b ⊢
      have hl37 : xe8.toInt = -1 ∨ (0 ≤ xe8.toInt ∧ xe8.toInt < x1.toInt ∧ r2_ok E a0 (x1.toInt) (xe8.toInt)) := (by have q := hg1 (x1.toInt).toNat (by rw [tw_fi_of hfv0_27]; omega) 25 (by decide); have w : tw_el E a0 25 (x1.toInt).toNat = xe8.toInt := (by rw [tw_el_of hxr7]; exact congrArg Int32.toInt exe8); rw [w, show (((x1.toInt).toNat : Nat) : Int) = x1.toInt by omega] at q; exact q)
      have hn37 : xe8.toInt = -1 ∨ (0 ≤ xe8.toInt ∧ xe8.toInt < x1.toInt) := hl37.imp id (fun q => ⟨q.1, q.2.1⟩)
      refine lv_iconst (v := (-1)) hx hb dX12_isFrom_37 (by decide) ?_
      refine lv_icmp_eq (tgt := 59) hx hb dX12_isFrom_38 (by decide) (fun hc9 => ?_) (fun hc9 => ?_)
      · have hf10 : xe8.toInt = (-1) := by have z := (fa_eq _ _).mp hc9; have : (((-1) : Int32).toInt) = (-1) := (by decide); omega
        refine lv_iconst (v := 0) hx hb dX12_isFrom_59 (by decide) ?_
        exact tw_zret hx hb hr hlocks (by decide) TH hS hex ⟨⟨_, rfl, (show 0 ≤ Int32.toInt 0 from by have : ((0 : Int32).toInt) = 0 := (by decide); omega), (show Int32.toInt 0 ≤ 1 from by have : ((0 : Int32).toInt) = 0 := (by decide); omega), (by have : ((0 : Int32).toInt) = 0 := (by decide); intro q; exfalso; exact q (by decide))⟩, rfl, rfl, rfl⟩ (Nat.le_of_ble_eq_true rfl) (Nat.le_of_ble_eq_true rfl) dX12_isFrom_60
      · have hf11 : ¬ (xe8.toInt = (-1)) := fun q => hc9 ((fa_eq _ _).mpr (by have : (((-1) : Int32).toInt) = (-1) := (by decide); omega))
        refine lv_aload_n hx hb dX12_isFrom_41 rfl (lv_at hl 0 rfl) ?_
        refine lv_aload_n hx hb dX12_isFrom_42 rfl (lv_at hl 0 rfl) ?_
        refine tw_get (ci := 12) (C := RX12) (T := TX12) (N := 64) hx hb hB cx_inX12 hown hK TH hm0 hk0 rfl ⟨by decide, rfl⟩ 25 (by decide) cw_1218 (fun _ h9 => h9) dX12_isFrom_43 (fun hv => ?_)
        rw [hxr7]
        refine lv_iload_n hx hb dX12_isFrom_46 rfl (lv_at hl 1 rfl) ?_
        refine tw_iald (k := 335) (t0 := 0) (n := 12) (lo := (-1)) (hi := 11) hx hb hK TH hmxr7 hkxr7 (by decide) rfl rfl (i := x1) (vp_in_iff.mpr ⟨by  omega, by  omega⟩) dX12_isFrom_47 (fun hxe12a hxe12b => ?_)
        rw [exe8]
        refine lv_iload_n hx hb dX12_isFrom_48 rfl (lv_at hl 2 rfl) ?_
        refine tw_Vc (o := a0) (ci := 12) (n := 2) (post := (fun v kq Lq Eq => (∃ x : Int32, v = some (.int x) ∧ 0 ≤ x.toInt ∧ x.toInt ≤ 1 ∧ (x.toInt ≠ 0 → r2_ok E a0 xe8.toInt x2.toInt)) ∧ kp = kq ∧ L = Lq ∧ E = Eq)) (As := [.int xe8, .int x2]) (rest := []) ⟨hx, hb, hml, hown, hB⟩ (fun sz => tX12_isFrom_v5 l D cs a0 xe8 x2 fv0_27 hm0 hk0 (by omega) (by omega) (by omega) (by omega) hfv0_27 (by  omega) hg0 hg1 sz) cg_12_512_X12_isFrom rfl rfl (by decide +kernel) ⟨Nat.le_of_ble_eq_true rfl, Nat.le_of_ble_eq_true rfl⟩ hK hN TH hS hA rfl hm0 hk0 (by decide) rfl hl.1 rfl (Nat.le_of_ble_eq_true rfl) dX12_isFrom_49 ⟨Nat.le_of_ble_eq_true rfl, Nat.le_of_ble_eq_true rfl⟩ (fun v13 kp13 L13 E13 H locs hq13 hx13 TH hS => ?_)
        obtain ⟨⟨xc14, rfl, hxc14a, hxc14b, hpoxc14_0⟩, rfl, rfl, rfl⟩ := hq13
        refine W.eq (g2 := F0 m 52 ls [.int xc14]) rfl ?_
        refine lv_if_eq (tgt := 59) hx hb dX12_isFrom_52 (by decide) (fun hc15 => ?_) (fun hc15 => ?_)
        · have hf16 : xc14.toInt = 0 := by have z := (fa_eq _ _).mp hc15; have : ((0 : Int32).toInt) = 0 := (by decide); omega
          refine lv_iconst (v := 0) hx hb dX12_isFrom_59 (by decide) ?_
          exact tw_zret hx hb hr hlocks (by decide) TH hS hex ⟨⟨_, rfl, (show 0 ≤ Int32.toInt 0 from by have : ((0 : Int32).toInt) = 0 := (by decide); omega), (show Int32.toInt 0 ≤ 1 from by have : ((0 : Int32).toInt) = 0 := (by decide); omega), (by have : ((0 : Int32).toInt) = 0 := (by decide); intro q; exfalso; exact q (by decide))⟩, rfl, rfl, rfl⟩ (Nat.le_of_ble_eq_true rfl) (Nat.le_of_ble_eq_true rfl) dX12_isFrom_60
        · have hf17 : ¬ (xc14.toInt = 0) := fun q => hc15 ((fa_eq _ _).mpr (by have : ((0 : Int32).toInt) = 0 := (by decide); omega))
          refine lv_iconst (v := 1) hx hb dX12_isFrom_55 (by decide) ?_
          refine lv_goto (tgt := 60) hx hb dX12_isFrom_56 (by decide) ?_
          exact tw_zret hx hb hr hlocks (by decide) TH hS hex ⟨⟨_, rfl, (show 0 ≤ Int32.toInt 1 from by have : ((1 : Int32).toInt) = 1 := (by decide); omega), (show Int32.toInt 1 ≤ 1 from by have : ((1 : Int32).toInt) = 1 := (by decide); omega), (by have : ((1 : Int32).toInt) = 1 := (by decide); intro _; have hl := hl37.resolve_left (by omega); exact r2_tr (hg0 (xe8.toInt) (by omega) (by rw [tw_fi_of hfv0_27]; omega)).1 hl.2.2 (hpoxc14_0 (by omega)))⟩, rfl, rfl, rfl⟩ (Nat.le_of_ble_eq_true rfl) (Nat.le_of_ble_eq_true rfl) dX12_isFrom_60
    · have hf18 : ¬ (xe4.toInt = (-1)) := fun q => hc5 ((fa_eq _ _).mpr (by have : (((-1) : Int32).toInt) = (-1) := (by decide); omega))
      refine lv_aload_n hx hb dX12_isFrom_17 rfl (lv_at hl 0 rfl) ?_
      refine lv_aload_n hx hb dX12_isFrom_18 rfl (lv_at hl 0 rfl) ?_
      refine tw_get (ci := 12) (C := RX12) (T := TX12) (N := 64) hx hb hB cx_inX12 hown hK TH hm0 hk0 rfl ⟨by decide, rfl⟩ 24 (by decide) cw_1217 (fun _ h9 => h9) dX12_isFrom_19 (fun hv => ?_)
      rw [hxr3]
      refine lv_iload_n hx hb dX12_isFrom_22 rfl (lv_at hl 1 rfl) ?_
      refine tw_iald (k := 334) (t0 := 0) (n := 12) (lo := (-1)) (hi := 11) hx hb hK TH hmxr3 hkxr3 (by decide) rfl rfl (i := x1) (vp_in_iff.mpr ⟨by  omega, by  omega⟩) dX12_isFrom_23 (fun hxe19a hxe19b => ?_)
      rw [exe4]
      refine lv_iload_n hx hb dX12_isFrom_24 rfl (lv_at hl 2 rfl) ?_
      refine tw_Vc (o := a0) (ci := 12) (n := 2) (post := (fun v kq Lq Eq => (∃ x : Int32, v = some (.int x) ∧ 0 ≤ x.toInt ∧ x.toInt ≤ 1 ∧ (x.toInt ≠ 0 → r2_ok E a0 xe4.toInt x2.toInt)) ∧ kp = kq ∧ L = Lq ∧ E = Eq)) (As := [.int xe4, .int x2]) (rest := []) ⟨hx, hb, hml, hown, hB⟩ (fun sz => tX12_isFrom_v5 l D cs a0 xe4 x2 fv0_27 hm0 hk0 (by omega) (by omega) (by omega) (by omega) hfv0_27 (by  omega) hg0 hg1 sz) cg_12_512_X12_isFrom rfl rfl (by decide +kernel) ⟨Nat.le_of_ble_eq_true rfl, Nat.le_of_ble_eq_true rfl⟩ hK hN TH hS hA rfl hm0 hk0 (by decide) rfl hl.1 rfl (Nat.le_of_ble_eq_true rfl) dX12_isFrom_25 ⟨Nat.le_of_ble_eq_true rfl, Nat.le_of_ble_eq_true rfl⟩ (fun v20 kp20 L20 E20 H locs hq20 hx20 TH hS => ?_)
      obtain ⟨⟨xc21, rfl, hxc21a, hxc21b, hpoxc21_0⟩, rfl, rfl, rfl⟩ := hq20
      refine W.eq (g2 := F0 m 28 ls [.int xc21]) rfl ?_
      refine lv_if_ne (tgt := 55) hx hb dX12_isFrom_28 (by decide) (fun hc22 => ?_) (fun hc22 => ?_)
      · have hf23 : ¬ (xc21.toInt = 0) := fun q => hc22 ((fa_eq _ _).mpr (by have : ((0 : Int32).toInt) = 0 := (by decide); omega))
        refine lv_iconst (v := 1) hx hb dX12_isFrom_55 (by decide) ?_
        refine lv_goto (tgt := 60) hx hb dX12_isFrom_56 (by decide) ?_
        exact tw_zret hx hb hr hlocks (by decide) TH hS hex ⟨⟨_, rfl, (show 0 ≤ Int32.toInt 1 from by have : ((1 : Int32).toInt) = 1 := (by decide); omega), (show Int32.toInt 1 ≤ 1 from by have : ((1 : Int32).toInt) = 1 := (by decide); omega), (by have : ((1 : Int32).toInt) = 1 := (by decide); intro _; have hl := hl13.resolve_left (by omega); exact r2_tr (hg0 (xe4.toInt) (by omega) (by rw [tw_fi_of hfv0_27]; omega)).1 hl.2.2 (hpoxc21_0 (by omega)))⟩, rfl, rfl, rfl⟩ (Nat.le_of_ble_eq_true rfl) (Nat.le_of_ble_eq_true rfl) dX12_isFrom_60
      · have hf24 : xc21.toInt = 0 := by have z := (fa_eq _ _).mp hc22; have : ((0 : Int32).toInt) = 0 := (by decide); omega
        refine lv_aload_n hx hb dX12_isFrom_31 rfl (lv_at hl 0 rfl) ?_
        refine tw_get (ci := 12) (C := RX12) (T := TX12) (N := 64) hx hb hB cx_inX12 hown hK TH hm0 hk0 rfl ⟨by decide, rfl⟩ 25 (by decide) cw_1218 (fun _ h9 => h9) dX12_isFrom_32 (fun hv => ?_)
        obtain ⟨xr25, hxr25, hmxr25, hkxr25⟩ : ∃ a : Nat, tw_fv E a0 25 = .ref a ∧ a ∈ L ∧ kp a = 335 := hv
        rw [hxr25]
        refine lv_iload_n hx hb dX12_isFrom_35 rfl (lv_at hl 1 rfl) ?_
        refine tw_iald (k := 335) (t0 := 0) (n := 12) (lo := (-1)) (hi := 11) hx hb hK TH hmxr25 hkxr25 (by decide) rfl rfl (i := x1) (vp_in_iff.mpr ⟨by  omega, by  omega⟩) dX12_isFrom_36 (fun hxe26a hxe26b => ?_)
        obtain ⟨xe26, exe26⟩ : ∃ z : Int32, tw_iv E xr25 (Int32.toNatClampNeg x1) = z := ⟨_, rfl⟩
        rw [exe26] at hxe26a hxe26b ⊢
        have hl37 : xe26.toInt = -1 ∨ (0 ≤ xe26.toInt ∧ xe26.toInt < x1.toInt ∧ r2_ok E a0 (x1.toInt) (xe26.toInt)) := (by have q := hg1 (x1.toInt).toNat (by rw [tw_fi_of hfv0_27]; omega) 25 (by decide); have w : tw_el E a0 25 (x1.toInt).toNat = xe26.toInt := (by rw [tw_el_of hxr25]; exact congrArg Int32.toInt exe26); rw [w, show (((x1.toInt).toNat : Nat) : Int) = x1.toInt by omega] at q; exact q)
        have hn37 : xe26.toInt = -1 ∨ (0 ≤ xe26.toInt ∧ xe26.toInt < x1.toInt) := hl37.imp id (fun q => ⟨q.1, q.2.1⟩)
        refine lv_iconst (v := (-1)) hx hb dX12_isFrom_37 (by decide) ?_
        refine lv_icmp_eq (tgt := 59) hx hb dX12_isFrom_38 (by decide) (fun hc27 => ?_) (fun hc27 => ?_)
        · have hf28 : xe26.toInt = (-1) := by have z := (fa_eq _ _).mp hc27; have : (((-1) : Int32).toInt) = (-1) := (by decide); omega
          refine lv_iconst (v := 0) hx hb dX12_isFrom_59 (by decide) ?_
          exact tw_zret hx hb hr hlocks (by decide) TH hS hex ⟨⟨_, rfl, (show 0 ≤ Int32.toInt 0 from by have : ((0 : Int32).toInt) = 0 := (by decide); omega), (show Int32.toInt 0 ≤ 1 from by have : ((0 : Int32).toInt) = 0 := (by decide); omega), (by have : ((0 : Int32).toInt) = 0 := (by decide); intro q; exfalso; exact q (by decide))⟩, rfl, rfl, rfl⟩ (Nat.le_of_ble_eq_true rfl) (Nat.le_of_ble_eq_true rfl) dX12_isFrom_60
        · have hf29 : ¬ (xe26.toInt = (-1)) := fun q => hc27 ((fa_eq _ _).mpr (by have : (((-1) : Int32).toInt) = (-1) := (by decide); omega))
          refine lv_aload_n hx hb dX12_isFrom_41 rfl (lv_at hl 0 rfl) ?_
          refine lv_aload_n hx hb dX12_isFrom_42 rfl (lv_at hl 0 rfl) ?_
          refine tw_get (ci := 12) (C := RX12) (T := TX12) (N := 64) hx hb hB cx_inX12 hown hK TH hm0 hk0 rfl ⟨by decide, rfl⟩ 25 (by decide) cw_1218 (fun _ h9 => h9) dX12_isFrom_43 (fun hv => ?_)
          rw [hxr25]
          refine lv_iload_n hx hb dX12_isFrom_46 rfl (lv_at hl 1 rfl) ?_
          refine tw_iald (k := 335) (t0 := 0) (n := 12) (lo := (-1)) (hi := 11) hx hb hK TH hmxr25 hkxr25 (by decide) rfl rfl (i := x1) (vp_in_iff.mpr ⟨by  omega, by  omega⟩) dX12_isFrom_47 (fun hxe30a hxe30b => ?_)
          rw [exe26]
          refine lv_iload_n hx hb dX12_isFrom_48 rfl (lv_at hl 2 rfl) ?_
          refine tw_Vc (o := a0) (ci := 12) (n := 2) (post := (fun v kq Lq Eq => (∃ x : Int32, v = some (.int x) ∧ 0 ≤ x.toInt ∧ x.toInt ≤ 1 ∧ (x.toInt ≠ 0 → r2_ok E a0 xe26.toInt x2.toInt)) ∧ kp = kq ∧ L = Lq ∧ E = Eq)) (As := [.int xe26, .int x2]) (rest := []) ⟨hx, hb, hml, hown, hB⟩ (fun sz => tX12_isFrom_v5 l D cs a0 xe26 x2 fv0_27 hm0 hk0 (by omega) (by omega) (by omega) (by omega) hfv0_27 (by  omega) hg0 hg1 sz) cg_12_512_X12_isFrom rfl rfl (by decide +kernel) ⟨Nat.le_of_ble_eq_true rfl, Nat.le_of_ble_eq_true rfl⟩ hK hN TH hS hA rfl hm0 hk0 (by decide) rfl hl.1 rfl (Nat.le_of_ble_eq_true rfl) dX12_isFrom_49 ⟨Nat.le_of_ble_eq_true rfl, Nat.le_of_ble_eq_true rfl⟩ (fun v31 kp31 L31 E31 H locs hq31 hx31 TH hS => ?_)
          obtain ⟨⟨xc32, rfl, hxc32a, hxc32b, hpoxc32_0⟩, rfl, rfl, rfl⟩ := hq31
          refine W.eq (g2 := F0 m 52 ls [.int xc32]) rfl ?_
          refine lv_if_eq (tgt := 59) hx hb dX12_isFrom_52 (by decide) (fun hc33 => ?_) (fun hc33 => ?_)
          · have hf34 : xc32.toInt = 0 := by have z := (fa_eq _ _).mp hc33; have : ((0 : Int32).toInt) = 0 := (by decide); omega
            refine lv_iconst (v := 0) hx hb dX12_isFrom_59 (by decide) ?_
            exact tw_zret hx hb hr hlocks (by decide) TH hS hex ⟨⟨_, rfl, (show 0 ≤ Int32.toInt 0 from by have : ((0 : Int32).toInt) = 0 := (by decide); omega), (show Int32.toInt 0 ≤ 1 from by have : ((0 : Int32).toInt) = 0 := (by decide); omega), (by have : ((0 : Int32).toInt) = 0 := (by decide); intro q; exfalso; exact q (by decide))⟩, rfl, rfl, rfl⟩ (Nat.le_of_ble_eq_true rfl) (Nat.le_of_ble_eq_true rfl) dX12_isFrom_60
          · have hf35 : ¬ (xc32.toInt = 0) := fun q => hc33 ((fa_eq _ _).mpr (by have : ((0 : Int32).toInt) = 0 := (by decide); omega))
            refine lv_iconst (v := 1) hx hb dX12_isFrom_55 (by decide) ?_
            refine lv_goto (tgt := 60) hx hb dX12_isFrom_56 (by decide) ?_
            exact tw_zret hx hb hr hlocks (by decide) TH hS hex ⟨⟨_, rfl, (show 0 ≤ Int32.toInt 1 from by have : ((1 : Int32).toInt) = 1 := (by decide); omega), (show Int32.toInt 1 ≤ 1 from by have : ((1 : Int32).toInt) = 1 := (by decide); omega), (by have : ((1 : Int32).toInt) = 1 := (by decide); intro _; have hl := hl37.resolve_left (by omega); exact r2_tr (hg0 (xe26.toInt) (by omega) (by rw [tw_fi_of hfv0_27]; omega)).1 hl.2.2 (hpoxc32_0 (by omega)))⟩, rfl, rfl, rfl⟩ (Nat.le_of_ble_eq_true rfl) (Nat.le_of_ble_eq_true rfl) dX12_isFrom_60
  · have hf36 : x1.toInt = x2.toInt := by have z := (fa_eq _ _).mp hc1;  omega
    refine lv_iconst (v := 1) hx hb dX12_isFrom_5 (by decide) ?_
    exact tw_zret hx hb hr hlocks (by decide) TH hS hex ⟨⟨_, rfl, (show 0 ≤ Int32.toInt 1 from by have : ((1 : Int32).toInt) = 1 := (by decide); omega), (show Int32.toInt 1 ≤ 1 from by have : ((1 : Int32).toInt) = 1 := (by decide); omega), (by have : ((1 : Int32).toInt) = 1 := (by decide); intro _; rw [show x2.toInt = x1.toInt by omega]; exact r2_rf (hg0 (x1.toInt) (by omega) (by rw [tw_fi_of hfv0_27]; omega)))⟩, rfl, rfl, rfl⟩ (Nat.le_of_ble_eq_true rfl) (Nat.le_of_ble_eq_true rfl) dX12_isFrom_6
set_option maxHeartbeats 4000000 in
set_option maxRecDepth 100000 in
theorem tX12_isFrom_v7 (l : Launch) (D : va_G) (cs : Nat → ClassId) {kp : Nat → Nat} {L : List Nat} {E : Nat → va_E} (a0 : Nat) (x1 : Int32) (x2 : Int32) (fv0_27 : Int32) (hm0 : a0 ∈ L) (hk0 : kp a0 = 12) (hp1a : 0 ≤ x1.toInt) (hp1b : x1.toInt ≤ 7) (hp2a : 0 ≤ x2.toInt) (hp2b : x2.toInt ≤ 11) (hfv0_27 : tw_fv E a0 27 = .int fv0_27) (hpre0 : x1.toInt < fv0_27.toInt) (hg0 : eo_ok E a0) (hg1 : ln_ok E a0) (sz : Nat) : Met l yX12_isFrom (.code yX12_isFrom cX12_isFrom 3 (some .boolean) :: cx_big) { frames := 7, cells := 0, slots := 0, locals := 154 } (tw_P D cs kp L E [.ref a0, .int x1, .int x2] sz) (tw_Q D cs kp L (fun v kq Lq Eq => (∃ x : Int32, v = some (.int x) ∧ 0 ≤ x.toInt ∧ x.toInt ≤ 1 ∧ (x.toInt ≠ 0 → r2_ok E a0 x1.toInt x2.toInt)) ∧ kp = kq ∧ L = Lq ∧ E = Eq) (va_A (va_pl L E) sz)) 0 0 (va_A (va_pl L E) sz) := by
  refine tw_ofW (by decide) (Nat.le_of_ble_eq_true rfl) ?_
  intro p e s m below meth c A ls hx hb hr hml hB hown hlocks hK hN hA TH hS hl
  have hown : s.vm.findClass "TreeMergeModel" = some m.cls := hown
  have hl : lv_has ls 3 [(0, .ref a0), (1, .int x1), (2, .int x2)] := hl
  obtain ⟨kp0, ekp⟩ : ∃ z, z = kp := ⟨_, rfl⟩
  obtain ⟨L0, eL⟩ : ∃ z, z = L := ⟨_, rfl⟩
  rw [show tw_Q D cs kp L = tw_Q D cs kp0 L0 by rw [ekp, eL]]
  have hex : ∀ a : Nat, a ∈ L0 → a ∈ L ∧ kp a = kp0 a := fun a h => ⟨by rw [← eL]; exact h, by rw [ekp]⟩
  obtain ⟨qfv0_27, hqfv0_27, hqfv0_27a, hqfv0_27b⟩ := tw_rd TH hm0 hk0 (by decide) (by decide) (k := 27) rfl
  have eqfv0_27 : qfv0_27 = fv0_27 := by have q := hqfv0_27.symm.trans hfv0_27; injection q
  rw [eqfv0_27] at hqfv0_27a hqfv0_27b
  refine lv_iload_n hx hb dX12_isFrom_0 rfl (lv_at hl 1 rfl) ?_
  refine lv_iload_n hx hb dX12_isFrom_1 rfl (lv_at hl 2 rfl) ?_
  refine lv_icmp_ne (tgt := 7) hx hb dX12_isFrom_2 (by decide) (fun hc1 => ?_) (fun hc1 => ?_)
  · have hf2 : ¬ (x1.toInt = x2.toInt) := fun q => hc1 ((fa_eq _ _).mpr (by  omega))
    refine lv_aload_n hx hb dX12_isFrom_7 rfl (lv_at hl 0 rfl) ?_
    refine tw_get (ci := 12) (C := RX12) (T := TX12) (N := 64) hx hb hB cx_inX12 hown hK TH hm0 hk0 rfl ⟨by decide, rfl⟩ 24 (by decide) cw_1217 (fun _ h9 => h9) dX12_isFrom_8 (fun hv => ?_)
    obtain ⟨xr3, hxr3, hmxr3, hkxr3⟩ : ∃ a : Nat, tw_fv E a0 24 = .ref a ∧ a ∈ L ∧ kp a = 334 := hv
    rw [hxr3]
    refine lv_iload_n hx hb dX12_isFrom_11 rfl (lv_at hl 1 rfl) ?_
    refine tw_iald (k := 334) (t0 := 0) (n := 12) (lo := (-1)) (hi := 11) hx hb hK TH hmxr3 hkxr3 (by decide) rfl rfl (i := x1) (vp_in_iff.mpr ⟨by  omega, by  omega⟩) dX12_isFrom_12 (fun hxe4a hxe4b => ?_)
    obtain ⟨xe4, exe4⟩ : ∃ z : Int32, tw_iv E xr3 (Int32.toNatClampNeg x1) = z := ⟨_, rfl⟩
    rw [exe4] at hxe4a hxe4b ⊢
    have hl13 : xe4.toInt = -1 ∨ (0 ≤ xe4.toInt ∧ xe4.toInt < x1.toInt ∧ r2_ok E a0 (x1.toInt) (xe4.toInt)) := (by have q := hg1 (x1.toInt).toNat (by rw [tw_fi_of hfv0_27]; omega) 24 (by decide); have w : tw_el E a0 24 (x1.toInt).toNat = xe4.toInt := (by rw [tw_el_of hxr3]; exact congrArg Int32.toInt exe4); rw [w, show (((x1.toInt).toNat : Nat) : Int) = x1.toInt by omega] at q; exact q)
    have hn13 : xe4.toInt = -1 ∨ (0 ≤ xe4.toInt ∧ xe4.toInt < x1.toInt) := hl13.imp id (fun q => ⟨q.1, q.2.1⟩)
    refine lv_iconst (v := (-1)) hx hb dX12_isFrom_13 (by decide) ?_
    refine lv_icmp_eq (tgt := 31) hx hb dX12_isFrom_14 (by decide) (fun hc5 => ?_) (fun hc5 => ?_)
    · have hf6 : xe4.toInt = (-1) := by have z := (fa_eq _ _).mp hc5; have : (((-1) : Int32).toInt) = (-1) := (by decide); omega
      refine lv_aload_n hx hb dX12_isFrom_31 rfl (lv_at hl 0 rfl) ?_
      refine tw_get (ci := 12) (C := RX12) (T := TX12) (N := 64) hx hb hB cx_inX12 hown hK TH hm0 hk0 rfl ⟨by decide, rfl⟩ 25 (by decide) cw_1218 (fun _ h9 => h9) dX12_isFrom_32 (fun hv => ?_)
      obtain ⟨xr7, hxr7, hmxr7, hkxr7⟩ : ∃ a : Nat, tw_fv E a0 25 = .ref a ∧ a ∈ L ∧ kp a = 335 := hv
      rw [hxr7]
      refine lv_iload_n hx hb dX12_isFrom_35 rfl (lv_at hl 1 rfl) ?_
      refine tw_iald (k := 335) (t0 := 0) (n := 12) (lo := (-1)) (hi := 11) hx hb hK TH hmxr7 hkxr7 (by decide) rfl rfl (i := x1) (vp_in_iff.mpr ⟨by  omega, by  omega⟩) dX12_isFrom_36 (fun hxe8a hxe8b => ?_)
      obtain ⟨xe8, exe8⟩ : ∃ z : Int32, tw_iv E xr7 (Int32.toNatClampNeg x1) = z := ⟨_, rfl⟩
      rw [exe8] at hxe8a hxe8b ⊢
      have hl37 : xe8.toInt = -1 ∨ (0 ≤ xe8.toInt ∧ xe8.toInt < x1.toInt ∧ r2_ok E a0 (x1.toInt) (xe8.toInt)) := (by have q := hg1 (x1.toInt).toNat (by rw [tw_fi_of hfv0_27]; omega) 25 (by decide); have w : tw_el E a0 25 (x1.toInt).toNat = xe8.toInt := (by rw [tw_el_of hxr7]; exact congrArg Int32.toInt exe8); rw [w, show (((x1.toInt).toNat : Nat) : Int) = x1.toInt by omega] at q; exact q)
      have hn37 : xe8.toInt = -1 ∨ (0 ≤ xe8.toInt ∧ xe8.toInt < x1.toInt) := hl37.imp id (fun q => ⟨q.1, q.2.1⟩)
      refine lv_iconst (v := (-1)) hx hb dX12_isFrom_37 (by decide) ?_
      refine lv_icmp_eq (tgt := 59) hx hb dX12_isFrom_38 (by decide) (fun hc9 => ?_) (fun hc9 => ?_)
      · have hf10 : xe8.toInt = (-1) := by have z := (fa_eq _ _).mp hc9; have : (((-1) : Int32).toInt) = (-1) := (by decide); omega
        refine lv_iconst (v := 0) hx hb dX12_isFrom_59 (by decide) ?_
        exact tw_zret hx hb hr hlocks (by decide) TH hS hex ⟨⟨_, rfl, (show 0 ≤ Int32.toInt 0 from by have : ((0 : Int32).toInt) = 0 := (by decide); omega), (show Int32.toInt 0 ≤ 1 from by have : ((0 : Int32).toInt) = 0 := (by decide); omega), (by have : ((0 : Int32).toInt) = 0 := (by decide); intro q; exfalso; exact q (by decide))⟩, rfl, rfl, rfl⟩ (Nat.le_of_ble_eq_true rfl) (Nat.le_of_ble_eq_true rfl) dX12_isFrom_60
      · have hf11 : ¬ (xe8.toInt = (-1)) := fun q => hc9 ((fa_eq _ _).mpr (by have : (((-1) : Int32).toInt) = (-1) := (by decide); omega))
        refine lv_aload_n hx hb dX12_isFrom_41 rfl (lv_at hl 0 rfl) ?_
        refine lv_aload_n hx hb dX12_isFrom_42 rfl (lv_at hl 0 rfl) ?_
        refine tw_get (ci := 12) (C := RX12) (T := TX12) (N := 64) hx hb hB cx_inX12 hown hK TH hm0 hk0 rfl ⟨by decide, rfl⟩ 25 (by decide) cw_1218 (fun _ h9 => h9) dX12_isFrom_43 (fun hv => ?_)
        rw [hxr7]
        refine lv_iload_n hx hb dX12_isFrom_46 rfl (lv_at hl 1 rfl) ?_
        refine tw_iald (k := 335) (t0 := 0) (n := 12) (lo := (-1)) (hi := 11) hx hb hK TH hmxr7 hkxr7 (by decide) rfl rfl (i := x1) (vp_in_iff.mpr ⟨by  omega, by  omega⟩) dX12_isFrom_47 (fun hxe12a hxe12b => ?_)
        rw [exe8]
        refine lv_iload_n hx hb dX12_isFrom_48 rfl (lv_at hl 2 rfl) ?_
        refine tw_Vc (o := a0) (ci := 12) (n := 2) (post := (fun v kq Lq Eq => (∃ x : Int32, v = some (.int x) ∧ 0 ≤ x.toInt ∧ x.toInt ≤ 1 ∧ (x.toInt ≠ 0 → r2_ok E a0 xe8.toInt x2.toInt)) ∧ kp = kq ∧ L = Lq ∧ E = Eq)) (As := [.int xe8, .int x2]) (rest := []) ⟨hx, hb, hml, hown, hB⟩ (fun sz => tX12_isFrom_v6 l D cs a0 xe8 x2 fv0_27 hm0 hk0 (by omega) (by omega) (by omega) (by omega) hfv0_27 (by  omega) hg0 hg1 sz) cg_12_512_X12_isFrom rfl rfl (by decide +kernel) ⟨Nat.le_of_ble_eq_true rfl, Nat.le_of_ble_eq_true rfl⟩ hK hN TH hS hA rfl hm0 hk0 (by decide) rfl hl.1 rfl (Nat.le_of_ble_eq_true rfl) dX12_isFrom_49 ⟨Nat.le_of_ble_eq_true rfl, Nat.le_of_ble_eq_true rfl⟩ (fun v13 kp13 L13 E13 H locs hq13 hx13 TH hS => ?_)
        obtain ⟨⟨xc14, rfl, hxc14a, hxc14b, hpoxc14_0⟩, rfl, rfl, rfl⟩ := hq13
        refine W.eq (g2 := F0 m 52 ls [.int xc14]) rfl ?_
        refine lv_if_eq (tgt := 59) hx hb dX12_isFrom_52 (by decide) (fun hc15 => ?_) (fun hc15 => ?_)
        · have hf16 : xc14.toInt = 0 := by have z := (fa_eq _ _).mp hc15; have : ((0 : Int32).toInt) = 0 := (by decide); omega
          refine lv_iconst (v := 0) hx hb dX12_isFrom_59 (by decide) ?_
          exact tw_zret hx hb hr hlocks (by decide) TH hS hex ⟨⟨_, rfl, (show 0 ≤ Int32.toInt 0 from by have : ((0 : Int32).toInt) = 0 := (by decide); omega), (show Int32.toInt 0 ≤ 1 from by have : ((0 : Int32).toInt) = 0 := (by decide); omega), (by have : ((0 : Int32).toInt) = 0 := (by decide); intro q; exfalso; exact q (by decide))⟩, rfl, rfl, rfl⟩ (Nat.le_of_ble_eq_true rfl) (Nat.le_of_ble_eq_true rfl) dX12_isFrom_60
        · have hf17 : ¬ (xc14.toInt = 0) := fun q => hc15 ((fa_eq _ _).mpr (by have : ((0 : Int32).toInt) = 0 := (by decide); omega))
          refine lv_iconst (v := 1) hx hb dX12_isFrom_55 (by decide) ?_
          refine lv_goto (tgt := 60) hx hb dX12_isFrom_56 (by decide) ?_
          exact tw_zret hx hb hr hlocks (by decide) TH hS hex ⟨⟨_, rfl, (show 0 ≤ Int32.toInt 1 from by have : ((1 : Int32).toInt) = 1 := (by decide); omega), (show Int32.toInt 1 ≤ 1 from by have : ((1 : Int32).toInt) = 1 := (by decide); omega), (by have : ((1 : Int32).toInt) = 1 := (by decide); intro _; have hl := hl37.resolve_left (by omega); exact r2_tr (hg0 (xe8.toInt) (by omega) (by rw [tw_fi_of hfv0_27]; omega)).1 hl.2.2 (hpoxc14_0 (by omega)))⟩, rfl, rfl, rfl⟩ (Nat.le_of_ble_eq_true rfl) (Nat.le_of_ble_eq_true rfl) dX12_isFrom_60
    · have hf18 : ¬ (xe4.toInt = (-1)) := fun q => hc5 ((fa_eq _ _).mpr (by have : (((-1) : Int32).toInt) = (-1) := (by decide); omega))
      refine lv_aload_n hx hb dX12_isFrom_17 rfl (lv_at hl 0 rfl) ?_
      refine lv_aload_n hx hb dX12_isFrom_18 rfl (lv_at hl 0 rfl) ?_
      refine tw_get (ci := 12) (C := RX12) (T := TX12) (N := 64) hx hb hB cx_inX12 hown hK TH hm0 hk0 rfl ⟨by decide, rfl⟩ 24 (by decide) cw_1217 (fun _ h9 => h9) dX12_isFrom_19 (fun hv => ?_)
      rw [hxr3]
      refine lv_iload_n hx hb dX12_isFrom_22 rfl (lv_at hl 1 rfl) ?_
      refine tw_iald (k := 334) (t0 := 0) (n := 12) (lo := (-1)) (hi := 11) hx hb hK TH hmxr3 hkxr3 (by decide) rfl rfl (i := x1) (vp_in_iff.mpr ⟨by  omega, by  omega⟩) dX12_isFrom_23 (fun hxe19a hxe19b => ?_)
      rw [exe4]
      refine lv_iload_n hx hb dX12_isFrom_24 rfl (lv_at hl 2 rfl) ?_
      refine tw_Vc (o := a0) (ci := 12) (n := 2) (post := (fun v kq Lq Eq => (∃ x : Int32, v = some (.int x) ∧ 0 ≤ x.toInt ∧ x.toInt ≤ 1 ∧ (x.toInt ≠ 0 → r2_ok E a0 xe4.toInt x2.toInt)) ∧ kp = kq ∧ L = Lq ∧ E = Eq)) (As := [.int xe4, .int x2]) (rest := []) ⟨hx, hb, hml, hown, hB⟩ (fun sz => tX12_isFrom_v6 l D cs a0 xe4 x2 fv0_27 hm0 hk0 (by omega) (by omega) (by omega) (by omega) hfv0_27 (by  omega) hg0 hg1 sz) cg_12_512_X12_isFrom rfl rfl (by decide +kernel) ⟨Nat.le_of_ble_eq_true rfl, Nat.le_of_ble_eq_true rfl⟩ hK hN TH hS hA rfl hm0 hk0 (by decide) rfl hl.1 rfl (Nat.le_of_ble_eq_true rfl) dX12_isFrom_25 ⟨Nat.le_of_ble_eq_true rfl, Nat.le_of_ble_eq_true rfl⟩ (fun v20 kp20 L20 E20 H locs hq20 hx20 TH hS => ?_)
      obtain ⟨⟨xc21, rfl, hxc21a, hxc21b, hpoxc21_0⟩, rfl, rfl, rfl⟩ := hq20
      refine W.eq (g2 := F0 m 28 ls [.int xc21]) rfl ?_
      refine lv_if_ne (tgt := 55) hx hb dX12_isFrom_28 (by decide) (fun hc22 => ?_) (fun hc22 => ?_)
      · have hf23 : ¬ (xc21.toInt = 0) := fun q => hc22 ((fa_eq _ _).mpr (by have : ((0 : Int32).toInt) = 0 := (by decide); omega))
        refine lv_iconst (v := 1) hx hb dX12_isFrom_55 (by decide) ?_
        refine lv_goto (tgt := 60) hx hb dX12_isFrom_56 (by decide) ?_
        exact tw_zret hx hb hr hlocks (by decide) TH hS hex ⟨⟨_, rfl, (show 0 ≤ Int32.toInt 1 from by have : ((1 : Int32).toInt) = 1 := (by decide); omega), (show Int32.toInt 1 ≤ 1 from by have : ((1 : Int32).toInt) = 1 := (by decide); omega), (by have : ((1 : Int32).toInt) = 1 := (by decide); intro _; have hl := hl13.resolve_left (by omega); exact r2_tr (hg0 (xe4.toInt) (by omega) (by rw [tw_fi_of hfv0_27]; omega)).1 hl.2.2 (hpoxc21_0 (by omega)))⟩, rfl, rfl, rfl⟩ (Nat.le_of_ble_eq_true rfl) (Nat.le_of_ble_eq_true rfl) dX12_isFrom_60
      · have hf24 : xc21.toInt = 0 := by have z := (fa_eq _ _).mp hc22; have : ((0 : Int32).toInt) = 0 := (by decide); omega
        refine lv_aload_n hx hb dX12_isFrom_31 rfl (lv_at hl 0 rfl) ?_
        refine tw_get (ci := 12) (C := RX12) (T := TX12) (N := 64) hx hb hB cx_inX12 hown hK TH hm0 hk0 rfl ⟨by decide, rfl⟩ 25 (by decide) cw_1218 (fun _ h9 => h9) dX12_isFrom_32 (fun hv => ?_)
        obtain ⟨xr25, hxr25, hmxr25, hkxr25⟩ : ∃ a : Nat, tw_fv E a0 25 = .ref a ∧ a ∈ L ∧ kp a = 335 := hv
        rw [hxr25]
        refine lv_iload_n hx hb dX12_isFrom_35 rfl (lv_at hl 1 rfl) ?_
        refine tw_iald (k := 335) (t0 := 0) (n := 12) (lo := (-1)) (hi := 11) hx hb hK TH hmxr25 hkxr25 (by decide) rfl rfl (i := x1) (vp_in_iff.mpr ⟨by  omega, by  omega⟩) dX12_isFrom_36 (fun hxe26a hxe26b => ?_)
        obtain ⟨xe26, exe26⟩ : ∃ z : Int32, tw_iv E xr25 (Int32.toNatClampNeg x1) = z := ⟨_, rfl⟩
        rw [exe26] at hxe26a hxe26b ⊢
        have hl37 : xe26.toInt = -1 ∨ (0 ≤ xe26.toInt ∧ xe26.toInt < x1.toInt ∧ r2_ok E a0 (x1.toInt) (xe26.toInt)) := (by have q := hg1 (x1.toInt).toNat (by rw [tw_fi_of hfv0_27]; omega) 25 (by decide); have w : tw_el E a0 25 (x1.toInt).toNat = xe26.toInt := (by rw [tw_el_of hxr25]; exact congrArg Int32.toInt exe26); rw [w, show (((x1.toInt).toNat : Nat) : Int) = x1.toInt by omega] at q; exact q)
        have hn37 : xe26.toInt = -1 ∨ (0 ≤ xe26.toInt ∧ xe26.toInt < x1.toInt) := hl37.imp id (fun q => ⟨q.1, q.2.1⟩)
        refine lv_iconst (v := (-1)) hx hb dX12_isFrom_37 (by decide) ?_
        refine lv_icmp_eq (tgt := 59) hx hb dX12_isFrom_38 (by decide) (fun hc27 => ?_) (fun hc27 => ?_)
        · have hf28 : xe26.toInt = (-1) := by have z := (fa_eq _ _).mp hc27; have : (((-1) : Int32).toInt) = (-1) := (by decide); omega
          refine lv_iconst (v := 0) hx hb dX12_isFrom_59 (by decide) ?_
          exact tw_zret hx hb hr hlocks (by decide) TH hS hex ⟨⟨_, rfl, (show 0 ≤ Int32.toInt 0 from by have : ((0 : Int32).toInt) = 0 := (by decide); omega), (show Int32.toInt 0 ≤ 1 from by have : ((0 : Int32).toInt) = 0 := (by decide); omega), (by have : ((0 : Int32).toInt) = 0 := (by decide); intro q; exfalso; exact q (by decide))⟩, rfl, rfl, rfl⟩ (Nat.le_of_ble_eq_true rfl) (Nat.le_of_ble_eq_true rfl) dX12_isFrom_60
        · have hf29 : ¬ (xe26.toInt = (-1)) := fun q => hc27 ((fa_eq _ _).mpr (by have : (((-1) : Int32).toInt) = (-1) := (by decide); omega))
          refine lv_aload_n hx hb dX12_isFrom_41 rfl (lv_at hl 0 rfl) ?_
          refine lv_aload_n hx hb dX12_isFrom_42 rfl (lv_at hl 0 rfl) ?_
          refine tw_get (ci := 12) (C := RX12) (T := TX12) (N := 64) hx hb hB cx_inX12 hown hK TH hm0 hk0 rfl ⟨by decide, rfl⟩ 25 (by decide) cw_1218 (fun _ h9 => h9) dX12_isFrom_43 (fun hv => ?_)
          rw [hxr25]
          refine lv_iload_n hx hb dX12_isFrom_46 rfl (lv_at hl 1 rfl) ?_
          refine tw_iald (k := 335) (t0 := 0) (n := 12) (lo := (-1)) (hi := 11) hx hb hK TH hmxr25 hkxr25 (by decide) rfl rfl (i := x1) (vp_in_iff.mpr ⟨by  omega, by  omega⟩) dX12_isFrom_47 (fun hxe30a hxe30b => ?_)
          rw [exe26]
          refine lv_iload_n hx hb dX12_isFrom_48 rfl (lv_at hl 2 rfl) ?_
          refine tw_Vc (o := a0) (ci := 12) (n := 2) (post := (fun v kq Lq Eq => (∃ x : Int32, v = some (.int x) ∧ 0 ≤ x.toInt ∧ x.toInt ≤ 1 ∧ (x.toInt ≠ 0 → r2_ok E a0 xe26.toInt x2.toInt)) ∧ kp = kq ∧ L = Lq ∧ E = Eq)) (As := [.int xe26, .int x2]) (rest := []) ⟨hx, hb, hml, hown, hB⟩ (fun sz => tX12_isFrom_v6 l D cs a0 xe26 x2 fv0_27 hm0 hk0 (by omega) (by omega) (by omega) (by omega) hfv0_27 (by  omega) hg0 hg1 sz) cg_12_512_X12_isFrom rfl rfl (by decide +kernel) ⟨Nat.le_of_ble_eq_true rfl, Nat.le_of_ble_eq_true rfl⟩ hK hN TH hS hA rfl hm0 hk0 (by decide) rfl hl.1 rfl (Nat.le_of_ble_eq_true rfl) dX12_isFrom_49 ⟨Nat.le_of_ble_eq_true rfl, Nat.le_of_ble_eq_true rfl⟩ (fun v31 kp31 L31 E31 H locs hq31 hx31 TH hS => ?_)
          obtain ⟨⟨xc32, rfl, hxc32a, hxc32b, hpoxc32_0⟩, rfl, rfl, rfl⟩ := hq31
          refine W.eq (g2 := F0 m 52 ls [.int xc32]) rfl ?_
          refine lv_if_eq (tgt := 59) hx hb dX12_isFrom_52 (by decide) (fun hc33 => ?_) (fun hc33 => ?_)
          · have hf34 : xc32.toInt = 0 := by have z := (fa_eq _ _).mp hc33; have : ((0 : Int32).toInt) = 0 := (by decide); omega
            refine lv_iconst (v := 0) hx hb dX12_isFrom_59 (by decide) ?_
            exact tw_zret hx hb hr hlocks (by decide) TH hS hex ⟨⟨_, rfl, (show 0 ≤ Int32.toInt 0 from by have : ((0 : Int32).toInt) = 0 := (by decide); omega), (show Int32.toInt 0 ≤ 1 from by have : ((0 : Int32).toInt) = 0 := (by decide); omega), (by have : ((0 : Int32).toInt) = 0 := (by decide); intro q; exfalso; exact q (by decide))⟩, rfl, rfl, rfl⟩ (Nat.le_of_ble_eq_true rfl) (Nat.le_of_ble_eq_true rfl) dX12_isFrom_60
          · have hf35 : ¬ (xc32.toInt = 0) := fun q => hc33 ((fa_eq _ _).mpr (by have : ((0 : Int32).toInt) = 0 := (by decide); omega))
            refine lv_iconst (v := 1) hx hb dX12_isFrom_55 (by decide) ?_
            refine lv_goto (tgt := 60) hx hb dX12_isFrom_56 (by decide) ?_
            exact tw_zret hx hb hr hlocks (by decide) TH hS hex ⟨⟨_, rfl, (show 0 ≤ Int32.toInt 1 from by have : ((1 : Int32).toInt) = 1 := (by decide); omega), (show Int32.toInt 1 ≤ 1 from by have : ((1 : Int32).toInt) = 1 := (by decide); omega), (by have : ((1 : Int32).toInt) = 1 := (by decide); intro _; have hl := hl37.resolve_left (by omega); exact r2_tr (hg0 (xe26.toInt) (by omega) (by rw [tw_fi_of hfv0_27]; omega)).1 hl.2.2 (hpoxc32_0 (by omega)))⟩, rfl, rfl, rfl⟩ (Nat.le_of_ble_eq_true rfl) (Nat.le_of_ble_eq_true rfl) dX12_isFrom_60
  · have hf36 : x1.toInt = x2.toInt := by have z := (fa_eq _ _).mp hc1;  omega
    refine lv_iconst (v := 1) hx hb dX12_isFrom_5 (by decide) ?_
    exact tw_zret hx hb hr hlocks (by decide) TH hS hex ⟨⟨_, rfl, (show 0 ≤ Int32.toInt 1 from by have : ((1 : Int32).toInt) = 1 := (by decide); omega), (show Int32.toInt 1 ≤ 1 from by have : ((1 : Int32).toInt) = 1 := (by decide); omega), (by have : ((1 : Int32).toInt) = 1 := (by decide); intro _; rw [show x2.toInt = x1.toInt by omega]; exact r2_rf (hg0 (x1.toInt) (by omega) (by rw [tw_fi_of hfv0_27]; omega)))⟩, rfl, rfl, rfl⟩ (Nat.le_of_ble_eq_true rfl) (Nat.le_of_ble_eq_true rfl) dX12_isFrom_6
set_option maxHeartbeats 4000000 in
set_option maxRecDepth 100000 in
theorem tX12_isFrom_v8 (l : Launch) (D : va_G) (cs : Nat → ClassId) {kp : Nat → Nat} {L : List Nat} {E : Nat → va_E} (a0 : Nat) (x1 : Int32) (x2 : Int32) (fv0_27 : Int32) (hm0 : a0 ∈ L) (hk0 : kp a0 = 12) (hp1a : 0 ≤ x1.toInt) (hp1b : x1.toInt ≤ 8) (hp2a : 0 ≤ x2.toInt) (hp2b : x2.toInt ≤ 11) (hfv0_27 : tw_fv E a0 27 = .int fv0_27) (hpre0 : x1.toInt < fv0_27.toInt) (hg0 : eo_ok E a0) (hg1 : ln_ok E a0) (sz : Nat) : Met l yX12_isFrom (.code yX12_isFrom cX12_isFrom 3 (some .boolean) :: cx_big) { frames := 8, cells := 0, slots := 0, locals := 176 } (tw_P D cs kp L E [.ref a0, .int x1, .int x2] sz) (tw_Q D cs kp L (fun v kq Lq Eq => (∃ x : Int32, v = some (.int x) ∧ 0 ≤ x.toInt ∧ x.toInt ≤ 1 ∧ (x.toInt ≠ 0 → r2_ok E a0 x1.toInt x2.toInt)) ∧ kp = kq ∧ L = Lq ∧ E = Eq) (va_A (va_pl L E) sz)) 0 0 (va_A (va_pl L E) sz) := by
  refine tw_ofW (by decide) (Nat.le_of_ble_eq_true rfl) ?_
  intro p e s m below meth c A ls hx hb hr hml hB hown hlocks hK hN hA TH hS hl
  have hown : s.vm.findClass "TreeMergeModel" = some m.cls := hown
  have hl : lv_has ls 3 [(0, .ref a0), (1, .int x1), (2, .int x2)] := hl
  obtain ⟨kp0, ekp⟩ : ∃ z, z = kp := ⟨_, rfl⟩
  obtain ⟨L0, eL⟩ : ∃ z, z = L := ⟨_, rfl⟩
  rw [show tw_Q D cs kp L = tw_Q D cs kp0 L0 by rw [ekp, eL]]
  have hex : ∀ a : Nat, a ∈ L0 → a ∈ L ∧ kp a = kp0 a := fun a h => ⟨by rw [← eL]; exact h, by rw [ekp]⟩
  obtain ⟨qfv0_27, hqfv0_27, hqfv0_27a, hqfv0_27b⟩ := tw_rd TH hm0 hk0 (by decide) (by decide) (k := 27) rfl
  have eqfv0_27 : qfv0_27 = fv0_27 := by have q := hqfv0_27.symm.trans hfv0_27; injection q
  rw [eqfv0_27] at hqfv0_27a hqfv0_27b
  refine lv_iload_n hx hb dX12_isFrom_0 rfl (lv_at hl 1 rfl) ?_
  refine lv_iload_n hx hb dX12_isFrom_1 rfl (lv_at hl 2 rfl) ?_
  refine lv_icmp_ne (tgt := 7) hx hb dX12_isFrom_2 (by decide) (fun hc1 => ?_) (fun hc1 => ?_)
  · have hf2 : ¬ (x1.toInt = x2.toInt) := fun q => hc1 ((fa_eq _ _).mpr (by  omega))
    refine lv_aload_n hx hb dX12_isFrom_7 rfl (lv_at hl 0 rfl) ?_
    refine tw_get (ci := 12) (C := RX12) (T := TX12) (N := 64) hx hb hB cx_inX12 hown hK TH hm0 hk0 rfl ⟨by decide, rfl⟩ 24 (by decide) cw_1217 (fun _ h9 => h9) dX12_isFrom_8 (fun hv => ?_)
    obtain ⟨xr3, hxr3, hmxr3, hkxr3⟩ : ∃ a : Nat, tw_fv E a0 24 = .ref a ∧ a ∈ L ∧ kp a = 334 := hv
    rw [hxr3]
    refine lv_iload_n hx hb dX12_isFrom_11 rfl (lv_at hl 1 rfl) ?_
    refine tw_iald (k := 334) (t0 := 0) (n := 12) (lo := (-1)) (hi := 11) hx hb hK TH hmxr3 hkxr3 (by decide) rfl rfl (i := x1) (vp_in_iff.mpr ⟨by  omega, by  omega⟩) dX12_isFrom_12 (fun hxe4a hxe4b => ?_)
    obtain ⟨xe4, exe4⟩ : ∃ z : Int32, tw_iv E xr3 (Int32.toNatClampNeg x1) = z := ⟨_, rfl⟩
    rw [exe4] at hxe4a hxe4b ⊢
    have hl13 : xe4.toInt = -1 ∨ (0 ≤ xe4.toInt ∧ xe4.toInt < x1.toInt ∧ r2_ok E a0 (x1.toInt) (xe4.toInt)) := (by have q := hg1 (x1.toInt).toNat (by rw [tw_fi_of hfv0_27]; omega) 24 (by decide); have w : tw_el E a0 24 (x1.toInt).toNat = xe4.toInt := (by rw [tw_el_of hxr3]; exact congrArg Int32.toInt exe4); rw [w, show (((x1.toInt).toNat : Nat) : Int) = x1.toInt by omega] at q; exact q)
    have hn13 : xe4.toInt = -1 ∨ (0 ≤ xe4.toInt ∧ xe4.toInt < x1.toInt) := hl13.imp id (fun q => ⟨q.1, q.2.1⟩)
    refine lv_iconst (v := (-1)) hx hb dX12_isFrom_13 (by decide) ?_
    refine lv_icmp_eq (tgt := 31) hx hb dX12_isFrom_14 (by decide) (fun hc5 => ?_) (fun hc5 => ?_)
    · have hf6 : xe4.toInt = (-1) := by have z := (fa_eq _ _).mp hc5; have : (((-1) : Int32).toInt) = (-1) := (by decide); omega
      refine lv_aload_n hx hb dX12_isFrom_31 rfl (lv_at hl 0 rfl) ?_
      refine tw_get (ci := 12) (C := RX12) (T := TX12) (N := 64) hx hb hB cx_inX12 hown hK TH hm0 hk0 rfl ⟨by decide, rfl⟩ 25 (by decide) cw_1218 (fun _ h9 => h9) dX12_isFrom_32 (fun hv => ?_)
      obtain ⟨xr7, hxr7, hmxr7, hkxr7⟩ : ∃ a : Nat, tw_fv E a0 25 = .ref a ∧ a ∈ L ∧ kp a = 335 := hv
      rw [hxr7]
      refine lv_iload_n hx hb dX12_isFrom_35 rfl (lv_at hl 1 rfl) ?_
      refine tw_iald (k := 335) (t0 := 0) (n := 12) (lo := (-1)) (hi := 11) hx hb hK TH hmxr7 hkxr7 (by decide) rfl rfl (i := x1) (vp_in_iff.mpr ⟨by  omega, by  omega⟩) dX12_isFrom_36 (fun hxe8a hxe8b => ?_)
      obtain ⟨xe8, exe8⟩ : ∃ z : Int32, tw_iv E xr7 (Int32.toNatClampNeg x1) = z := ⟨_, rfl⟩
      rw [exe8] at hxe8a hxe8b ⊢
      have hl37 : xe8.toInt = -1 ∨ (0 ≤ xe8.toInt ∧ xe8.toInt < x1.toInt ∧ r2_ok E a0 (x1.toInt) (xe8.toInt)) := (by have q := hg1 (x1.toInt).toNat (by rw [tw_fi_of hfv0_27]; omega) 25 (by decide); have w : tw_el E a0 25 (x1.toInt).toNat = xe8.toInt := (by rw [tw_el_of hxr7]; exact congrArg Int32.toInt exe8); rw [w, show (((x1.toInt).toNat : Nat) : Int) = x1.toInt by omega] at q; exact q)
      have hn37 : xe8.toInt = -1 ∨ (0 ≤ xe8.toInt ∧ xe8.toInt < x1.toInt) := hl37.imp id (fun q => ⟨q.1, q.2.1⟩)
      refine lv_iconst (v := (-1)) hx hb dX12_isFrom_37 (by decide) ?_
      refine lv_icmp_eq (tgt := 59) hx hb dX12_isFrom_38 (by decide) (fun hc9 => ?_) (fun hc9 => ?_)
      · have hf10 : xe8.toInt = (-1) := by have z := (fa_eq _ _).mp hc9; have : (((-1) : Int32).toInt) = (-1) := (by decide); omega
        refine lv_iconst (v := 0) hx hb dX12_isFrom_59 (by decide) ?_
        exact tw_zret hx hb hr hlocks (by decide) TH hS hex ⟨⟨_, rfl, (show 0 ≤ Int32.toInt 0 from by have : ((0 : Int32).toInt) = 0 := (by decide); omega), (show Int32.toInt 0 ≤ 1 from by have : ((0 : Int32).toInt) = 0 := (by decide); omega), (by have : ((0 : Int32).toInt) = 0 := (by decide); intro q; exfalso; exact q (by decide))⟩, rfl, rfl, rfl⟩ (Nat.le_of_ble_eq_true rfl) (Nat.le_of_ble_eq_true rfl) dX12_isFrom_60
      · have hf11 : ¬ (xe8.toInt = (-1)) := fun q => hc9 ((fa_eq _ _).mpr (by have : (((-1) : Int32).toInt) = (-1) := (by decide); omega))
        refine lv_aload_n hx hb dX12_isFrom_41 rfl (lv_at hl 0 rfl) ?_
        refine lv_aload_n hx hb dX12_isFrom_42 rfl (lv_at hl 0 rfl) ?_
        refine tw_get (ci := 12) (C := RX12) (T := TX12) (N := 64) hx hb hB cx_inX12 hown hK TH hm0 hk0 rfl ⟨by decide, rfl⟩ 25 (by decide) cw_1218 (fun _ h9 => h9) dX12_isFrom_43 (fun hv => ?_)
        rw [hxr7]
        refine lv_iload_n hx hb dX12_isFrom_46 rfl (lv_at hl 1 rfl) ?_
        refine tw_iald (k := 335) (t0 := 0) (n := 12) (lo := (-1)) (hi := 11) hx hb hK TH hmxr7 hkxr7 (by decide) rfl rfl (i := x1) (vp_in_iff.mpr ⟨by  omega, by  omega⟩) dX12_isFrom_47 (fun hxe12a hxe12b => ?_)
        rw [exe8]
        refine lv_iload_n hx hb dX12_isFrom_48 rfl (lv_at hl 2 rfl) ?_
        refine tw_Vc (o := a0) (ci := 12) (n := 2) (post := (fun v kq Lq Eq => (∃ x : Int32, v = some (.int x) ∧ 0 ≤ x.toInt ∧ x.toInt ≤ 1 ∧ (x.toInt ≠ 0 → r2_ok E a0 xe8.toInt x2.toInt)) ∧ kp = kq ∧ L = Lq ∧ E = Eq)) (As := [.int xe8, .int x2]) (rest := []) ⟨hx, hb, hml, hown, hB⟩ (fun sz => tX12_isFrom_v7 l D cs a0 xe8 x2 fv0_27 hm0 hk0 (by omega) (by omega) (by omega) (by omega) hfv0_27 (by  omega) hg0 hg1 sz) cg_12_512_X12_isFrom rfl rfl (by decide +kernel) ⟨Nat.le_of_ble_eq_true rfl, Nat.le_of_ble_eq_true rfl⟩ hK hN TH hS hA rfl hm0 hk0 (by decide) rfl hl.1 rfl (Nat.le_of_ble_eq_true rfl) dX12_isFrom_49 ⟨Nat.le_of_ble_eq_true rfl, Nat.le_of_ble_eq_true rfl⟩ (fun v13 kp13 L13 E13 H locs hq13 hx13 TH hS => ?_)
        obtain ⟨⟨xc14, rfl, hxc14a, hxc14b, hpoxc14_0⟩, rfl, rfl, rfl⟩ := hq13
        refine W.eq (g2 := F0 m 52 ls [.int xc14]) rfl ?_
        refine lv_if_eq (tgt := 59) hx hb dX12_isFrom_52 (by decide) (fun hc15 => ?_) (fun hc15 => ?_)
        · have hf16 : xc14.toInt = 0 := by have z := (fa_eq _ _).mp hc15; have : ((0 : Int32).toInt) = 0 := (by decide); omega
          refine lv_iconst (v := 0) hx hb dX12_isFrom_59 (by decide) ?_
          exact tw_zret hx hb hr hlocks (by decide) TH hS hex ⟨⟨_, rfl, (show 0 ≤ Int32.toInt 0 from by have : ((0 : Int32).toInt) = 0 := (by decide); omega), (show Int32.toInt 0 ≤ 1 from by have : ((0 : Int32).toInt) = 0 := (by decide); omega), (by have : ((0 : Int32).toInt) = 0 := (by decide); intro q; exfalso; exact q (by decide))⟩, rfl, rfl, rfl⟩ (Nat.le_of_ble_eq_true rfl) (Nat.le_of_ble_eq_true rfl) dX12_isFrom_60
        · have hf17 : ¬ (xc14.toInt = 0) := fun q => hc15 ((fa_eq _ _).mpr (by have : ((0 : Int32).toInt) = 0 := (by decide); omega))
          refine lv_iconst (v := 1) hx hb dX12_isFrom_55 (by decide) ?_
          refine lv_goto (tgt := 60) hx hb dX12_isFrom_56 (by decide) ?_
          exact tw_zret hx hb hr hlocks (by decide) TH hS hex ⟨⟨_, rfl, (show 0 ≤ Int32.toInt 1 from by have : ((1 : Int32).toInt) = 1 := (by decide); omega), (show Int32.toInt 1 ≤ 1 from by have : ((1 : Int32).toInt) = 1 := (by decide); omega), (by have : ((1 : Int32).toInt) = 1 := (by decide); intro _; have hl := hl37.resolve_left (by omega); exact r2_tr (hg0 (xe8.toInt) (by omega) (by rw [tw_fi_of hfv0_27]; omega)).1 hl.2.2 (hpoxc14_0 (by omega)))⟩, rfl, rfl, rfl⟩ (Nat.le_of_ble_eq_true rfl) (Nat.le_of_ble_eq_true rfl) dX12_isFrom_60
    · have hf18 : ¬ (xe4.toInt = (-1)) := fun q => hc5 ((fa_eq _ _).mpr (by have : (((-1) : Int32).toInt) = (-1) := (by decide); omega))
      refine lv_aload_n hx hb dX12_isFrom_17 rfl (lv_at hl 0 rfl) ?_
      refine lv_aload_n hx hb dX12_isFrom_18 rfl (lv_at hl 0 rfl) ?_
      refine tw_get (ci := 12) (C := RX12) (T := TX12) (N := 64) hx hb hB cx_inX12 hown hK TH hm0 hk0 rfl ⟨by decide, rfl⟩ 24 (by decide) cw_1217 (fun _ h9 => h9) dX12_isFrom_19 (fun hv => ?_)
      rw [hxr3]
      refine lv_iload_n hx hb dX12_isFrom_22 rfl (lv_at hl 1 rfl) ?_
      refine tw_iald (k := 334) (t0 := 0) (n := 12) (lo := (-1)) (hi := 11) hx hb hK TH hmxr3 hkxr3 (by decide) rfl rfl (i := x1) (vp_in_iff.mpr ⟨by  omega, by  omega⟩) dX12_isFrom_23 (fun hxe19a hxe19b => ?_)
      rw [exe4]
      refine lv_iload_n hx hb dX12_isFrom_24 rfl (lv_at hl 2 rfl) ?_
      refine tw_Vc (o := a0) (ci := 12) (n := 2) (post := (fun v kq Lq Eq => (∃ x : Int32, v = some (.int x) ∧ 0 ≤ x.toInt ∧ x.toInt ≤ 1 ∧ (x.toInt ≠ 0 → r2_ok E a0 xe4.toInt x2.toInt)) ∧ kp = kq ∧ L = Lq ∧ E = Eq)) (As := [.int xe4, .int x2]) (rest := []) ⟨hx, hb, hml, hown, hB⟩ (fun sz => tX12_isFrom_v7 l D cs a0 xe4 x2 fv0_27 hm0 hk0 (by omega) (by omega) (by omega) (by omega) hfv0_27 (by  omega) hg0 hg1 sz) cg_12_512_X12_isFrom rfl rfl (by decide +kernel) ⟨Nat.le_of_ble_eq_true rfl, Nat.le_of_ble_eq_true rfl⟩ hK hN TH hS hA rfl hm0 hk0 (by decide) rfl hl.1 rfl (Nat.le_of_ble_eq_true rfl) dX12_isFrom_25 ⟨Nat.le_of_ble_eq_true rfl, Nat.le_of_ble_eq_true rfl⟩ (fun v20 kp20 L20 E20 H locs hq20 hx20 TH hS => ?_)
      obtain ⟨⟨xc21, rfl, hxc21a, hxc21b, hpoxc21_0⟩, rfl, rfl, rfl⟩ := hq20
      refine W.eq (g2 := F0 m 28 ls [.int xc21]) rfl ?_
      refine lv_if_ne (tgt := 55) hx hb dX12_isFrom_28 (by decide) (fun hc22 => ?_) (fun hc22 => ?_)
      · have hf23 : ¬ (xc21.toInt = 0) := fun q => hc22 ((fa_eq _ _).mpr (by have : ((0 : Int32).toInt) = 0 := (by decide); omega))
        refine lv_iconst (v := 1) hx hb dX12_isFrom_55 (by decide) ?_
        refine lv_goto (tgt := 60) hx hb dX12_isFrom_56 (by decide) ?_
        exact tw_zret hx hb hr hlocks (by decide) TH hS hex ⟨⟨_, rfl, (show 0 ≤ Int32.toInt 1 from by have : ((1 : Int32).toInt) = 1 := (by decide); omega), (show Int32.toInt 1 ≤ 1 from by have : ((1 : Int32).toInt) = 1 := (by decide); omega), (by have : ((1 : Int32).toInt) = 1 := (by decide); intro _; have hl := hl13.resolve_left (by omega); exact r2_tr (hg0 (xe4.toInt) (by omega) (by rw [tw_fi_of hfv0_27]; omega)).1 hl.2.2 (hpoxc21_0 (by omega)))⟩, rfl, rfl, rfl⟩ (Nat.le_of_ble_eq_true rfl) (Nat.le_of_ble_eq_true rfl) dX12_isFrom_60
      · have hf24 : xc21.toInt = 0 := by have z := (fa_eq _ _).mp hc22; have : ((0 : Int32).toInt) = 0 := (by decide); omega
        refine lv_aload_n hx hb dX12_isFrom_31 rfl (lv_at hl 0 rfl) ?_
        refine tw_get (ci := 12) (C := RX12) (T := TX12) (N := 64) hx hb hB cx_inX12 hown hK TH hm0 hk0 rfl ⟨by decide, rfl⟩ 25 (by decide) cw_1218 (fun _ h9 => h9) dX12_isFrom_32 (fun hv => ?_)
        obtain ⟨xr25, hxr25, hmxr25, hkxr25⟩ : ∃ a : Nat, tw_fv E a0 25 = .ref a ∧ a ∈ L ∧ kp a = 335 := hv
        rw [hxr25]
        refine lv_iload_n hx hb dX12_isFrom_35 rfl (lv_at hl 1 rfl) ?_
        refine tw_iald (k := 335) (t0 := 0) (n := 12) (lo := (-1)) (hi := 11) hx hb hK TH hmxr25 hkxr25 (by decide) rfl rfl (i := x1) (vp_in_iff.mpr ⟨by  omega, by  omega⟩) dX12_isFrom_36 (fun hxe26a hxe26b => ?_)
        obtain ⟨xe26, exe26⟩ : ∃ z : Int32, tw_iv E xr25 (Int32.toNatClampNeg x1) = z := ⟨_, rfl⟩
        rw [exe26] at hxe26a hxe26b ⊢
        have hl37 : xe26.toInt = -1 ∨ (0 ≤ xe26.toInt ∧ xe26.toInt < x1.toInt ∧ r2_ok E a0 (x1.toInt) (xe26.toInt)) := (by have q := hg1 (x1.toInt).toNat (by rw [tw_fi_of hfv0_27]; omega) 25 (by decide); have w : tw_el E a0 25 (x1.toInt).toNat = xe26.toInt := (by rw [tw_el_of hxr25]; exact congrArg Int32.toInt exe26); rw [w, show (((x1.toInt).toNat : Nat) : Int) = x1.toInt by omega] at q; exact q)
        have hn37 : xe26.toInt = -1 ∨ (0 ≤ xe26.toInt ∧ xe26.toInt < x1.toInt) := hl37.imp id (fun q => ⟨q.1, q.2.1⟩)
        refine lv_iconst (v := (-1)) hx hb dX12_isFrom_37 (by decide) ?_
        refine lv_icmp_eq (tgt := 59) hx hb dX12_isFrom_38 (by decide) (fun hc27 => ?_) (fun hc27 => ?_)
        · have hf28 : xe26.toInt = (-1) := by have z := (fa_eq _ _).mp hc27; have : (((-1) : Int32).toInt) = (-1) := (by decide); omega
          refine lv_iconst (v := 0) hx hb dX12_isFrom_59 (by decide) ?_
          exact tw_zret hx hb hr hlocks (by decide) TH hS hex ⟨⟨_, rfl, (show 0 ≤ Int32.toInt 0 from by have : ((0 : Int32).toInt) = 0 := (by decide); omega), (show Int32.toInt 0 ≤ 1 from by have : ((0 : Int32).toInt) = 0 := (by decide); omega), (by have : ((0 : Int32).toInt) = 0 := (by decide); intro q; exfalso; exact q (by decide))⟩, rfl, rfl, rfl⟩ (Nat.le_of_ble_eq_true rfl) (Nat.le_of_ble_eq_true rfl) dX12_isFrom_60
        · have hf29 : ¬ (xe26.toInt = (-1)) := fun q => hc27 ((fa_eq _ _).mpr (by have : (((-1) : Int32).toInt) = (-1) := (by decide); omega))
          refine lv_aload_n hx hb dX12_isFrom_41 rfl (lv_at hl 0 rfl) ?_
          refine lv_aload_n hx hb dX12_isFrom_42 rfl (lv_at hl 0 rfl) ?_
          refine tw_get (ci := 12) (C := RX12) (T := TX12) (N := 64) hx hb hB cx_inX12 hown hK TH hm0 hk0 rfl ⟨by decide, rfl⟩ 25 (by decide) cw_1218 (fun _ h9 => h9) dX12_isFrom_43 (fun hv => ?_)
          rw [hxr25]
          refine lv_iload_n hx hb dX12_isFrom_46 rfl (lv_at hl 1 rfl) ?_
          refine tw_iald (k := 335) (t0 := 0) (n := 12) (lo := (-1)) (hi := 11) hx hb hK TH hmxr25 hkxr25 (by decide) rfl rfl (i := x1) (vp_in_iff.mpr ⟨by  omega, by  omega⟩) dX12_isFrom_47 (fun hxe30a hxe30b => ?_)
          rw [exe26]
          refine lv_iload_n hx hb dX12_isFrom_48 rfl (lv_at hl 2 rfl) ?_
          refine tw_Vc (o := a0) (ci := 12) (n := 2) (post := (fun v kq Lq Eq => (∃ x : Int32, v = some (.int x) ∧ 0 ≤ x.toInt ∧ x.toInt ≤ 1 ∧ (x.toInt ≠ 0 → r2_ok E a0 xe26.toInt x2.toInt)) ∧ kp = kq ∧ L = Lq ∧ E = Eq)) (As := [.int xe26, .int x2]) (rest := []) ⟨hx, hb, hml, hown, hB⟩ (fun sz => tX12_isFrom_v7 l D cs a0 xe26 x2 fv0_27 hm0 hk0 (by omega) (by omega) (by omega) (by omega) hfv0_27 (by  omega) hg0 hg1 sz) cg_12_512_X12_isFrom rfl rfl (by decide +kernel) ⟨Nat.le_of_ble_eq_true rfl, Nat.le_of_ble_eq_true rfl⟩ hK hN TH hS hA rfl hm0 hk0 (by decide) rfl hl.1 rfl (Nat.le_of_ble_eq_true rfl) dX12_isFrom_49 ⟨Nat.le_of_ble_eq_true rfl, Nat.le_of_ble_eq_true rfl⟩ (fun v31 kp31 L31 E31 H locs hq31 hx31 TH hS => ?_)
          obtain ⟨⟨xc32, rfl, hxc32a, hxc32b, hpoxc32_0⟩, rfl, rfl, rfl⟩ := hq31
          refine W.eq (g2 := F0 m 52 ls [.int xc32]) rfl ?_
          refine lv_if_eq (tgt := 59) hx hb dX12_isFrom_52 (by decide) (fun hc33 => ?_) (fun hc33 => ?_)
          · have hf34 : xc32.toInt = 0 := by have z := (fa_eq _ _).mp hc33; have : ((0 : Int32).toInt) = 0 := (by decide); omega
            refine lv_iconst (v := 0) hx hb dX12_isFrom_59 (by decide) ?_
            exact tw_zret hx hb hr hlocks (by decide) TH hS hex ⟨⟨_, rfl, (show 0 ≤ Int32.toInt 0 from by have : ((0 : Int32).toInt) = 0 := (by decide); omega), (show Int32.toInt 0 ≤ 1 from by have : ((0 : Int32).toInt) = 0 := (by decide); omega), (by have : ((0 : Int32).toInt) = 0 := (by decide); intro q; exfalso; exact q (by decide))⟩, rfl, rfl, rfl⟩ (Nat.le_of_ble_eq_true rfl) (Nat.le_of_ble_eq_true rfl) dX12_isFrom_60
          · have hf35 : ¬ (xc32.toInt = 0) := fun q => hc33 ((fa_eq _ _).mpr (by have : ((0 : Int32).toInt) = 0 := (by decide); omega))
            refine lv_iconst (v := 1) hx hb dX12_isFrom_55 (by decide) ?_
            refine lv_goto (tgt := 60) hx hb dX12_isFrom_56 (by decide) ?_
            exact tw_zret hx hb hr hlocks (by decide) TH hS hex ⟨⟨_, rfl, (show 0 ≤ Int32.toInt 1 from by have : ((1 : Int32).toInt) = 1 := (by decide); omega), (show Int32.toInt 1 ≤ 1 from by have : ((1 : Int32).toInt) = 1 := (by decide); omega), (by have : ((1 : Int32).toInt) = 1 := (by decide); intro _; have hl := hl37.resolve_left (by omega); exact r2_tr (hg0 (xe26.toInt) (by omega) (by rw [tw_fi_of hfv0_27]; omega)).1 hl.2.2 (hpoxc32_0 (by omega)))⟩, rfl, rfl, rfl⟩ (Nat.le_of_ble_eq_true rfl) (Nat.le_of_ble_eq_true rfl) dX12_isFrom_60
  · have hf36 : x1.toInt = x2.toInt := by have z := (fa_eq _ _).mp hc1;  omega
    refine lv_iconst (v := 1) hx hb dX12_isFrom_5 (by decide) ?_
    exact tw_zret hx hb hr hlocks (by decide) TH hS hex ⟨⟨_, rfl, (show 0 ≤ Int32.toInt 1 from by have : ((1 : Int32).toInt) = 1 := (by decide); omega), (show Int32.toInt 1 ≤ 1 from by have : ((1 : Int32).toInt) = 1 := (by decide); omega), (by have : ((1 : Int32).toInt) = 1 := (by decide); intro _; rw [show x2.toInt = x1.toInt by omega]; exact r2_rf (hg0 (x1.toInt) (by omega) (by rw [tw_fi_of hfv0_27]; omega)))⟩, rfl, rfl, rfl⟩ (Nat.le_of_ble_eq_true rfl) (Nat.le_of_ble_eq_true rfl) dX12_isFrom_6
set_option maxHeartbeats 4000000 in
set_option maxRecDepth 100000 in
theorem tX12_isFrom_v9 (l : Launch) (D : va_G) (cs : Nat → ClassId) {kp : Nat → Nat} {L : List Nat} {E : Nat → va_E} (a0 : Nat) (x1 : Int32) (x2 : Int32) (fv0_27 : Int32) (hm0 : a0 ∈ L) (hk0 : kp a0 = 12) (hp1a : 0 ≤ x1.toInt) (hp1b : x1.toInt ≤ 9) (hp2a : 0 ≤ x2.toInt) (hp2b : x2.toInt ≤ 11) (hfv0_27 : tw_fv E a0 27 = .int fv0_27) (hpre0 : x1.toInt < fv0_27.toInt) (hg0 : eo_ok E a0) (hg1 : ln_ok E a0) (sz : Nat) : Met l yX12_isFrom (.code yX12_isFrom cX12_isFrom 3 (some .boolean) :: cx_big) { frames := 9, cells := 0, slots := 0, locals := 198 } (tw_P D cs kp L E [.ref a0, .int x1, .int x2] sz) (tw_Q D cs kp L (fun v kq Lq Eq => (∃ x : Int32, v = some (.int x) ∧ 0 ≤ x.toInt ∧ x.toInt ≤ 1 ∧ (x.toInt ≠ 0 → r2_ok E a0 x1.toInt x2.toInt)) ∧ kp = kq ∧ L = Lq ∧ E = Eq) (va_A (va_pl L E) sz)) 0 0 (va_A (va_pl L E) sz) := by
  refine tw_ofW (by decide) (Nat.le_of_ble_eq_true rfl) ?_
  intro p e s m below meth c A ls hx hb hr hml hB hown hlocks hK hN hA TH hS hl
  have hown : s.vm.findClass "TreeMergeModel" = some m.cls := hown
  have hl : lv_has ls 3 [(0, .ref a0), (1, .int x1), (2, .int x2)] := hl
  obtain ⟨kp0, ekp⟩ : ∃ z, z = kp := ⟨_, rfl⟩
  obtain ⟨L0, eL⟩ : ∃ z, z = L := ⟨_, rfl⟩
  rw [show tw_Q D cs kp L = tw_Q D cs kp0 L0 by rw [ekp, eL]]
  have hex : ∀ a : Nat, a ∈ L0 → a ∈ L ∧ kp a = kp0 a := fun a h => ⟨by rw [← eL]; exact h, by rw [ekp]⟩
  obtain ⟨qfv0_27, hqfv0_27, hqfv0_27a, hqfv0_27b⟩ := tw_rd TH hm0 hk0 (by decide) (by decide) (k := 27) rfl
  have eqfv0_27 : qfv0_27 = fv0_27 := by have q := hqfv0_27.symm.trans hfv0_27; injection q
  rw [eqfv0_27] at hqfv0_27a hqfv0_27b
  refine lv_iload_n hx hb dX12_isFrom_0 rfl (lv_at hl 1 rfl) ?_
  refine lv_iload_n hx hb dX12_isFrom_1 rfl (lv_at hl 2 rfl) ?_
  refine lv_icmp_ne (tgt := 7) hx hb dX12_isFrom_2 (by decide) (fun hc1 => ?_) (fun hc1 => ?_)
  · have hf2 : ¬ (x1.toInt = x2.toInt) := fun q => hc1 ((fa_eq _ _).mpr (by  omega))
    refine lv_aload_n hx hb dX12_isFrom_7 rfl (lv_at hl 0 rfl) ?_
    refine tw_get (ci := 12) (C := RX12) (T := TX12) (N := 64) hx hb hB cx_inX12 hown hK TH hm0 hk0 rfl ⟨by decide, rfl⟩ 24 (by decide) cw_1217 (fun _ h9 => h9) dX12_isFrom_8 (fun hv => ?_)
    obtain ⟨xr3, hxr3, hmxr3, hkxr3⟩ : ∃ a : Nat, tw_fv E a0 24 = .ref a ∧ a ∈ L ∧ kp a = 334 := hv
    rw [hxr3]
    refine lv_iload_n hx hb dX12_isFrom_11 rfl (lv_at hl 1 rfl) ?_
    refine tw_iald (k := 334) (t0 := 0) (n := 12) (lo := (-1)) (hi := 11) hx hb hK TH hmxr3 hkxr3 (by decide) rfl rfl (i := x1) (vp_in_iff.mpr ⟨by  omega, by  omega⟩) dX12_isFrom_12 (fun hxe4a hxe4b => ?_)
    obtain ⟨xe4, exe4⟩ : ∃ z : Int32, tw_iv E xr3 (Int32.toNatClampNeg x1) = z := ⟨_, rfl⟩
    rw [exe4] at hxe4a hxe4b ⊢
    have hl13 : xe4.toInt = -1 ∨ (0 ≤ xe4.toInt ∧ xe4.toInt < x1.toInt ∧ r2_ok E a0 (x1.toInt) (xe4.toInt)) := (by have q := hg1 (x1.toInt).toNat (by rw [tw_fi_of hfv0_27]; omega) 24 (by decide); have w : tw_el E a0 24 (x1.toInt).toNat = xe4.toInt := (by rw [tw_el_of hxr3]; exact congrArg Int32.toInt exe4); rw [w, show (((x1.toInt).toNat : Nat) : Int) = x1.toInt by omega] at q; exact q)
    have hn13 : xe4.toInt = -1 ∨ (0 ≤ xe4.toInt ∧ xe4.toInt < x1.toInt) := hl13.imp id (fun q => ⟨q.1, q.2.1⟩)
    refine lv_iconst (v := (-1)) hx hb dX12_isFrom_13 (by decide) ?_
    refine lv_icmp_eq (tgt := 31) hx hb dX12_isFrom_14 (by decide) (fun hc5 => ?_) (fun hc5 => ?_)
    · have hf6 : xe4.toInt = (-1) := by have z := (fa_eq _ _).mp hc5; have : (((-1) : Int32).toInt) = (-1) := (by decide); omega
      refine lv_aload_n hx hb dX12_isFrom_31 rfl (lv_at hl 0 rfl) ?_
      refine tw_get (ci := 12) (C := RX12) (T := TX12) (N := 64) hx hb hB cx_inX12 hown hK TH hm0 hk0 rfl ⟨by decide, rfl⟩ 25 (by decide) cw_1218 (fun _ h9 => h9) dX12_isFrom_32 (fun hv => ?_)
      obtain ⟨xr7, hxr7, hmxr7, hkxr7⟩ : ∃ a : Nat, tw_fv E a0 25 = .ref a ∧ a ∈ L ∧ kp a = 335 := hv
      rw [hxr7]
      refine lv_iload_n hx hb dX12_isFrom_35 rfl (lv_at hl 1 rfl) ?_
      refine tw_iald (k := 335) (t0 := 0) (n := 12) (lo := (-1)) (hi := 11) hx hb hK TH hmxr7 hkxr7 (by decide) rfl rfl (i := x1) (vp_in_iff.mpr ⟨by  omega, by  omega⟩) dX12_isFrom_36 (fun hxe8a hxe8b => ?_)
      obtain ⟨xe8, exe8⟩ : ∃ z : Int32, tw_iv E xr7 (Int32.toNatClampNeg x1) = z := ⟨_, rfl⟩
      rw [exe8] at hxe8a hxe8b ⊢
      have hl37 : xe8.toInt = -1 ∨ (0 ≤ xe8.toInt ∧ xe8.toInt < x1.toInt ∧ r2_ok E a0 (x1.toInt) (xe8.toInt)) := (by have q := hg1 (x1.toInt).toNat (by rw [tw_fi_of hfv0_27]; omega) 25 (by decide); have w : tw_el E a0 25 (x1.toInt).toNat = xe8.toInt := (by rw [tw_el_of hxr7]; exact congrArg Int32.toInt exe8); rw [w, show (((x1.toInt).toNat : Nat) : Int) = x1.toInt by omega] at q; exact q)
      have hn37 : xe8.toInt = -1 ∨ (0 ≤ xe8.toInt ∧ xe8.toInt < x1.toInt) := hl37.imp id (fun q => ⟨q.1, q.2.1⟩)
      refine lv_iconst (v := (-1)) hx hb dX12_isFrom_37 (by decide) ?_
      refine lv_icmp_eq (tgt := 59) hx hb dX12_isFrom_38 (by decide) (fun hc9 => ?_) (fun hc9 => ?_)
      · have hf10 : xe8.toInt = (-1) := by have z := (fa_eq _ _).mp hc9; have : (((-1) : Int32).toInt) = (-1) := (by decide); omega
        refine lv_iconst (v := 0) hx hb dX12_isFrom_59 (by decide) ?_
        exact tw_zret hx hb hr hlocks (by decide) TH hS hex ⟨⟨_, rfl, (show 0 ≤ Int32.toInt 0 from by have : ((0 : Int32).toInt) = 0 := (by decide); omega), (show Int32.toInt 0 ≤ 1 from by have : ((0 : Int32).toInt) = 0 := (by decide); omega), (by have : ((0 : Int32).toInt) = 0 := (by decide); intro q; exfalso; exact q (by decide))⟩, rfl, rfl, rfl⟩ (Nat.le_of_ble_eq_true rfl) (Nat.le_of_ble_eq_true rfl) dX12_isFrom_60
      · have hf11 : ¬ (xe8.toInt = (-1)) := fun q => hc9 ((fa_eq _ _).mpr (by have : (((-1) : Int32).toInt) = (-1) := (by decide); omega))
        refine lv_aload_n hx hb dX12_isFrom_41 rfl (lv_at hl 0 rfl) ?_
        refine lv_aload_n hx hb dX12_isFrom_42 rfl (lv_at hl 0 rfl) ?_
        refine tw_get (ci := 12) (C := RX12) (T := TX12) (N := 64) hx hb hB cx_inX12 hown hK TH hm0 hk0 rfl ⟨by decide, rfl⟩ 25 (by decide) cw_1218 (fun _ h9 => h9) dX12_isFrom_43 (fun hv => ?_)
        rw [hxr7]
        refine lv_iload_n hx hb dX12_isFrom_46 rfl (lv_at hl 1 rfl) ?_
        refine tw_iald (k := 335) (t0 := 0) (n := 12) (lo := (-1)) (hi := 11) hx hb hK TH hmxr7 hkxr7 (by decide) rfl rfl (i := x1) (vp_in_iff.mpr ⟨by  omega, by  omega⟩) dX12_isFrom_47 (fun hxe12a hxe12b => ?_)
        rw [exe8]
        refine lv_iload_n hx hb dX12_isFrom_48 rfl (lv_at hl 2 rfl) ?_
        refine tw_Vc (o := a0) (ci := 12) (n := 2) (post := (fun v kq Lq Eq => (∃ x : Int32, v = some (.int x) ∧ 0 ≤ x.toInt ∧ x.toInt ≤ 1 ∧ (x.toInt ≠ 0 → r2_ok E a0 xe8.toInt x2.toInt)) ∧ kp = kq ∧ L = Lq ∧ E = Eq)) (As := [.int xe8, .int x2]) (rest := []) ⟨hx, hb, hml, hown, hB⟩ (fun sz => tX12_isFrom_v8 l D cs a0 xe8 x2 fv0_27 hm0 hk0 (by omega) (by omega) (by omega) (by omega) hfv0_27 (by  omega) hg0 hg1 sz) cg_12_512_X12_isFrom rfl rfl (by decide +kernel) ⟨Nat.le_of_ble_eq_true rfl, Nat.le_of_ble_eq_true rfl⟩ hK hN TH hS hA rfl hm0 hk0 (by decide) rfl hl.1 rfl (Nat.le_of_ble_eq_true rfl) dX12_isFrom_49 ⟨Nat.le_of_ble_eq_true rfl, Nat.le_of_ble_eq_true rfl⟩ (fun v13 kp13 L13 E13 H locs hq13 hx13 TH hS => ?_)
        obtain ⟨⟨xc14, rfl, hxc14a, hxc14b, hpoxc14_0⟩, rfl, rfl, rfl⟩ := hq13
        refine W.eq (g2 := F0 m 52 ls [.int xc14]) rfl ?_
        refine lv_if_eq (tgt := 59) hx hb dX12_isFrom_52 (by decide) (fun hc15 => ?_) (fun hc15 => ?_)
        · have hf16 : xc14.toInt = 0 := by have z := (fa_eq _ _).mp hc15; have : ((0 : Int32).toInt) = 0 := (by decide); omega
          refine lv_iconst (v := 0) hx hb dX12_isFrom_59 (by decide) ?_
          exact tw_zret hx hb hr hlocks (by decide) TH hS hex ⟨⟨_, rfl, (show 0 ≤ Int32.toInt 0 from by have : ((0 : Int32).toInt) = 0 := (by decide); omega), (show Int32.toInt 0 ≤ 1 from by have : ((0 : Int32).toInt) = 0 := (by decide); omega), (by have : ((0 : Int32).toInt) = 0 := (by decide); intro q; exfalso; exact q (by decide))⟩, rfl, rfl, rfl⟩ (Nat.le_of_ble_eq_true rfl) (Nat.le_of_ble_eq_true rfl) dX12_isFrom_60
        · have hf17 : ¬ (xc14.toInt = 0) := fun q => hc15 ((fa_eq _ _).mpr (by have : ((0 : Int32).toInt) = 0 := (by decide); omega))
          refine lv_iconst (v := 1) hx hb dX12_isFrom_55 (by decide) ?_
          refine lv_goto (tgt := 60) hx hb dX12_isFrom_56 (by decide) ?_
          exact tw_zret hx hb hr hlocks (by decide) TH hS hex ⟨⟨_, rfl, (show 0 ≤ Int32.toInt 1 from by have : ((1 : Int32).toInt) = 1 := (by decide); omega), (show Int32.toInt 1 ≤ 1 from by have : ((1 : Int32).toInt) = 1 := (by decide); omega), (by have : ((1 : Int32).toInt) = 1 := (by decide); intro _; have hl := hl37.resolve_left (by omega); exact r2_tr (hg0 (xe8.toInt) (by omega) (by rw [tw_fi_of hfv0_27]; omega)).1 hl.2.2 (hpoxc14_0 (by omega)))⟩, rfl, rfl, rfl⟩ (Nat.le_of_ble_eq_true rfl) (Nat.le_of_ble_eq_true rfl) dX12_isFrom_60
    · have hf18 : ¬ (xe4.toInt = (-1)) := fun q => hc5 ((fa_eq _ _).mpr (by have : (((-1) : Int32).toInt) = (-1) := (by decide); omega))
      refine lv_aload_n hx hb dX12_isFrom_17 rfl (lv_at hl 0 rfl) ?_
      refine lv_aload_n hx hb dX12_isFrom_18 rfl (lv_at hl 0 rfl) ?_
      refine tw_get (ci := 12) (C := RX12) (T := TX12) (N := 64) hx hb hB cx_inX12 hown hK TH hm0 hk0 rfl ⟨by decide, rfl⟩ 24 (by decide) cw_1217 (fun _ h9 => h9) dX12_isFrom_19 (fun hv => ?_)
      rw [hxr3]
      refine lv_iload_n hx hb dX12_isFrom_22 rfl (lv_at hl 1 rfl) ?_
      refine tw_iald (k := 334) (t0 := 0) (n := 12) (lo := (-1)) (hi := 11) hx hb hK TH hmxr3 hkxr3 (by decide) rfl rfl (i := x1) (vp_in_iff.mpr ⟨by  omega, by  omega⟩) dX12_isFrom_23 (fun hxe19a hxe19b => ?_)
      rw [exe4]
      refine lv_iload_n hx hb dX12_isFrom_24 rfl (lv_at hl 2 rfl) ?_
      refine tw_Vc (o := a0) (ci := 12) (n := 2) (post := (fun v kq Lq Eq => (∃ x : Int32, v = some (.int x) ∧ 0 ≤ x.toInt ∧ x.toInt ≤ 1 ∧ (x.toInt ≠ 0 → r2_ok E a0 xe4.toInt x2.toInt)) ∧ kp = kq ∧ L = Lq ∧ E = Eq)) (As := [.int xe4, .int x2]) (rest := []) ⟨hx, hb, hml, hown, hB⟩ (fun sz => tX12_isFrom_v8 l D cs a0 xe4 x2 fv0_27 hm0 hk0 (by omega) (by omega) (by omega) (by omega) hfv0_27 (by  omega) hg0 hg1 sz) cg_12_512_X12_isFrom rfl rfl (by decide +kernel) ⟨Nat.le_of_ble_eq_true rfl, Nat.le_of_ble_eq_true rfl⟩ hK hN TH hS hA rfl hm0 hk0 (by decide) rfl hl.1 rfl (Nat.le_of_ble_eq_true rfl) dX12_isFrom_25 ⟨Nat.le_of_ble_eq_true rfl, Nat.le_of_ble_eq_true rfl⟩ (fun v20 kp20 L20 E20 H locs hq20 hx20 TH hS => ?_)
      obtain ⟨⟨xc21, rfl, hxc21a, hxc21b, hpoxc21_0⟩, rfl, rfl, rfl⟩ := hq20
      refine W.eq (g2 := F0 m 28 ls [.int xc21]) rfl ?_
      refine lv_if_ne (tgt := 55) hx hb dX12_isFrom_28 (by decide) (fun hc22 => ?_) (fun hc22 => ?_)
      · have hf23 : ¬ (xc21.toInt = 0) := fun q => hc22 ((fa_eq _ _).mpr (by have : ((0 : Int32).toInt) = 0 := (by decide); omega))
        refine lv_iconst (v := 1) hx hb dX12_isFrom_55 (by decide) ?_
        refine lv_goto (tgt := 60) hx hb dX12_isFrom_56 (by decide) ?_
        exact tw_zret hx hb hr hlocks (by decide) TH hS hex ⟨⟨_, rfl, (show 0 ≤ Int32.toInt 1 from by have : ((1 : Int32).toInt) = 1 := (by decide); omega), (show Int32.toInt 1 ≤ 1 from by have : ((1 : Int32).toInt) = 1 := (by decide); omega), (by have : ((1 : Int32).toInt) = 1 := (by decide); intro _; have hl := hl13.resolve_left (by omega); exact r2_tr (hg0 (xe4.toInt) (by omega) (by rw [tw_fi_of hfv0_27]; omega)).1 hl.2.2 (hpoxc21_0 (by omega)))⟩, rfl, rfl, rfl⟩ (Nat.le_of_ble_eq_true rfl) (Nat.le_of_ble_eq_true rfl) dX12_isFrom_60
      · have hf24 : xc21.toInt = 0 := by have z := (fa_eq _ _).mp hc22; have : ((0 : Int32).toInt) = 0 := (by decide); omega
        refine lv_aload_n hx hb dX12_isFrom_31 rfl (lv_at hl 0 rfl) ?_
        refine tw_get (ci := 12) (C := RX12) (T := TX12) (N := 64) hx hb hB cx_inX12 hown hK TH hm0 hk0 rfl ⟨by decide, rfl⟩ 25 (by decide) cw_1218 (fun _ h9 => h9) dX12_isFrom_32 (fun hv => ?_)
        obtain ⟨xr25, hxr25, hmxr25, hkxr25⟩ : ∃ a : Nat, tw_fv E a0 25 = .ref a ∧ a ∈ L ∧ kp a = 335 := hv
        rw [hxr25]
        refine lv_iload_n hx hb dX12_isFrom_35 rfl (lv_at hl 1 rfl) ?_
        refine tw_iald (k := 335) (t0 := 0) (n := 12) (lo := (-1)) (hi := 11) hx hb hK TH hmxr25 hkxr25 (by decide) rfl rfl (i := x1) (vp_in_iff.mpr ⟨by  omega, by  omega⟩) dX12_isFrom_36 (fun hxe26a hxe26b => ?_)
        obtain ⟨xe26, exe26⟩ : ∃ z : Int32, tw_iv E xr25 (Int32.toNatClampNeg x1) = z := ⟨_, rfl⟩
        rw [exe26] at hxe26a hxe26b ⊢
        have hl37 : xe26.toInt = -1 ∨ (0 ≤ xe26.toInt ∧ xe26.toInt < x1.toInt ∧ r2_ok E a0 (x1.toInt) (xe26.toInt)) := (by have q := hg1 (x1.toInt).toNat (by rw [tw_fi_of hfv0_27]; omega) 25 (by decide); have w : tw_el E a0 25 (x1.toInt).toNat = xe26.toInt := (by rw [tw_el_of hxr25]; exact congrArg Int32.toInt exe26); rw [w, show (((x1.toInt).toNat : Nat) : Int) = x1.toInt by omega] at q; exact q)
        have hn37 : xe26.toInt = -1 ∨ (0 ≤ xe26.toInt ∧ xe26.toInt < x1.toInt) := hl37.imp id (fun q => ⟨q.1, q.2.1⟩)
        refine lv_iconst (v := (-1)) hx hb dX12_isFrom_37 (by decide) ?_
        refine lv_icmp_eq (tgt := 59) hx hb dX12_isFrom_38 (by decide) (fun hc27 => ?_) (fun hc27 => ?_)
        · have hf28 : xe26.toInt = (-1) := by have z := (fa_eq _ _).mp hc27; have : (((-1) : Int32).toInt) = (-1) := (by decide); omega
          refine lv_iconst (v := 0) hx hb dX12_isFrom_59 (by decide) ?_
          exact tw_zret hx hb hr hlocks (by decide) TH hS hex ⟨⟨_, rfl, (show 0 ≤ Int32.toInt 0 from by have : ((0 : Int32).toInt) = 0 := (by decide); omega), (show Int32.toInt 0 ≤ 1 from by have : ((0 : Int32).toInt) = 0 := (by decide); omega), (by have : ((0 : Int32).toInt) = 0 := (by decide); intro q; exfalso; exact q (by decide))⟩, rfl, rfl, rfl⟩ (Nat.le_of_ble_eq_true rfl) (Nat.le_of_ble_eq_true rfl) dX12_isFrom_60
        · have hf29 : ¬ (xe26.toInt = (-1)) := fun q => hc27 ((fa_eq _ _).mpr (by have : (((-1) : Int32).toInt) = (-1) := (by decide); omega))
          refine lv_aload_n hx hb dX12_isFrom_41 rfl (lv_at hl 0 rfl) ?_
          refine lv_aload_n hx hb dX12_isFrom_42 rfl (lv_at hl 0 rfl) ?_
          refine tw_get (ci := 12) (C := RX12) (T := TX12) (N := 64) hx hb hB cx_inX12 hown hK TH hm0 hk0 rfl ⟨by decide, rfl⟩ 25 (by decide) cw_1218 (fun _ h9 => h9) dX12_isFrom_43 (fun hv => ?_)
          rw [hxr25]
          refine lv_iload_n hx hb dX12_isFrom_46 rfl (lv_at hl 1 rfl) ?_
          refine tw_iald (k := 335) (t0 := 0) (n := 12) (lo := (-1)) (hi := 11) hx hb hK TH hmxr25 hkxr25 (by decide) rfl rfl (i := x1) (vp_in_iff.mpr ⟨by  omega, by  omega⟩) dX12_isFrom_47 (fun hxe30a hxe30b => ?_)
          rw [exe26]
          refine lv_iload_n hx hb dX12_isFrom_48 rfl (lv_at hl 2 rfl) ?_
          refine tw_Vc (o := a0) (ci := 12) (n := 2) (post := (fun v kq Lq Eq => (∃ x : Int32, v = some (.int x) ∧ 0 ≤ x.toInt ∧ x.toInt ≤ 1 ∧ (x.toInt ≠ 0 → r2_ok E a0 xe26.toInt x2.toInt)) ∧ kp = kq ∧ L = Lq ∧ E = Eq)) (As := [.int xe26, .int x2]) (rest := []) ⟨hx, hb, hml, hown, hB⟩ (fun sz => tX12_isFrom_v8 l D cs a0 xe26 x2 fv0_27 hm0 hk0 (by omega) (by omega) (by omega) (by omega) hfv0_27 (by  omega) hg0 hg1 sz) cg_12_512_X12_isFrom rfl rfl (by decide +kernel) ⟨Nat.le_of_ble_eq_true rfl, Nat.le_of_ble_eq_true rfl⟩ hK hN TH hS hA rfl hm0 hk0 (by decide) rfl hl.1 rfl (Nat.le_of_ble_eq_true rfl) dX12_isFrom_49 ⟨Nat.le_of_ble_eq_true rfl, Nat.le_of_ble_eq_true rfl⟩ (fun v31 kp31 L31 E31 H locs hq31 hx31 TH hS => ?_)
          obtain ⟨⟨xc32, rfl, hxc32a, hxc32b, hpoxc32_0⟩, rfl, rfl, rfl⟩ := hq31
          refine W.eq (g2 := F0 m 52 ls [.int xc32]) rfl ?_
          refine lv_if_eq (tgt := 59) hx hb dX12_isFrom_52 (by decide) (fun hc33 => ?_) (fun hc33 => ?_)
          · have hf34 : xc32.toInt = 0 := by have z := (fa_eq _ _).mp hc33; have : ((0 : Int32).toInt) = 0 := (by decide); omega
            refine lv_iconst (v := 0) hx hb dX12_isFrom_59 (by decide) ?_
            exact tw_zret hx hb hr hlocks (by decide) TH hS hex ⟨⟨_, rfl, (show 0 ≤ Int32.toInt 0 from by have : ((0 : Int32).toInt) = 0 := (by decide); omega), (show Int32.toInt 0 ≤ 1 from by have : ((0 : Int32).toInt) = 0 := (by decide); omega), (by have : ((0 : Int32).toInt) = 0 := (by decide); intro q; exfalso; exact q (by decide))⟩, rfl, rfl, rfl⟩ (Nat.le_of_ble_eq_true rfl) (Nat.le_of_ble_eq_true rfl) dX12_isFrom_60
          · have hf35 : ¬ (xc32.toInt = 0) := fun q => hc33 ((fa_eq _ _).mpr (by have : ((0 : Int32).toInt) = 0 := (by decide); omega))
            refine lv_iconst (v := 1) hx hb dX12_isFrom_55 (by decide) ?_
            refine lv_goto (tgt := 60) hx hb dX12_isFrom_56 (by decide) ?_
            exact tw_zret hx hb hr hlocks (by decide) TH hS hex ⟨⟨_, rfl, (show 0 ≤ Int32.toInt 1 from by have : ((1 : Int32).toInt) = 1 := (by decide); omega), (show Int32.toInt 1 ≤ 1 from by have : ((1 : Int32).toInt) = 1 := (by decide); omega), (by have : ((1 : Int32).toInt) = 1 := (by decide); intro _; have hl := hl37.resolve_left (by omega); exact r2_tr (hg0 (xe26.toInt) (by omega) (by rw [tw_fi_of hfv0_27]; omega)).1 hl.2.2 (hpoxc32_0 (by omega)))⟩, rfl, rfl, rfl⟩ (Nat.le_of_ble_eq_true rfl) (Nat.le_of_ble_eq_true rfl) dX12_isFrom_60
  · have hf36 : x1.toInt = x2.toInt := by have z := (fa_eq _ _).mp hc1;  omega
    refine lv_iconst (v := 1) hx hb dX12_isFrom_5 (by decide) ?_
    exact tw_zret hx hb hr hlocks (by decide) TH hS hex ⟨⟨_, rfl, (show 0 ≤ Int32.toInt 1 from by have : ((1 : Int32).toInt) = 1 := (by decide); omega), (show Int32.toInt 1 ≤ 1 from by have : ((1 : Int32).toInt) = 1 := (by decide); omega), (by have : ((1 : Int32).toInt) = 1 := (by decide); intro _; rw [show x2.toInt = x1.toInt by omega]; exact r2_rf (hg0 (x1.toInt) (by omega) (by rw [tw_fi_of hfv0_27]; omega)))⟩, rfl, rfl, rfl⟩ (Nat.le_of_ble_eq_true rfl) (Nat.le_of_ble_eq_true rfl) dX12_isFrom_6
set_option maxHeartbeats 4000000 in
set_option maxRecDepth 100000 in
theorem tX12_isFrom_v10 (l : Launch) (D : va_G) (cs : Nat → ClassId) {kp : Nat → Nat} {L : List Nat} {E : Nat → va_E} (a0 : Nat) (x1 : Int32) (x2 : Int32) (fv0_27 : Int32) (hm0 : a0 ∈ L) (hk0 : kp a0 = 12) (hp1a : 0 ≤ x1.toInt) (hp1b : x1.toInt ≤ 10) (hp2a : 0 ≤ x2.toInt) (hp2b : x2.toInt ≤ 11) (hfv0_27 : tw_fv E a0 27 = .int fv0_27) (hpre0 : x1.toInt < fv0_27.toInt) (hg0 : eo_ok E a0) (hg1 : ln_ok E a0) (sz : Nat) : Met l yX12_isFrom (.code yX12_isFrom cX12_isFrom 3 (some .boolean) :: cx_big) { frames := 10, cells := 0, slots := 0, locals := 220 } (tw_P D cs kp L E [.ref a0, .int x1, .int x2] sz) (tw_Q D cs kp L (fun v kq Lq Eq => (∃ x : Int32, v = some (.int x) ∧ 0 ≤ x.toInt ∧ x.toInt ≤ 1 ∧ (x.toInt ≠ 0 → r2_ok E a0 x1.toInt x2.toInt)) ∧ kp = kq ∧ L = Lq ∧ E = Eq) (va_A (va_pl L E) sz)) 0 0 (va_A (va_pl L E) sz) := by
  refine tw_ofW (by decide) (Nat.le_of_ble_eq_true rfl) ?_
  intro p e s m below meth c A ls hx hb hr hml hB hown hlocks hK hN hA TH hS hl
  have hown : s.vm.findClass "TreeMergeModel" = some m.cls := hown
  have hl : lv_has ls 3 [(0, .ref a0), (1, .int x1), (2, .int x2)] := hl
  obtain ⟨kp0, ekp⟩ : ∃ z, z = kp := ⟨_, rfl⟩
  obtain ⟨L0, eL⟩ : ∃ z, z = L := ⟨_, rfl⟩
  rw [show tw_Q D cs kp L = tw_Q D cs kp0 L0 by rw [ekp, eL]]
  have hex : ∀ a : Nat, a ∈ L0 → a ∈ L ∧ kp a = kp0 a := fun a h => ⟨by rw [← eL]; exact h, by rw [ekp]⟩
  obtain ⟨qfv0_27, hqfv0_27, hqfv0_27a, hqfv0_27b⟩ := tw_rd TH hm0 hk0 (by decide) (by decide) (k := 27) rfl
  have eqfv0_27 : qfv0_27 = fv0_27 := by have q := hqfv0_27.symm.trans hfv0_27; injection q
  rw [eqfv0_27] at hqfv0_27a hqfv0_27b
  refine lv_iload_n hx hb dX12_isFrom_0 rfl (lv_at hl 1 rfl) ?_
  refine lv_iload_n hx hb dX12_isFrom_1 rfl (lv_at hl 2 rfl) ?_
  refine lv_icmp_ne (tgt := 7) hx hb dX12_isFrom_2 (by decide) (fun hc1 => ?_) (fun hc1 => ?_)
  · have hf2 : ¬ (x1.toInt = x2.toInt) := fun q => hc1 ((fa_eq _ _).mpr (by  omega))
    refine lv_aload_n hx hb dX12_isFrom_7 rfl (lv_at hl 0 rfl) ?_
    refine tw_get (ci := 12) (C := RX12) (T := TX12) (N := 64) hx hb hB cx_inX12 hown hK TH hm0 hk0 rfl ⟨by decide, rfl⟩ 24 (by decide) cw_1217 (fun _ h9 => h9) dX12_isFrom_8 (fun hv => ?_)
    obtain ⟨xr3, hxr3, hmxr3, hkxr3⟩ : ∃ a : Nat, tw_fv E a0 24 = .ref a ∧ a ∈ L ∧ kp a = 334 := hv
    rw [hxr3]
    refine lv_iload_n hx hb dX12_isFrom_11 rfl (lv_at hl 1 rfl) ?_
    refine tw_iald (k := 334) (t0 := 0) (n := 12) (lo := (-1)) (hi := 11) hx hb hK TH hmxr3 hkxr3 (by decide) rfl rfl (i := x1) (vp_in_iff.mpr ⟨by  omega, by  omega⟩) dX12_isFrom_12 (fun hxe4a hxe4b => ?_)
    obtain ⟨xe4, exe4⟩ : ∃ z : Int32, tw_iv E xr3 (Int32.toNatClampNeg x1) = z := ⟨_, rfl⟩
    rw [exe4] at hxe4a hxe4b ⊢
    have hl13 : xe4.toInt = -1 ∨ (0 ≤ xe4.toInt ∧ xe4.toInt < x1.toInt ∧ r2_ok E a0 (x1.toInt) (xe4.toInt)) := (by have q := hg1 (x1.toInt).toNat (by rw [tw_fi_of hfv0_27]; omega) 24 (by decide); have w : tw_el E a0 24 (x1.toInt).toNat = xe4.toInt := (by rw [tw_el_of hxr3]; exact congrArg Int32.toInt exe4); rw [w, show (((x1.toInt).toNat : Nat) : Int) = x1.toInt by omega] at q; exact q)
    have hn13 : xe4.toInt = -1 ∨ (0 ≤ xe4.toInt ∧ xe4.toInt < x1.toInt) := hl13.imp id (fun q => ⟨q.1, q.2.1⟩)
    refine lv_iconst (v := (-1)) hx hb dX12_isFrom_13 (by decide) ?_
    refine lv_icmp_eq (tgt := 31) hx hb dX12_isFrom_14 (by decide) (fun hc5 => ?_) (fun hc5 => ?_)
    · have hf6 : xe4.toInt = (-1) := by have z := (fa_eq _ _).mp hc5; have : (((-1) : Int32).toInt) = (-1) := (by decide); omega
      refine lv_aload_n hx hb dX12_isFrom_31 rfl (lv_at hl 0 rfl) ?_
      refine tw_get (ci := 12) (C := RX12) (T := TX12) (N := 64) hx hb hB cx_inX12 hown hK TH hm0 hk0 rfl ⟨by decide, rfl⟩ 25 (by decide) cw_1218 (fun _ h9 => h9) dX12_isFrom_32 (fun hv => ?_)
      obtain ⟨xr7, hxr7, hmxr7, hkxr7⟩ : ∃ a : Nat, tw_fv E a0 25 = .ref a ∧ a ∈ L ∧ kp a = 335 := hv
      rw [hxr7]
      refine lv_iload_n hx hb dX12_isFrom_35 rfl (lv_at hl 1 rfl) ?_
      refine tw_iald (k := 335) (t0 := 0) (n := 12) (lo := (-1)) (hi := 11) hx hb hK TH hmxr7 hkxr7 (by decide) rfl rfl (i := x1) (vp_in_iff.mpr ⟨by  omega, by  omega⟩) dX12_isFrom_36 (fun hxe8a hxe8b => ?_)
      obtain ⟨xe8, exe8⟩ : ∃ z : Int32, tw_iv E xr7 (Int32.toNatClampNeg x1) = z := ⟨_, rfl⟩
      rw [exe8] at hxe8a hxe8b ⊢
      have hl37 : xe8.toInt = -1 ∨ (0 ≤ xe8.toInt ∧ xe8.toInt < x1.toInt ∧ r2_ok E a0 (x1.toInt) (xe8.toInt)) := (by have q := hg1 (x1.toInt).toNat (by rw [tw_fi_of hfv0_27]; omega) 25 (by decide); have w : tw_el E a0 25 (x1.toInt).toNat = xe8.toInt := (by rw [tw_el_of hxr7]; exact congrArg Int32.toInt exe8); rw [w, show (((x1.toInt).toNat : Nat) : Int) = x1.toInt by omega] at q; exact q)
      have hn37 : xe8.toInt = -1 ∨ (0 ≤ xe8.toInt ∧ xe8.toInt < x1.toInt) := hl37.imp id (fun q => ⟨q.1, q.2.1⟩)
      refine lv_iconst (v := (-1)) hx hb dX12_isFrom_37 (by decide) ?_
      refine lv_icmp_eq (tgt := 59) hx hb dX12_isFrom_38 (by decide) (fun hc9 => ?_) (fun hc9 => ?_)
      · have hf10 : xe8.toInt = (-1) := by have z := (fa_eq _ _).mp hc9; have : (((-1) : Int32).toInt) = (-1) := (by decide); omega
        refine lv_iconst (v := 0) hx hb dX12_isFrom_59 (by decide) ?_
        exact tw_zret hx hb hr hlocks (by decide) TH hS hex ⟨⟨_, rfl, (show 0 ≤ Int32.toInt 0 from by have : ((0 : Int32).toInt) = 0 := (by decide); omega), (show Int32.toInt 0 ≤ 1 from by have : ((0 : Int32).toInt) = 0 := (by decide); omega), (by have : ((0 : Int32).toInt) = 0 := (by decide); intro q; exfalso; exact q (by decide))⟩, rfl, rfl, rfl⟩ (Nat.le_of_ble_eq_true rfl) (Nat.le_of_ble_eq_true rfl) dX12_isFrom_60
      · have hf11 : ¬ (xe8.toInt = (-1)) := fun q => hc9 ((fa_eq _ _).mpr (by have : (((-1) : Int32).toInt) = (-1) := (by decide); omega))
        refine lv_aload_n hx hb dX12_isFrom_41 rfl (lv_at hl 0 rfl) ?_
        refine lv_aload_n hx hb dX12_isFrom_42 rfl (lv_at hl 0 rfl) ?_
        refine tw_get (ci := 12) (C := RX12) (T := TX12) (N := 64) hx hb hB cx_inX12 hown hK TH hm0 hk0 rfl ⟨by decide, rfl⟩ 25 (by decide) cw_1218 (fun _ h9 => h9) dX12_isFrom_43 (fun hv => ?_)
        rw [hxr7]
        refine lv_iload_n hx hb dX12_isFrom_46 rfl (lv_at hl 1 rfl) ?_
        refine tw_iald (k := 335) (t0 := 0) (n := 12) (lo := (-1)) (hi := 11) hx hb hK TH hmxr7 hkxr7 (by decide) rfl rfl (i := x1) (vp_in_iff.mpr ⟨by  omega, by  omega⟩) dX12_isFrom_47 (fun hxe12a hxe12b => ?_)
        rw [exe8]
        refine lv_iload_n hx hb dX12_isFrom_48 rfl (lv_at hl 2 rfl) ?_
        refine tw_Vc (o := a0) (ci := 12) (n := 2) (post := (fun v kq Lq Eq => (∃ x : Int32, v = some (.int x) ∧ 0 ≤ x.toInt ∧ x.toInt ≤ 1 ∧ (x.toInt ≠ 0 → r2_ok E a0 xe8.toInt x2.toInt)) ∧ kp = kq ∧ L = Lq ∧ E = Eq)) (As := [.int xe8, .int x2]) (rest := []) ⟨hx, hb, hml, hown, hB⟩ (fun sz => tX12_isFrom_v9 l D cs a0 xe8 x2 fv0_27 hm0 hk0 (by omega) (by omega) (by omega) (by omega) hfv0_27 (by  omega) hg0 hg1 sz) cg_12_512_X12_isFrom rfl rfl (by decide +kernel) ⟨Nat.le_of_ble_eq_true rfl, Nat.le_of_ble_eq_true rfl⟩ hK hN TH hS hA rfl hm0 hk0 (by decide) rfl hl.1 rfl (Nat.le_of_ble_eq_true rfl) dX12_isFrom_49 ⟨Nat.le_of_ble_eq_true rfl, Nat.le_of_ble_eq_true rfl⟩ (fun v13 kp13 L13 E13 H locs hq13 hx13 TH hS => ?_)
        obtain ⟨⟨xc14, rfl, hxc14a, hxc14b, hpoxc14_0⟩, rfl, rfl, rfl⟩ := hq13
        refine W.eq (g2 := F0 m 52 ls [.int xc14]) rfl ?_
        refine lv_if_eq (tgt := 59) hx hb dX12_isFrom_52 (by decide) (fun hc15 => ?_) (fun hc15 => ?_)
        · have hf16 : xc14.toInt = 0 := by have z := (fa_eq _ _).mp hc15; have : ((0 : Int32).toInt) = 0 := (by decide); omega
          refine lv_iconst (v := 0) hx hb dX12_isFrom_59 (by decide) ?_
          exact tw_zret hx hb hr hlocks (by decide) TH hS hex ⟨⟨_, rfl, (show 0 ≤ Int32.toInt 0 from by have : ((0 : Int32).toInt) = 0 := (by decide); omega), (show Int32.toInt 0 ≤ 1 from by have : ((0 : Int32).toInt) = 0 := (by decide); omega), (by have : ((0 : Int32).toInt) = 0 := (by decide); intro q; exfalso; exact q (by decide))⟩, rfl, rfl, rfl⟩ (Nat.le_of_ble_eq_true rfl) (Nat.le_of_ble_eq_true rfl) dX12_isFrom_60
        · have hf17 : ¬ (xc14.toInt = 0) := fun q => hc15 ((fa_eq _ _).mpr (by have : ((0 : Int32).toInt) = 0 := (by decide); omega))
          refine lv_iconst (v := 1) hx hb dX12_isFrom_55 (by decide) ?_
          refine lv_goto (tgt := 60) hx hb dX12_isFrom_56 (by decide) ?_
          exact tw_zret hx hb hr hlocks (by decide) TH hS hex ⟨⟨_, rfl, (show 0 ≤ Int32.toInt 1 from by have : ((1 : Int32).toInt) = 1 := (by decide); omega), (show Int32.toInt 1 ≤ 1 from by have : ((1 : Int32).toInt) = 1 := (by decide); omega), (by have : ((1 : Int32).toInt) = 1 := (by decide); intro _; have hl := hl37.resolve_left (by omega); exact r2_tr (hg0 (xe8.toInt) (by omega) (by rw [tw_fi_of hfv0_27]; omega)).1 hl.2.2 (hpoxc14_0 (by omega)))⟩, rfl, rfl, rfl⟩ (Nat.le_of_ble_eq_true rfl) (Nat.le_of_ble_eq_true rfl) dX12_isFrom_60
    · have hf18 : ¬ (xe4.toInt = (-1)) := fun q => hc5 ((fa_eq _ _).mpr (by have : (((-1) : Int32).toInt) = (-1) := (by decide); omega))
      refine lv_aload_n hx hb dX12_isFrom_17 rfl (lv_at hl 0 rfl) ?_
      refine lv_aload_n hx hb dX12_isFrom_18 rfl (lv_at hl 0 rfl) ?_
      refine tw_get (ci := 12) (C := RX12) (T := TX12) (N := 64) hx hb hB cx_inX12 hown hK TH hm0 hk0 rfl ⟨by decide, rfl⟩ 24 (by decide) cw_1217 (fun _ h9 => h9) dX12_isFrom_19 (fun hv => ?_)
      rw [hxr3]
      refine lv_iload_n hx hb dX12_isFrom_22 rfl (lv_at hl 1 rfl) ?_
      refine tw_iald (k := 334) (t0 := 0) (n := 12) (lo := (-1)) (hi := 11) hx hb hK TH hmxr3 hkxr3 (by decide) rfl rfl (i := x1) (vp_in_iff.mpr ⟨by  omega, by  omega⟩) dX12_isFrom_23 (fun hxe19a hxe19b => ?_)
      rw [exe4]
      refine lv_iload_n hx hb dX12_isFrom_24 rfl (lv_at hl 2 rfl) ?_
      refine tw_Vc (o := a0) (ci := 12) (n := 2) (post := (fun v kq Lq Eq => (∃ x : Int32, v = some (.int x) ∧ 0 ≤ x.toInt ∧ x.toInt ≤ 1 ∧ (x.toInt ≠ 0 → r2_ok E a0 xe4.toInt x2.toInt)) ∧ kp = kq ∧ L = Lq ∧ E = Eq)) (As := [.int xe4, .int x2]) (rest := []) ⟨hx, hb, hml, hown, hB⟩ (fun sz => tX12_isFrom_v9 l D cs a0 xe4 x2 fv0_27 hm0 hk0 (by omega) (by omega) (by omega) (by omega) hfv0_27 (by  omega) hg0 hg1 sz) cg_12_512_X12_isFrom rfl rfl (by decide +kernel) ⟨Nat.le_of_ble_eq_true rfl, Nat.le_of_ble_eq_true rfl⟩ hK hN TH hS hA rfl hm0 hk0 (by decide) rfl hl.1 rfl (Nat.le_of_ble_eq_true rfl) dX12_isFrom_25 ⟨Nat.le_of_ble_eq_true rfl, Nat.le_of_ble_eq_true rfl⟩ (fun v20 kp20 L20 E20 H locs hq20 hx20 TH hS => ?_)
      obtain ⟨⟨xc21, rfl, hxc21a, hxc21b, hpoxc21_0⟩, rfl, rfl, rfl⟩ := hq20
      refine W.eq (g2 := F0 m 28 ls [.int xc21]) rfl ?_
      refine lv_if_ne (tgt := 55) hx hb dX12_isFrom_28 (by decide) (fun hc22 => ?_) (fun hc22 => ?_)
      · have hf23 : ¬ (xc21.toInt = 0) := fun q => hc22 ((fa_eq _ _).mpr (by have : ((0 : Int32).toInt) = 0 := (by decide); omega))
        refine lv_iconst (v := 1) hx hb dX12_isFrom_55 (by decide) ?_
        refine lv_goto (tgt := 60) hx hb dX12_isFrom_56 (by decide) ?_
        exact tw_zret hx hb hr hlocks (by decide) TH hS hex ⟨⟨_, rfl, (show 0 ≤ Int32.toInt 1 from by have : ((1 : Int32).toInt) = 1 := (by decide); omega), (show Int32.toInt 1 ≤ 1 from by have : ((1 : Int32).toInt) = 1 := (by decide); omega), (by have : ((1 : Int32).toInt) = 1 := (by decide); intro _; have hl := hl13.resolve_left (by omega); exact r2_tr (hg0 (xe4.toInt) (by omega) (by rw [tw_fi_of hfv0_27]; omega)).1 hl.2.2 (hpoxc21_0 (by omega)))⟩, rfl, rfl, rfl⟩ (Nat.le_of_ble_eq_true rfl) (Nat.le_of_ble_eq_true rfl) dX12_isFrom_60
      · have hf24 : xc21.toInt = 0 := by have z := (fa_eq _ _).mp hc22; have : ((0 : Int32).toInt) = 0 := (by decide); omega
        refine lv_aload_n hx hb dX12_isFrom_31 rfl (lv_at hl 0 rfl) ?_
        refine tw_get (ci := 12) (C := RX12) (T := TX12) (N := 64) hx hb hB cx_inX12 hown hK TH hm0 hk0 rfl ⟨by decide, rfl⟩ 25 (by decide) cw_1218 (fun _ h9 => h9) dX12_isFrom_32 (fun hv => ?_)
        obtain ⟨xr25, hxr25, hmxr25, hkxr25⟩ : ∃ a : Nat, tw_fv E a0 25 = .ref a ∧ a ∈ L ∧ kp a = 335 := hv
        rw [hxr25]
        refine lv_iload_n hx hb dX12_isFrom_35 rfl (lv_at hl 1 rfl) ?_
        refine tw_iald (k := 335) (t0 := 0) (n := 12) (lo := (-1)) (hi := 11) hx hb hK TH hmxr25 hkxr25 (by decide) rfl rfl (i := x1) (vp_in_iff.mpr ⟨by  omega, by  omega⟩) dX12_isFrom_36 (fun hxe26a hxe26b => ?_)
        obtain ⟨xe26, exe26⟩ : ∃ z : Int32, tw_iv E xr25 (Int32.toNatClampNeg x1) = z := ⟨_, rfl⟩
        rw [exe26] at hxe26a hxe26b ⊢
        have hl37 : xe26.toInt = -1 ∨ (0 ≤ xe26.toInt ∧ xe26.toInt < x1.toInt ∧ r2_ok E a0 (x1.toInt) (xe26.toInt)) := (by have q := hg1 (x1.toInt).toNat (by rw [tw_fi_of hfv0_27]; omega) 25 (by decide); have w : tw_el E a0 25 (x1.toInt).toNat = xe26.toInt := (by rw [tw_el_of hxr25]; exact congrArg Int32.toInt exe26); rw [w, show (((x1.toInt).toNat : Nat) : Int) = x1.toInt by omega] at q; exact q)
        have hn37 : xe26.toInt = -1 ∨ (0 ≤ xe26.toInt ∧ xe26.toInt < x1.toInt) := hl37.imp id (fun q => ⟨q.1, q.2.1⟩)
        refine lv_iconst (v := (-1)) hx hb dX12_isFrom_37 (by decide) ?_
        refine lv_icmp_eq (tgt := 59) hx hb dX12_isFrom_38 (by decide) (fun hc27 => ?_) (fun hc27 => ?_)
        · have hf28 : xe26.toInt = (-1) := by have z := (fa_eq _ _).mp hc27; have : (((-1) : Int32).toInt) = (-1) := (by decide); omega
          refine lv_iconst (v := 0) hx hb dX12_isFrom_59 (by decide) ?_
          exact tw_zret hx hb hr hlocks (by decide) TH hS hex ⟨⟨_, rfl, (show 0 ≤ Int32.toInt 0 from by have : ((0 : Int32).toInt) = 0 := (by decide); omega), (show Int32.toInt 0 ≤ 1 from by have : ((0 : Int32).toInt) = 0 := (by decide); omega), (by have : ((0 : Int32).toInt) = 0 := (by decide); intro q; exfalso; exact q (by decide))⟩, rfl, rfl, rfl⟩ (Nat.le_of_ble_eq_true rfl) (Nat.le_of_ble_eq_true rfl) dX12_isFrom_60
        · have hf29 : ¬ (xe26.toInt = (-1)) := fun q => hc27 ((fa_eq _ _).mpr (by have : (((-1) : Int32).toInt) = (-1) := (by decide); omega))
          refine lv_aload_n hx hb dX12_isFrom_41 rfl (lv_at hl 0 rfl) ?_
          refine lv_aload_n hx hb dX12_isFrom_42 rfl (lv_at hl 0 rfl) ?_
          refine tw_get (ci := 12) (C := RX12) (T := TX12) (N := 64) hx hb hB cx_inX12 hown hK TH hm0 hk0 rfl ⟨by decide, rfl⟩ 25 (by decide) cw_1218 (fun _ h9 => h9) dX12_isFrom_43 (fun hv => ?_)
          rw [hxr25]
          refine lv_iload_n hx hb dX12_isFrom_46 rfl (lv_at hl 1 rfl) ?_
          refine tw_iald (k := 335) (t0 := 0) (n := 12) (lo := (-1)) (hi := 11) hx hb hK TH hmxr25 hkxr25 (by decide) rfl rfl (i := x1) (vp_in_iff.mpr ⟨by  omega, by  omega⟩) dX12_isFrom_47 (fun hxe30a hxe30b => ?_)
          rw [exe26]
          refine lv_iload_n hx hb dX12_isFrom_48 rfl (lv_at hl 2 rfl) ?_
          refine tw_Vc (o := a0) (ci := 12) (n := 2) (post := (fun v kq Lq Eq => (∃ x : Int32, v = some (.int x) ∧ 0 ≤ x.toInt ∧ x.toInt ≤ 1 ∧ (x.toInt ≠ 0 → r2_ok E a0 xe26.toInt x2.toInt)) ∧ kp = kq ∧ L = Lq ∧ E = Eq)) (As := [.int xe26, .int x2]) (rest := []) ⟨hx, hb, hml, hown, hB⟩ (fun sz => tX12_isFrom_v9 l D cs a0 xe26 x2 fv0_27 hm0 hk0 (by omega) (by omega) (by omega) (by omega) hfv0_27 (by  omega) hg0 hg1 sz) cg_12_512_X12_isFrom rfl rfl (by decide +kernel) ⟨Nat.le_of_ble_eq_true rfl, Nat.le_of_ble_eq_true rfl⟩ hK hN TH hS hA rfl hm0 hk0 (by decide) rfl hl.1 rfl (Nat.le_of_ble_eq_true rfl) dX12_isFrom_49 ⟨Nat.le_of_ble_eq_true rfl, Nat.le_of_ble_eq_true rfl⟩ (fun v31 kp31 L31 E31 H locs hq31 hx31 TH hS => ?_)
          obtain ⟨⟨xc32, rfl, hxc32a, hxc32b, hpoxc32_0⟩, rfl, rfl, rfl⟩ := hq31
          refine W.eq (g2 := F0 m 52 ls [.int xc32]) rfl ?_
          refine lv_if_eq (tgt := 59) hx hb dX12_isFrom_52 (by decide) (fun hc33 => ?_) (fun hc33 => ?_)
          · have hf34 : xc32.toInt = 0 := by have z := (fa_eq _ _).mp hc33; have : ((0 : Int32).toInt) = 0 := (by decide); omega
            refine lv_iconst (v := 0) hx hb dX12_isFrom_59 (by decide) ?_
            exact tw_zret hx hb hr hlocks (by decide) TH hS hex ⟨⟨_, rfl, (show 0 ≤ Int32.toInt 0 from by have : ((0 : Int32).toInt) = 0 := (by decide); omega), (show Int32.toInt 0 ≤ 1 from by have : ((0 : Int32).toInt) = 0 := (by decide); omega), (by have : ((0 : Int32).toInt) = 0 := (by decide); intro q; exfalso; exact q (by decide))⟩, rfl, rfl, rfl⟩ (Nat.le_of_ble_eq_true rfl) (Nat.le_of_ble_eq_true rfl) dX12_isFrom_60
          · have hf35 : ¬ (xc32.toInt = 0) := fun q => hc33 ((fa_eq _ _).mpr (by have : ((0 : Int32).toInt) = 0 := (by decide); omega))
            refine lv_iconst (v := 1) hx hb dX12_isFrom_55 (by decide) ?_
            refine lv_goto (tgt := 60) hx hb dX12_isFrom_56 (by decide) ?_
            exact tw_zret hx hb hr hlocks (by decide) TH hS hex ⟨⟨_, rfl, (show 0 ≤ Int32.toInt 1 from by have : ((1 : Int32).toInt) = 1 := (by decide); omega), (show Int32.toInt 1 ≤ 1 from by have : ((1 : Int32).toInt) = 1 := (by decide); omega), (by have : ((1 : Int32).toInt) = 1 := (by decide); intro _; have hl := hl37.resolve_left (by omega); exact r2_tr (hg0 (xe26.toInt) (by omega) (by rw [tw_fi_of hfv0_27]; omega)).1 hl.2.2 (hpoxc32_0 (by omega)))⟩, rfl, rfl, rfl⟩ (Nat.le_of_ble_eq_true rfl) (Nat.le_of_ble_eq_true rfl) dX12_isFrom_60
  · have hf36 : x1.toInt = x2.toInt := by have z := (fa_eq _ _).mp hc1;  omega
    refine lv_iconst (v := 1) hx hb dX12_isFrom_5 (by decide) ?_
    exact tw_zret hx hb hr hlocks (by decide) TH hS hex ⟨⟨_, rfl, (show 0 ≤ Int32.toInt 1 from by have : ((1 : Int32).toInt) = 1 := (by decide); omega), (show Int32.toInt 1 ≤ 1 from by have : ((1 : Int32).toInt) = 1 := (by decide); omega), (by have : ((1 : Int32).toInt) = 1 := (by decide); intro _; rw [show x2.toInt = x1.toInt by omega]; exact r2_rf (hg0 (x1.toInt) (by omega) (by rw [tw_fi_of hfv0_27]; omega)))⟩, rfl, rfl, rfl⟩ (Nat.le_of_ble_eq_true rfl) (Nat.le_of_ble_eq_true rfl) dX12_isFrom_6
