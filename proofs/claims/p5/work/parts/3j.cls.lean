set_option maxHeartbeats 4000000 in
set_option maxRecDepth 100000 in
theorem tX12_move (l : Launch) (D : va_G) (cs : Nat → ClassId) {kp : Nat → Nat} {L : List Nat} {E : Nat → va_E} (a0 : Nat) (x1 : Int32) (x2 : Int32) (x3 : Int32) (hm0 : a0 ∈ L) (hk0 : kp a0 = 12) (hg0 : rd_ok E a0) (hg1 : eo_ok E a0) (hg2 : ht_ok E a0) (hg3 : dr_ok E a0) (sz : Nat) : Met l yX12_move (.code yX12_move cX12_move 6 (some .boolean) :: cx_big) { frames := 5, cells := 0, slots := 0, locals := 122 } (tw_P D cs kp L E [.ref a0, .int x1, .int x2, .int x3] sz) (tw_Q D cs kp L (fun v kq Lq Eq => (∃ x : Int32, v = some (.int x) ∧ 0 ≤ x.toInt ∧ x.toInt ≤ 1 ∧ rd_ok Eq a0 ∧ eo_ok Eq a0 ∧ ht_ok Eq a0 ∧ dr_ok Eq a0) ∧ kp = kq ∧ L = Lq ∧ tw_fr kp L [] [326, 328, 329] E Eq) (va_A (va_pl L E) sz)) 0 0 (va_A (va_pl L E) sz) := by
  refine tw_ofW (by decide) (Nat.le_of_ble_eq_true rfl) ?_
  intro p e s m below meth c A ls hx hb hr hml hB hown hlocks hK hN hA TH hS hl
  have hown : s.vm.findClass "TreeMergeModel" = some m.cls := hown
  have hl : lv_has ls 6 [(0, .ref a0), (1, .int x1), (2, .int x2), (3, .int x3)] := hl
  obtain ⟨kp0, ekp⟩ : ∃ z, z = kp := ⟨_, rfl⟩
  obtain ⟨L0, eL⟩ : ∃ z, z = L := ⟨_, rfl⟩
  rw [show tw_Q D cs kp L = tw_Q D cs kp0 L0 by rw [ekp, eL]]
  have hex : ∀ a : Nat, a ∈ L0 → a ∈ L ∧ kp a = kp0 a := fun a h => ⟨by rw [← eL]; exact h, by rw [ekp]⟩
  have hF : tw_fr kp L [] [326, 328, 329] E E := tw_fr.rf
  have hh12 : h12_ok E a0 (rw_h E a0 12) := rfl
  have hp12 : p12_ok E a0 (rw_p E a0 12) := rfl
  refine lv_aload_n hx hb dX12_move_0 rfl (lv_at hl 0 rfl) ?_
  refine lv_iload_n hx hb dX12_move_1 rfl (lv_at hl 1 rfl) ?_
  obtain ⟨xi1, hxi1, hxi1a, hxi1b⟩ := tw_rd TH hm0 hk0 (by decide) (by decide) (k := 26) rfl
  obtain ⟨xi2, hxi2, hxi2a, hxi2b⟩ := tw_rd TH hm0 hk0 (by decide) (by decide) (k := 29) rfl
  refine tw_Vc (o := a0) (ci := 12) (n := 1) (post := (fun v kq Lq Eq => (∃ x : Int32, v = some (.int x) ∧ 0 ≤ x.toInt ∧ x.toInt ≤ 1 ∧ (x.toInt ≠ 0 → 0 ≤ x1.toInt ∧ x1.toInt < xi1.toInt ∧ xi2.toInt = 1) ∧ (x.toInt ≠ 0 → rw_h E a0 12 (x1.toInt).toNat ≠ 0)) ∧ kp = kq ∧ L = Lq ∧ E = Eq)) (As := [.int x1]) (rest := []) ⟨hx, hb, hml, hown, hB⟩ (fun sz => tX12_inDraft l D cs a0 x1 xi1 xi2 hm0 hk0 hxi1 hxi2 sz) cg_12_425_X12_inDraft rfl rfl (by decide +kernel) ⟨Nat.le_of_ble_eq_true rfl, Nat.le_of_ble_eq_true rfl⟩ hK hN TH hS hA rfl hm0 hk0 (by decide) rfl hl.1 rfl (Nat.le_of_ble_eq_true rfl) dX12_move_2 ⟨Nat.le_of_ble_eq_true rfl, Nat.le_of_ble_eq_true rfl⟩ (fun v3 kp3 L3 E3 H locs hq3 hx3 TH hS => ?_)
  obtain ⟨⟨xc4, rfl, hxc4a, hxc4b, hpoxc4_0, hpoxc4_1⟩, rfl, rfl, rfl⟩ := hq3
  refine W.eq (g2 := F0 m 5 ls [.int xc4]) rfl ?_
  refine lv_if_eq (tgt := 40) hx hb dX12_move_5 (by decide) (fun hc5 => ?_) (fun hc5 => ?_)
  · have hf6 : xc4.toInt = 0 := by have z := (fa_eq _ _).mp hc5; have : ((0 : Int32).toInt) = 0 := (by decide); omega
    refine lv_iconst (v := 0) hx hb dX12_move_40 (by decide) ?_
    exact tw_zret hx hb hr hlocks (by decide) TH hS hex ⟨⟨_, rfl, (show 0 ≤ Int32.toInt 0 from by have : ((0 : Int32).toInt) = 0 := (by decide); omega), (show Int32.toInt 0 ≤ 1 from by have : ((0 : Int32).toInt) = 0 := (by decide); omega), hg0, hg1, hg2, hg3⟩, rfl, rfl, hF⟩ (Nat.le_of_ble_eq_true rfl) (Nat.le_of_ble_eq_true rfl) dX12_move_41
  · have hf7 : ¬ (xc4.toInt = 0) := fun q => hc5 ((fa_eq _ _).mpr (by have : ((0 : Int32).toInt) = 0 := (by decide); omega))
    refine lv_aload_n hx hb dX12_move_8 rfl (lv_at hl 0 rfl) ?_
    refine lv_iload_n hx hb dX12_move_9 rfl (lv_at hl 2 rfl) ?_
    refine tw_Vc (o := a0) (ci := 12) (n := 1) (post := (fun v kq Lq Eq => (∃ x : Int32, v = some (.int x) ∧ 0 ≤ x.toInt ∧ x.toInt ≤ 1 ∧ (x.toInt ≠ 0 → 0 ≤ x2.toInt ∧ x2.toInt < xi1.toInt ∧ xi2.toInt = 1) ∧ (x.toInt ≠ 0 → rw_h E a0 12 (x2.toInt).toNat ≠ 0)) ∧ kp = kq ∧ L = Lq ∧ E = Eq)) (As := [.int x2]) (rest := []) ⟨hx, hb, hml, hown, hB⟩ (fun sz => tX12_inDraft l D cs a0 x2 xi1 xi2 hm0 hk0 hxi1 hxi2 sz) cg_12_425_X12_inDraft rfl rfl (by decide +kernel) ⟨Nat.le_of_ble_eq_true rfl, Nat.le_of_ble_eq_true rfl⟩ hK hN TH hS hA rfl hm0 hk0 (by decide) rfl hl.1 rfl (Nat.le_of_ble_eq_true rfl) dX12_move_10 ⟨Nat.le_of_ble_eq_true rfl, Nat.le_of_ble_eq_true rfl⟩ (fun v8 kp8 L8 E8 H locs hq8 hx8 TH hS => ?_)
    obtain ⟨⟨xc9, rfl, hxc9a, hxc9b, hpoxc9_0, hpoxc9_1⟩, rfl, rfl, rfl⟩ := hq8
    refine W.eq (g2 := F0 m 13 ls [.int xc9]) rfl ?_
    refine lv_if_eq (tgt := 40) hx hb dX12_move_13 (by decide) (fun hc10 => ?_) (fun hc10 => ?_)
    · have hf11 : xc9.toInt = 0 := by have z := (fa_eq _ _).mp hc10; have : ((0 : Int32).toInt) = 0 := (by decide); omega
      refine lv_iconst (v := 0) hx hb dX12_move_40 (by decide) ?_
      exact tw_zret hx hb hr hlocks (by decide) TH hS hex ⟨⟨_, rfl, (show 0 ≤ Int32.toInt 0 from by have : ((0 : Int32).toInt) = 0 := (by decide); omega), (show Int32.toInt 0 ≤ 1 from by have : ((0 : Int32).toInt) = 0 := (by decide); omega), hg0, hg1, hg2, hg3⟩, rfl, rfl, hF⟩ (Nat.le_of_ble_eq_true rfl) (Nat.le_of_ble_eq_true rfl) dX12_move_41
    · have hf12 : ¬ (xc9.toInt = 0) := fun q => hc10 ((fa_eq _ _).mpr (by have : ((0 : Int32).toInt) = 0 := (by decide); omega))
      refine lv_aload_n hx hb dX12_move_16 rfl (lv_at hl 0 rfl) ?_
      refine tw_get (ci := 12) (C := RX12) (T := TX12) (N := 64) hx hb hB cx_inX12 hown hK TH hm0 hk0 rfl ⟨by decide, rfl⟩ 18 (by decide) cw_1211 (fun _ h9 => h9) dX12_move_17 (fun hv => ?_)
      obtain ⟨xr13, hxr13, hmxr13, hkxr13⟩ : ∃ a : Nat, tw_fv E a0 18 = .ref a ∧ a ∈ L ∧ kp a = 318 := hv
      rw [hxr13]
      refine lv_bipush (v := 12) hx hb dX12_move_20 (by decide) ?_
      refine tw_aald (k := 318) (t0 := 4) (n := 16) (lo := 328) (hi := 0) (ty := .int) hx hb hK TH hmxr13 hkxr13 (by decide) rfl rfl (i := 12) (vp_in_iff.mpr ⟨by have : ((12 : Int32).toInt) = 12 := (by decide); omega, by have : ((12 : Int32).toInt) = 12 := (by decide); omega⟩) dX12_move_22 (fun xr14 exr14 hmxr14 hkxr14 => ?_)
      have hkxr14 : kp xr14 = 328 := hkxr14
      refine lv_iload_n hx hb dX12_move_23 rfl (lv_at hl 1 rfl) ?_
      refine tw_iald (k := 328) (t0 := 0) (n := 150) (lo := (-1)) (hi := 149) hx hb hK TH hmxr14 hkxr14 (by decide) rfl rfl (i := x1) (vp_in_iff.mpr ⟨by  omega, by  omega⟩) dX12_move_24 (fun hxe15a hxe15b => ?_)
      obtain ⟨xe15, exe15⟩ : ∃ z : Int32, tw_iv E xr14 (Int32.toNatClampNeg x1) = z := ⟨_, rfl⟩
      rw [exe15] at hxe15a hxe15b ⊢
      refine lv_iconst (v := (-1)) hx hb dX12_move_25 (by decide) ?_
      refine lv_icmp_eq (tgt := 40) hx hb dX12_move_26 (by decide) (fun hc16 => ?_) (fun hc16 => ?_)
      · have hf17 : xe15.toInt = (-1) := by have z := (fa_eq _ _).mp hc16; have : (((-1) : Int32).toInt) = (-1) := (by decide); omega
        refine lv_iconst (v := 0) hx hb dX12_move_40 (by decide) ?_
        exact tw_zret hx hb hr hlocks (by decide) TH hS hex ⟨⟨_, rfl, (show 0 ≤ Int32.toInt 0 from by have : ((0 : Int32).toInt) = 0 := (by decide); omega), (show Int32.toInt 0 ≤ 1 from by have : ((0 : Int32).toInt) = 0 := (by decide); omega), hg0, hg1, hg2, hg3⟩, rfl, rfl, hF⟩ (Nat.le_of_ble_eq_true rfl) (Nat.le_of_ble_eq_true rfl) dX12_move_41
      · have hf18 : ¬ (xe15.toInt = (-1)) := fun q => hc16 ((fa_eq _ _).mpr (by have : (((-1) : Int32).toInt) = (-1) := (by decide); omega))
        refine lv_aload_n hx hb dX12_move_29 rfl (lv_at hl 0 rfl) ?_
        refine lv_bipush (v := 12) hx hb dX12_move_30 (by decide) ?_
        refine lv_iload_n hx hb dX12_move_32 rfl (lv_at hl 2 rfl) ?_
        refine lv_iload_n hx hb dX12_move_33 rfl (lv_at hl 1 rfl) ?_
        refine tw_Vc (o := a0) (ci := 12) (n := 3) (post := (fun v kq Lq Eq => (∃ x : Int32, v = some (.int x) ∧ 0 ≤ x.toInt ∧ x.toInt ≤ 1 ∧ (x.toInt = 0 → 0 ≤ x1.toInt → ∀ k : Nat, rt_up (rw_p E a0 (12 : Int32).toInt) k x2.toInt ≠ x1.toInt)) ∧ kp = kq ∧ L = Lq ∧ E = Eq)) (As := [.int 12, .int x2, .int x1]) (rest := []) ⟨hx, hb, hml, hown, hB⟩ (fun sz => tX12_isUnder l D cs a0 (12 : Int32) x2 x1 hm0 hk0 (by have : ((12 : Int32).toInt) = 12 := (by decide); omega) (by have : ((12 : Int32).toInt) = 12 := (by decide); omega) (by omega) (by omega) (by have : ((12 : Int32).toInt) = 12 := (by decide); have e12 : ((12 : Int32).toInt) = 12 := (by decide); rw [e12]; exact hpoxc9_1 (by omega)) (rw_ok_cast (i := 12) (by decide) (hg3 (by rw [tw_fi_of hxi2]; omega)).1) sz) cg_12_442_X12_isUnder rfl rfl (by decide +kernel) ⟨Nat.le_of_ble_eq_true rfl, Nat.le_of_ble_eq_true rfl⟩ hK hN TH hS hA rfl hm0 hk0 (by decide) rfl hl.1 rfl (Nat.le_of_ble_eq_true rfl) dX12_move_34 ⟨Nat.le_of_ble_eq_true rfl, Nat.le_of_ble_eq_true rfl⟩ (fun v19 kp19 L19 E19 H locs hq19 hx19 TH hS => ?_)
        obtain ⟨⟨xc20, rfl, hxc20a, hxc20b, hpoxc20_0⟩, rfl, rfl, rfl⟩ := hq19
        refine W.eq (g2 := F0 m 37 ls [.int xc20]) rfl ?_
        refine lv_if_eq (tgt := 42) hx hb dX12_move_37 (by decide) (fun hc21 => ?_) (fun hc21 => ?_)
        · have hf22 : xc20.toInt = 0 := by have z := (fa_eq _ _).mp hc21; have : ((0 : Int32).toInt) = 0 := (by decide); omega
          refine lv_aload_n hx hb dX12_move_42 rfl (lv_at hl 0 rfl) ?_
          refine lv_bipush (v := 12) hx hb dX12_move_43 (by decide) ?_
          refine lv_iload_n hx hb dX12_move_45 rfl (lv_at hl 2 rfl) ?_
          refine tw_Vc (o := a0) (ci := 12) (n := 2) (post := (fun v kq Lq Eq => (∃ x : Int32, v = some (.int x) ∧ 0 ≤ x.toInt ∧ x.toInt ≤ 150 ∧ (x.toInt = 0 → nk_inv (rw_h E a0 (12 : Int32).toInt) (rw_p E a0 (12 : Int32).toInt) x2.toInt 150)) ∧ kp = kq ∧ L = Lq ∧ E = Eq)) (As := [.int 12, .int x2]) (rest := []) ⟨hx, hb, hml, hown, hB⟩ (fun sz => tX12_kidsOf l D cs a0 (12 : Int32) x2 hm0 hk0 (by have : ((12 : Int32).toInt) = 12 := (by decide); omega) (by have : ((12 : Int32).toInt) = 12 := (by decide); omega) sz) cg_12_315_X12_kidsOf rfl rfl (by decide +kernel) ⟨Nat.le_of_ble_eq_true rfl, Nat.le_of_ble_eq_true rfl⟩ hK hN TH hS hA rfl hm0 hk0 (by decide) rfl hl.1 rfl (Nat.le_of_ble_eq_true rfl) dX12_move_46 ⟨Nat.le_of_ble_eq_true rfl, Nat.le_of_ble_eq_true rfl⟩ (fun v23 kp23 L23 E23 H locs hq23 hx23 TH hS => ?_)
          obtain ⟨⟨xc24, rfl, hxc24a, hxc24b, hpoxc24_0⟩, rfl, rfl, rfl⟩ := hq23
          refine W.eq (g2 := F0 m 49 ls [.int xc24]) rfl ?_
          refine lv_aload_n hx hb dX12_move_49 rfl (lv_at hl 0 rfl) ?_
          refine tw_get (ci := 12) (C := RX12) (T := TX12) (N := 64) hx hb hB cx_inX12 hown hK TH hm0 hk0 rfl ⟨by decide, rfl⟩ 18 (by decide) cw_1211 (fun _ h9 => h9) dX12_move_50 (fun hv => ?_)
          rw [hxr13]
          refine lv_bipush (v := 12) hx hb dX12_move_53 (by decide) ?_
          refine tw_aald (k := 318) (t0 := 4) (n := 16) (lo := 328) (hi := 0) (ty := .int) hx hb hK TH hmxr13 hkxr13 (by decide) rfl rfl (i := 12) (vp_in_iff.mpr ⟨by have : ((12 : Int32).toInt) = 12 := (by decide); omega, by have : ((12 : Int32).toInt) = 12 := (by decide); omega⟩) dX12_move_55 (fun xr25 exr25 hmxr25 hkxr25 => ?_)
          have ezxr25 : xr14 = xr25 := exr14.symm.trans exr25
          subst ezxr25
          refine lv_iload_n hx hb dX12_move_56 rfl (lv_at hl 1 rfl) ?_
          refine tw_iald (k := 328) (t0 := 0) (n := 150) (lo := (-1)) (hi := 149) hx hb hK TH hmxr14 hkxr14 (by decide) rfl rfl (i := x1) (vp_in_iff.mpr ⟨by  omega, by  omega⟩) dX12_move_57 (fun hxe26a hxe26b => ?_)
          rw [exe15]
          refine lv_iload_n hx hb dX12_move_58 rfl (lv_at hl 2 rfl) ?_
          refine lv_icmp_ne (tgt := 66) hx hb dX12_move_59 (by decide) (fun hc27 => ?_) (fun hc27 => ?_)
          · have hf28 : ¬ (xe15.toInt = x2.toInt) := fun q => hc27 ((fa_eq _ _).mpr (by  omega))
            refine lv_iconst (v := 0) hx hb dX12_move_66 (by decide) ?_
            refine lv_isub hx hb dX12_move_67 ?_
            refine lv_topi (fun zi29 ezi29 => ?_)
            have hzi29 : zi29.toInt = xc24.toInt - 0 := by rw [ezi29]; have : ((0 : Int32).toInt) = 0 := (by decide); have := ia_lo xc24; have := ia_hi xc24; exact (ia_sub (by omega) (by omega)).trans (by omega)
            refine lv_istore (lv' := [(4, .int zi29), (0, .ref a0), (1, .int x1), (2, .int x2), (3, .int x3)]) hx hb dX12_move_68 hl (by decide) rfl (fun ls hl => ?_)
            refine lv_iload_n hx hb dX12_move_70 rfl (lv_at hl 4 rfl) ?_
            refine lv_i2l (v := (x3).toInt64) hx hb dX12_move_71 rfl ?_
            refine tw_topl (fun zl30 ezl30 => ?_)
            have hzl30 : zl30.toInt = x3.toInt := by rw [ezl30];  exact (Int32.toInt_toInt64 _)
            refine lv_lconst (v := 0) hx hb dX12_move_72 (by decide) ?_
            refine tw_topl (fun zl31 ezl31 => ?_)
            have hzl31 : zl31.toInt = 0 := by rw [ezl31]; decide
            refine lv_iload hx hb dX12_move_73 (lv_at hl 0 rfl) ?_
            refine lv_i2l (v := (zi29).toInt64) hx hb dX12_move_75 rfl ?_
            refine tw_topl (fun zl32 ezl32 => ?_)
            have hzl32 : zl32.toInt = zi29.toInt := by rw [ezl32];  exact (Int32.toInt_toInt64 _)
            refine tw_Sc (n := 3) (post := (fun v kq Lq Eq => (∃ x : Int32, v = some (.int x) ∧ 0 ≤ x.toInt ∧ x.toInt ≤ 1 ∧ (x.toInt ≠ 0 → zl31.toInt ≤ zl30.toInt ∧ zl30.toInt ≤ zl32.toInt)) ∧ kp = kq ∧ L = Lq ∧ E = Eq)) (As := [.long zl30, .long zl31, .long zl32]) (rest := []) ⟨hx, hb, hml, hown, hB⟩ (fun sz => tX12_in l D cs zl30 zl31 zl32  sz) cg_12_171_X12_in rfl rfl (by decide +kernel) ⟨Nat.le_of_ble_eq_true rfl, Nat.le_of_ble_eq_true rfl⟩ hK hN TH hS hA rfl hl.1 rfl (Nat.le_of_ble_eq_true rfl) dX12_move_76 ⟨Nat.le_of_ble_eq_true rfl, Nat.le_of_ble_eq_true rfl⟩ (fun v33 kp33 L33 E33 H locs hq33 hx33 TH hS => ?_)
            obtain ⟨⟨xc34, rfl, hxc34a, hxc34b, hpoxc34_0⟩, rfl, rfl, rfl⟩ := hq33
            refine W.eq (g2 := F0 m 79 ls [.int xc34]) rfl ?_
            refine lv_if_ne (tgt := 84) hx hb dX12_move_79 (by decide) (fun hc35 => ?_) (fun hc35 => ?_)
            · have hf36 : ¬ (xc34.toInt = 0) := fun q => hc35 ((fa_eq _ _).mpr (by have : ((0 : Int32).toInt) = 0 := (by decide); omega))
              refine lv_aload_n hx hb dX12_move_84 rfl (lv_at hl 1 rfl) ?_
              refine tw_get (ci := 12) (C := RX12) (T := TX12) (N := 64) hx hb hB cx_inX12 hown hK TH hm0 hk0 rfl ⟨by decide, rfl⟩ 18 (by decide) cw_1211 (fun _ h9 => h9) dX12_move_85 (fun hv => ?_)
              rw [hxr13]
              refine lv_bipush (v := 12) hx hb dX12_move_88 (by decide) ?_
              refine tw_aald (k := 318) (t0 := 4) (n := 16) (lo := 328) (hi := 0) (ty := .int) hx hb hK TH hmxr13 hkxr13 (by decide) rfl rfl (i := 12) (vp_in_iff.mpr ⟨by have : ((12 : Int32).toInt) = 12 := (by decide); omega, by have : ((12 : Int32).toInt) = 12 := (by decide); omega⟩) dX12_move_90 (fun xr37 exr37 hmxr37 hkxr37 => ?_)
              have ezxr37 : xr14 = xr37 := exr14.symm.trans exr37
              subst ezxr37
              refine lv_iload_n hx hb dX12_move_91 rfl (lv_at hl 2 rfl) ?_
              refine tw_iald (k := 328) (t0 := 0) (n := 150) (lo := (-1)) (hi := 149) hx hb hK TH hmxr14 hkxr14 (by decide) rfl rfl (i := x1) (vp_in_iff.mpr ⟨by  omega, by  omega⟩) dX12_move_92 (fun hxe38a hxe38b => ?_)
              rw [exe15]
              refine lv_istore (lv' := [(5, .int xe15), (4, .int zi29), (0, .ref a0), (1, .int x1), (2, .int x2), (3, .int x3)]) hx hb dX12_move_93 hl (by decide) rfl (fun ls hl => ?_)
              have rf_xe15 : rw_p E a0 (12) (x1.toInt).toNat = xe15.toInt := (by have q := rw_p_of (m := a0) (i := (12 : Int32)) (c := x1) hxr13 exr14 exe15; rw [show ((12 : Int32).toInt) = 12 from (by decide)] at q; exact q)
              have hn26 := hxi1
              have hrow := (hg3 (by rw [tw_fi_of hxi2]; omega))
              have hpn : rw_p E a0 12 (x1.toInt).toNat ≠ -1 := (by rw [rf_xe15]; omega)
              refine lv_aload_n hx hb dX12_move_95 rfl (lv_at hl 2 rfl) ?_
              refine tw_get (ci := 12) (C := RX12) (T := TX12) (N := 64) hx hb hB cx_inX12 hown hK TH hm0 hk0 rfl ⟨by decide, rfl⟩ 16 (by decide) cw_1209 (fun _ h9 => h9) dX12_move_96 (fun hv => ?_)
              obtain ⟨xr39, hxr39, hmxr39, hkxr39⟩ : ∃ a : Nat, tw_fv E a0 16 = .ref a ∧ a ∈ L ∧ kp a = 316 := hv
              rw [hxr39]
              refine lv_bipush (v := 12) hx hb dX12_move_99 (by decide) ?_
              refine tw_aald (k := 316) (t0 := 5) (n := 16) (lo := 326) (hi := 0) (ty := .boolean) hx hb hK TH hmxr39 hkxr39 (by decide) rfl rfl (i := 12) (vp_in_iff.mpr ⟨by have : ((12 : Int32).toInt) = 12 := (by decide); omega, by have : ((12 : Int32).toInt) = 12 := (by decide); omega⟩) dX12_move_101 (fun xr40 exr40 hmxr40 hkxr40 => ?_)
              have hkxr40 : kp xr40 = 326 := hkxr40
              refine lv_iload_n hx hb dX12_move_102 rfl (lv_at hl 3 rfl) ?_
              refine lv_iconst (v := 0) hx hb dX12_move_103 (by decide) ?_
              refine tw_zast (k := 326) (n := 150) (lo := 0) (hi := 1) hx hb hK TH hS hmxr40 hkxr40 (by decide) rfl (i := x1) (x := 0) (vp_in_iff.mpr ⟨by  omega, by  omega⟩) (by have : ((0 : Int32).toInt) = 0 := (by decide); omega) (by have : ((0 : Int32).toInt) = 0 := (by decide); omega) (by have : ((0 : Int32).toInt) = 0 := (by decide); omega) (by have : ((0 : Int32).toInt) = 0 := (by decide); omega) dX12_move_104 (fun H locs E41 TH hS hp42 hp43 hp44 => ?_)
              have hst45 : tw_fr kp L [] [326] E E41 := tw_fr.ast tw_fr.rf (fun _ => hkxr40) hp42 hp43 (by decide)
              have hF := hF.tr hst45 (fun _ h => ⟨h, rfl⟩) (by decide) (by decide)
              have hmf46 : tw_fv E41 a0 26 = .int xi1 := (hst45.1 a0 26 hm0 (by rw [hk0]; decide)).trans hxi1
              have hmf47 : tw_fv E41 a0 29 = .int xi2 := (hst45.1 a0 29 hm0 (by rw [hk0]; decide)).trans hxi2
              have hmf48 : tw_fv E41 a0 18 = .ref xr13 := (hst45.1 a0 18 hm0 (by rw [hk0]; decide)).trans hxr13
              have hmf49 : tw_fv E41 a0 16 = .ref xr39 := (hst45.1 a0 16 hm0 (by rw [hk0]; decide)).trans hxr39
              have hg0_o := hg0
              have hg1_o := hg1
              have hg2_o := hg2
              have hg3_o := hg3
              have hh12_o := hh12
              have hp12_o := hp12
              have hg0 : rd_ok E41 a0 := rd_ok_fr TH hst45 hm0 hk0 (by decide) (by decide) hg0
              have hg1 : eo_ok E41 a0 := eo_ok_h (i := 12) TH hm0 hk0 hg0_o hxr39 exr40 hkxr39 hkxr40 hp42 hp43 (by have e : ((12 : Int32).toInt) = 12 := (by decide); omega) (by have e : ((12 : Int32).toInt) = 12 := (by decide); omega) (by have := tw_fi_ed TH hm0 hk0; have e : ((12 : Int32).toInt) = 12 := (by decide); omega) hg1_o
              have hg2 : ht_ok E41 a0 := ht_ok_h (i := 12) hg0_o hxr39 exr40 hkxr39 hkxr40 hp42 hp43 (by have e : ((12 : Int32).toInt) = 12 := (by decide); omega) (by have e : ((12 : Int32).toInt) = 12 := (by decide); omega) hg2_o
              have hh12 : h12_ok E41 a0 (fun c => if c = (x1.toInt).toNat then 0 else (rw_h E a0 12) c) := (by have e12 : ((12 : Int32).toInt) = 12 := (by decide); have ev : ((0 : Int32).toInt) = 0 := (by decide); have q := rw_h_st (m := a0) (i := 12) (c := x1) hxr39 exr40 hkxr39 hkxr40 hp42 hp43 hp44; rw [e12, ev] at q; exact h12_st hh12_o q)
              have hp12 : p12_ok E41 a0 (rw_p E a0 12) := p12_ok_fr TH hst45 hm0 hk0 (by decide) (by decide) hp12
              refine lv_aload_n hx hb dX12_move_105 rfl (lv_at hl 2 rfl) ?_
              refine lv_iload hx hb dX12_move_106 (lv_at hl 0 rfl) ?_
              refine tw_Vc (o := a0) (ci := 12) (n := 1) (post := (fun v kq Lq Eq => v = none ∧ kp = kq ∧ L = Lq ∧ tw_fr kp L [] [329] E41 Eq)) (As := [.int xe15]) (rest := []) ⟨hx, hb, hml, hown, hB⟩ (fun sz => tX12_shrinks l D cs a0 xe15 hm0 hk0 sz) cg_12_422_X12_shrinks rfl rfl (by decide +kernel) ⟨Nat.le_of_ble_eq_true rfl, Nat.le_of_ble_eq_true rfl⟩ hK hN TH hS hA rfl hm0 hk0 (by decide) rfl hl.1 rfl (Nat.le_of_ble_eq_true rfl) dX12_move_108 ⟨Nat.le_of_ble_eq_true rfl, Nat.le_of_ble_eq_true rfl⟩ (fun v50 kp50 L50 E50 H locs hq50 hx50 TH hS => ?_)
              obtain ⟨rfl, rfl, rfl, hst50⟩ := hq50
              have hF := hF.tr hst50 (fun _ h => ⟨h, rfl⟩) (by decide) (by decide)
              have hmf52 : tw_fv E50 a0 26 = .int xi1 := (hst50.1 a0 26 hm0 (by rw [hk0]; decide)).trans hmf46
              have hmf53 : tw_fv E50 a0 29 = .int xi2 := (hst50.1 a0 29 hm0 (by rw [hk0]; decide)).trans hmf47
              have hmf54 : tw_fv E50 a0 18 = .ref xr13 := (hst50.1 a0 18 hm0 (by rw [hk0]; decide)).trans hmf48
              have hmf55 : tw_fv E50 a0 16 = .ref xr39 := (hst50.1 a0 16 hm0 (by rw [hk0]; decide)).trans hmf49
              have hg0 : rd_ok E50 a0 := rd_ok_fr TH hst50 hm0 hk0 (by decide) (by decide) hg0
              have hg1 : eo_ok E50 a0 := eo_ok_fr TH hst50 hm0 hk0 (by decide) (by decide) hg1
              have hg2 : ht_ok E50 a0 := ht_ok_fr TH hst50 hm0 hk0 (by decide) (by decide) hg2
              have hh12 : h12_ok E50 a0 (fun c => if c = (x1.toInt).toNat then 0 else (rw_h E a0 12) c) := h12_ok_fr TH hst50 hm0 hk0 (by decide) (by decide) hh12
              have hp12 : p12_ok E50 a0 (rw_p E a0 12) := p12_ok_fr TH hst50 hm0 hk0 (by decide) (by decide) hp12
              refine W.eq (g2 := F0 m 111 ls []) rfl ?_
              refine lv_aload_n hx hb dX12_move_111 rfl (lv_at hl 2 rfl) ?_
              refine lv_iload_n hx hb dX12_move_112 rfl (lv_at hl 3 rfl) ?_
              refine lv_iload_n hx hb dX12_move_113 rfl (lv_at hl 4 rfl) ?_
              refine lv_iload_n hx hb dX12_move_114 rfl (lv_at hl 5 rfl) ?_
              refine tw_Vc (o := a0) (ci := 12) (n := 3) (post := (fun v kq Lq Eq => v = none ∧ kp = kq ∧ L = Lq ∧ tw_fr kp L [] [326, 328, 329] E50 Eq ∧ (∀ c : Nat, rw_h Eq a0 12 c = if c = (x1.toInt).toNat then 1 else rw_h E50 a0 12 c) ∧ (∀ c : Nat, rw_p Eq a0 12 c = if c = (x1.toInt).toNat then x2.toInt else rw_p E50 a0 12 c) ∧ rw_ok Eq a0 (12) ∧ rd_ok Eq a0 ∧ eo_ok Eq a0 ∧ ht_ok Eq a0)) (As := [.int x1, .int x2, .int x3]) (rest := []) ⟨hx, hb, hml, hown, hB⟩ (fun sz => tX12_lays l D cs a0 x1 x2 x3 hm0 hk0 (by omega) (by omega) (by omega) (by omega) (by have e12 : ((12 : Int32).toInt) = 12 := (by decide); unfold lyw_ok; have fh : rw_h E50 a0 12 = _ := hh12; have fp : rw_p E50 a0 12 = rw_p E a0 12 := hp12; rw [fp]; have up := hpoxc20_0 (by omega) (by omega); rw [e12] at up; exact ly_move hrow.1.1 hrow.1.2.1 hrow.1.2.2 (by omega) (by omega) (hpoxc4_1 (by omega)) (by omega) (by omega) (hpoxc9_1 (by omega)) up (fun c => congrFun fh c)) hg0 hg1 hg2 sz) cg_12_439_X12_lays rfl rfl (by decide +kernel) ⟨Nat.le_of_ble_eq_true rfl, Nat.le_of_ble_eq_true rfl⟩ hK hN TH hS hA rfl hm0 hk0 (by decide) rfl hl.1 rfl (Nat.le_of_ble_eq_true rfl) dX12_move_115 ⟨Nat.le_of_ble_eq_true rfl, Nat.le_of_ble_eq_true rfl⟩ (fun v56 kp56 L56 E56 H locs hq56 hx56 TH hS => ?_)
              obtain ⟨rfl, rfl, rfl, hst56, hpoxc57_0, hpoxc57_1, hgpxc57_0, hgpxc57_1, hgpxc57_2, hgpxc57_3⟩ := hq56
              have hF := hF.tr hst56 (fun _ h => ⟨h, rfl⟩) (by decide) (by decide)
              have hmf58 : tw_fv E56 a0 26 = .int xi1 := (hst56.1 a0 26 hm0 (by rw [hk0]; decide)).trans hmf52
              have hmf59 : tw_fv E56 a0 29 = .int xi2 := (hst56.1 a0 29 hm0 (by rw [hk0]; decide)).trans hmf53
              have hmf60 : tw_fv E56 a0 18 = .ref xr13 := (hst56.1 a0 18 hm0 (by rw [hk0]; decide)).trans hmf54
              have hmf61 : tw_fv E56 a0 16 = .ref xr39 := (hst56.1 a0 16 hm0 (by rw [hk0]; decide)).trans hmf55
              have hgn62 : dr_ok E56 a0 := (fun _ => (by have fh : rw_h E50 a0 12 = _ := hh12; have fp : rw_p E50 a0 12 = rw_p E a0 12 := hp12; refine row_put (h := rw_h E a0 12) (p := rw_p E a0 12) (n := x1.toInt) (u := x2.toInt) (N := xi1.toInt) (by omega) (by omega) (by omega) ?_ (Or.inr ⟨hpoxc4_1 (by omega), hrow.2.2.1⟩) (fun c hc hx => (by have z := hrow.2.2.2 c hc hx; rw [tw_fi_of hn26] at z; omega)) (by omega) (tw_fi_of ((hst56.1 a0 26 hm0 (by rw [hk0]; decide)).trans hmf52)) (fun c => (by rw [hpoxc57_0 c, fh]; (by_cases hcn : c = (x1.toInt).toNat; (rw [if_pos hcn, if_pos hcn]); (rw [if_neg hcn, if_neg hcn]; exact if_neg hcn)))) (fun c => (hpoxc57_1 c).trans (by rw [fp])) hgpxc57_0; (obtain ⟨r, r0, r1, r2, r3⟩ := hrow.2.1; exact ⟨r, r0, r1, (fun z => hpn (by rw [← z]; exact r3)), r2, r3⟩)))
              refine W.eq (g2 := F0 m 118 ls []) rfl ?_
              refine lv_iconst (v := 1) hx hb dX12_move_118 (by decide) ?_
              exact tw_zret hx hb hr hlocks (by decide) TH hS hex ⟨⟨_, rfl, (show 0 ≤ Int32.toInt 1 from by have : ((1 : Int32).toInt) = 1 := (by decide); omega), (show Int32.toInt 1 ≤ 1 from by have : ((1 : Int32).toInt) = 1 := (by decide); omega), hgpxc57_1, hgpxc57_2, hgpxc57_3, hgn62⟩, rfl, rfl, hF⟩ (Nat.le_of_ble_eq_true rfl) (Nat.le_of_ble_eq_true rfl) dX12_move_119
            · have hf63 : xc34.toInt = 0 := by have z := (fa_eq _ _).mp hc35; have : ((0 : Int32).toInt) = 0 := (by decide); omega
              refine lv_iconst (v := 0) hx hb dX12_move_82 (by decide) ?_
              exact tw_zret hx hb hr hlocks (by decide) TH hS hex ⟨⟨_, rfl, (show 0 ≤ Int32.toInt 0 from by have : ((0 : Int32).toInt) = 0 := (by decide); omega), (show Int32.toInt 0 ≤ 1 from by have : ((0 : Int32).toInt) = 0 := (by decide); omega), hg0, hg1, hg2, hg3⟩, rfl, rfl, hF⟩ (Nat.le_of_ble_eq_true rfl) (Nat.le_of_ble_eq_true rfl) dX12_move_83
          · have hf64 : xe15.toInt = x2.toInt := by have z := (fa_eq _ _).mp hc27;  omega
            refine lv_iconst (v := 1) hx hb dX12_move_62 (by decide) ?_
            refine lv_goto (tgt := 67) hx hb dX12_move_63 (by decide) ?_
            refine lv_isub hx hb dX12_move_67 ?_
            refine lv_topi (fun zi65 ezi65 => ?_)
            have hzi65 : zi65.toInt = xc24.toInt - 1 := by rw [ezi65]; have : ((1 : Int32).toInt) = 1 := (by decide); have := ia_lo xc24; have := ia_hi xc24; exact (ia_sub (by omega) (by omega)).trans (by omega)
            refine lv_istore (lv' := [(4, .int zi65), (0, .ref a0), (1, .int x1), (2, .int x2), (3, .int x3)]) hx hb dX12_move_68 hl (by decide) rfl (fun ls hl => ?_)
            refine lv_iload_n hx hb dX12_move_70 rfl (lv_at hl 4 rfl) ?_
            refine lv_i2l (v := (x3).toInt64) hx hb dX12_move_71 rfl ?_
            refine tw_topl (fun zl66 ezl66 => ?_)
            have hzl66 : zl66.toInt = x3.toInt := by rw [ezl66];  exact (Int32.toInt_toInt64 _)
            refine lv_lconst (v := 0) hx hb dX12_move_72 (by decide) ?_
            refine tw_topl (fun zl67 ezl67 => ?_)
            have hzl67 : zl67.toInt = 0 := by rw [ezl67]; decide
            refine lv_iload hx hb dX12_move_73 (lv_at hl 0 rfl) ?_
            refine lv_i2l (v := (zi65).toInt64) hx hb dX12_move_75 rfl ?_
            refine tw_topl (fun zl68 ezl68 => ?_)
            have hzl68 : zl68.toInt = zi65.toInt := by rw [ezl68];  exact (Int32.toInt_toInt64 _)
            refine tw_Sc (n := 3) (post := (fun v kq Lq Eq => (∃ x : Int32, v = some (.int x) ∧ 0 ≤ x.toInt ∧ x.toInt ≤ 1 ∧ (x.toInt ≠ 0 → zl67.toInt ≤ zl66.toInt ∧ zl66.toInt ≤ zl68.toInt)) ∧ kp = kq ∧ L = Lq ∧ E = Eq)) (As := [.long zl66, .long zl67, .long zl68]) (rest := []) ⟨hx, hb, hml, hown, hB⟩ (fun sz => tX12_in l D cs zl66 zl67 zl68  sz) cg_12_171_X12_in rfl rfl (by decide +kernel) ⟨Nat.le_of_ble_eq_true rfl, Nat.le_of_ble_eq_true rfl⟩ hK hN TH hS hA rfl hl.1 rfl (Nat.le_of_ble_eq_true rfl) dX12_move_76 ⟨Nat.le_of_ble_eq_true rfl, Nat.le_of_ble_eq_true rfl⟩ (fun v69 kp69 L69 E69 H locs hq69 hx69 TH hS => ?_)
            obtain ⟨⟨xc70, rfl, hxc70a, hxc70b, hpoxc70_0⟩, rfl, rfl, rfl⟩ := hq69
            refine W.eq (g2 := F0 m 79 ls [.int xc70]) rfl ?_
            refine lv_if_ne (tgt := 84) hx hb dX12_move_79 (by decide) (fun hc71 => ?_) (fun hc71 => ?_)
            · have hf72 : ¬ (xc70.toInt = 0) := fun q => hc71 ((fa_eq _ _).mpr (by have : ((0 : Int32).toInt) = 0 := (by decide); omega))
              refine lv_aload_n hx hb dX12_move_84 rfl (lv_at hl 1 rfl) ?_
              refine tw_get (ci := 12) (C := RX12) (T := TX12) (N := 64) hx hb hB cx_inX12 hown hK TH hm0 hk0 rfl ⟨by decide, rfl⟩ 18 (by decide) cw_1211 (fun _ h9 => h9) dX12_move_85 (fun hv => ?_)
              rw [hxr13]
              refine lv_bipush (v := 12) hx hb dX12_move_88 (by decide) ?_
              refine tw_aald (k := 318) (t0 := 4) (n := 16) (lo := 328) (hi := 0) (ty := .int) hx hb hK TH hmxr13 hkxr13 (by decide) rfl rfl (i := 12) (vp_in_iff.mpr ⟨by have : ((12 : Int32).toInt) = 12 := (by decide); omega, by have : ((12 : Int32).toInt) = 12 := (by decide); omega⟩) dX12_move_90 (fun xr73 exr73 hmxr73 hkxr73 => ?_)
              have ezxr73 : xr14 = xr73 := exr14.symm.trans exr73
              subst ezxr73
              refine lv_iload_n hx hb dX12_move_91 rfl (lv_at hl 2 rfl) ?_
              refine tw_iald (k := 328) (t0 := 0) (n := 150) (lo := (-1)) (hi := 149) hx hb hK TH hmxr14 hkxr14 (by decide) rfl rfl (i := x1) (vp_in_iff.mpr ⟨by  omega, by  omega⟩) dX12_move_92 (fun hxe74a hxe74b => ?_)
              rw [exe15]
              refine lv_istore (lv' := [(5, .int xe15), (4, .int zi65), (0, .ref a0), (1, .int x1), (2, .int x2), (3, .int x3)]) hx hb dX12_move_93 hl (by decide) rfl (fun ls hl => ?_)
              have rf_xe15 : rw_p E a0 (12) (x1.toInt).toNat = xe15.toInt := (by have q := rw_p_of (m := a0) (i := (12 : Int32)) (c := x1) hxr13 exr14 exe15; rw [show ((12 : Int32).toInt) = 12 from (by decide)] at q; exact q)
              have hn26 := hxi1
              have hrow := (hg3 (by rw [tw_fi_of hxi2]; omega))
              have hpn : rw_p E a0 12 (x1.toInt).toNat ≠ -1 := (by rw [rf_xe15]; omega)
              refine lv_aload_n hx hb dX12_move_95 rfl (lv_at hl 2 rfl) ?_
              refine tw_get (ci := 12) (C := RX12) (T := TX12) (N := 64) hx hb hB cx_inX12 hown hK TH hm0 hk0 rfl ⟨by decide, rfl⟩ 16 (by decide) cw_1209 (fun _ h9 => h9) dX12_move_96 (fun hv => ?_)
              obtain ⟨xr75, hxr75, hmxr75, hkxr75⟩ : ∃ a : Nat, tw_fv E a0 16 = .ref a ∧ a ∈ L ∧ kp a = 316 := hv
              rw [hxr75]
              refine lv_bipush (v := 12) hx hb dX12_move_99 (by decide) ?_
              refine tw_aald (k := 316) (t0 := 5) (n := 16) (lo := 326) (hi := 0) (ty := .boolean) hx hb hK TH hmxr75 hkxr75 (by decide) rfl rfl (i := 12) (vp_in_iff.mpr ⟨by have : ((12 : Int32).toInt) = 12 := (by decide); omega, by have : ((12 : Int32).toInt) = 12 := (by decide); omega⟩) dX12_move_101 (fun xr76 exr76 hmxr76 hkxr76 => ?_)
              have hkxr76 : kp xr76 = 326 := hkxr76
              refine lv_iload_n hx hb dX12_move_102 rfl (lv_at hl 3 rfl) ?_
              refine lv_iconst (v := 0) hx hb dX12_move_103 (by decide) ?_
              refine tw_zast (k := 326) (n := 150) (lo := 0) (hi := 1) hx hb hK TH hS hmxr76 hkxr76 (by decide) rfl (i := x1) (x := 0) (vp_in_iff.mpr ⟨by  omega, by  omega⟩) (by have : ((0 : Int32).toInt) = 0 := (by decide); omega) (by have : ((0 : Int32).toInt) = 0 := (by decide); omega) (by have : ((0 : Int32).toInt) = 0 := (by decide); omega) (by have : ((0 : Int32).toInt) = 0 := (by decide); omega) dX12_move_104 (fun H locs E77 TH hS hp78 hp79 hp80 => ?_)
              have hst81 : tw_fr kp L [] [326] E E77 := tw_fr.ast tw_fr.rf (fun _ => hkxr76) hp78 hp79 (by decide)
              have hF := hF.tr hst81 (fun _ h => ⟨h, rfl⟩) (by decide) (by decide)
              have hmf82 : tw_fv E77 a0 26 = .int xi1 := (hst81.1 a0 26 hm0 (by rw [hk0]; decide)).trans hxi1
              have hmf83 : tw_fv E77 a0 29 = .int xi2 := (hst81.1 a0 29 hm0 (by rw [hk0]; decide)).trans hxi2
              have hmf84 : tw_fv E77 a0 18 = .ref xr13 := (hst81.1 a0 18 hm0 (by rw [hk0]; decide)).trans hxr13
              have hmf85 : tw_fv E77 a0 16 = .ref xr75 := (hst81.1 a0 16 hm0 (by rw [hk0]; decide)).trans hxr75
              have hg0_o := hg0
              have hg1_o := hg1
              have hg2_o := hg2
              have hg3_o := hg3
              have hh12_o := hh12
              have hp12_o := hp12
              have hg0 : rd_ok E77 a0 := rd_ok_fr TH hst81 hm0 hk0 (by decide) (by decide) hg0
              have hg1 : eo_ok E77 a0 := eo_ok_h (i := 12) TH hm0 hk0 hg0_o hxr75 exr76 hkxr75 hkxr76 hp78 hp79 (by have e : ((12 : Int32).toInt) = 12 := (by decide); omega) (by have e : ((12 : Int32).toInt) = 12 := (by decide); omega) (by have := tw_fi_ed TH hm0 hk0; have e : ((12 : Int32).toInt) = 12 := (by decide); omega) hg1_o
              have hg2 : ht_ok E77 a0 := ht_ok_h (i := 12) hg0_o hxr75 exr76 hkxr75 hkxr76 hp78 hp79 (by have e : ((12 : Int32).toInt) = 12 := (by decide); omega) (by have e : ((12 : Int32).toInt) = 12 := (by decide); omega) hg2_o
              have hh12 : h12_ok E77 a0 (fun c => if c = (x1.toInt).toNat then 0 else (rw_h E a0 12) c) := (by have e12 : ((12 : Int32).toInt) = 12 := (by decide); have ev : ((0 : Int32).toInt) = 0 := (by decide); have q := rw_h_st (m := a0) (i := 12) (c := x1) hxr75 exr76 hkxr75 hkxr76 hp78 hp79 hp80; rw [e12, ev] at q; exact h12_st hh12_o q)
              have hp12 : p12_ok E77 a0 (rw_p E a0 12) := p12_ok_fr TH hst81 hm0 hk0 (by decide) (by decide) hp12
              refine lv_aload_n hx hb dX12_move_105 rfl (lv_at hl 2 rfl) ?_
              refine lv_iload hx hb dX12_move_106 (lv_at hl 0 rfl) ?_
              refine tw_Vc (o := a0) (ci := 12) (n := 1) (post := (fun v kq Lq Eq => v = none ∧ kp = kq ∧ L = Lq ∧ tw_fr kp L [] [329] E77 Eq)) (As := [.int xe15]) (rest := []) ⟨hx, hb, hml, hown, hB⟩ (fun sz => tX12_shrinks l D cs a0 xe15 hm0 hk0 sz) cg_12_422_X12_shrinks rfl rfl (by decide +kernel) ⟨Nat.le_of_ble_eq_true rfl, Nat.le_of_ble_eq_true rfl⟩ hK hN TH hS hA rfl hm0 hk0 (by decide) rfl hl.1 rfl (Nat.le_of_ble_eq_true rfl) dX12_move_108 ⟨Nat.le_of_ble_eq_true rfl, Nat.le_of_ble_eq_true rfl⟩ (fun v86 kp86 L86 E86 H locs hq86 hx86 TH hS => ?_)
              obtain ⟨rfl, rfl, rfl, hst86⟩ := hq86
              have hF := hF.tr hst86 (fun _ h => ⟨h, rfl⟩) (by decide) (by decide)
              have hmf88 : tw_fv E86 a0 26 = .int xi1 := (hst86.1 a0 26 hm0 (by rw [hk0]; decide)).trans hmf82
              have hmf89 : tw_fv E86 a0 29 = .int xi2 := (hst86.1 a0 29 hm0 (by rw [hk0]; decide)).trans hmf83
              have hmf90 : tw_fv E86 a0 18 = .ref xr13 := (hst86.1 a0 18 hm0 (by rw [hk0]; decide)).trans hmf84
              have hmf91 : tw_fv E86 a0 16 = .ref xr75 := (hst86.1 a0 16 hm0 (by rw [hk0]; decide)).trans hmf85
              have hg0 : rd_ok E86 a0 := rd_ok_fr TH hst86 hm0 hk0 (by decide) (by decide) hg0
              have hg1 : eo_ok E86 a0 := eo_ok_fr TH hst86 hm0 hk0 (by decide) (by decide) hg1
              have hg2 : ht_ok E86 a0 := ht_ok_fr TH hst86 hm0 hk0 (by decide) (by decide) hg2
              have hh12 : h12_ok E86 a0 (fun c => if c = (x1.toInt).toNat then 0 else (rw_h E a0 12) c) := h12_ok_fr TH hst86 hm0 hk0 (by decide) (by decide) hh12
              have hp12 : p12_ok E86 a0 (rw_p E a0 12) := p12_ok_fr TH hst86 hm0 hk0 (by decide) (by decide) hp12
              refine W.eq (g2 := F0 m 111 ls []) rfl ?_
              refine lv_aload_n hx hb dX12_move_111 rfl (lv_at hl 2 rfl) ?_
              refine lv_iload_n hx hb dX12_move_112 rfl (lv_at hl 3 rfl) ?_
              refine lv_iload_n hx hb dX12_move_113 rfl (lv_at hl 4 rfl) ?_
              refine lv_iload_n hx hb dX12_move_114 rfl (lv_at hl 5 rfl) ?_
              refine tw_Vc (o := a0) (ci := 12) (n := 3) (post := (fun v kq Lq Eq => v = none ∧ kp = kq ∧ L = Lq ∧ tw_fr kp L [] [326, 328, 329] E86 Eq ∧ (∀ c : Nat, rw_h Eq a0 12 c = if c = (x1.toInt).toNat then 1 else rw_h E86 a0 12 c) ∧ (∀ c : Nat, rw_p Eq a0 12 c = if c = (x1.toInt).toNat then x2.toInt else rw_p E86 a0 12 c) ∧ rw_ok Eq a0 (12) ∧ rd_ok Eq a0 ∧ eo_ok Eq a0 ∧ ht_ok Eq a0)) (As := [.int x1, .int x2, .int x3]) (rest := []) ⟨hx, hb, hml, hown, hB⟩ (fun sz => tX12_lays l D cs a0 x1 x2 x3 hm0 hk0 (by omega) (by omega) (by omega) (by omega) (by have e12 : ((12 : Int32).toInt) = 12 := (by decide); unfold lyw_ok; have fh : rw_h E86 a0 12 = _ := hh12; have fp : rw_p E86 a0 12 = rw_p E a0 12 := hp12; rw [fp]; have up := hpoxc20_0 (by omega) (by omega); rw [e12] at up; exact ly_move hrow.1.1 hrow.1.2.1 hrow.1.2.2 (by omega) (by omega) (hpoxc4_1 (by omega)) (by omega) (by omega) (hpoxc9_1 (by omega)) up (fun c => congrFun fh c)) hg0 hg1 hg2 sz) cg_12_439_X12_lays rfl rfl (by decide +kernel) ⟨Nat.le_of_ble_eq_true rfl, Nat.le_of_ble_eq_true rfl⟩ hK hN TH hS hA rfl hm0 hk0 (by decide) rfl hl.1 rfl (Nat.le_of_ble_eq_true rfl) dX12_move_115 ⟨Nat.le_of_ble_eq_true rfl, Nat.le_of_ble_eq_true rfl⟩ (fun v92 kp92 L92 E92 H locs hq92 hx92 TH hS => ?_)
              obtain ⟨rfl, rfl, rfl, hst92, hpoxc93_0, hpoxc93_1, hgpxc93_0, hgpxc93_1, hgpxc93_2, hgpxc93_3⟩ := hq92
              have hF := hF.tr hst92 (fun _ h => ⟨h, rfl⟩) (by decide) (by decide)
              have hmf94 : tw_fv E92 a0 26 = .int xi1 := (hst92.1 a0 26 hm0 (by rw [hk0]; decide)).trans hmf88
              have hmf95 : tw_fv E92 a0 29 = .int xi2 := (hst92.1 a0 29 hm0 (by rw [hk0]; decide)).trans hmf89
              have hmf96 : tw_fv E92 a0 18 = .ref xr13 := (hst92.1 a0 18 hm0 (by rw [hk0]; decide)).trans hmf90
              have hmf97 : tw_fv E92 a0 16 = .ref xr75 := (hst92.1 a0 16 hm0 (by rw [hk0]; decide)).trans hmf91
              have hgn98 : dr_ok E92 a0 := (fun _ => (by have fh : rw_h E86 a0 12 = _ := hh12; have fp : rw_p E86 a0 12 = rw_p E a0 12 := hp12; refine row_put (h := rw_h E a0 12) (p := rw_p E a0 12) (n := x1.toInt) (u := x2.toInt) (N := xi1.toInt) (by omega) (by omega) (by omega) ?_ (Or.inr ⟨hpoxc4_1 (by omega), hrow.2.2.1⟩) (fun c hc hx => (by have z := hrow.2.2.2 c hc hx; rw [tw_fi_of hn26] at z; omega)) (by omega) (tw_fi_of ((hst92.1 a0 26 hm0 (by rw [hk0]; decide)).trans hmf88)) (fun c => (by rw [hpoxc93_0 c, fh]; (by_cases hcn : c = (x1.toInt).toNat; (rw [if_pos hcn, if_pos hcn]); (rw [if_neg hcn, if_neg hcn]; exact if_neg hcn)))) (fun c => (hpoxc93_1 c).trans (by rw [fp])) hgpxc93_0; (obtain ⟨r, r0, r1, r2, r3⟩ := hrow.2.1; exact ⟨r, r0, r1, (fun z => hpn (by rw [← z]; exact r3)), r2, r3⟩)))
              refine W.eq (g2 := F0 m 118 ls []) rfl ?_
              refine lv_iconst (v := 1) hx hb dX12_move_118 (by decide) ?_
              exact tw_zret hx hb hr hlocks (by decide) TH hS hex ⟨⟨_, rfl, (show 0 ≤ Int32.toInt 1 from by have : ((1 : Int32).toInt) = 1 := (by decide); omega), (show Int32.toInt 1 ≤ 1 from by have : ((1 : Int32).toInt) = 1 := (by decide); omega), hgpxc93_1, hgpxc93_2, hgpxc93_3, hgn98⟩, rfl, rfl, hF⟩ (Nat.le_of_ble_eq_true rfl) (Nat.le_of_ble_eq_true rfl) dX12_move_119
            · have hf99 : xc70.toInt = 0 := by have z := (fa_eq _ _).mp hc71; have : ((0 : Int32).toInt) = 0 := (by decide); omega
              refine lv_iconst (v := 0) hx hb dX12_move_82 (by decide) ?_
              exact tw_zret hx hb hr hlocks (by decide) TH hS hex ⟨⟨_, rfl, (show 0 ≤ Int32.toInt 0 from by have : ((0 : Int32).toInt) = 0 := (by decide); omega), (show Int32.toInt 0 ≤ 1 from by have : ((0 : Int32).toInt) = 0 := (by decide); omega), hg0, hg1, hg2, hg3⟩, rfl, rfl, hF⟩ (Nat.le_of_ble_eq_true rfl) (Nat.le_of_ble_eq_true rfl) dX12_move_83
        · have hf100 : ¬ (xc20.toInt = 0) := fun q => hc21 ((fa_eq _ _).mpr (by have : ((0 : Int32).toInt) = 0 := (by decide); omega))
          refine lv_iconst (v := 0) hx hb dX12_move_40 (by decide) ?_
          exact tw_zret hx hb hr hlocks (by decide) TH hS hex ⟨⟨_, rfl, (show 0 ≤ Int32.toInt 0 from by have : ((0 : Int32).toInt) = 0 := (by decide); omega), (show Int32.toInt 0 ≤ 1 from by have : ((0 : Int32).toInt) = 0 := (by decide); omega), hg0, hg1, hg2, hg3⟩, rfl, rfl, hF⟩ (Nat.le_of_ble_eq_true rfl) (Nat.le_of_ble_eq_true rfl) dX12_move_41
set_option maxHeartbeats 4000000 in
set_option maxRecDepth 100000 in
theorem tX12_close (l : Launch) (D : va_G) (cs : Nat → ClassId) {kp : Nat → Nat} {L : List Nat} {E : Nat → va_E} (a0 : Nat) (hm0 : a0 ∈ L) (hk0 : kp a0 = 12) (hg0 : rd_ok E a0) (hg1 : eo_ok E a0) (hg2 : ht_ok E a0) (hg3 : dr_ok E a0) (sz : Nat) : Met l yX12_close (.code yX12_close cX12_close 1 (some .int) :: cx_big) { frames := 5, cells := 0, slots := 0, locals := 119 } (tw_P D cs kp L E [.ref a0] sz) (tw_Q D cs kp L (fun v kq Lq Eq => (∃ x : Int32, v = some (.int x) ∧ rd_ok Eq a0 ∧ eo_ok Eq a0 ∧ ht_ok Eq a0 ∧ dr_ok Eq a0) ∧ kp = kq ∧ L = Lq ∧ tw_fr kp L [(12, 27), (12, 29)] [326, 327, 328, 329, 331, 333, 334, 335, 348, 349] E Eq) (va_A (va_pl L E) sz)) 0 0 (va_A (va_pl L E) sz) := by
  refine tw_ofW (by decide) (Nat.le_of_ble_eq_true rfl) ?_
  intro p e s m below meth c A ls hx hb hr hml hB hown hlocks hK hN hA TH hS hl
  have hown : s.vm.findClass "TreeMergeModel" = some m.cls := hown
  have hl : lv_has ls 1 [(0, .ref a0)] := hl
  obtain ⟨kp0, ekp⟩ : ∃ z, z = kp := ⟨_, rfl⟩
  obtain ⟨L0, eL⟩ : ∃ z, z = L := ⟨_, rfl⟩
  rw [show tw_Q D cs kp L = tw_Q D cs kp0 L0 by rw [ekp, eL]]
  have hex : ∀ a : Nat, a ∈ L0 → a ∈ L ∧ kp a = kp0 a := fun a h => ⟨by rw [← eL]; exact h, by rw [ekp]⟩
  have hF : tw_fr kp L [(12, 27), (12, 29)] [326, 327, 328, 329, 331, 333, 334, 335, 348, 349] E E := tw_fr.rf
  refine lv_aload_n hx hb dX12_close_0 rfl (lv_at hl 0 rfl) ?_
  refine tw_get (ci := 12) (C := RX12) (T := TX12) (N := 64) hx hb hB cx_inX12 hown hK TH hm0 hk0 rfl ⟨by decide, rfl⟩ 29 (by decide) cw_1222 (fun _ h9 => h9) dX12_close_1 (fun hv => ?_)
  obtain ⟨xi1, hxi1, hxi1a, hxi1b⟩ : ∃ x : Int32, tw_fv E a0 29 = .int x ∧ 0 ≤ x.toInt ∧ x.toInt ≤ 1 := hv
  rw [hxi1]
  refine lv_if_eq (tgt := 26) hx hb dX12_close_4 (by decide) (fun hc2 => ?_) (fun hc2 => ?_)
  · have hf3 : xi1.toInt = 0 := by have z := (fa_eq _ _).mp hc2; have : ((0 : Int32).toInt) = 0 := (by decide); omega
    refine lv_iconst (v := (-1)) hx hb dX12_close_26 (by decide) ?_
    exact tw_iret hx hb hr hlocks TH hS hex ⟨⟨_, rfl, hg0, hg1, hg2, hg3⟩, rfl, rfl, hF⟩ (Nat.le_of_ble_eq_true rfl) (Nat.le_of_ble_eq_true rfl) dX12_close_27
  · have hf4 : ¬ (xi1.toInt = 0) := fun q => hc2 ((fa_eq _ _).mpr (by have : ((0 : Int32).toInt) = 0 := (by decide); omega))
    refine lv_aload_n hx hb dX12_close_7 rfl (lv_at hl 0 rfl) ?_
    refine tw_get (ci := 12) (C := RX12) (T := TX12) (N := 64) hx hb hB cx_inX12 hown hK TH hm0 hk0 rfl ⟨by decide, rfl⟩ 27 (by decide) cw_1220 (fun _ h9 => h9) dX12_close_8 (fun hv => ?_)
    obtain ⟨xi5, hxi5, hxi5a, hxi5b⟩ : ∃ x : Int32, tw_fv E a0 27 = .int x ∧ 0 ≤ x.toInt ∧ x.toInt ≤ 12 := hv
    rw [hxi5]
    refine lv_bipush (v := 12) hx hb dX12_close_11 (by decide) ?_
    refine lv_icmp_eq (tgt := 26) hx hb dX12_close_13 (by decide) (fun hc6 => ?_) (fun hc6 => ?_)
    · have hf7 : xi5.toInt = 12 := by have z := (fa_eq _ _).mp hc6; have : ((12 : Int32).toInt) = 12 := (by decide); omega
      refine lv_iconst (v := (-1)) hx hb dX12_close_26 (by decide) ?_
      exact tw_iret hx hb hr hlocks TH hS hex ⟨⟨_, rfl, hg0, hg1, hg2, hg3⟩, rfl, rfl, hF⟩ (Nat.le_of_ble_eq_true rfl) (Nat.le_of_ble_eq_true rfl) dX12_close_27
    · have hf8 : ¬ (xi5.toInt = 12) := fun q => hc6 ((fa_eq _ _).mpr (by have : ((12 : Int32).toInt) = 12 := (by decide); omega))
      refine lv_aload_n hx hb dX12_close_16 rfl (lv_at hl 0 rfl) ?_
      refine lv_bipush (v := 12) hx hb dX12_close_17 (by decide) ?_
      refine tw_Vc (o := a0) (ci := 12) (n := 1) (post := (fun v kq Lq Eq => (∃ x : Int32, v = some (.int x) ∧ (-1) ≤ x.toInt ∧ x.toInt ≤ 149) ∧ kp = kq ∧ L = Lq ∧ tw_fr kp L [] [348, 349] E Eq)) (As := [.int 12]) (rest := []) ⟨hx, hb, hml, hown, hB⟩ (fun sz => tX12_firstBreak l D cs a0 (12 : Int32) hm0 hk0 (by have : ((12 : Int32).toInt) = 12 := (by decide); omega) (by have : ((12 : Int32).toInt) = 12 := (by decide); omega) hg2 (rw_ok_cast (i := 12) (by decide) (hg3 (by rw [tw_fi_of hxi1]; omega)).1) sz) cg_12_333_X12_firstBreak rfl rfl (by decide +kernel) ⟨Nat.le_of_ble_eq_true rfl, Nat.le_of_ble_eq_true rfl⟩ hK hN TH hS hA rfl hm0 hk0 (by decide) rfl hl.1 rfl (Nat.le_of_ble_eq_true rfl) dX12_close_19 ⟨Nat.le_of_ble_eq_true rfl, Nat.le_of_ble_eq_true rfl⟩ (fun v9 kp9 L9 E9 H locs hq9 hx9 TH hS => ?_)
      obtain ⟨⟨xc10, rfl, hxc10a, hxc10b⟩, rfl, rfl, hst9⟩ := hq9
      have hF := hF.tr hst9 (fun _ h => ⟨h, rfl⟩) (by decide) (by decide)
      have hmf11 : tw_fv E9 a0 29 = .int xi1 := (hst9.1 a0 29 hm0 (by rw [hk0]; decide)).trans hxi1
      have hmf12 : tw_fv E9 a0 27 = .int xi5 := (hst9.1 a0 27 hm0 (by rw [hk0]; decide)).trans hxi5
      have hg0 : rd_ok E9 a0 := rd_ok_fr TH hst9 hm0 hk0 (by decide) (by decide) hg0
      have hg1 : eo_ok E9 a0 := eo_ok_fr TH hst9 hm0 hk0 (by decide) (by decide) hg1
      have hg2 : ht_ok E9 a0 := ht_ok_fr TH hst9 hm0 hk0 (by decide) (by decide) hg2
      have hg3 : dr_ok E9 a0 := dr_ok_fr TH hst9 hm0 hk0 (by decide) (by decide) hg3
      refine W.eq (g2 := F0 m 22 ls [.int xc10]) rfl ?_
      refine lv_iconst (v := (-1)) hx hb dX12_close_22 (by decide) ?_
      refine lv_icmp_eq (tgt := 28) hx hb dX12_close_23 (by decide) (fun hc13 => ?_) (fun hc13 => ?_)
      · have hf14 : xc10.toInt = (-1) := by have z := (fa_eq _ _).mp hc13; have : (((-1) : Int32).toInt) = (-1) := (by decide); omega
        refine lv_aload_n hx hb dX12_close_28 rfl (lv_at hl 0 rfl) ?_
        refine lv_bipush (v := 12) hx hb dX12_close_29 (by decide) ?_
        refine lv_aload_n hx hb dX12_close_31 rfl (lv_at hl 0 rfl) ?_
        refine tw_get (ci := 12) (C := RX12) (T := TX12) (N := 64) hx hb hB cx_inX12 hown hK TH hm0 hk0 rfl ⟨by decide, rfl⟩ 27 (by decide) cw_1220 (fun _ h9 => h9) dX12_close_32 (fun hv => ?_)
        rw [hmf12]
        have hrow := (hg3 (by rw [tw_fi_of hmf11]; omega))
        refine tw_Vc (o := a0) (ci := 12) (n := 2) (post := (fun v kq Lq Eq => v = none ∧ kp = kq ∧ L = Lq ∧ tw_fr kp L [] [326, 327, 328, 329] E9 Eq ∧ (∀ c : Nat, c < 150 → rw_h Eq a0 xi5.toInt c = rw_h E9 a0 (12 : Int32).toInt c ∧ rw_p Eq a0 xi5.toInt c = rw_p E9 a0 (12 : Int32).toInt c) ∧ (ot_ok Eq a0 xi5.toInt E9) ∧ rd_ok Eq a0)) (As := [.int 12, .int xi5]) (rest := []) ⟨hx, hb, hml, hown, hB⟩ (fun sz => tX12_copies l D cs a0 (12 : Int32) xi5 hm0 hk0 (by have : ((12 : Int32).toInt) = 12 := (by decide); omega) (by have : ((12 : Int32).toInt) = 12 := (by decide); omega) (by omega) (by omega) (by have : ((12 : Int32).toInt) = 12 := (by decide); omega) hg0 sz) cg_12_411_X12_copies rfl rfl (by decide +kernel) ⟨Nat.le_of_ble_eq_true rfl, Nat.le_of_ble_eq_true rfl⟩ hK hN TH hS hA rfl hm0 hk0 (by decide) rfl hl.1 rfl (Nat.le_of_ble_eq_true rfl) dX12_close_35 ⟨Nat.le_of_ble_eq_true rfl, Nat.le_of_ble_eq_true rfl⟩ (fun v15 kp15 L15 E15 H locs hq15 hx15 TH hS => ?_)
        obtain ⟨rfl, rfl, rfl, hst15, hpoxc16_0, hpoxc16_1, hgpxc16_0⟩ := hq15
        have hF := hF.tr hst15 (fun _ h => ⟨h, rfl⟩) (by decide) (by decide)
        have hmf17 : tw_fv E15 a0 29 = .int xi1 := (hst15.1 a0 29 hm0 (by rw [hk0]; decide)).trans hmf11
        have hmf18 : tw_fv E15 a0 27 = .int xi5 := (hst15.1 a0 27 hm0 (by rw [hk0]; decide)).trans hmf12
        have hg1_o := hg1
        have hg2_o := hg2
        have hg3_o := hg3
        have hg1 : eo_ok E15 a0 := eo_ok_ot TH hst15 hm0 hk0 (by decide) hpoxc16_1 (by rw [tw_fi_of hmf12]; have e12 : ((12 : Int32).toInt) = 12 := (by decide); omega) hg1_o
        have hg2 : ht_ok E15 a0 := ht_ok_ot hpoxc16_1 (by have e12 : ((12 : Int32).toInt) = 12 := (by decide); omega) hg2_o
        have hg3 : dr_ok E15 a0 := dr_ok_ot hst15 hm0 hk0 (by decide) hpoxc16_1 (by omega) hg3_o
        have hgn19 : row_ok E15 a0 (xi5.toInt) := (by have e12 : ((12 : Int32).toInt) = 12 := (by decide); have hc := hpoxc16_0; rw [e12] at hc; exact row_copy hrow hc (Int.le_of_eq (tw_fi_fr hst15 hm0 hk0 (k := 26) (by decide)).symm))
        refine W.eq (g2 := F0 m 38 ls []) rfl ?_
        refine lv_aload_n hx hb dX12_close_38 rfl (lv_at hl 0 rfl) ?_
        refine lv_iconst (v := 0) hx hb dX12_close_39 (by decide) ?_
        refine tw_put (ci := 12) (v := .int 0) (ty := .boolean) (C := RX12) (T := TX12) (N := 64) hx hb hB cx_inX12 tyX12 tyX12_ok nmX12 hown hK TH hS hm0 hk0 rfl ⟨by decide, rfl⟩ 29 (by decide) cw_1222 (fun _ h9 => h9) rfl (by decide +kernel) (by decide) (by decide) ⟨_, rfl, (show 0 ≤ Int32.toInt 0 from by have : ((0 : Int32).toInt) = 0 := (by decide); omega), (show Int32.toInt 0 ≤ 1 from by have : ((0 : Int32).toInt) = 0 := (by decide); omega)⟩ dX12_close_40 (fun H locs E20 TH hS hmf24 hp21 hp22 => ?_)
        have hst23 : tw_fr kp L [(12, 29)] [] E15 E20 := tw_fr.put tw_fr.rf (fun _ => hk0) (by decide) hp21 hp22 (by decide)
        have hF := hF.tr hst23 (fun _ h => ⟨h, rfl⟩) (by decide) (by decide)
        have hmf25 : tw_fv E20 a0 27 = .int xi5 := (hst23.1 a0 27 hm0 (by rw [hk0]; decide)).trans hmf18
        have hg1 : eo_ok E20 a0 := eo_ok_fr TH hst23 hm0 hk0 (by decide) (by decide) hg1
        have hg2 : ht_ok E20 a0 := ht_ok_fr TH hst23 hm0 hk0 (by decide) (by decide) hg2
        have hgn19 : row_ok E20 a0 (xi5.toInt) := row_ok_fr TH hst23 hm0 hk0 (by decide) (by decide) (by omega) hgn19
        have hgpxc16_0 : rd_ok E20 a0 := rd_ok_fr TH hst23 hm0 hk0 (by decide) (by decide) hgpxc16_0
        have hgn26 : dr_ok E20 a0 := (fun hd => absurd hd (by rw [tw_fi_of hmf24]; decide))
        refine lv_aload_n hx hb dX12_close_43 rfl (lv_at hl 0 rfl) ?_
        refine lv_aload_n hx hb dX12_close_44 rfl (lv_at hl 0 rfl) ?_
        refine tw_get (ci := 12) (C := RX12) (T := TX12) (N := 64) hx hb hB cx_inX12 hown hK TH hm0 hk0 rfl ⟨by decide, rfl⟩ 27 (by decide) cw_1220 (fun _ h9 => h9) dX12_close_45 (fun hv => ?_)
        rw [hmf25]
        refine tw_Vc (o := a0) (ci := 12) (n := 1) (post := (fun v kq Lq Eq => v = none ∧ kp = kq ∧ L = Lq ∧ tw_fr kp L [] [331, 333] E20 Eq)) (As := [.int xi5]) (rest := []) ⟨hx, hb, hml, hown, hB⟩ (fun sz => tX12_noPending l D cs a0 xi5 hm0 hk0 (by omega) (by omega) sz) cg_12_417_X12_noPending rfl rfl (by decide +kernel) ⟨Nat.le_of_ble_eq_true rfl, Nat.le_of_ble_eq_true rfl⟩ hK hN TH hS hA rfl hm0 hk0 (by decide) rfl hl.1 rfl (Nat.le_of_ble_eq_true rfl) dX12_close_48 ⟨Nat.le_of_ble_eq_true rfl, Nat.le_of_ble_eq_true rfl⟩ (fun v27 kp27 L27 E27 H locs hq27 hx27 TH hS => ?_)
        obtain ⟨rfl, rfl, rfl, hst27⟩ := hq27
        have hF := hF.tr hst27 (fun _ h => ⟨h, rfl⟩) (by decide) (by decide)
        have hmf29 : tw_fv E27 a0 27 = .int xi5 := (hst27.1 a0 27 hm0 (by rw [hk0]; decide)).trans hmf25
        have hmf30 : tw_fv E27 a0 29 = .int 0 := (hst27.1 a0 29 hm0 (by rw [hk0]; decide)).trans hmf24
        have hg1 : eo_ok E27 a0 := eo_ok_fr TH hst27 hm0 hk0 (by decide) (by decide) hg1
        have hg2 : ht_ok E27 a0 := ht_ok_fr TH hst27 hm0 hk0 (by decide) (by decide) hg2
        have hgn19 : row_ok E27 a0 (xi5.toInt) := row_ok_fr TH hst27 hm0 hk0 (by decide) (by decide) (by omega) hgn19
        have hgpxc16_0 : rd_ok E27 a0 := rd_ok_fr TH hst27 hm0 hk0 (by decide) (by decide) hgpxc16_0
        have hgn26 : dr_ok E27 a0 := dr_ok_fr TH hst27 hm0 hk0 (by decide) (by decide) hgn26
        refine W.eq (g2 := F0 m 51 ls []) rfl ?_
        refine lv_aload_n hx hb dX12_close_51 rfl (lv_at hl 0 rfl) ?_
        refine lv_aload_n hx hb dX12_close_52 rfl (lv_at hl 0 rfl) ?_
        refine tw_get (ci := 12) (C := RX12) (T := TX12) (N := 64) hx hb hB cx_inX12 hown hK TH hm0 hk0 rfl ⟨by decide, rfl⟩ 52 (by decide) cw_1245 (fun _ h9 => h9) dX12_close_53 (fun hv => ?_)
        obtain ⟨xi31, hxi31, hxi31a, hxi31b⟩ : ∃ x : Int32, tw_fv E27 a0 52 = .int x ∧ 0 ≤ x.toInt ∧ x.toInt ≤ 11 := hv
        rw [hxi31]
        refine lv_iconst (v := (-1)) hx hb dX12_close_56 (by decide) ?_
        refine tw_Vc (o := a0) (ci := 12) (n := 2) (post := (fun v kq Lq Eq => (∃ x : Int32, v = some (.int x) ∧ 0 ≤ x.toInt ∧ x.toInt ≤ 11 ∧ (x.toInt = xi5.toInt) ∧ (∃ z0 : Int32, tw_fv Eq a0 27 = .int z0 ∧ (z0.toInt = xi5.toInt + 1))) ∧ kp = kq ∧ L = Lq ∧ tw_fr kp L [(12, 27)] [334, 335] E27 Eq)) (As := [.int xi31, .int (-1)]) (rest := []) ⟨hx, hb, hml, hown, hB⟩ (fun sz => tX12_edition l D cs a0 xi31 ((-1) : Int32) xi5 hm0 hk0 (by omega) (by omega) (by have : (((-1) : Int32).toInt) = (-1) := (by decide); omega) (by have : (((-1) : Int32).toInt) = (-1) := (by decide); omega) hmf29 (by have : (((-1) : Int32).toInt) = (-1) := (by decide); omega) sz) cg_12_345_X12_edition rfl rfl (by decide +kernel) ⟨Nat.le_of_ble_eq_true rfl, Nat.le_of_ble_eq_true rfl⟩ hK hN TH hS hA rfl hm0 hk0 (by decide) rfl hl.1 rfl (Nat.le_of_ble_eq_true rfl) dX12_close_57 ⟨Nat.le_of_ble_eq_true rfl, Nat.le_of_ble_eq_true rfl⟩ (fun v32 kp32 L32 E32 H locs hq32 hx32 TH hS => ?_)
        obtain ⟨⟨xc33, rfl, hxc33a, hxc33b, hpoxc33_0, ⟨zfxc33_0_0, hzfxc33_0_0, hzpxc33_0⟩⟩, rfl, rfl, hst32⟩ := hq32
        have hF := hF.tr hst32 (fun _ h => ⟨h, rfl⟩) (by decide) (by decide)
        have hmf34 : tw_fv E32 a0 29 = .int 0 := (hst32.1 a0 29 hm0 (by rw [hk0]; decide)).trans hmf30
        have hmf35 : tw_fv E32 a0 52 = .int xi31 := (hst32.1 a0 52 hm0 (by rw [hk0]; decide)).trans hxi31
        have hg1_o := hg1
        have hg2_o := hg2
        have hgn19_o := hgn19
        have hgpxc16_0_o := hgpxc16_0
        have hgn26_o := hgn26
        have hg1 : eo_ok E32 a0 := eo_ok_inc (r := xi5.toInt) TH hst32 hm0 hk0 (by decide) (by decide) (tw_fi_of hmf29) (by rw [tw_fi_of hzfxc33_0_0]; omega) hgn19_o hg1_o
        have hg2 : ht_ok E32 a0 := ht_ok_fr TH hst32 hm0 hk0 (by decide) (by decide) hg2
        have hgn19 : row_ok E32 a0 (xi5.toInt) := row_ok_fr TH hst32 hm0 hk0 (by decide) (by decide) (by omega) hgn19
        have hgpxc16_0 : rd_ok E32 a0 := rd_ok_fr TH hst32 hm0 hk0 (by decide) (by decide) hgpxc16_0
        have hgn26 : dr_ok E32 a0 := dr_ok_fr TH hst32 hm0 hk0 (by decide) (by decide) hgn26
        obtain ⟨qzfxc33_0_0, hqzfxc33_0_0, hqzfxc33_0_0a, hqzfxc33_0_0b⟩ := tw_rd TH hm0 hk0 (by decide) (by decide) (k := 27) rfl
        have eqzfxc33_0_0 : qzfxc33_0_0 = zfxc33_0_0 := by have q := hqzfxc33_0_0.symm.trans hzfxc33_0_0; injection q
        rw [eqzfxc33_0_0] at hqzfxc33_0_0a hqzfxc33_0_0b
        refine W.eq (g2 := F0 m 60 ls [.int xc33]) rfl ?_
        exact tw_iret hx hb hr hlocks TH hS hex ⟨⟨_, rfl, hgpxc16_0, hg1, hg2, hgn26⟩, rfl, rfl, hF⟩ (Nat.le_of_ble_eq_true rfl) (Nat.le_of_ble_eq_true rfl) dX12_close_60
      · have hf36 : ¬ (xc10.toInt = (-1)) := fun q => hc13 ((fa_eq _ _).mpr (by have : (((-1) : Int32).toInt) = (-1) := (by decide); omega))
        refine lv_iconst (v := (-1)) hx hb dX12_close_26 (by decide) ?_
        exact tw_iret hx hb hr hlocks TH hS hex ⟨⟨_, rfl, hg0, hg1, hg2, hg3⟩, rfl, rfl, hF⟩ (Nat.le_of_ble_eq_true rfl) (Nat.le_of_ble_eq_true rfl) dX12_close_27
