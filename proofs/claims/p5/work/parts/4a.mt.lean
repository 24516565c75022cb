theorem cg_12_383_X12_suits : GoodIn cx_big (wsV "TreeMergeModel" 383 "TreeMergeModel" yX12_suits (.code yX12_suits cX12_suits 7 (some .boolean) :: cx_big)) := cx_gV cw_1631 cw_1633 cp_108 cw_13 cw_1634
theorem cg_12_373_X12_tries : GoodIn cx_big (wsV "TreeMergeModel" 373 "TreeMergeModel" yX12_tries (.code yX12_tries cX12_tries 5 none :: cx_big)) := cx_gV cw_1611 cw_1613 cp_103 cw_13 cw_1614
theorem cg_12_363_X12_costNow : GoodIn cx_big (wsV "TreeMergeModel" 363 "TreeMergeModel" yX12_costNow (.code yX12_costNow cX12_costNow 6 (some .int) :: cx_big)) := cx_gV cw_1615 cw_1617 cp_104 cw_13 cw_1618
theorem cg_12_387_X12_lines : GoodIn cx_big (wsV "TreeMergeModel" 387 "TreeMergeModel" yX12_lines (.code yX12_lines cX12_lines 4 none :: cx_big)) := cx_gV cw_1599 cw_1601 cp_100 cw_13 cw_1602
theorem cg_12_390_X12_isExact : GoodIn cx_big (wsV "TreeMergeModel" 390 "TreeMergeModel" yX12_isExact (.code yX12_isExact cX12_isExact 1 (some .boolean) :: cx_big)) := cx_gV cw_1607 cw_1609 cp_102 cw_13 cw_1610
theorem cg_12_393_X12_rounds : GoodIn cx_big (wsV "TreeMergeModel" 393 "TreeMergeModel" yX12_rounds (.code yX12_rounds cX12_rounds 5 none :: cx_big)) := cx_gV cw_1627 cw_1629 cp_107 cw_13 cw_1630
set_option maxHeartbeats 4000000 in
set_option maxRecDepth 100000 in
theorem tX12_suits (l : Launch) (D : va_G) (cs : Nat → ClassId) {kp : Nat → Nat} {L : List Nat} {E : Nat → va_E} (a0 : Nat) (x1 : Int32) (x2 : Int32) (x3 : Int32) (x4 : Int32) (fv0_50 : Int32) (hm0 : a0 ∈ L) (hk0 : kp a0 = 12) (hp1a : 0 ≤ x1.toInt) (hp1b : x1.toInt ≤ 11) (hp2a : 1 ≤ x2.toInt) (hp2b : x2.toInt ≤ 4) (hp3a : 0 ≤ x3.toInt) (hp3b : x3.toInt ≤ 39) (hp4a : 0 ≤ x4.toInt) (hp4b : x4.toInt ≤ 23) (hfv0_50 : tw_fv E a0 50 = .int fv0_50) (hpre0 : x3.toInt < fv0_50.toInt) (hg0 : row_ok E a0 (x1.toInt)) (hg1 : ls_ok E a0 (x1.toInt)) (hg2 : tt_ok E a0) (sz : Nat) : Met l yX12_suits (.code yX12_suits cX12_suits 7 (some .boolean) :: cx_big) { frames := 43, cells := 0, slots := 0, locals := 1092 } (tw_P D cs kp L E [.ref a0, .int x1, .int x2, .int x3, .int x4] sz) (tw_Q D cs kp L (fun v kq Lq Eq => (∃ x : Int32, v = some (.int x) ∧ 0 ≤ x.toInt ∧ x.toInt ≤ 1 ∧ (x.toInt ≠ 0 → x2.toInt = 1 → sf_ok E a0 x1.toInt (tw_el E a0 45 (x3.toInt).toNat) x4.toInt)) ∧ kp = kq ∧ L = Lq ∧ E = Eq) (va_A (va_pl L E) sz)) 0 0 (va_A (va_pl L E) sz) := by
  refine tw_ofW (by decide) (Nat.le_of_ble_eq_true rfl) ?_
  intro p e s m below meth c A ls hx hb hr hml hB hown hlocks hK hN hA TH hS hl
  have hown : s.vm.findClass "TreeMergeModel" = some m.cls := hown
  have hl : lv_has ls 7 [(0, .ref a0), (1, .int x1), (2, .int x2), (3, .int x3), (4, .int x4)] := hl
  obtain ⟨kp0, ekp⟩ : ∃ z, z = kp := ⟨_, rfl⟩
  obtain ⟨L0, eL⟩ : ∃ z, z = L := ⟨_, rfl⟩
  rw [show tw_Q D cs kp L = tw_Q D cs kp0 L0 by rw [ekp, eL]]
  have hex : ∀ a : Nat, a ∈ L0 → a ∈ L ∧ kp a = kp0 a := fun a h => ⟨by rw [← eL]; exact h, by rw [ekp]⟩
  obtain ⟨qfv0_50, hqfv0_50, hqfv0_50a, hqfv0_50b⟩ := tw_rd TH hm0 hk0 (by decide) (by decide) (k := 50) rfl
  have eqfv0_50 : qfv0_50 = fv0_50 := by have q := hqfv0_50.symm.trans hfv0_50; injection q
  rw [eqfv0_50] at hqfv0_50a hqfv0_50b
  refine lv_aload_n hx hb dX12_suits_0 rfl (lv_at hl 0 rfl) ?_
  refine tw_get (ci := 12) (C := RX12) (T := TX12) (N := 64) hx hb hB cx_inX12 hown hK TH hm0 hk0 rfl ⟨by decide, rfl⟩ 45 (by decide) cw_1238 (fun _ h9 => h9) dX12_suits_1 (fun hv => ?_)
  obtain ⟨xr1, hxr1, hmxr1, hkxr1⟩ : ∃ a : Nat, tw_fv E a0 45 = .ref a ∧ a ∈ L ∧ kp a = 354 := hv
  rw [hxr1]
  refine lv_iload_n hx hb dX12_suits_4 rfl (lv_at hl 3 rfl) ?_
  refine tw_iald (k := 354) (t0 := 0) (n := 40) (lo := 0) (hi := 149) hx hb hK TH hmxr1 hkxr1 (by decide) rfl rfl (i := x3) (vp_in_iff.mpr ⟨by  omega, by  omega⟩) dX12_suits_5 (fun hxe2a hxe2b => ?_)
  obtain ⟨xe2, exe2⟩ : ∃ z : Int32, tw_iv E xr1 (Int32.toNatClampNeg x3) = z := ⟨_, rfl⟩
  rw [exe2] at hxe2a hxe2b ⊢
  refine lv_istore (lv' := [(5, .int xe2), (0, .ref a0), (1, .int x1), (2, .int x2), (3, .int x3), (4, .int x4)]) hx hb dX12_suits_6 hl (by decide) rfl (fun ls hl => ?_)
  refine lv_iload_n hx hb dX12_suits_8 rfl (lv_at hl 3 rfl) ?_
  refine lv_iconst (v := 1) hx hb dX12_suits_9 (by decide) ?_
  refine lv_icmp_ne (tgt := 23) hx hb dX12_suits_10 (by decide) (fun hc3 => ?_) (fun hc3 => ?_)
  · have hf4 : ¬ (x2.toInt = 1) := fun q => hc3 ((fa_eq _ _).mpr (by have : ((1 : Int32).toInt) = 1 := (by decide); omega))
    refine lv_aload_n hx hb dX12_suits_23 rfl (lv_at hl 1 rfl) ?_
    refine tw_get (ci := 12) (C := RX12) (T := TX12) (N := 64) hx hb hB cx_inX12 hown hK TH hm0 hk0 rfl ⟨by decide, rfl⟩ 20 (by decide) cw_1213 (fun _ h9 => h9) dX12_suits_24 (fun hv => ?_)
    obtain ⟨xr5, hxr5, hmxr5, hkxr5⟩ : ∃ a : Nat, tw_fv E a0 20 = .ref a ∧ a ∈ L ∧ kp a = 330 := hv
    rw [hxr5]
    refine lv_iload hx hb dX12_suits_27 (lv_at hl 0 rfl) ?_
    refine tw_iald (k := 330) (t0 := 0) (n := 150) (lo := 0) (hi := 9) hx hb hK TH hmxr5 hkxr5 (by decide) rfl rfl (i := xe2) (vp_in_iff.mpr ⟨by  omega, by  omega⟩) dX12_suits_29 (fun hxe6a hxe6b => ?_)
    obtain ⟨xe6, exe6⟩ : ∃ z : Int32, tw_iv E xr5 (Int32.toNatClampNeg xe2) = z := ⟨_, rfl⟩
    rw [exe6] at hxe6a hxe6b ⊢
    refine lv_aload_n hx hb dX12_suits_30 rfl (lv_at hl 1 rfl) ?_
    refine tw_get (ci := 12) (C := RX12) (T := TX12) (N := 64) hx hb hB cx_inX12 hown hK TH hm0 hk0 rfl ⟨by decide, rfl⟩ 22 (by decide) cw_1215 (fun _ h9 => h9) dX12_suits_31 (fun hv => ?_)
    obtain ⟨xr7, hxr7, hmxr7, hkxr7⟩ : ∃ a : Nat, tw_fv E a0 22 = .ref a ∧ a ∈ L ∧ kp a = 332 := hv
    rw [hxr7]
    refine lv_iload hx hb dX12_suits_34 (lv_at hl 5 rfl) ?_
    refine tw_iald (k := 332) (t0 := 0) (n := 24) (lo := 0) (hi := 9) hx hb hK TH hmxr7 hkxr7 (by decide) rfl rfl (i := x4) (vp_in_iff.mpr ⟨by  omega, by  omega⟩) dX12_suits_36 (fun hxe8a hxe8b => ?_)
    obtain ⟨xe8, exe8⟩ : ∃ z : Int32, tw_iv E xr7 (Int32.toNatClampNeg x4) = z := ⟨_, rfl⟩
    rw [exe8] at hxe8a hxe8b ⊢
    refine lv_icmp_eq (tgt := 42) hx hb dX12_suits_37 (by decide) (fun hc9 => ?_) (fun hc9 => ?_)
    · have hf10 : xe6.toInt = xe8.toInt := by have z := (fa_eq _ _).mp hc9;  omega
      refine lv_aload_n hx hb dX12_suits_42 rfl (lv_at hl 1 rfl) ?_
      refine tw_get (ci := 12) (C := RX12) (T := TX12) (N := 64) hx hb hB cx_inX12 hown hK TH hm0 hk0 rfl ⟨by decide, rfl⟩ 17 (by decide) cw_1210 (fun _ h9 => h9) dX12_suits_43 (fun hv => ?_)
      obtain ⟨xr11, hxr11, hmxr11, hkxr11⟩ : ∃ a : Nat, tw_fv E a0 17 = .ref a ∧ a ∈ L ∧ kp a = 317 := hv
      rw [hxr11]
      refine lv_iload_n hx hb dX12_suits_46 rfl (lv_at hl 2 rfl) ?_
      refine tw_aald (k := 317) (t0 := 6) (n := 16) (lo := 327) (hi := 0) (ty := .long) hx hb hK TH hmxr11 hkxr11 (by decide) rfl rfl (i := x1) (vp_in_iff.mpr ⟨by  omega, by  omega⟩) dX12_suits_47 (fun xr12 exr12 hmxr12 hkxr12 => ?_)
      have hkxr12 : kp xr12 = 327 := hkxr12
      refine lv_iload hx hb dX12_suits_48 (lv_at hl 0 rfl) ?_
      refine tw_lald2 (k := 327) (n := 150) (lo := 0) (hi := 0) hx hb hK TH hmxr12 hkxr12 (by decide) rfl (i := xe2) (vp_in_iff.mpr ⟨by  omega, by  omega⟩) dX12_suits_50 (fun xl13 exl13 => ?_)
      refine lv_aload_n hx hb dX12_suits_51 rfl (lv_at hl 1 rfl) ?_
      refine tw_get (ci := 12) (C := RX12) (T := TX12) (N := 64) hx hb hB cx_inX12 hown hK TH hm0 hk0 rfl ⟨by decide, rfl⟩ 17 (by decide) cw_1210 (fun _ h9 => h9) dX12_suits_52 (fun hv => ?_)
      rw [hxr11]
      refine lv_bipush (v := 15) hx hb dX12_suits_55 (by decide) ?_
      refine tw_aald (k := 317) (t0 := 6) (n := 16) (lo := 327) (hi := 0) (ty := .long) hx hb hK TH hmxr11 hkxr11 (by decide) rfl rfl (i := 15) (vp_in_iff.mpr ⟨by have : ((15 : Int32).toInt) = 15 := (by decide); omega, by have : ((15 : Int32).toInt) = 15 := (by decide); omega⟩) dX12_suits_57 (fun xr14 exr14 hmxr14 hkxr14 => ?_)
      have hkxr14 : kp xr14 = 327 := hkxr14
      refine lv_iload hx hb dX12_suits_58 (lv_at hl 5 rfl) ?_
      refine tw_lald2 (k := 327) (n := 150) (lo := 0) (hi := 0) hx hb hK TH hmxr14 hkxr14 (by decide) rfl (i := x4) (vp_in_iff.mpr ⟨by  omega, by  omega⟩) dX12_suits_60 (fun xl15 exl15 => ?_)
      refine W.lcmp hx hb dX12_suits_61 ?_
      have hzi16 := ia_lc xl13 xl15
      generalize lg_cmp xl13 xl15 = zi16 at hzi16 ⊢
      refine lv_if_ne (tgt := 69) hx hb dX12_suits_62 (by decide) (fun hc17 => ?_) (fun hc17 => ?_)
      · have hf18 : ¬ (zi16.toInt = 0) := fun q => hc17 ((fa_eq _ _).mpr (by have : ((0 : Int32).toInt) = 0 := (by decide); omega))
        refine lv_iconst (v := 0) hx hb dX12_suits_69 (by decide) ?_
        refine lv_istore (lv' := [(6, .int 0), (5, .int xe2), (0, .ref a0), (1, .int x1), (2, .int x2), (3, .int x3), (4, .int x4)]) hx hb dX12_suits_70 hl (by decide) rfl (fun ls hl => ?_)
        refine lv_iload_n hx hb dX12_suits_72 rfl (lv_at hl 4 rfl) ?_
        refine lv_iconst (v := 2) hx hb dX12_suits_73 (by decide) ?_
        refine lv_icmp_ne (tgt := 101) hx hb dX12_suits_74 (by decide) (fun hc19 => ?_) (fun hc19 => ?_)
        · have hf20 : ¬ (x2.toInt = 2) := fun q => hc19 ((fa_eq _ _).mpr (by have : ((2 : Int32).toInt) = 2 := (by decide); omega))
          refine lv_iload_n hx hb dX12_suits_101 rfl (lv_at hl 4 rfl) ?_
          refine lv_iconst (v := 3) hx hb dX12_suits_102 (by decide) ?_
          refine lv_icmp_ne (tgt := 117) hx hb dX12_suits_103 (by decide) (fun hc21 => ?_) (fun hc21 => ?_)
          · have hf22 : ¬ (x2.toInt = 3) := fun q => hc21 ((fa_eq _ _).mpr (by have : ((3 : Int32).toInt) = 3 := (by decide); omega))
            refine lv_iload hx hb dX12_suits_117 (lv_at hl 0 rfl) ?_
            exact tw_zret hx hb hr hlocks (by decide) TH hS hex ⟨⟨_, rfl, (show 0 ≤ Int32.toInt 0 from by have : ((0 : Int32).toInt) = 0 := (by decide); omega), (show Int32.toInt 0 ≤ 1 from by have : ((0 : Int32).toInt) = 0 := (by decide); omega), (by have : ((0 : Int32).toInt) = 0 := (by decide); intro _ q; exfalso; omega)⟩, rfl, rfl, rfl⟩ (Nat.le_of_ble_eq_true rfl) (Nat.le_of_ble_eq_true rfl) dX12_suits_119
          · have hf23 : x2.toInt = 3 := by have z := (fa_eq _ _).mp hc21; have : ((3 : Int32).toInt) = 3 := (by decide); omega
            refine lv_aload_n hx hb dX12_suits_106 rfl (lv_at hl 2 rfl) ?_
            refine lv_iload_n hx hb dX12_suits_107 rfl (lv_at hl 3 rfl) ?_
            refine lv_iload_n hx hb dX12_suits_108 rfl (lv_at hl 5 rfl) ?_
            refine lv_iload hx hb dX12_suits_109 (lv_at hl 6 rfl) ?_
            refine tw_Vc (o := a0) (ci := 12) (n := 3) (post := (fun v kq Lq Eq => (∃ x : Int32, v = some (.int x) ∧ 0 ≤ x.toInt ∧ x.toInt ≤ 1) ∧ kp = kq ∧ L = Lq ∧ E = Eq)) (As := [.int x1, .int x3, .int x4]) (rest := []) ⟨hx, hb, hml, hown, hB⟩ (fun sz => tX12_parentsPair l D cs a0 x1 x3 x4 hm0 hk0 (by omega) (by omega) (by omega) (by omega) (by omega) (by omega) sz) cg_12_360_X12_parentsPair rfl rfl (by decide +kernel) ⟨Nat.le_of_ble_eq_true rfl, Nat.le_of_ble_eq_true rfl⟩ hK hN TH hS hA rfl hm0 hk0 (by decide) rfl hl.1 rfl (Nat.le_of_ble_eq_true rfl) dX12_suits_111 ⟨Nat.le_of_ble_eq_true rfl, Nat.le_of_ble_eq_true rfl⟩ (fun v24 kp24 L24 E24 H locs hq24 hx24 TH hS => ?_)
            obtain ⟨⟨xc25, rfl, hxc25a, hxc25b⟩, rfl, rfl, rfl⟩ := hq24
            refine W.eq (g2 := F0 m 114 ls [.int xc25]) rfl ?_
            refine lv_goto (tgt := 119) hx hb dX12_suits_114 (by decide) ?_
            exact tw_zret hx hb hr hlocks (ia_bool (by omega) (by omega)) TH hS hex ⟨⟨_, rfl, (show 0 ≤ Int32.toInt xc25 from by  omega), (show Int32.toInt xc25 ≤ 1 from by  omega), (by  intro _ q; exfalso; omega)⟩, rfl, rfl, rfl⟩ (Nat.le_of_ble_eq_true rfl) (Nat.le_of_ble_eq_true rfl) dX12_suits_119
        · have hf26 : x2.toInt = 2 := by have z := (fa_eq _ _).mp hc19; have : ((2 : Int32).toInt) = 2 := (by decide); omega
          refine lv_iload hx hb dX12_suits_77 (lv_at hl 0 rfl) ?_
          refine lv_if_eq (tgt := 97) hx hb dX12_suits_79 (by decide) (fun hc27 => ?_) (fun hc27 => ?_)
          · have hf28 : 0 = 0 := by have z := (fa_eq _ _).mp hc27; have : ((0 : Int32).toInt) = 0 := (by decide); omega
            refine lv_iconst (v := 0) hx hb dX12_suits_97 (by decide) ?_
            refine lv_goto (tgt := 119) hx hb dX12_suits_98 (by decide) ?_
            exact tw_zret hx hb hr hlocks (by decide) TH hS hex ⟨⟨_, rfl, (show 0 ≤ Int32.toInt 0 from by have : ((0 : Int32).toInt) = 0 := (by decide); omega), (show Int32.toInt 0 ≤ 1 from by have : ((0 : Int32).toInt) = 0 := (by decide); omega), (by have : ((0 : Int32).toInt) = 0 := (by decide); intro _ q; exfalso; omega)⟩, rfl, rfl, rfl⟩ (Nat.le_of_ble_eq_true rfl) (Nat.le_of_ble_eq_true rfl) dX12_suits_119
          · have hf29 : ¬ (0 = 0) := fun q => hc27 ((fa_eq _ _).mpr (by have : ((0 : Int32).toInt) = 0 := (by decide); omega))
            exfalso; omega
      · have hf30 : zi16.toInt = 0 := by have z := (fa_eq _ _).mp hc17; have : ((0 : Int32).toInt) = 0 := (by decide); omega
        refine lv_iconst (v := 1) hx hb dX12_suits_65 (by decide) ?_
        refine lv_goto (tgt := 70) hx hb dX12_suits_66 (by decide) ?_
        refine lv_istore (lv' := [(6, .int 1), (5, .int xe2), (0, .ref a0), (1, .int x1), (2, .int x2), (3, .int x3), (4, .int x4)]) hx hb dX12_suits_70 hl (by decide) rfl (fun ls hl => ?_)
        refine lv_iload_n hx hb dX12_suits_72 rfl (lv_at hl 4 rfl) ?_
        refine lv_iconst (v := 2) hx hb dX12_suits_73 (by decide) ?_
        refine lv_icmp_ne (tgt := 101) hx hb dX12_suits_74 (by decide) (fun hc31 => ?_) (fun hc31 => ?_)
        · have hf32 : ¬ (x2.toInt = 2) := fun q => hc31 ((fa_eq _ _).mpr (by have : ((2 : Int32).toInt) = 2 := (by decide); omega))
          refine lv_iload_n hx hb dX12_suits_101 rfl (lv_at hl 4 rfl) ?_
          refine lv_iconst (v := 3) hx hb dX12_suits_102 (by decide) ?_
          refine lv_icmp_ne (tgt := 117) hx hb dX12_suits_103 (by decide) (fun hc33 => ?_) (fun hc33 => ?_)
          · have hf34 : ¬ (x2.toInt = 3) := fun q => hc33 ((fa_eq _ _).mpr (by have : ((3 : Int32).toInt) = 3 := (by decide); omega))
            refine lv_iload hx hb dX12_suits_117 (lv_at hl 0 rfl) ?_
            exact tw_zret hx hb hr hlocks (by decide) TH hS hex ⟨⟨_, rfl, (show 0 ≤ Int32.toInt 1 from by have : ((1 : Int32).toInt) = 1 := (by decide); omega), (show Int32.toInt 1 ≤ 1 from by have : ((1 : Int32).toInt) = 1 := (by decide); omega), (by have : ((1 : Int32).toInt) = 1 := (by decide); intro _ q; exfalso; omega)⟩, rfl, rfl, rfl⟩ (Nat.le_of_ble_eq_true rfl) (Nat.le_of_ble_eq_true rfl) dX12_suits_119
          · have hf35 : x2.toInt = 3 := by have z := (fa_eq _ _).mp hc33; have : ((3 : Int32).toInt) = 3 := (by decide); omega
            refine lv_aload_n hx hb dX12_suits_106 rfl (lv_at hl 2 rfl) ?_
            refine lv_iload_n hx hb dX12_suits_107 rfl (lv_at hl 3 rfl) ?_
            refine lv_iload_n hx hb dX12_suits_108 rfl (lv_at hl 5 rfl) ?_
            refine lv_iload hx hb dX12_suits_109 (lv_at hl 6 rfl) ?_
            refine tw_Vc (o := a0) (ci := 12) (n := 3) (post := (fun v kq Lq Eq => (∃ x : Int32, v = some (.int x) ∧ 0 ≤ x.toInt ∧ x.toInt ≤ 1) ∧ kp = kq ∧ L = Lq ∧ E = Eq)) (As := [.int x1, .int x3, .int x4]) (rest := []) ⟨hx, hb, hml, hown, hB⟩ (fun sz => tX12_parentsPair l D cs a0 x1 x3 x4 hm0 hk0 (by omega) (by omega) (by omega) (by omega) (by omega) (by omega) sz) cg_12_360_X12_parentsPair rfl rfl (by decide +kernel) ⟨Nat.le_of_ble_eq_true rfl, Nat.le_of_ble_eq_true rfl⟩ hK hN TH hS hA rfl hm0 hk0 (by decide) rfl hl.1 rfl (Nat.le_of_ble_eq_true rfl) dX12_suits_111 ⟨Nat.le_of_ble_eq_true rfl, Nat.le_of_ble_eq_true rfl⟩ (fun v36 kp36 L36 E36 H locs hq36 hx36 TH hS => ?_)
            obtain ⟨⟨xc37, rfl, hxc37a, hxc37b⟩, rfl, rfl, rfl⟩ := hq36
            refine W.eq (g2 := F0 m 114 ls [.int xc37]) rfl ?_
            refine lv_goto (tgt := 119) hx hb dX12_suits_114 (by decide) ?_
            exact tw_zret hx hb hr hlocks (ia_bool (by omega) (by omega)) TH hS hex ⟨⟨_, rfl, (show 0 ≤ Int32.toInt xc37 from by  omega), (show Int32.toInt xc37 ≤ 1 from by  omega), (by  intro _ q; exfalso; omega)⟩, rfl, rfl, rfl⟩ (Nat.le_of_ble_eq_true rfl) (Nat.le_of_ble_eq_true rfl) dX12_suits_119
        · have hf38 : x2.toInt = 2 := by have z := (fa_eq _ _).mp hc31; have : ((2 : Int32).toInt) = 2 := (by decide); omega
          refine lv_iload hx hb dX12_suits_77 (lv_at hl 0 rfl) ?_
          refine lv_if_eq (tgt := 97) hx hb dX12_suits_79 (by decide) (fun hc39 => ?_) (fun hc39 => ?_)
          · have hf40 : 1 = 0 := by have z := (fa_eq _ _).mp hc39; have : ((0 : Int32).toInt) = 0 := (by decide); have : ((1 : Int32).toInt) = 1 := (by decide); omega
            exfalso; omega
          · have hf41 : ¬ (1 = 0) := fun q => hc39 ((fa_eq _ _).mpr (by have : ((0 : Int32).toInt) = 0 := (by decide); have : ((1 : Int32).toInt) = 1 := (by decide); omega))
            refine lv_aload_n hx hb dX12_suits_82 rfl (lv_at hl 2 rfl) ?_
            refine lv_iload_n hx hb dX12_suits_83 rfl (lv_at hl 3 rfl) ?_
            refine lv_iload_n hx hb dX12_suits_84 rfl (lv_at hl 5 rfl) ?_
            refine lv_iload hx hb dX12_suits_85 (lv_at hl 6 rfl) ?_
            refine tw_Vc (o := a0) (ci := 12) (n := 3) (post := (fun v kq Lq Eq => (∃ x : Int32, v = some (.int x) ∧ 0 ≤ x.toInt ∧ x.toInt ≤ 1) ∧ kp = kq ∧ L = Lq ∧ E = Eq)) (As := [.int x1, .int x3, .int x4]) (rest := []) ⟨hx, hb, hml, hown, hB⟩ (fun sz => tX12_parentsPair l D cs a0 x1 x3 x4 hm0 hk0 (by omega) (by omega) (by omega) (by omega) (by omega) (by omega) sz) cg_12_360_X12_parentsPair rfl rfl (by decide +kernel) ⟨Nat.le_of_ble_eq_true rfl, Nat.le_of_ble_eq_true rfl⟩ hK hN TH hS hA rfl hm0 hk0 (by decide) rfl hl.1 rfl (Nat.le_of_ble_eq_true rfl) dX12_suits_87 ⟨Nat.le_of_ble_eq_true rfl, Nat.le_of_ble_eq_true rfl⟩ (fun v42 kp42 L42 E42 H locs hq42 hx42 TH hS => ?_)
            obtain ⟨⟨xc43, rfl, hxc43a, hxc43b⟩, rfl, rfl, rfl⟩ := hq42
            refine W.eq (g2 := F0 m 90 ls [.int xc43]) rfl ?_
            refine lv_if_eq (tgt := 97) hx hb dX12_suits_90 (by decide) (fun hc44 => ?_) (fun hc44 => ?_)
            · have hf45 : xc43.toInt = 0 := by have z := (fa_eq _ _).mp hc44; have : ((0 : Int32).toInt) = 0 := (by decide); omega
              refine lv_iconst (v := 0) hx hb dX12_suits_97 (by decide) ?_
              refine lv_goto (tgt := 119) hx hb dX12_suits_98 (by decide) ?_
              exact tw_zret hx hb hr hlocks (by decide) TH hS hex ⟨⟨_, rfl, (show 0 ≤ Int32.toInt 0 from by have : ((0 : Int32).toInt) = 0 := (by decide); omega), (show Int32.toInt 0 ≤ 1 from by have : ((0 : Int32).toInt) = 0 := (by decide); omega), (by have : ((0 : Int32).toInt) = 0 := (by decide); intro _ q; exfalso; omega)⟩, rfl, rfl, rfl⟩ (Nat.le_of_ble_eq_true rfl) (Nat.le_of_ble_eq_true rfl) dX12_suits_119
            · have hf46 : ¬ (xc43.toInt = 0) := fun q => hc44 ((fa_eq _ _).mpr (by have : ((0 : Int32).toInt) = 0 := (by decide); omega))
              refine lv_iconst (v := 1) hx hb dX12_suits_93 (by decide) ?_
              refine lv_goto (tgt := 119) hx hb dX12_suits_94 (by decide) ?_
              exact tw_zret hx hb hr hlocks (by decide) TH hS hex ⟨⟨_, rfl, (show 0 ≤ Int32.toInt 1 from by have : ((1 : Int32).toInt) = 1 := (by decide); omega), (show Int32.toInt 1 ≤ 1 from by have : ((1 : Int32).toInt) = 1 := (by decide); omega), (by have : ((1 : Int32).toInt) = 1 := (by decide); intro _ q; exfalso; omega)⟩, rfl, rfl, rfl⟩ (Nat.le_of_ble_eq_true rfl) (Nat.le_of_ble_eq_true rfl) dX12_suits_119
    · have hf47 : ¬ (xe6.toInt = xe8.toInt) := fun q => hc9 ((fa_eq _ _).mpr (by  omega))
      refine lv_iconst (v := 0) hx hb dX12_suits_40 (by decide) ?_
      exact tw_zret hx hb hr hlocks (by decide) TH hS hex ⟨⟨_, rfl, (show 0 ≤ Int32.toInt 0 from by have : ((0 : Int32).toInt) = 0 := (by decide); omega), (show Int32.toInt 0 ≤ 1 from by have : ((0 : Int32).toInt) = 0 := (by decide); omega), (by have : ((0 : Int32).toInt) = 0 := (by decide); intro _ q; exfalso; omega)⟩, rfl, rfl, rfl⟩ (Nat.le_of_ble_eq_true rfl) (Nat.le_of_ble_eq_true rfl) dX12_suits_41
  · have hf48 : x2.toInt = 1 := by have z := (fa_eq _ _).mp hc3; have : ((1 : Int32).toInt) = 1 := (by decide); omega
    have rf_xe2 : tw_el E a0 45 (x3.toInt).toNat = xe2.toInt := (by rw [tw_el_of hxr1]; exact congrArg Int32.toInt exe2)
    have hvx := ls_at hg1 (j := (x3.toInt).toNat) (by rw [tw_fi_of hfv0_50]; omega)
    have hsz : ls_s E a0 (x3.toInt).toNat = xe2.toInt := rf_xe2
    rw [hsz] at hvx
    have hnd := ls_vx hg1 hvx
    refine lv_aload_n hx hb dX12_suits_13 rfl (lv_at hl 1 rfl) ?_
    refine lv_iload_n hx hb dX12_suits_14 rfl (lv_at hl 2 rfl) ?_
    refine lv_iload hx hb dX12_suits_15 (lv_at hl 0 rfl) ?_
    refine lv_iload hx hb dX12_suits_17 (lv_at hl 5 rfl) ?_
    refine tw_Vc (o := a0) (ci := 12) (n := 3) (post := (fun v kq Lq Eq => (∃ x : Int32, v = some (.int x) ∧ 0 ≤ x.toInt ∧ x.toInt ≤ 1 ∧ (x.toInt ≠ 0 → sf_ok E a0 x1.toInt xe2.toInt x4.toInt)) ∧ kp = kq ∧ L = Lq ∧ E = Eq)) (As := [.int x1, .int xe2, .int x4]) (rest := []) ⟨hx, hb, hml, hown, hB⟩ (fun sz => tX12_isSameFree l D cs 40 a0 x1 xe2 x4 hm0 hk0 (by omega) (by omega) (by omega) (by omega) (by omega) (by omega) (by  exact hnd.2.2) (by  exact rt_mu_40 hg0 hnd.1 hnd.2.1 hnd.2.2) hg0.1 hg2 sz) cg_12_376_X12_isSameFree rfl rfl (by decide +kernel) ⟨Nat.le_of_ble_eq_true rfl, Nat.le_of_ble_eq_true rfl⟩ hK hN TH hS hA rfl hm0 hk0 (by decide) rfl hl.1 rfl (Nat.le_of_ble_eq_true rfl) dX12_suits_19 ⟨Nat.le_of_ble_eq_true rfl, Nat.le_of_ble_eq_true rfl⟩ (fun v49 kp49 L49 E49 H locs hq49 hx49 TH hS => ?_)
    obtain ⟨⟨xc50, rfl, hxc50a, hxc50b, hpoxc50_0⟩, rfl, rfl, rfl⟩ := hq49
    refine W.eq (g2 := F0 m 22 ls [.int xc50]) rfl ?_
    exact tw_zret hx hb hr hlocks (ia_bool (by omega) (by omega)) TH hS hex ⟨⟨_, rfl, (show 0 ≤ Int32.toInt xc50 from by  omega), (show Int32.toInt xc50 ≤ 1 from by  omega), (by  intro hx _; rw [show tw_el E a0 45 (x3.toInt).toNat = _ from hsz]; exact hpoxc50_0 hx)⟩, rfl, rfl, rfl⟩ (Nat.le_of_ble_eq_true rfl) (Nat.le_of_ble_eq_true rfl) dX12_suits_22
set_option maxHeartbeats 4000000 in
set_option maxRecDepth 100000 in
theorem tX12_rounds (l : Launch) (D : va_G) (cs : Nat → ClassId) {kp : Nat → Nat} {L : List Nat} {E : Nat → va_E} (a0 : Nat) (x1 : Int32) (hm0 : a0 ∈ L) (hk0 : kp a0 = 12) (hp1a : 0 ≤ x1.toInt) (hp1b : x1.toInt ≤ 11) (hg0 : row_ok E a0 (x1.toInt)) (hg1 : ls_ok E a0 (x1.toInt)) (hg2 : tt_ok E a0) (hg3 : pi_ok E a0) (sz : Nat) : Met l yX12_rounds (.code yX12_rounds cX12_rounds 5 none :: cx_big) { frames := 44, cells := 0, slots := 0, locals := 1118 } (tw_P D cs kp L E [.ref a0, .int x1] sz) (tw_Q D cs kp L (fun v kq Lq Eq => v = none ∧ kp = kq ∧ L = Lq ∧ tw_fr kp L [] [355, 356] E Eq ∧ pi_ok Eq a0) (va_A (va_pl L E) sz)) 0 0 (va_A (va_pl L E) sz) := by
  refine tw_ofW (by decide) (Nat.le_of_ble_eq_true rfl) ?_
  intro p e s m below meth c A ls hx hb hr hml hB hown hlocks hK hN hA TH hS hl
  have hown : s.vm.findClass "TreeMergeModel" = some m.cls := hown
  have hl : lv_has ls 5 [(0, .ref a0), (1, .int x1)] := hl
  obtain ⟨kp0, ekp⟩ : ∃ z, z = kp := ⟨_, rfl⟩
  obtain ⟨L0, eL⟩ : ∃ z, z = L := ⟨_, rfl⟩
  rw [show tw_Q D cs kp L = tw_Q D cs kp0 L0 by rw [ekp, eL]]
  have hex : ∀ a : Nat, a ∈ L0 → a ∈ L ∧ kp a = kp0 a := fun a h => ⟨by rw [← eL]; exact h, by rw [ekp]⟩
  have hF : tw_fr kp L [] [355, 356] E E := tw_fr.rf
  refine lv_iconst (v := 1) hx hb dX12_rounds_0 (by decide) ?_
  refine lv_istore_n (lv' := [(2, .int 1), (0, .ref a0), (1, .int x1)]) hx hb dX12_rounds_1 rfl hl (by decide) rfl (fun ls hl => ?_)
  have hJ2 : ∀ (n2 : Nat) (y2_2 : Int32) (Eg2 : Nat → va_E) (H : Heap) (locs : List Loc) (ls : Array Slot), 1 ≤ y2_2.toInt → y2_2.toInt ≤ 6 → 6 - y2_2.toInt ≤ (n2 : Int) → tw_fr kp L [] [355, 356] E Eg2 → row_ok Eg2 a0 (x1.toInt) → ls_ok Eg2 a0 (x1.toInt) → tt_ok Eg2 a0 → pi_ok Eg2 a0 → tw_H D cs kp L Eg2 A H → va_S A s.heap H locs → lv_has ls 5 [(2, .int y2_2), (0, .ref a0), (1, .int x1)] → W p l e { frames := 44, cells := 0, slots := 0, locals := 1118 } s m [.ref a0, .int x1].toArray below meth c H locs 0 0 (MQ below (tw_Q D cs kp0 L0 (fun v kq Lq Eq => v = none ∧ kp = kq ∧ L = Lq ∧ tw_fr kp L [] [355, 356] E Eq ∧ pi_ok Eq a0) A) [.ref a0, .int x1].toArray s 0 0 A) (F0 m 2 ls []) := by
    intro n2
    induction n2 using Nat.strongRecOn with
    | _ n2 ih2 =>
      intro y2_2 Eg2 H locs ls hy2_2a hy2_2b hmeas2 hG2 hg0 hg1 hg2 hg3 TH hS hl
      have hF := hF.tr hG2 (fun _ h => ⟨h, rfl⟩) (by decide) (by decide)
      refine lv_iload_n hx hb dX12_rounds_2 rfl (lv_at hl 0 rfl) ?_
      refine lv_iconst (v := 4) hx hb dX12_rounds_3 (by decide) ?_
      refine lv_icmp_gt (tgt := 123) hx hb dX12_rounds_4 (by decide) (fun hc1 => ?_) (fun hc1 => ?_)
      · have hf2 : 4 < y2_2.toInt := by have z := (fa_lt _ _).mp hc1; have : ((4 : Int32).toInt) = 4 := (by decide); omega
        exact tw_vret hx hb hr hlocks TH hS hex ⟨rfl, rfl, rfl, hF, hg3⟩ (Nat.le_of_ble_eq_true rfl) (Nat.le_of_ble_eq_true rfl) dX12_rounds_123
      · have hf3 : ¬ (4 < y2_2.toInt) := fun q => hc1 ((fa_lt _ _).mpr (by have : ((4 : Int32).toInt) = 4 := (by decide); omega))
        refine lv_iconst (v := 0) hx hb dX12_rounds_7 (by decide) ?_
        refine lv_istore_n (lv' := [(3, .int 0), (2, .int y2_2), (0, .ref a0), (1, .int x1)]) hx hb dX12_rounds_8 rfl hl (by decide) rfl (fun ls hl => ?_)
        have hJ9 : ∀ (n9 : Nat) (y9_3 : Int32) (Eg9 : Nat → va_E) (H : Heap) (locs : List Loc) (ls : Array Slot), 0 ≤ y9_3.toInt → y9_3.toInt ≤ 40 → 40 - y9_3.toInt ≤ (n9 : Int) → tw_fr kp L [] [355, 356] Eg2 Eg9 → row_ok Eg9 a0 (x1.toInt) → ls_ok Eg9 a0 (x1.toInt) → tt_ok Eg9 a0 → pi_ok Eg9 a0 → tw_H D cs kp L Eg9 A H → va_S A s.heap H locs → lv_has ls 5 [(3, .int y9_3), (2, .int y2_2), (0, .ref a0), (1, .int x1)] → W p l e { frames := 44, cells := 0, slots := 0, locals := 1118 } s m [.ref a0, .int x1].toArray below meth c H locs 0 0 (MQ below (tw_Q D cs kp0 L0 (fun v kq Lq Eq => v = none ∧ kp = kq ∧ L = Lq ∧ tw_fr kp L [] [355, 356] E Eq ∧ pi_ok Eq a0) A) [.ref a0, .int x1].toArray s 0 0 A) (F0 m 9 ls []) := by
          intro n9
          induction n9 using Nat.strongRecOn with
          | _ n9 ih9 =>
            intro y9_3 Eg9 H locs ls hy9_3a hy9_3b hmeas9 hG9 hg0 hg1 hg2 hg3 TH hS hl
            have hF := hF.tr hG9 (fun _ h => ⟨h, rfl⟩) (by decide) (by decide)
            have hG2 := hG2.tr hG9 (fun _ h => ⟨h, rfl⟩) (by decide) (by decide)
            refine lv_iload_n hx hb dX12_rounds_9 rfl (lv_at hl 0 rfl) ?_
            refine lv_aload_n hx hb dX12_rounds_10 rfl (lv_at hl 2 rfl) ?_
            refine tw_get (ci := 12) (C := RX12) (T := TX12) (N := 64) hx hb hB cx_inX12 hown hK TH hm0 hk0 rfl ⟨by decide, rfl⟩ 50 (by decide) cw_1243 (fun _ h9 => h9) dX12_rounds_11 (fun hv => ?_)
            obtain ⟨xi4, hxi4, hxi4a, hxi4b⟩ : ∃ x : Int32, tw_fv Eg9 a0 50 = .int x ∧ 0 ≤ x.toInt ∧ x.toInt ≤ 40 := hv
            rw [hxi4]
            refine lv_icmp_ge (tgt := 117) hx hb dX12_rounds_14 (by decide) (fun hc5 => ?_) (fun hc5 => ?_)
            · have hf6 : xi4.toInt ≤ y9_3.toInt := by have z := (fa_le _ _).mp hc5;  omega
              obtain ⟨zi7, ezi7⟩ : ∃ z : Int32, z = y2_2 + Int32.ofInt 1 := ⟨_, rfl⟩
              have hzi7 : zi7.toInt = y2_2.toInt + 1 := by rw [ezi7]; have : ((Int32.ofInt 1).toInt) = 1 := (by decide);  exact (ia_add (by omega) (by omega)).trans (by omega)
              refine lv_iinc (v := zi7) (lv' := [(2, .int zi7), (3, .int y9_3), (0, .ref a0), (1, .int x1)]) hx hb dX12_rounds_117 hl (k := 1) rfl ezi7.symm (by decide) rfl (fun ls hl => ?_)
              refine lv_goto (tgt := 2) hx hb dX12_rounds_120 (by decide) ?_
              exact ih2 (n2 - 1) (by   omega) zi7 _ _ _ ls (by omega) (by omega) (by   omega) hG2 hg0 hg1 hg2 hg3 TH hS (lv_sub hl [0, 2, 3] rfl)
            · have hf8 : ¬ (xi4.toInt ≤ y9_3.toInt) := fun q => hc5 ((fa_le _ _).mpr (by  omega))
              refine lv_aload_n hx hb dX12_rounds_17 rfl (lv_at hl 2 rfl) ?_
              refine tw_get (ci := 12) (C := RX12) (T := TX12) (N := 64) hx hb hB cx_inX12 hown hK TH hm0 hk0 rfl ⟨by decide, rfl⟩ 46 (by decide) cw_1239 (fun _ h9 => h9) dX12_rounds_18 (fun hv => ?_)
              obtain ⟨xr9, hxr9, hmxr9, hkxr9⟩ : ∃ a : Nat, tw_fv Eg9 a0 46 = .ref a ∧ a ∈ L ∧ kp a = 355 := hv
              rw [hxr9]
              refine lv_iload_n hx hb dX12_rounds_21 rfl (lv_at hl 0 rfl) ?_
              refine tw_iald (k := 355) (t0 := 0) (n := 40) (lo := (-1)) (hi := 23) hx hb hK TH hmxr9 hkxr9 (by decide) rfl rfl (i := y9_3) (vp_in_iff.mpr ⟨by  omega, by  omega⟩) dX12_rounds_22 (fun hxe10a hxe10b => ?_)
              obtain ⟨xe10, exe10⟩ : ∃ z : Int32, tw_iv Eg9 xr9 (Int32.toNatClampNeg y9_3) = z := ⟨_, rfl⟩
              rw [exe10] at hxe10a hxe10b ⊢
              refine lv_iconst (v := (-1)) hx hb dX12_rounds_23 (by decide) ?_
              refine lv_icmp_eq (tgt := 30) hx hb dX12_rounds_24 (by decide) (fun hc11 => ?_) (fun hc11 => ?_)
              · have hf12 : xe10.toInt = (-1) := by have z := (fa_eq _ _).mp hc11; have : (((-1) : Int32).toInt) = (-1) := (by decide); omega
                refine lv_iconst (v := 0) hx hb dX12_rounds_30 (by decide) ?_
                refine lv_istore (lv' := [(4, .int 0), (3, .int y9_3), (2, .int y2_2), (0, .ref a0), (1, .int x1)]) hx hb dX12_rounds_31 hl (by decide) rfl (fun ls hl => ?_)
                obtain ⟨xi13, hxi13, hxi13a, hxi13b⟩ := tw_rd TH hm0 hk0 (by decide) (by decide) (k := 28) rfl
                have hJ33 : ∀ (n33 : Nat) (y33_4 : Int32) (H : Heap) (locs : List Loc) (ls : Array Slot), 0 ≤ y33_4.toInt → y33_4.toInt ≤ 24 → (y33_4.toInt ≤ xi13.toInt) → 24 - y33_4.toInt ≤ (n33 : Int) → tw_H D cs kp L Eg9 A H → va_S A s.heap H locs → lv_has ls 5 [(4, .int y33_4), (3, .int y9_3), (2, .int y2_2), (0, .ref a0), (1, .int x1)] → W p l e { frames := 44, cells := 0, slots := 0, locals := 1118 } s m [.ref a0, .int x1].toArray below meth c H locs 0 0 (MQ below (tw_Q D cs kp0 L0 (fun v kq Lq Eq => v = none ∧ kp = kq ∧ L = Lq ∧ tw_fr kp L [] [355, 356] E Eq ∧ pi_ok Eq a0) A) [.ref a0, .int x1].toArray s 0 0 A) (F0 m 33 ls []) := by
                  intro n33
                  induction n33 using Nat.strongRecOn with
                  | _ n33 ih33 =>
                    intro y33_4 H locs ls hy33_4a hy33_4b hin33_0 hmeas33 TH hS hl
                    refine lv_iload hx hb dX12_rounds_33 (lv_at hl 0 rfl) ?_
                    refine lv_aload_n hx hb dX12_rounds_35 rfl (lv_at hl 3 rfl) ?_
                    refine tw_get (ci := 12) (C := RX12) (T := TX12) (N := 64) hx hb hB cx_inX12 hown hK TH hm0 hk0 rfl ⟨by decide, rfl⟩ 28 (by decide) cw_1221 (fun _ h9 => h9) dX12_rounds_36 (fun hv => ?_)
                    rw [hxi13]
                    refine lv_icmp_ge (tgt := 71) hx hb dX12_rounds_39 (by decide) (fun hc14 => ?_) (fun hc14 => ?_)
                    · have hf15 : xi13.toInt ≤ y33_4.toInt := by have z := (fa_le _ _).mp hc14;  omega
                      refine lv_iload hx hb dX12_rounds_71 (lv_at hl 0 rfl) ?_
                      refine lv_aload_n hx hb dX12_rounds_73 rfl (lv_at hl 3 rfl) ?_
                      refine tw_get (ci := 12) (C := RX12) (T := TX12) (N := 64) hx hb hB cx_inX12 hown hK TH hm0 hk0 rfl ⟨by decide, rfl⟩ 28 (by decide) cw_1221 (fun _ h9 => h9) dX12_rounds_74 (fun hv => ?_)
                      rw [hxi13]
                      refine lv_icmp_ne (tgt := 83) hx hb dX12_rounds_77 (by decide) (fun hc16 => ?_) (fun hc16 => ?_)
                      · have hf17 : ¬ (y33_4.toInt = xi13.toInt) := fun q => hc16 ((fa_eq _ _).mpr (by  omega))
                        exfalso
                        omega
                      · have hf18 : y33_4.toInt = xi13.toInt := by have z := (fa_eq _ _).mp hc16;  omega
                        refine lv_goto (tgt := 111) hx hb dX12_rounds_80 (by decide) ?_
                        obtain ⟨zi19, ezi19⟩ : ∃ z : Int32, z = y9_3 + Int32.ofInt 1 := ⟨_, rfl⟩
                        have hzi19 : zi19.toInt = y9_3.toInt + 1 := by rw [ezi19]; have : ((Int32.ofInt 1).toInt) = 1 := (by decide);  exact (ia_add (by omega) (by omega)).trans (by omega)
                        refine lv_iinc (v := zi19) (lv' := [(3, .int zi19), (4, .int y33_4), (2, .int y2_2), (0, .ref a0), (1, .int x1)]) hx hb dX12_rounds_111 hl (k := 1) rfl ezi19.symm (by decide) rfl (fun ls hl => ?_)
                        refine lv_goto (tgt := 9) hx hb dX12_rounds_114 (by decide) ?_
                        exact ih9 (n9 - 1) (by   omega) zi19 _ _ _ ls (by omega) (by omega) (by   omega) hG9 hg0 hg1 hg2 hg3 TH hS (lv_sub hl [0, 2, 3, 4] rfl)
                    · have hf20 : ¬ (xi13.toInt ≤ y33_4.toInt) := fun q => hc14 ((fa_le _ _).mpr (by  omega))
                      refine lv_aload_n hx hb dX12_rounds_42 rfl (lv_at hl 3 rfl) ?_
                      refine tw_get (ci := 12) (C := RX12) (T := TX12) (N := 64) hx hb hB cx_inX12 hown hK TH hm0 hk0 rfl ⟨by decide, rfl⟩ 47 (by decide) cw_1240 (fun _ h9 => h9) dX12_rounds_43 (fun hv => ?_)
                      obtain ⟨xr21, hxr21, hmxr21, hkxr21⟩ : ∃ a : Nat, tw_fv Eg9 a0 47 = .ref a ∧ a ∈ L ∧ kp a = 356 := hv
                      rw [hxr21]
                      refine lv_iload hx hb dX12_rounds_46 (lv_at hl 0 rfl) ?_
                      refine tw_iald (k := 356) (t0 := 0) (n := 24) (lo := (-1)) (hi := 39) hx hb hK TH hmxr21 hkxr21 (by decide) rfl rfl (i := y33_4) (vp_in_iff.mpr ⟨by  omega, by  omega⟩) dX12_rounds_48 (fun hxe22a hxe22b => ?_)
                      obtain ⟨xe22, exe22⟩ : ∃ z : Int32, tw_iv Eg9 xr21 (Int32.toNatClampNeg y33_4) = z := ⟨_, rfl⟩
                      rw [exe22] at hxe22a hxe22b ⊢
                      refine lv_iconst (v := (-1)) hx hb dX12_rounds_49 (by decide) ?_
                      refine lv_icmp_ne (tgt := 65) hx hb dX12_rounds_50 (by decide) (fun hc23 => ?_) (fun hc23 => ?_)
                      · have hf24 : ¬ (xe22.toInt = (-1)) := fun q => hc23 ((fa_eq _ _).mpr (by have : (((-1) : Int32).toInt) = (-1) := (by decide); omega))
                        obtain ⟨zi25, ezi25⟩ : ∃ z : Int32, z = y33_4 + Int32.ofInt 1 := ⟨_, rfl⟩
                        have hzi25 : zi25.toInt = y33_4.toInt + 1 := by rw [ezi25]; have : ((Int32.ofInt 1).toInt) = 1 := (by decide);  exact (ia_add (by omega) (by omega)).trans (by omega)
                        refine lv_iinc (v := zi25) (lv' := [(4, .int zi25), (3, .int y9_3), (2, .int y2_2), (0, .ref a0), (1, .int x1)]) hx hb dX12_rounds_65 hl (k := 0) rfl ezi25.symm (by decide) rfl (fun ls hl => ?_)
                        refine lv_goto (tgt := 33) hx hb dX12_rounds_68 (by decide) ?_
                        exact ih33 (n33 - 1) (by   omega) zi25 _ _ ls (by omega) (by omega) (by  omega) (by   omega) TH hS (lv_sub hl [0, 1, 2, 3, 4] rfl)
                      · have hf26 : xe22.toInt = (-1) := by have z := (fa_eq _ _).mp hc23; have : (((-1) : Int32).toInt) = (-1) := (by decide); omega
                        refine lv_aload_n hx hb dX12_rounds_53 rfl (lv_at hl 3 rfl) ?_
                        refine lv_iload_n hx hb dX12_rounds_54 rfl (lv_at hl 4 rfl) ?_
                        refine lv_iload_n hx hb dX12_rounds_55 rfl (lv_at hl 2 rfl) ?_
                        refine lv_iload_n hx hb dX12_rounds_56 rfl (lv_at hl 1 rfl) ?_
                        refine lv_iload hx hb dX12_rounds_57 (lv_at hl 0 rfl) ?_
                        refine tw_Vc (o := a0) (ci := 12) (n := 4) (post := (fun v kq Lq Eq => (∃ x : Int32, v = some (.int x) ∧ 0 ≤ x.toInt ∧ x.toInt ≤ 1 ∧ (x.toInt ≠ 0 → y2_2.toInt = 1 → sf_ok Eg9 a0 x1.toInt (tw_el Eg9 a0 45 (y9_3.toInt).toNat) y33_4.toInt)) ∧ kp = kq ∧ L = Lq ∧ Eg9 = Eq)) (As := [.int x1, .int y2_2, .int y9_3, .int y33_4]) (rest := []) ⟨hx, hb, hml, hown, hB⟩ (fun sz => tX12_suits l D cs a0 x1 y2_2 y9_3 y33_4 xi4 hm0 hk0 (by omega) (by omega) (by omega) (by omega) (by omega) (by omega) (by omega) (by omega) hxi4 (by  omega) hg0 hg1 hg2 sz) cg_12_383_X12_suits rfl rfl (by decide +kernel) ⟨Nat.le_of_ble_eq_true rfl, Nat.le_of_ble_eq_true rfl⟩ hK hN TH hS hA rfl hm0 hk0 (by decide) rfl hl.1 rfl (Nat.le_of_ble_eq_true rfl) dX12_rounds_59 ⟨Nat.le_of_ble_eq_true rfl, Nat.le_of_ble_eq_true rfl⟩ (fun v27 kp27 L27 E27 H locs hq27 hx27 TH hS => ?_)
                        obtain ⟨⟨xc28, rfl, hxc28a, hxc28b, hpoxc28_0⟩, rfl, rfl, rfl⟩ := hq27
                        refine W.eq (g2 := F0 m 62 ls [.int xc28]) rfl ?_
                        refine lv_if_ne (tgt := 71) hx hb dX12_rounds_62 (by decide) (fun hc29 => ?_) (fun hc29 => ?_)
                        · have hf30 : ¬ (xc28.toInt = 0) := fun q => hc29 ((fa_eq _ _).mpr (by have : ((0 : Int32).toInt) = 0 := (by decide); omega))
                          refine lv_iload hx hb dX12_rounds_71 (lv_at hl 0 rfl) ?_
                          refine lv_aload_n hx hb dX12_rounds_73 rfl (lv_at hl 3 rfl) ?_
                          refine tw_get (ci := 12) (C := RX12) (T := TX12) (N := 64) hx hb hB cx_inX12 hown hK TH hm0 hk0 rfl ⟨by decide, rfl⟩ 28 (by decide) cw_1221 (fun _ h9 => h9) dX12_rounds_74 (fun hv => ?_)
                          rw [hxi13]
                          refine lv_icmp_ne (tgt := 83) hx hb dX12_rounds_77 (by decide) (fun hc31 => ?_) (fun hc31 => ?_)
                          · have hf32 : ¬ (y33_4.toInt = xi13.toInt) := fun q => hc31 ((fa_eq _ _).mpr (by  omega))
                            have rf_xe10 : tw_el Eg9 a0 46 (y9_3.toInt).toNat = xe10.toInt := (by rw [tw_el_of hxr9]; exact congrArg Int32.toInt exe10)
                            have rf_xe22 : tw_el Eg9 a0 47 (y33_4.toInt).toNat = xe22.toInt := (by rw [tw_el_of hxr21]; exact congrArg Int32.toInt exe22)
                            have hb1 : 1 ≤ y33_4.toInt := (by by_cases e : y33_4.toInt = 0; (exfalso; have w := (hg3).1; rw [show (0 : Nat) = (y33_4.toInt).toNat by omega, rf_xe22] at w; omega); omega)
                            refine lv_iload_n hx hb dX12_rounds_83 rfl (lv_at hl 2 rfl) ?_
                            refine lv_iconst (v := 1) hx hb dX12_rounds_84 (by decide) ?_
                            refine lv_icmp_ne (tgt := 104) hx hb dX12_rounds_85 (by decide) (fun hc33 => ?_) (fun hc33 => ?_)
                            · have hf34 : ¬ (y2_2.toInt = 1) := fun q => hc33 ((fa_eq _ _).mpr (by have : ((1 : Int32).toInt) = 1 := (by decide); omega))
                              refine lv_aload_n hx hb dX12_rounds_104 rfl (lv_at hl 3 rfl) ?_
                              refine lv_iload_n hx hb dX12_rounds_105 rfl (lv_at hl 1 rfl) ?_
                              refine lv_iload hx hb dX12_rounds_106 (lv_at hl 0 rfl) ?_
                              refine tw_Vc (o := a0) (ci := 12) (n := 2) (post := (fun v kq Lq Eq => v = none ∧ kp = kq ∧ L = Lq ∧ tw_fr kp L [] [355, 356] Eg9 Eq ∧ (∀ j : Nat, tw_el Eq a0 46 j = if j = (y9_3.toInt).toNat then y33_4.toInt else tw_el Eg9 a0 46 j) ∧ (∀ j : Nat, tw_el Eq a0 47 j = if j = (y33_4.toInt).toNat then y9_3.toInt else tw_el Eg9 a0 47 j))) (As := [.int y9_3, .int y33_4]) (rest := []) ⟨hx, hb, hml, hown, hB⟩ (fun sz => tX12_pairs_vF l D cs a0 y9_3 y33_4 hm0 hk0 (by omega) (by omega) (by omega) (by omega) sz) cg_12_369_X12_pairs rfl rfl (by decide +kernel) ⟨Nat.le_of_ble_eq_true rfl, Nat.le_of_ble_eq_true rfl⟩ hK hN TH hS hA rfl hm0 hk0 (by decide) rfl hl.1 rfl (Nat.le_of_ble_eq_true rfl) dX12_rounds_108 ⟨Nat.le_of_ble_eq_true rfl, Nat.le_of_ble_eq_true rfl⟩ (fun v35 kp35 L35 E35 H locs hq35 hx35 TH hS => ?_)
                              obtain ⟨rfl, rfl, rfl, hst35, hpoxc36_0, hpoxc36_1⟩ := hq35
                              have hF := hF.tr hst35 (fun _ h => ⟨h, rfl⟩) (by decide) (by decide)
                              have hG2 := hG2.tr hst35 (fun _ h => ⟨h, rfl⟩) (by decide) (by decide)
                              have hG9 := hG9.tr hst35 (fun _ h => ⟨h, rfl⟩) (by decide) (by decide)
                              have hmf37 : tw_fv E35 a0 50 = .int xi4 := (hst35.1 a0 50 hm0 (by rw [hk0]; decide)).trans hxi4
                              have hmf38 : tw_fv E35 a0 46 = .ref xr9 := (hst35.1 a0 46 hm0 (by rw [hk0]; decide)).trans hxr9
                              have hmf39 : tw_fv E35 a0 28 = .int xi13 := (hst35.1 a0 28 hm0 (by rw [hk0]; decide)).trans hxi13
                              have hmf40 : tw_fv E35 a0 47 = .ref xr21 := (hst35.1 a0 47 hm0 (by rw [hk0]; decide)).trans hxr21
                              have hg0_o := hg0
                              have hg1_o := hg1
                              have hg2_o := hg2
                              have hg3_o := hg3
                              have hg0 : row_ok E35 a0 (x1.toInt) := row_ok_fr TH hst35 hm0 hk0 (by decide) (by decide) (by omega) hg0
                              have hg1 : ls_ok E35 a0 (x1.toInt) := ls_ok_fr TH hst35 hm0 hk0 (by decide) (by decide) (by omega) hg1
                              have hg2 : tt_ok E35 a0 := tt_ok_fr TH hst35 hm0 hk0 (by decide) (by decide) hg2
                              have hg3 : pi_ok E35 a0 := pi_pair (a := y9_3.toInt) (b := y33_4.toInt) hg3_o (by omega) (by rw [tw_fi_of hxi4]; omega) (by omega) (by rw [rf_xe10]; omega) hpoxc36_0 hpoxc36_1 (tw_fi_fr hst35 hm0 hk0 (by decide)) (tw_fi_fr hst35 hm0 hk0 (by decide))
                              refine W.eq (g2 := F0 m 111 ls []) rfl ?_
                              obtain ⟨zi41, ezi41⟩ : ∃ z : Int32, z = y9_3 + Int32.ofInt 1 := ⟨_, rfl⟩
                              have hzi41 : zi41.toInt = y9_3.toInt + 1 := by rw [ezi41]; have : ((Int32.ofInt 1).toInt) = 1 := (by decide);  exact (ia_add (by omega) (by omega)).trans (by omega)
                              refine lv_iinc (v := zi41) (lv' := [(3, .int zi41), (4, .int y33_4), (2, .int y2_2), (0, .ref a0), (1, .int x1)]) hx hb dX12_rounds_111 hl (k := 1) rfl ezi41.symm (by decide) rfl (fun ls hl => ?_)
                              refine lv_goto (tgt := 9) hx hb dX12_rounds_114 (by decide) ?_
                              exact ih9 (n9 - 1) (by   omega) zi41 _ _ _ ls (by omega) (by omega) (by   omega) hG9 hg0 hg1 hg2 hg3 TH hS (lv_sub hl [0, 2, 3, 4] rfl)
                            · have hf42 : y2_2.toInt = 1 := by have z := (fa_eq _ _).mp hc33; have : ((1 : Int32).toInt) = 1 := (by decide); omega
                              refine lv_aload_n hx hb dX12_rounds_88 rfl (lv_at hl 3 rfl) ?_
                              refine lv_iload_n hx hb dX12_rounds_89 rfl (lv_at hl 4 rfl) ?_
                              refine lv_aload_n hx hb dX12_rounds_90 rfl (lv_at hl 3 rfl) ?_
                              refine tw_get (ci := 12) (C := RX12) (T := TX12) (N := 64) hx hb hB cx_inX12 hown hK TH hm0 hk0 rfl ⟨by decide, rfl⟩ 45 (by decide) cw_1238 (fun _ h9 => h9) dX12_rounds_91 (fun hv => ?_)
                              obtain ⟨xr43, hxr43, hmxr43, hkxr43⟩ : ∃ a : Nat, tw_fv Eg9 a0 45 = .ref a ∧ a ∈ L ∧ kp a = 354 := hv
                              rw [hxr43]
                              refine lv_iload_n hx hb dX12_rounds_94 rfl (lv_at hl 1 rfl) ?_
                              refine tw_iald (k := 354) (t0 := 0) (n := 40) (lo := 0) (hi := 149) hx hb hK TH hmxr43 hkxr43 (by decide) rfl rfl (i := y9_3) (vp_in_iff.mpr ⟨by  omega, by  omega⟩) dX12_rounds_95 (fun hxe44a hxe44b => ?_)
                              obtain ⟨xe44, exe44⟩ : ∃ z : Int32, tw_iv Eg9 xr43 (Int32.toNatClampNeg y9_3) = z := ⟨_, rfl⟩
                              rw [exe44] at hxe44a hxe44b ⊢
                              refine lv_iload hx hb dX12_rounds_96 (lv_at hl 0 rfl) ?_
                              have rf_xe44 : tw_el Eg9 a0 45 (y9_3.toInt).toNat = xe44.toInt := (by rw [tw_el_of hxr43]; exact congrArg Int32.toInt exe44)
                              have hvx := ls_at hg1 (j := (y9_3.toInt).toNat) (by rw [tw_fi_of hxi4]; omega)
                              have hsz : ls_s Eg9 a0 (y9_3.toInt).toNat = xe44.toInt := rf_xe44
                              rw [hsz] at hvx
                              have hnd := ls_vx hg1 hvx
                              have hsf := hpoxc28_0 (by omega) (by omega)
                              rw [show tw_el Eg9 a0 45 (y9_3.toInt).toNat = _ from hsz] at hsf
                              refine tw_Vc (o := a0) (ci := 12) (n := 3) (post := (fun v kq Lq Eq => v = none ∧ kp = kq ∧ L = Lq ∧ tw_fr kp L [] [355, 356] Eg9 Eq ∧ (∀ x : Int, vx_ok Eg9 a0 x → (∀ j : Nat, rt_up (rw_p Eg9 a0 x1.toInt) j x ≠ xe44.toInt) → pa_f Eq a0 x = pa_f Eg9 a0 x) ∧ pi_ok Eq a0)) (As := [.int x1, .int xe44, .int y33_4]) (rest := []) ⟨hx, hb, hml, hown, hB⟩ (fun sz => tX12_pairsAll l D cs 40 a0 x1 xe44 y33_4 hm0 hk0 (by omega) (by omega) (by omega) (by omega) (by omega) (by omega) (by  exact hnd.2.2) (by  exact rt_mu_40 hg0 hnd.1 hnd.2.1 hnd.2.2) (by  exact hvx) (by  exact hsf) hg0.1 hg1 hg2 hg3 sz) cg_12_379_X12_pairsAll rfl rfl (by decide +kernel) ⟨Nat.le_of_ble_eq_true rfl, Nat.le_of_ble_eq_true rfl⟩ hK hN TH hS hA rfl hm0 hk0 (by decide) rfl hl.1 rfl (Nat.le_of_ble_eq_true rfl) dX12_rounds_98 ⟨Nat.le_of_ble_eq_true rfl, Nat.le_of_ble_eq_true rfl⟩ (fun v45 kp45 L45 E45 H locs hq45 hx45 TH hS => ?_)
                              obtain ⟨rfl, rfl, rfl, hst45, hpoxc46_0, hgpxc46_0⟩ := hq45
                              have hF := hF.tr hst45 (fun _ h => ⟨h, rfl⟩) (by decide) (by decide)
                              have hG2 := hG2.tr hst45 (fun _ h => ⟨h, rfl⟩) (by decide) (by decide)
                              have hG9 := hG9.tr hst45 (fun _ h => ⟨h, rfl⟩) (by decide) (by decide)
                              have hmf47 : tw_fv E45 a0 50 = .int xi4 := (hst45.1 a0 50 hm0 (by rw [hk0]; decide)).trans hxi4
                              have hmf48 : tw_fv E45 a0 46 = .ref xr9 := (hst45.1 a0 46 hm0 (by rw [hk0]; decide)).trans hxr9
                              have hmf49 : tw_fv E45 a0 28 = .int xi13 := (hst45.1 a0 28 hm0 (by rw [hk0]; decide)).trans hxi13
                              have hmf50 : tw_fv E45 a0 47 = .ref xr21 := (hst45.1 a0 47 hm0 (by rw [hk0]; decide)).trans hxr21
                              have hmf51 : tw_fv E45 a0 45 = .ref xr43 := (hst45.1 a0 45 hm0 (by rw [hk0]; decide)).trans hxr43
                              have hg0 : row_ok E45 a0 (x1.toInt) := row_ok_fr TH hst45 hm0 hk0 (by decide) (by decide) (by omega) hg0
                              have hg1 : ls_ok E45 a0 (x1.toInt) := ls_ok_fr TH hst45 hm0 hk0 (by decide) (by decide) (by omega) hg1
                              have hg2 : tt_ok E45 a0 := tt_ok_fr TH hst45 hm0 hk0 (by decide) (by decide) hg2
                              refine W.eq (g2 := F0 m 101 ls []) rfl ?_
                              refine lv_goto (tgt := 111) hx hb dX12_rounds_101 (by decide) ?_
                              obtain ⟨zi52, ezi52⟩ : ∃ z : Int32, z = y9_3 + Int32.ofInt 1 := ⟨_, rfl⟩
                              have hzi52 : zi52.toInt = y9_3.toInt + 1 := by rw [ezi52]; have : ((Int32.ofInt 1).toInt) = 1 := (by decide);  exact (ia_add (by omega) (by omega)).trans (by omega)
                              refine lv_iinc (v := zi52) (lv' := [(3, .int zi52), (4, .int y33_4), (2, .int y2_2), (0, .ref a0), (1, .int x1)]) hx hb dX12_rounds_111 hl (k := 1) rfl ezi52.symm (by decide) rfl (fun ls hl => ?_)
                              refine lv_goto (tgt := 9) hx hb dX12_rounds_114 (by decide) ?_
                              exact ih9 (n9 - 1) (by   omega) zi52 _ _ _ ls (by omega) (by omega) (by   omega) hG9 hg0 hg1 hg2 hgpxc46_0 TH hS (lv_sub hl [0, 2, 3, 4] rfl)
                          · have hf53 : y33_4.toInt = xi13.toInt := by have z := (fa_eq _ _).mp hc31;  omega
                            refine lv_goto (tgt := 111) hx hb dX12_rounds_80 (by decide) ?_
                            obtain ⟨zi54, ezi54⟩ : ∃ z : Int32, z = y9_3 + Int32.ofInt 1 := ⟨_, rfl⟩
                            have hzi54 : zi54.toInt = y9_3.toInt + 1 := by rw [ezi54]; have : ((Int32.ofInt 1).toInt) = 1 := (by decide);  exact (ia_add (by omega) (by omega)).trans (by omega)
                            refine lv_iinc (v := zi54) (lv' := [(3, .int zi54), (4, .int y33_4), (2, .int y2_2), (0, .ref a0), (1, .int x1)]) hx hb dX12_rounds_111 hl (k := 1) rfl ezi54.symm (by decide) rfl (fun ls hl => ?_)
                            refine lv_goto (tgt := 9) hx hb dX12_rounds_114 (by decide) ?_
                            exact ih9 (n9 - 1) (by   omega) zi54 _ _ _ ls (by omega) (by omega) (by   omega) hG9 hg0 hg1 hg2 hg3 TH hS (lv_sub hl [0, 2, 3, 4] rfl)
                        · have hf55 : xc28.toInt = 0 := by have z := (fa_eq _ _).mp hc29; have : ((0 : Int32).toInt) = 0 := (by decide); omega
                          obtain ⟨zi56, ezi56⟩ : ∃ z : Int32, z = y33_4 + Int32.ofInt 1 := ⟨_, rfl⟩
                          have hzi56 : zi56.toInt = y33_4.toInt + 1 := by rw [ezi56]; have : ((Int32.ofInt 1).toInt) = 1 := (by decide);  exact (ia_add (by omega) (by omega)).trans (by omega)
                          refine lv_iinc (v := zi56) (lv' := [(4, .int zi56), (3, .int y9_3), (2, .int y2_2), (0, .ref a0), (1, .int x1)]) hx hb dX12_rounds_65 hl (k := 0) rfl ezi56.symm (by decide) rfl (fun ls hl => ?_)
                          refine lv_goto (tgt := 33) hx hb dX12_rounds_68 (by decide) ?_
                          exact ih33 (n33 - 1) (by   omega) zi56 _ _ ls (by omega) (by omega) (by  omega) (by   omega) TH hS (lv_sub hl [0, 1, 2, 3, 4] rfl)
                exact hJ33 25 (0 : Int32) _ _ ls (by have : ((0 : Int32).toInt) = 0 := (by decide); omega) (by have : ((0 : Int32).toInt) = 0 := (by decide); omega) (by have : ((0 : Int32).toInt) = 0 := (by decide); omega) (by have : ((0 : Int32).toInt) = 0 := (by decide);  omega) TH hS (lv_sub hl [0, 1, 2, 3, 4] rfl)
              · have hf57 : ¬ (xe10.toInt = (-1)) := fun q => hc11 ((fa_eq _ _).mpr (by have : (((-1) : Int32).toInt) = (-1) := (by decide); omega))
                refine lv_goto (tgt := 111) hx hb dX12_rounds_27 (by decide) ?_
                obtain ⟨zi58, ezi58⟩ : ∃ z : Int32, z = y9_3 + Int32.ofInt 1 := ⟨_, rfl⟩
                have hzi58 : zi58.toInt = y9_3.toInt + 1 := by rw [ezi58]; have : ((Int32.ofInt 1).toInt) = 1 := (by decide);  exact (ia_add (by omega) (by omega)).trans (by omega)
                refine lv_iinc (v := zi58) (lv' := [(3, .int zi58), (2, .int y2_2), (0, .ref a0), (1, .int x1)]) hx hb dX12_rounds_111 hl (k := 0) rfl ezi58.symm (by decide) rfl (fun ls hl => ?_)
                refine lv_goto (tgt := 9) hx hb dX12_rounds_114 (by decide) ?_
                exact ih9 (n9 - 1) (by   omega) zi58 _ _ _ ls (by omega) (by omega) (by   omega) hG9 hg0 hg1 hg2 hg3 TH hS (lv_sub hl [0, 1, 2, 3] rfl)
        exact hJ9 41 (0 : Int32) _ _ _ ls (by have : ((0 : Int32).toInt) = 0 := (by decide); omega) (by have : ((0 : Int32).toInt) = 0 := (by decide); omega) (by have : ((0 : Int32).toInt) = 0 := (by decide);  omega) tw_fr.rf hg0 hg1 hg2 hg3 TH hS (lv_sub hl [0, 1, 2, 3] rfl)
  exact hJ2 6 (1 : Int32) _ _ _ ls (by have : ((1 : Int32).toInt) = 1 := (by decide); omega) (by have : ((1 : Int32).toInt) = 1 := (by decide); omega) (by have : ((1 : Int32).toInt) = 1 := (by decide);  omega) tw_fr.rf hg0 hg1 hg2 hg3 TH hS (lv_sub hl [0, 1, 2] rfl)
set_option maxHeartbeats 4000000 in
set_option maxRecDepth 100000 in
theorem tX12_tries (l : Launch) (D : va_G) (cs : Nat → ClassId) (dd : Nat) : ∀ {kp : Nat → Nat} {L : List Nat} {E : Nat → va_E} (a0 : Nat) (x1 : Int32) (x2 : Int32) (fv0_50 : Int32) (hm0 : a0 ∈ L) (hk0 : kp a0 = 12) (hp1a : 0 ≤ x1.toInt) (hp1b : x1.toInt ≤ 11) (hp2a : 1 ≤ x2.toInt) (hp2b : x2.toInt ≤ 6) (hfv0_50 : tw_fv E a0 50 = .int fv0_50) (hpre0 : x2.toInt ≤ fv0_50.toInt) (hpre1 : fv0_50.toInt ≤ 6) (hpre2 : fv0_50.toInt - x2.toInt + 1 ≤ (dd : Int)) (hg0 : pt_ok E a0) (hg1 : bc_ok E a0) (sz : Nat), Met l yX12_tries (.code yX12_tries cX12_tries 5 none :: cx_big) { frames := dd + 3, cells := 0, slots := 0, locals := 24 * (dd) + 90 } (tw_P D cs kp L E [.ref a0, .int x1, .int x2] sz) (tw_Q D cs kp L (fun v kq Lq Eq => v = none ∧ kp = kq ∧ L = Lq ∧ tw_fr kp L [(12, 51)] [355, 356, 357] E Eq ∧ bt_ok Eq a0 ∧ pt_ok Eq a0 ∧ bc_ok Eq a0) (va_A (va_pl L E) sz)) 0 0 (va_A (va_pl L E) sz) := by
  induction dd with
  | zero =>
    intro kp L E a0 x1 x2 fv0_50 hm0 hk0 hp1a hp1b hp2a hp2b hfv0_50 hpre0 hpre1 hpre2 hg0 hg1 sz
    exfalso
    omega
  | succ dd ih =>
    intro kp L E a0 x1 x2 fv0_50 hm0 hk0 hp1a hp1b hp2a hp2b hfv0_50 hpre0 hpre1 hpre2 hg0 hg1 sz
    refine tw_ofW (by decide) (Nat.le_of_ble_eq_true rfl) ?_
    intro p e s m below meth c A ls hx hb hr hml hB hown hlocks hK hN hA TH hS hl
    have hown : s.vm.findClass "TreeMergeModel" = some m.cls := hown
    have hl : lv_has ls 5 [(0, .ref a0), (1, .int x1), (2, .int x2)] := hl
    obtain ⟨kp0, ekp⟩ : ∃ z, z = kp := ⟨_, rfl⟩
    obtain ⟨L0, eL⟩ : ∃ z, z = L := ⟨_, rfl⟩
    rw [show tw_Q D cs kp L = tw_Q D cs kp0 L0 by rw [ekp, eL]]
    have hex : ∀ a : Nat, a ∈ L0 → a ∈ L ∧ kp a = kp0 a := fun a h => ⟨by rw [← eL]; exact h, by rw [ekp]⟩
    have hF : tw_fr kp L [(12, 51)] [355, 356, 357] E E := tw_fr.rf
    obtain ⟨qfv0_50, hqfv0_50, hqfv0_50a, hqfv0_50b⟩ := tw_rd TH hm0 hk0 (by decide) (by decide) (k := 50) rfl
    have eqfv0_50 : qfv0_50 = fv0_50 := by have q := hqfv0_50.symm.trans hfv0_50; injection q
    rw [eqfv0_50] at hqfv0_50a hqfv0_50b
    refine lv_iload_n hx hb dX12_tries_0 rfl (lv_at hl 2 rfl) ?_
    refine lv_aload_n hx hb dX12_tries_1 rfl (lv_at hl 0 rfl) ?_
    refine tw_get (ci := 12) (C := RX12) (T := TX12) (N := 64) hx hb hB cx_inX12 hown hK TH hm0 hk0 rfl ⟨by decide, rfl⟩ 50 (by decide) cw_1243 (fun _ h9 => h9) dX12_tries_2 (fun hv => ?_)
    rw [hfv0_50]
    refine lv_icmp_ne (tgt := 69) hx hb dX12_tries_5 (by decide) (fun hc1 => ?_) (fun hc1 => ?_)
    · have hf2 : ¬ (x2.toInt = fv0_50.toInt) := fun q => hc1 ((fa_eq _ _).mpr (by  omega))
      refine lv_iconst (v := 1) hx hb dX12_tries_69 (by decide) ?_
      refine lv_istore_n (lv' := [(3, .int 1), (0, .ref a0), (1, .int x1), (2, .int x2)]) hx hb dX12_tries_70 rfl hl (by decide) rfl (fun ls hl => ?_)
      have hJ71 : ∀ (n71 : Nat) (y71_3 : Int32) (Eg71 : Nat → va_E) (H : Heap) (locs : List Loc) (ls : Array Slot), 1 ≤ y71_3.toInt → y71_3.toInt ≤ 24 → (fv0_50.toInt = fv0_50.toInt) → 24 - y71_3.toInt ≤ (n71 : Int) → tw_fr kp L [(12, 51)] [355, 356, 357] E Eg71 → pt_ok Eg71 a0 → bc_ok Eg71 a0 → tw_H D cs kp L Eg71 A H → va_S A s.heap H locs → lv_has ls 5 [(3, .int y71_3), (0, .ref a0), (1, .int x1), (2, .int x2)] → W p l e { frames := dd + 1 + 3, cells := 0, slots := 0, locals := 24 * (dd + 1) + 90 } s m [.ref a0, .int x1, .int x2].toArray below meth c H locs 0 0 (MQ below (tw_Q D cs kp0 L0 (fun v kq Lq Eq => v = none ∧ kp = kq ∧ L = Lq ∧ tw_fr kp L [(12, 51)] [355, 356, 357] E Eq ∧ bt_ok Eq a0 ∧ pt_ok Eq a0 ∧ bc_ok Eq a0) A) [.ref a0, .int x1, .int x2].toArray s 0 0 A) (F0 m 71 ls []) := by
        intro n71
        induction n71 using Nat.strongRecOn with
        | _ n71 ih71 =>
          intro y71_3 Eg71 H locs ls hy71_3a hy71_3b hin71_0 hmeas71 hG71 hcg71_0 hcg71_1 TH hS hl
          have hF := hF.tr hG71 (fun _ h => ⟨h, rfl⟩) (by decide) (by decide)
          have hmf3 : tw_fv Eg71 a0 50 = .int fv0_50 := (hG71.1 a0 50 hm0 (by rw [hk0]; decide)).trans hfv0_50
          refine lv_iload_n hx hb dX12_tries_71 rfl (lv_at hl 0 rfl) ?_
          refine lv_aload_n hx hb dX12_tries_72 rfl (lv_at hl 1 rfl) ?_
          refine tw_get (ci := 12) (C := RX12) (T := TX12) (N := 64) hx hb hB cx_inX12 hown hK TH hm0 hk0 rfl ⟨by decide, rfl⟩ 28 (by decide) cw_1221 (fun _ h9 => h9) dX12_tries_73 (fun hv => ?_)
          obtain ⟨xi4, hxi4, hxi4a, hxi4b⟩ : ∃ x : Int32, tw_fv Eg71 a0 28 = .int x ∧ 0 ≤ x.toInt ∧ x.toInt ≤ 24 := hv
          rw [hxi4]
          refine lv_icmp_ge (tgt := 139) hx hb dX12_tries_76 (by decide) (fun hc5 => ?_) (fun hc5 => ?_)
          · have hf6 : xi4.toInt ≤ y71_3.toInt := by have z := (fa_le _ _).mp hc5;  omega
            refine lv_aload_n hx hb dX12_tries_139 rfl (lv_at hl 1 rfl) ?_
            refine tw_get (ci := 12) (C := RX12) (T := TX12) (N := 64) hx hb hB cx_inX12 hown hK TH hm0 hk0 rfl ⟨by decide, rfl⟩ 46 (by decide) cw_1239 (fun _ h9 => h9) dX12_tries_140 (fun hv => ?_)
            obtain ⟨xr7, hxr7, hmxr7, hkxr7⟩ : ∃ a : Nat, tw_fv Eg71 a0 46 = .ref a ∧ a ∈ L ∧ kp a = 355 := hv
            rw [hxr7]
            refine lv_iload_n hx hb dX12_tries_143 rfl (lv_at hl 3 rfl) ?_
            refine lv_iconst (v := (-1)) hx hb dX12_tries_144 (by decide) ?_
            refine tw_iast (k := 355) (n := 40) (lo := (-1)) (hi := 23) hx hb hK TH hS hmxr7 hkxr7 (by decide) rfl (i := x2) (x := (-1)) (vp_in_iff.mpr ⟨by  omega, by  omega⟩) (by have : (((-1) : Int32).toInt) = (-1) := (by decide); omega) (by have : (((-1) : Int32).toInt) = (-1) := (by decide); omega) dX12_tries_145 (fun H locs E8 TH hS hp9 hp10 hp11 => ?_)
            have hst12 : tw_fr kp L [] [355] Eg71 E8 := tw_fr.ast tw_fr.rf (fun _ => hkxr7) hp9 hp10 (by decide)
            have hF := hF.tr hst12 (fun _ h => ⟨h, rfl⟩) (by decide) (by decide)
            have hG71 := hG71.tr hst12 (fun _ h => ⟨h, rfl⟩) (by decide) (by decide)
            have hmf13 : tw_fv E8 a0 50 = .int fv0_50 := (hst12.1 a0 50 hm0 (by rw [hk0]; decide)).trans hmf3
            have hmf14 : tw_fv E8 a0 28 = .int xi4 := (hst12.1 a0 28 hm0 (by rw [hk0]; decide)).trans hxi4
            have hmf15 : tw_fv E8 a0 46 = .ref xr7 := (hst12.1 a0 46 hm0 (by rw [hk0]; decide)).trans hxr7
            have hcg71_0_o := hcg71_0
            have hcg71_1_o := hcg71_1
            have hcg71_0 : pt_ok E8 a0 := pt_set (a := x2.toInt) (b := -1) hcg71_0_o (by omega) (by decide) (by intro j; have w := tw_el_st hxr7 hp9 hp10 hp11 j; rw [w]; (by_cases e : j = (x2.toInt).toNat; (rw [if_pos ⟨rfl, e⟩, if_pos e]; decide); (rw [if_neg (fun y => e y.2), if_neg e]))) (tw_fi_fr hst12 hm0 hk0 (by decide))
            have hcg71_1 : bc_ok E8 a0 := bc_ok_fr TH hst12 hm0 hk0 (by decide) (by decide) hcg71_1
            refine lv_aload_n hx hb dX12_tries_146 rfl (lv_at hl 1 rfl) ?_
            refine lv_iload_n hx hb dX12_tries_147 rfl (lv_at hl 2 rfl) ?_
            refine lv_iload_n hx hb dX12_tries_148 rfl (lv_at hl 3 rfl) ?_
            refine lv_iconst (v := 1) hx hb dX12_tries_149 (by decide) ?_
            refine lv_iadd hx hb dX12_tries_150 ?_
            refine lv_topi (fun zi16 ezi16 => ?_)
            have hzi16 : zi16.toInt = x2.toInt + 1 := by rw [ezi16]; have : ((1 : Int32).toInt) = 1 := (by decide); have := ia_lo x2; have := ia_hi x2; exact (ia_add (by omega) (by omega)).trans (by omega)
            refine tw_Vc (o := a0) (ci := 12) (n := 2) (post := (fun v kq Lq Eq => v = none ∧ kp = kq ∧ L = Lq ∧ tw_fr kp L [(12, 51)] [355, 356, 357] E8 Eq ∧ bt_ok Eq a0 ∧ pt_ok Eq a0 ∧ bc_ok Eq a0)) (As := [.int x1, .int zi16]) (rest := []) ⟨hx, hb, hml, hown, hB⟩ (fun sz => ih a0 x1 zi16 fv0_50 hm0 hk0 (by omega) (by omega) (by omega) (by omega) hmf13 (by  omega) (by  omega) (by  omega) hcg71_0 hcg71_1 sz) cg_12_373_X12_tries rfl rfl (by decide +kernel) ⟨(by first | exact Nat.le_of_ble_eq_true rfl | (dsimp only; omega) | omega), (by first | exact Nat.le_of_ble_eq_true rfl | (dsimp only; omega) | omega)⟩ hK hN TH hS hA rfl hm0 hk0 (by decide) rfl hl.1 rfl ((by first | exact Nat.le_of_ble_eq_true rfl | (dsimp only; omega) | omega)) dX12_tries_151 ⟨(by first | exact Nat.le_of_ble_eq_true rfl | (dsimp only; omega) | omega), (by first | exact Nat.le_of_ble_eq_true rfl | (dsimp only; omega) | omega)⟩ (fun v17 kp17 L17 E17 H locs hq17 hx17 TH hS => ?_)
            obtain ⟨rfl, rfl, rfl, hst17, hgpxc18_0, hgpxc18_1, hgpxc18_2⟩ := hq17
            have hF := hF.tr hst17 (fun _ h => ⟨h, rfl⟩) (by decide) (by decide)
            have hG71 := hG71.tr hst17 (fun _ h => ⟨h, rfl⟩) (by decide) (by decide)
            have hmf19 : tw_fv E17 a0 50 = .int fv0_50 := (hst17.1 a0 50 hm0 (by rw [hk0]; decide)).trans hmf13
            have hmf20 : tw_fv E17 a0 28 = .int xi4 := (hst17.1 a0 28 hm0 (by rw [hk0]; decide)).trans hmf14
            have hmf21 : tw_fv E17 a0 46 = .ref xr7 := (hst17.1 a0 46 hm0 (by rw [hk0]; decide)).trans hmf15
            refine W.eq (g2 := F0 m 154 ls []) rfl ?_
            exact tw_vret hx hb hr hlocks TH hS hex ⟨rfl, rfl, rfl, hF, hgpxc18_0, hgpxc18_1, hgpxc18_2⟩ ((by first | exact Nat.le_of_ble_eq_true rfl | (dsimp only; omega) | omega)) ((by first | exact Nat.le_of_ble_eq_true rfl | (dsimp only; omega) | omega)) dX12_tries_154
          · have hf22 : ¬ (xi4.toInt ≤ y71_3.toInt) := fun q => hc5 ((fa_le _ _).mpr (by  omega))
            refine lv_aload_n hx hb dX12_tries_79 rfl (lv_at hl 1 rfl) ?_
            refine tw_get (ci := 12) (C := RX12) (T := TX12) (N := 64) hx hb hB cx_inX12 hown hK TH hm0 hk0 rfl ⟨by decide, rfl⟩ 47 (by decide) cw_1240 (fun _ h9 => h9) dX12_tries_80 (fun hv => ?_)
            obtain ⟨xr23, hxr23, hmxr23, hkxr23⟩ : ∃ a : Nat, tw_fv Eg71 a0 47 = .ref a ∧ a ∈ L ∧ kp a = 356 := hv
            rw [hxr23]
            refine lv_iload_n hx hb dX12_tries_83 rfl (lv_at hl 0 rfl) ?_
            refine tw_iald (k := 356) (t0 := 0) (n := 24) (lo := (-1)) (hi := 39) hx hb hK TH hmxr23 hkxr23 (by decide) rfl rfl (i := y71_3) (vp_in_iff.mpr ⟨by  omega, by  omega⟩) dX12_tries_84 (fun hxe24a hxe24b => ?_)
            obtain ⟨xe24, exe24⟩ : ∃ z : Int32, tw_iv Eg71 xr23 (Int32.toNatClampNeg y71_3) = z := ⟨_, rfl⟩
            rw [exe24] at hxe24a hxe24b ⊢
            refine lv_iconst (v := (-1)) hx hb dX12_tries_85 (by decide) ?_
            refine lv_icmp_ne (tgt := 133) hx hb dX12_tries_86 (by decide) (fun hc25 => ?_) (fun hc25 => ?_)
            · have hf26 : ¬ (xe24.toInt = (-1)) := fun q => hc25 ((fa_eq _ _).mpr (by have : (((-1) : Int32).toInt) = (-1) := (by decide); omega))
              obtain ⟨zi27, ezi27⟩ : ∃ z : Int32, z = y71_3 + Int32.ofInt 1 := ⟨_, rfl⟩
              have hzi27 : zi27.toInt = y71_3.toInt + 1 := by rw [ezi27]; have : ((Int32.ofInt 1).toInt) = 1 := (by decide);  exact (ia_add (by omega) (by omega)).trans (by omega)
              refine lv_iinc (v := zi27) (lv' := [(3, .int zi27), (0, .ref a0), (1, .int x1), (2, .int x2)]) hx hb dX12_tries_133 hl (k := 0) rfl ezi27.symm (by decide) rfl (fun ls hl => ?_)
              refine lv_goto (tgt := 71) hx hb dX12_tries_136 (by decide) ?_
              exact ih71 (n71 - 1) (by   omega) zi27 _ _ _ ls (by omega) (by omega) (by  omega) (by   omega) hG71 hcg71_0 hcg71_1 TH hS (lv_sub hl [0, 1, 2, 3] rfl)
            · have hf28 : xe24.toInt = (-1) := by have z := (fa_eq _ _).mp hc25; have : (((-1) : Int32).toInt) = (-1) := (by decide); omega
              refine lv_aload_n hx hb dX12_tries_89 rfl (lv_at hl 1 rfl) ?_
              refine tw_get (ci := 12) (C := RX12) (T := TX12) (N := 64) hx hb hB cx_inX12 hown hK TH hm0 hk0 rfl ⟨by decide, rfl⟩ 20 (by decide) cw_1213 (fun _ h9 => h9) dX12_tries_90 (fun hv => ?_)
              obtain ⟨xr29, hxr29, hmxr29, hkxr29⟩ : ∃ a : Nat, tw_fv Eg71 a0 20 = .ref a ∧ a ∈ L ∧ kp a = 330 := hv
              rw [hxr29]
              refine lv_aload_n hx hb dX12_tries_93 rfl (lv_at hl 1 rfl) ?_
              refine tw_get (ci := 12) (C := RX12) (T := TX12) (N := 64) hx hb hB cx_inX12 hown hK TH hm0 hk0 rfl ⟨by decide, rfl⟩ 45 (by decide) cw_1238 (fun _ h9 => h9) dX12_tries_94 (fun hv => ?_)
              obtain ⟨xr30, hxr30, hmxr30, hkxr30⟩ : ∃ a : Nat, tw_fv Eg71 a0 45 = .ref a ∧ a ∈ L ∧ kp a = 354 := hv
              rw [hxr30]
              refine lv_iload_n hx hb dX12_tries_97 rfl (lv_at hl 3 rfl) ?_
              refine tw_iald (k := 354) (t0 := 0) (n := 40) (lo := 0) (hi := 149) hx hb hK TH hmxr30 hkxr30 (by decide) rfl rfl (i := x2) (vp_in_iff.mpr ⟨by  omega, by  omega⟩) dX12_tries_98 (fun hxe31a hxe31b => ?_)
              obtain ⟨xe31, exe31⟩ : ∃ z : Int32, tw_iv Eg71 xr30 (Int32.toNatClampNeg x2) = z := ⟨_, rfl⟩
              rw [exe31] at hxe31a hxe31b ⊢
              refine tw_iald (k := 330) (t0 := 0) (n := 150) (lo := 0) (hi := 9) hx hb hK TH hmxr29 hkxr29 (by decide) rfl rfl (i := xe31) (vp_in_iff.mpr ⟨by  omega, by  omega⟩) dX12_tries_99 (fun hxe32a hxe32b => ?_)
              obtain ⟨xe32, exe32⟩ : ∃ z : Int32, tw_iv Eg71 xr29 (Int32.toNatClampNeg xe31) = z := ⟨_, rfl⟩
              rw [exe32] at hxe32a hxe32b ⊢
              refine lv_aload_n hx hb dX12_tries_100 rfl (lv_at hl 1 rfl) ?_
              refine tw_get (ci := 12) (C := RX12) (T := TX12) (N := 64) hx hb hB cx_inX12 hown hK TH hm0 hk0 rfl ⟨by decide, rfl⟩ 22 (by decide) cw_1215 (fun _ h9 => h9) dX12_tries_101 (fun hv => ?_)
              obtain ⟨xr33, hxr33, hmxr33, hkxr33⟩ : ∃ a : Nat, tw_fv Eg71 a0 22 = .ref a ∧ a ∈ L ∧ kp a = 332 := hv
              rw [hxr33]
              refine lv_iload_n hx hb dX12_tries_104 rfl (lv_at hl 0 rfl) ?_
              refine tw_iald (k := 332) (t0 := 0) (n := 24) (lo := 0) (hi := 9) hx hb hK TH hmxr33 hkxr33 (by decide) rfl rfl (i := y71_3) (vp_in_iff.mpr ⟨by  omega, by  omega⟩) dX12_tries_105 (fun hxe34a hxe34b => ?_)
              obtain ⟨xe34, exe34⟩ : ∃ z : Int32, tw_iv Eg71 xr33 (Int32.toNatClampNeg y71_3) = z := ⟨_, rfl⟩
              rw [exe34] at hxe34a hxe34b ⊢
              refine lv_icmp_eq (tgt := 112) hx hb dX12_tries_106 (by decide) (fun hc35 => ?_) (fun hc35 => ?_)
              · have hf36 : xe32.toInt = xe34.toInt := by have z := (fa_eq _ _).mp hc35;  omega
                refine lv_aload_n hx hb dX12_tries_112 rfl (lv_at hl 1 rfl) ?_
                refine lv_iload_n hx hb dX12_tries_113 rfl (lv_at hl 3 rfl) ?_
                refine lv_iload_n hx hb dX12_tries_114 rfl (lv_at hl 0 rfl) ?_
                refine tw_Vc (o := a0) (ci := 12) (n := 2) (post := (fun v kq Lq Eq => v = none ∧ kp = kq ∧ L = Lq ∧ tw_fr kp L [] [355, 356] Eg71 Eq ∧ (∀ j : Nat, tw_el Eq a0 46 j = if j = (x2.toInt).toNat then y71_3.toInt else tw_el Eg71 a0 46 j) ∧ (∀ j : Nat, tw_el Eq a0 47 j = if j = (y71_3.toInt).toNat then x2.toInt else tw_el Eg71 a0 47 j))) (As := [.int x2, .int y71_3]) (rest := []) ⟨hx, hb, hml, hown, hB⟩ (fun sz => tX12_pairs_vF l D cs a0 x2 y71_3 hm0 hk0 (by omega) (by omega) (by omega) (by omega) sz) cg_12_369_X12_pairs rfl rfl (by decide +kernel) ⟨(by first | exact Nat.le_of_ble_eq_true rfl | (dsimp only; omega) | omega), (by first | exact Nat.le_of_ble_eq_true rfl | (dsimp only; omega) | omega)⟩ hK hN TH hS hA rfl hm0 hk0 (by decide) rfl hl.1 rfl ((by first | exact Nat.le_of_ble_eq_true rfl | (dsimp only; omega) | omega)) dX12_tries_115 ⟨(by first | exact Nat.le_of_ble_eq_true rfl | (dsimp only; omega) | omega), (by first | exact Nat.le_of_ble_eq_true rfl | (dsimp only; omega) | omega)⟩ (fun v37 kp37 L37 E37 H locs hq37 hx37 TH hS => ?_)
                obtain ⟨rfl, rfl, rfl, hst37, hpoxc38_0, hpoxc38_1⟩ := hq37
                have hF := hF.tr hst37 (fun _ h => ⟨h, rfl⟩) (by decide) (by decide)
                have hG71 := hG71.tr hst37 (fun _ h => ⟨h, rfl⟩) (by decide) (by decide)
                have hmf39 : tw_fv E37 a0 50 = .int fv0_50 := (hst37.1 a0 50 hm0 (by rw [hk0]; decide)).trans hmf3
                have hmf40 : tw_fv E37 a0 28 = .int xi4 := (hst37.1 a0 28 hm0 (by rw [hk0]; decide)).trans hxi4
                have hmf41 : tw_fv E37 a0 47 = .ref xr23 := (hst37.1 a0 47 hm0 (by rw [hk0]; decide)).trans hxr23
                have hmf42 : tw_fv E37 a0 20 = .ref xr29 := (hst37.1 a0 20 hm0 (by rw [hk0]; decide)).trans hxr29
                have hmf43 : tw_fv E37 a0 45 = .ref xr30 := (hst37.1 a0 45 hm0 (by rw [hk0]; decide)).trans hxr30
                have hmf44 : tw_fv E37 a0 22 = .ref xr33 := (hst37.1 a0 22 hm0 (by rw [hk0]; decide)).trans hxr33
                have hcg71_0_o := hcg71_0
                have hcg71_1_o := hcg71_1
                have hcg71_0 : pt_ok E37 a0 := pt_set (a := x2.toInt) (b := y71_3.toInt) hcg71_0_o (by omega) (by omega) hpoxc38_0 (tw_fi_fr hst37 hm0 hk0 (by decide))
                have hcg71_1 : bc_ok E37 a0 := bc_ok_fr TH hst37 hm0 hk0 (by decide) (by decide) hcg71_1
                refine W.eq (g2 := F0 m 118 ls []) rfl ?_
                refine lv_aload_n hx hb dX12_tries_118 rfl (lv_at hl 1 rfl) ?_
                refine lv_iload_n hx hb dX12_tries_119 rfl (lv_at hl 2 rfl) ?_
                refine lv_iload_n hx hb dX12_tries_120 rfl (lv_at hl 3 rfl) ?_
                refine lv_iconst (v := 1) hx hb dX12_tries_121 (by decide) ?_
                refine lv_iadd hx hb dX12_tries_122 ?_
                refine lv_topi (fun zi45 ezi45 => ?_)
                have hzi45 : zi45.toInt = x2.toInt + 1 := by rw [ezi45]; have : ((1 : Int32).toInt) = 1 := (by decide); have := ia_lo x2; have := ia_hi x2; exact (ia_add (by omega) (by omega)).trans (by omega)
                refine tw_Vc (o := a0) (ci := 12) (n := 2) (post := (fun v kq Lq Eq => v = none ∧ kp = kq ∧ L = Lq ∧ tw_fr kp L [(12, 51)] [355, 356, 357] E37 Eq ∧ bt_ok Eq a0 ∧ pt_ok Eq a0 ∧ bc_ok Eq a0)) (As := [.int x1, .int zi45]) (rest := []) ⟨hx, hb, hml, hown, hB⟩ (fun sz => ih a0 x1 zi45 fv0_50 hm0 hk0 (by omega) (by omega) (by omega) (by omega) hmf39 (by  omega) (by  omega) (by  omega) hcg71_0 hcg71_1 sz) cg_12_373_X12_tries rfl rfl (by decide +kernel) ⟨(by first | exact Nat.le_of_ble_eq_true rfl | (dsimp only; omega) | omega), (by first | exact Nat.le_of_ble_eq_true rfl | (dsimp only; omega) | omega)⟩ hK hN TH hS hA rfl hm0 hk0 (by decide) rfl hl.1 rfl ((by first | exact Nat.le_of_ble_eq_true rfl | (dsimp only; omega) | omega)) dX12_tries_123 ⟨(by first | exact Nat.le_of_ble_eq_true rfl | (dsimp only; omega) | omega), (by first | exact Nat.le_of_ble_eq_true rfl | (dsimp only; omega) | omega)⟩ (fun v46 kp46 L46 E46 H locs hq46 hx46 TH hS => ?_)
                obtain ⟨rfl, rfl, rfl, hst46, hgpxc47_0, hgpxc47_1, hgpxc47_2⟩ := hq46
                have hF := hF.tr hst46 (fun _ h => ⟨h, rfl⟩) (by decide) (by decide)
                have hG71 := hG71.tr hst46 (fun _ h => ⟨h, rfl⟩) (by decide) (by decide)
                have hmf48 : tw_fv E46 a0 50 = .int fv0_50 := (hst46.1 a0 50 hm0 (by rw [hk0]; decide)).trans hmf39
                have hmf49 : tw_fv E46 a0 28 = .int xi4 := (hst46.1 a0 28 hm0 (by rw [hk0]; decide)).trans hmf40
                have hmf50 : tw_fv E46 a0 47 = .ref xr23 := (hst46.1 a0 47 hm0 (by rw [hk0]; decide)).trans hmf41
                have hmf51 : tw_fv E46 a0 20 = .ref xr29 := (hst46.1 a0 20 hm0 (by rw [hk0]; decide)).trans hmf42
                have hmf52 : tw_fv E46 a0 45 = .ref xr30 := (hst46.1 a0 45 hm0 (by rw [hk0]; decide)).trans hmf43
                have hmf53 : tw_fv E46 a0 22 = .ref xr33 := (hst46.1 a0 22 hm0 (by rw [hk0]; decide)).trans hmf44
                refine W.eq (g2 := F0 m 126 ls []) rfl ?_
                refine lv_aload_n hx hb dX12_tries_126 rfl (lv_at hl 1 rfl) ?_
                refine tw_get (ci := 12) (C := RX12) (T := TX12) (N := 64) hx hb hB cx_inX12 hown hK TH hm0 hk0 rfl ⟨by decide, rfl⟩ 47 (by decide) cw_1240 (fun _ h9 => h9) dX12_tries_127 (fun hv => ?_)
                rw [hmf50]
                refine lv_iload_n hx hb dX12_tries_130 rfl (lv_at hl 0 rfl) ?_
                refine lv_iconst (v := (-1)) hx hb dX12_tries_131 (by decide) ?_
                refine tw_iast (k := 356) (n := 24) (lo := (-1)) (hi := 39) hx hb hK TH hS hmxr23 hkxr23 (by decide) rfl (i := y71_3) (x := (-1)) (vp_in_iff.mpr ⟨by  omega, by  omega⟩) (by have : (((-1) : Int32).toInt) = (-1) := (by decide); omega) (by have : (((-1) : Int32).toInt) = (-1) := (by decide); omega) dX12_tries_132 (fun H locs E54 TH hS hp55 hp56 hp57 => ?_)
                have hst58 : tw_fr kp L [] [356] E46 E54 := tw_fr.ast tw_fr.rf (fun _ => hkxr23) hp55 hp56 (by decide)
                have hF := hF.tr hst58 (fun _ h => ⟨h, rfl⟩) (by decide) (by decide)
                have hG71 := hG71.tr hst58 (fun _ h => ⟨h, rfl⟩) (by decide) (by decide)
                have hmf59 : tw_fv E54 a0 50 = .int fv0_50 := (hst58.1 a0 50 hm0 (by rw [hk0]; decide)).trans hmf48
                have hmf60 : tw_fv E54 a0 28 = .int xi4 := (hst58.1 a0 28 hm0 (by rw [hk0]; decide)).trans hmf49
                have hmf61 : tw_fv E54 a0 47 = .ref xr23 := (hst58.1 a0 47 hm0 (by rw [hk0]; decide)).trans hmf50
                have hmf62 : tw_fv E54 a0 20 = .ref xr29 := (hst58.1 a0 20 hm0 (by rw [hk0]; decide)).trans hmf51
                have hmf63 : tw_fv E54 a0 45 = .ref xr30 := (hst58.1 a0 45 hm0 (by rw [hk0]; decide)).trans hmf52
                have hmf64 : tw_fv E54 a0 22 = .ref xr33 := (hst58.1 a0 22 hm0 (by rw [hk0]; decide)).trans hmf53
                have hgpxc47_0 : bt_ok E54 a0 := bt_ok_fr TH hst58 hm0 hk0 (by decide) (by decide) hgpxc47_0
                have hgpxc47_1 : pt_ok E54 a0 := pt_ok_fr TH hst58 hm0 hk0 (by decide) (by decide) hgpxc47_1
                have hgpxc47_2 : bc_ok E54 a0 := bc_ok_fr TH hst58 hm0 hk0 (by decide) (by decide) hgpxc47_2
                obtain ⟨zi65, ezi65⟩ : ∃ z : Int32, z = y71_3 + Int32.ofInt 1 := ⟨_, rfl⟩
                have hzi65 : zi65.toInt = y71_3.toInt + 1 := by rw [ezi65]; have : ((Int32.ofInt 1).toInt) = 1 := (by decide);  exact (ia_add (by omega) (by omega)).trans (by omega)
                refine lv_iinc (v := zi65) (lv' := [(3, .int zi65), (0, .ref a0), (1, .int x1), (2, .int x2)]) hx hb dX12_tries_133 hl (k := 0) rfl ezi65.symm (by decide) rfl (fun ls hl => ?_)
                refine lv_goto (tgt := 71) hx hb dX12_tries_136 (by decide) ?_
                exact ih71 (n71 - 1) (by   omega) zi65 _ _ _ ls (by omega) (by omega) (by  omega) (by   omega) hG71 hgpxc47_1 hgpxc47_2 TH hS (lv_sub hl [0, 1, 2, 3] rfl)
              · have hf66 : ¬ (xe32.toInt = xe34.toInt) := fun q => hc35 ((fa_eq _ _).mpr (by  omega))
                refine lv_goto (tgt := 133) hx hb dX12_tries_109 (by decide) ?_
                obtain ⟨zi67, ezi67⟩ : ∃ z : Int32, z = y71_3 + Int32.ofInt 1 := ⟨_, rfl⟩
                have hzi67 : zi67.toInt = y71_3.toInt + 1 := by rw [ezi67]; have : ((Int32.ofInt 1).toInt) = 1 := (by decide);  exact (ia_add (by omega) (by omega)).trans (by omega)
                refine lv_iinc (v := zi67) (lv' := [(3, .int zi67), (0, .ref a0), (1, .int x1), (2, .int x2)]) hx hb dX12_tries_133 hl (k := 0) rfl ezi67.symm (by decide) rfl (fun ls hl => ?_)
                refine lv_goto (tgt := 71) hx hb dX12_tries_136 (by decide) ?_
                exact ih71 (n71 - 1) (by   omega) zi67 _ _ _ ls (by omega) (by omega) (by  omega) (by   omega) hG71 hcg71_0 hcg71_1 TH hS (lv_sub hl [0, 1, 2, 3] rfl)
      exact hJ71 24 (1 : Int32) _ _ _ ls (by have : ((1 : Int32).toInt) = 1 := (by decide); omega) (by have : ((1 : Int32).toInt) = 1 := (by decide); omega) (by have : ((1 : Int32).toInt) = 1 := (by decide); omega) (by have : ((1 : Int32).toInt) = 1 := (by decide);  omega) tw_fr.rf hg0 hg1 TH hS (lv_sub hl [0, 1, 2, 3] rfl)
    · have hf68 : x2.toInt = fv0_50.toInt := by have z := (fa_eq _ _).mp hc1;  omega
      refine lv_aload_n hx hb dX12_tries_8 rfl (lv_at hl 0 rfl) ?_
      refine lv_iload_n hx hb dX12_tries_9 rfl (lv_at hl 1 rfl) ?_
      refine tw_Vc (o := a0) (ci := 12) (n := 1) (post := (fun v kq Lq Eq => (∃ x : Int32, v = some (.int x)) ∧ kp = kq ∧ L = Lq ∧ E = Eq)) (As := [.int x1]) (rest := []) ⟨hx, hb, hml, hown, hB⟩ (fun sz => tX12_costNow l D cs a0 x1 hm0 hk0 (by omega) (by omega) sz) cg_12_363_X12_costNow rfl rfl (by decide +kernel) ⟨(by first | exact Nat.le_of_ble_eq_true rfl | (dsimp only; omega) | omega), (by first | exact Nat.le_of_ble_eq_true rfl | (dsimp only; omega) | omega)⟩ hK hN TH hS hA rfl hm0 hk0 (by decide) rfl hl.1 rfl ((by first | exact Nat.le_of_ble_eq_true rfl | (dsimp only; omega) | omega)) dX12_tries_10 ⟨(by first | exact Nat.le_of_ble_eq_true rfl | (dsimp only; omega) | omega), (by first | exact Nat.le_of_ble_eq_true rfl | (dsimp only; omega) | omega)⟩ (fun v69 kp69 L69 E69 H locs hq69 hx69 TH hS => ?_)
      obtain ⟨⟨xc70, rfl⟩, rfl, rfl, rfl⟩ := hq69
      refine W.eq (g2 := F0 m 13 ls [.int xc70]) rfl ?_
      refine lv_istore_n (lv' := [(3, .int xc70), (0, .ref a0), (1, .int x1), (2, .int x2)]) hx hb dX12_tries_13 rfl hl (by decide) rfl (fun ls hl => ?_)
      refine lv_aload_n hx hb dX12_tries_14 rfl (lv_at hl 1 rfl) ?_
      refine tw_get (ci := 12) (C := RX12) (T := TX12) (N := 64) hx hb hB cx_inX12 hown hK TH hm0 hk0 rfl ⟨by decide, rfl⟩ 51 (by decide) cw_1244 (fun _ h9 => h9) dX12_tries_15 (fun hv => ?_)
      obtain ⟨xi71, hxi71, hxi71a, hxi71b⟩ : ∃ x : Int32, tw_fv E a0 51 = .int x ∧ (-2147483648) ≤ x.toInt ∧ x.toInt ≤ 2147483647 := hv
      rw [hxi71]
      refine lv_iconst (v := (-1)) hx hb dX12_tries_18 (by decide) ?_
      refine lv_icmp_eq (tgt := 31) hx hb dX12_tries_19 (by decide) (fun hc72 => ?_) (fun hc72 => ?_)
      · have hf73 : xi71.toInt = (-1) := by have z := (fa_eq _ _).mp hc72; have : (((-1) : Int32).toInt) = (-1) := (by decide); omega
        refine lv_aload_n hx hb dX12_tries_31 rfl (lv_at hl 1 rfl) ?_
        refine lv_iload_n hx hb dX12_tries_32 rfl (lv_at hl 0 rfl) ?_
        refine tw_put (ci := 12) (v := .int xc70) (ty := .int) (C := RX12) (T := TX12) (N := 64) hx hb hB cx_inX12 tyX12 tyX12_ok nmX12 hown hK TH hS hm0 hk0 rfl ⟨by decide, rfl⟩ 51 (by decide) cw_1244 (fun _ h9 => h9) rfl (by decide +kernel) rfl rfl ⟨_, rfl, (ia_lo _), (ia_hi _)⟩ dX12_tries_33 (fun H locs E74 TH hS hmf78 hp75 hp76 => ?_)
        have hst77 : tw_fr kp L [(12, 51)] [] E E74 := tw_fr.put tw_fr.rf (fun _ => hk0) (by decide) hp75 hp76 (by decide)
        have hF := hF.tr hst77 (fun _ h => ⟨h, rfl⟩) (by decide) (by decide)
        have hmf79 : tw_fv E74 a0 50 = .int fv0_50 := (hst77.1 a0 50 hm0 (by rw [hk0]; decide)).trans hfv0_50
        have hg0 : pt_ok E74 a0 := pt_ok_fr TH hst77 hm0 hk0 (by decide) (by decide) hg0
        have hcb0 : cb_ok E74 a0 (0) := fun j hj => absurd hj (by omega)
        refine lv_iconst (v := 0) hx hb dX12_tries_36 (by decide) ?_
        refine lv_istore (lv' := [(4, .int 0), (3, .int xc70), (0, .ref a0), (1, .int x1), (2, .int x2)]) hx hb dX12_tries_37 hl (by decide) rfl (fun ls hl => ?_)
        have hJ39 : ∀ (n39 : Nat) (y39_4 : Int32) (Eg39 : Nat → va_E) (H : Heap) (locs : List Loc) (ls : Array Slot), 0 ≤ y39_4.toInt → y39_4.toInt ≤ 6 → (fv0_50.toInt = fv0_50.toInt) → (y39_4.toInt ≤ fv0_50.toInt) → 6 - y39_4.toInt ≤ (n39 : Int) → tw_fr kp L [] [357] E74 Eg39 → pt_ok Eg39 a0 → cb_ok Eg39 a0 (y39_4.toInt) → tw_H D cs kp L Eg39 A H → va_S A s.heap H locs → lv_has ls 5 [(4, .int y39_4), (0, .ref a0)] → W p l e { frames := dd + 1 + 3, cells := 0, slots := 0, locals := 24 * (dd + 1) + 90 } s m [.ref a0, .int x1, .int x2].toArray below meth c H locs 0 0 (MQ below (tw_Q D cs kp0 L0 (fun v kq Lq Eq => v = none ∧ kp = kq ∧ L = Lq ∧ tw_fr kp L [(12, 51)] [355, 356, 357] E Eq ∧ bt_ok Eq a0 ∧ pt_ok Eq a0 ∧ bc_ok Eq a0) A) [.ref a0, .int x1, .int x2].toArray s 0 0 A) (F0 m 39 ls []) := by
          intro n39
          induction n39 using Nat.strongRecOn with
          | _ n39 ih39 =>
            intro y39_4 Eg39 H locs ls hy39_4a hy39_4b hin39_0 hin39_1 hmeas39 hG39 hcg39_0 hcg39_1 TH hS hl
            have hF := hF.tr hG39 (fun _ h => ⟨h, rfl⟩) (by decide) (by decide)
            have hmf80 : tw_fv Eg39 a0 50 = .int fv0_50 := (hG39.1 a0 50 hm0 (by rw [hk0]; decide)).trans hmf79
            have hmf81 : tw_fv Eg39 a0 51 = .int xc70 := (hG39.1 a0 51 hm0 (by rw [hk0]; decide)).trans hmf78
            refine lv_iload hx hb dX12_tries_39 (lv_at hl 0 rfl) ?_
            refine lv_aload_n hx hb dX12_tries_41 rfl (lv_at hl 1 rfl) ?_
            refine tw_get (ci := 12) (C := RX12) (T := TX12) (N := 64) hx hb hB cx_inX12 hown hK TH hm0 hk0 rfl ⟨by decide, rfl⟩ 50 (by decide) cw_1243 (fun _ h9 => h9) dX12_tries_42 (fun hv => ?_)
            rw [hmf80]
            refine lv_icmp_ge (tgt := 68) hx hb dX12_tries_45 (by decide) (fun hc82 => ?_) (fun hc82 => ?_)
            · have hf83 : fv0_50.toInt ≤ y39_4.toInt := by have z := (fa_le _ _).mp hc82;  omega
              have hbt68 : bt_ok Eg39 a0 := bt_of (k := fv0_50.toInt) (cb_ok_cast (by omega) hcg39_1) hcg39_0 (tw_fi_of hmf80) (by omega)
              have hbc68 : bc_ok Eg39 a0 := fun _ => hbt68
              exact tw_vret hx hb hr hlocks TH hS hex ⟨rfl, rfl, rfl, hF, hbt68, hcg39_0, hbc68⟩ ((by first | exact Nat.le_of_ble_eq_true rfl | (dsimp only; omega) | omega)) ((by first | exact Nat.le_of_ble_eq_true rfl | (dsimp only; omega) | omega)) dX12_tries_68
            · have hf84 : ¬ (fv0_50.toInt ≤ y39_4.toInt) := fun q => hc82 ((fa_le _ _).mpr (by  omega))
              refine lv_aload_n hx hb dX12_tries_48 rfl (lv_at hl 1 rfl) ?_
              refine tw_get (ci := 12) (C := RX12) (T := TX12) (N := 64) hx hb hB cx_inX12 hown hK TH hm0 hk0 rfl ⟨by decide, rfl⟩ 48 (by decide) cw_1241 (fun _ h9 => h9) dX12_tries_49 (fun hv => ?_)
              obtain ⟨xr85, hxr85, hmxr85, hkxr85⟩ : ∃ a : Nat, tw_fv Eg39 a0 48 = .ref a ∧ a ∈ L ∧ kp a = 357 := hv
              rw [hxr85]
              refine lv_iload hx hb dX12_tries_52 (lv_at hl 0 rfl) ?_
              refine lv_aload_n hx hb dX12_tries_54 rfl (lv_at hl 1 rfl) ?_
              refine tw_get (ci := 12) (C := RX12) (T := TX12) (N := 64) hx hb hB cx_inX12 hown hK TH hm0 hk0 rfl ⟨by decide, rfl⟩ 46 (by decide) cw_1239 (fun _ h9 => h9) dX12_tries_55 (fun hv => ?_)
              obtain ⟨xr86, hxr86, hmxr86, hkxr86⟩ : ∃ a : Nat, tw_fv Eg39 a0 46 = .ref a ∧ a ∈ L ∧ kp a = 355 := hv
              rw [hxr86]
              refine lv_iload hx hb dX12_tries_58 (lv_at hl 0 rfl) ?_
              refine tw_iald (k := 355) (t0 := 0) (n := 40) (lo := (-1)) (hi := 23) hx hb hK TH hmxr86 hkxr86 (by decide) rfl rfl (i := y39_4) (vp_in_iff.mpr ⟨by  omega, by  omega⟩) dX12_tries_60 (fun hxe87a hxe87b => ?_)
              obtain ⟨xe87, exe87⟩ : ∃ z : Int32, tw_iv Eg39 xr86 (Int32.toNatClampNeg y39_4) = z := ⟨_, rfl⟩
              rw [exe87] at hxe87a hxe87b ⊢
              refine tw_iast (k := 357) (n := 40) (lo := (-1)) (hi := 23) hx hb hK TH hS hmxr85 hkxr85 (by decide) rfl (i := y39_4) (x := xe87) (vp_in_iff.mpr ⟨by  omega, by  omega⟩) (by omega) (by omega) dX12_tries_61 (fun H locs E88 TH hS hp89 hp90 hp91 => ?_)
              have hst92 : tw_fr kp L [] [357] Eg39 E88 := tw_fr.ast tw_fr.rf (fun _ => hkxr85) hp89 hp90 (by decide)
              have hF := hF.tr hst92 (fun _ h => ⟨h, rfl⟩) (by decide) (by decide)
              have hG39 := hG39.tr hst92 (fun _ h => ⟨h, rfl⟩) (by decide) (by decide)
              have hmf93 : tw_fv E88 a0 50 = .int fv0_50 := (hst92.1 a0 50 hm0 (by rw [hk0]; decide)).trans hmf80
              have hmf94 : tw_fv E88 a0 51 = .int xc70 := (hst92.1 a0 51 hm0 (by rw [hk0]; decide)).trans hmf81
              have hmf95 : tw_fv E88 a0 48 = .ref xr85 := (hst92.1 a0 48 hm0 (by rw [hk0]; decide)).trans hxr85
              have hmf96 : tw_fv E88 a0 46 = .ref xr86 := (hst92.1 a0 46 hm0 (by rw [hk0]; decide)).trans hxr86
              have hcg39_0_o := hcg39_0
              have hcg39_1_o := hcg39_1
              have hcg39_0 : pt_ok E88 a0 := pt_ok_fr TH hst92 hm0 hk0 (by decide) (by decide) hcg39_0
              have hcg39_1 : cb_ok E88 a0 (y39_4.toInt + 1) := (by have rf_xe87 : tw_el Eg39 a0 46 (y39_4.toInt).toNat = xe87.toInt := (by rw [tw_el_of hxr86]; exact congrArg Int32.toInt exe87); exact cb_push hcg39_1_o (by omega) rfl rf_xe87 (tw_el_fr TH hst92 hm0 hk0 (by decide) (by decide) (k := 46) rfl (by decide) (by decide) (by decide)) (fun j => (by have w := tw_el_st hxr85 hp89 hp90 hp91 j; rw [w]; (by_cases e : j = (y39_4.toInt).toNat; (rw [if_pos ⟨rfl, e⟩, if_pos e]); (rw [if_neg (fun y => e y.2), if_neg e])))))
              obtain ⟨zi97, ezi97⟩ : ∃ z : Int32, z = y39_4 + Int32.ofInt 1 := ⟨_, rfl⟩
              have hzi97 : zi97.toInt = y39_4.toInt + 1 := by rw [ezi97]; have : ((Int32.ofInt 1).toInt) = 1 := (by decide);  exact (ia_add (by omega) (by omega)).trans (by omega)
              refine lv_iinc (v := zi97) (lv' := [(4, .int zi97), (0, .ref a0)]) hx hb dX12_tries_62 hl (k := 0) rfl ezi97.symm (by decide) rfl (fun ls hl => ?_)
              refine lv_goto (tgt := 39) hx hb dX12_tries_65 (by decide) ?_
              exact ih39 (n39 - 1) (by   omega) zi97 _ _ _ ls (by omega) (by omega) (by  omega) (by  omega) (by   omega) hG39 hcg39_0 (cb_ok_cast (by  omega) hcg39_1) TH hS (lv_sub hl [0, 1] rfl)
        exact hJ39 7 (0 : Int32) _ _ _ ls (by have : ((0 : Int32).toInt) = 0 := (by decide); omega) (by have : ((0 : Int32).toInt) = 0 := (by decide); omega) (by have : ((0 : Int32).toInt) = 0 := (by decide); omega) (by have : ((0 : Int32).toInt) = 0 := (by decide); omega) (by have : ((0 : Int32).toInt) = 0 := (by decide);  omega) tw_fr.rf hg0 (cb_ok_cast (by have : ((0 : Int32).toInt) = 0 := (by decide); omega) hcb0) TH hS (lv_sub hl [0, 2] rfl)
      · have hf98 : ¬ (xi71.toInt = (-1)) := fun q => hc72 ((fa_eq _ _).mpr (by have : (((-1) : Int32).toInt) = (-1) := (by decide); omega))
        refine lv_iload_n hx hb dX12_tries_22 rfl (lv_at hl 0 rfl) ?_
        refine lv_aload_n hx hb dX12_tries_23 rfl (lv_at hl 1 rfl) ?_
        refine tw_get (ci := 12) (C := RX12) (T := TX12) (N := 64) hx hb hB cx_inX12 hown hK TH hm0 hk0 rfl ⟨by decide, rfl⟩ 51 (by decide) cw_1244 (fun _ h9 => h9) dX12_tries_24 (fun hv => ?_)
        rw [hxi71]
        refine lv_icmp_lt (tgt := 31) hx hb dX12_tries_27 (by decide) (fun hc99 => ?_) (fun hc99 => ?_)
        · have hf100 : xc70.toInt < xi71.toInt := by have z := (fa_lt _ _).mp hc99;  omega
          refine lv_aload_n hx hb dX12_tries_31 rfl (lv_at hl 1 rfl) ?_
          refine lv_iload_n hx hb dX12_tries_32 rfl (lv_at hl 0 rfl) ?_
          refine tw_put (ci := 12) (v := .int xc70) (ty := .int) (C := RX12) (T := TX12) (N := 64) hx hb hB cx_inX12 tyX12 tyX12_ok nmX12 hown hK TH hS hm0 hk0 rfl ⟨by decide, rfl⟩ 51 (by decide) cw_1244 (fun _ h9 => h9) rfl (by decide +kernel) rfl rfl ⟨_, rfl, (ia_lo _), (ia_hi _)⟩ dX12_tries_33 (fun H locs E101 TH hS hmf105 hp102 hp103 => ?_)
          have hst104 : tw_fr kp L [(12, 51)] [] E E101 := tw_fr.put tw_fr.rf (fun _ => hk0) (by decide) hp102 hp103 (by decide)
          have hF := hF.tr hst104 (fun _ h => ⟨h, rfl⟩) (by decide) (by decide)
          have hmf106 : tw_fv E101 a0 50 = .int fv0_50 := (hst104.1 a0 50 hm0 (by rw [hk0]; decide)).trans hfv0_50
          have hg0 : pt_ok E101 a0 := pt_ok_fr TH hst104 hm0 hk0 (by decide) (by decide) hg0
          have hcb0 : cb_ok E101 a0 (0) := fun j hj => absurd hj (by omega)
          refine lv_iconst (v := 0) hx hb dX12_tries_36 (by decide) ?_
          refine lv_istore (lv' := [(4, .int 0), (3, .int xc70), (0, .ref a0), (1, .int x1), (2, .int x2)]) hx hb dX12_tries_37 hl (by decide) rfl (fun ls hl => ?_)
          have hJ39 : ∀ (n39 : Nat) (y39_4 : Int32) (Eg39 : Nat → va_E) (H : Heap) (locs : List Loc) (ls : Array Slot), 0 ≤ y39_4.toInt → y39_4.toInt ≤ 6 → (fv0_50.toInt = fv0_50.toInt) → (y39_4.toInt ≤ fv0_50.toInt) → 6 - y39_4.toInt ≤ (n39 : Int) → tw_fr kp L [] [357] E101 Eg39 → pt_ok Eg39 a0 → cb_ok Eg39 a0 (y39_4.toInt) → tw_H D cs kp L Eg39 A H → va_S A s.heap H locs → lv_has ls 5 [(4, .int y39_4), (0, .ref a0)] → W p l e { frames := dd + 1 + 3, cells := 0, slots := 0, locals := 24 * (dd + 1) + 90 } s m [.ref a0, .int x1, .int x2].toArray below meth c H locs 0 0 (MQ below (tw_Q D cs kp0 L0 (fun v kq Lq Eq => v = none ∧ kp = kq ∧ L = Lq ∧ tw_fr kp L [(12, 51)] [355, 356, 357] E Eq ∧ bt_ok Eq a0 ∧ pt_ok Eq a0 ∧ bc_ok Eq a0) A) [.ref a0, .int x1, .int x2].toArray s 0 0 A) (F0 m 39 ls []) := by
            intro n39
            induction n39 using Nat.strongRecOn with
            | _ n39 ih39 =>
              intro y39_4 Eg39 H locs ls hy39_4a hy39_4b hin39_0 hin39_1 hmeas39 hG39 hcg39_0 hcg39_1 TH hS hl
              have hF := hF.tr hG39 (fun _ h => ⟨h, rfl⟩) (by decide) (by decide)
              have hmf107 : tw_fv Eg39 a0 50 = .int fv0_50 := (hG39.1 a0 50 hm0 (by rw [hk0]; decide)).trans hmf106
              have hmf108 : tw_fv Eg39 a0 51 = .int xc70 := (hG39.1 a0 51 hm0 (by rw [hk0]; decide)).trans hmf105
              refine lv_iload hx hb dX12_tries_39 (lv_at hl 0 rfl) ?_
              refine lv_aload_n hx hb dX12_tries_41 rfl (lv_at hl 1 rfl) ?_
              refine tw_get (ci := 12) (C := RX12) (T := TX12) (N := 64) hx hb hB cx_inX12 hown hK TH hm0 hk0 rfl ⟨by decide, rfl⟩ 50 (by decide) cw_1243 (fun _ h9 => h9) dX12_tries_42 (fun hv => ?_)
              rw [hmf107]
              refine lv_icmp_ge (tgt := 68) hx hb dX12_tries_45 (by decide) (fun hc109 => ?_) (fun hc109 => ?_)
              · have hf110 : fv0_50.toInt ≤ y39_4.toInt := by have z := (fa_le _ _).mp hc109;  omega
                have hbt68 : bt_ok Eg39 a0 := bt_of (k := fv0_50.toInt) (cb_ok_cast (by omega) hcg39_1) hcg39_0 (tw_fi_of hmf107) (by omega)
                have hbc68 : bc_ok Eg39 a0 := fun _ => hbt68
                exact tw_vret hx hb hr hlocks TH hS hex ⟨rfl, rfl, rfl, hF, hbt68, hcg39_0, hbc68⟩ ((by first | exact Nat.le_of_ble_eq_true rfl | (dsimp only; omega) | omega)) ((by first | exact Nat.le_of_ble_eq_true rfl | (dsimp only; omega) | omega)) dX12_tries_68
              · have hf111 : ¬ (fv0_50.toInt ≤ y39_4.toInt) := fun q => hc109 ((fa_le _ _).mpr (by  omega))
                refine lv_aload_n hx hb dX12_tries_48 rfl (lv_at hl 1 rfl) ?_
                refine tw_get (ci := 12) (C := RX12) (T := TX12) (N := 64) hx hb hB cx_inX12 hown hK TH hm0 hk0 rfl ⟨by decide, rfl⟩ 48 (by decide) cw_1241 (fun _ h9 => h9) dX12_tries_49 (fun hv => ?_)
                obtain ⟨xr112, hxr112, hmxr112, hkxr112⟩ : ∃ a : Nat, tw_fv Eg39 a0 48 = .ref a ∧ a ∈ L ∧ kp a = 357 := hv
                rw [hxr112]
                refine lv_iload hx hb dX12_tries_52 (lv_at hl 0 rfl) ?_
                refine lv_aload_n hx hb dX12_tries_54 rfl (lv_at hl 1 rfl) ?_
                refine tw_get (ci := 12) (C := RX12) (T := TX12) (N := 64) hx hb hB cx_inX12 hown hK TH hm0 hk0 rfl ⟨by decide, rfl⟩ 46 (by decide) cw_1239 (fun _ h9 => h9) dX12_tries_55 (fun hv => ?_)
                obtain ⟨xr113, hxr113, hmxr113, hkxr113⟩ : ∃ a : Nat, tw_fv Eg39 a0 46 = .ref a ∧ a ∈ L ∧ kp a = 355 := hv
                rw [hxr113]
                refine lv_iload hx hb dX12_tries_58 (lv_at hl 0 rfl) ?_
                refine tw_iald (k := 355) (t0 := 0) (n := 40) (lo := (-1)) (hi := 23) hx hb hK TH hmxr113 hkxr113 (by decide) rfl rfl (i := y39_4) (vp_in_iff.mpr ⟨by  omega, by  omega⟩) dX12_tries_60 (fun hxe114a hxe114b => ?_)
                obtain ⟨xe114, exe114⟩ : ∃ z : Int32, tw_iv Eg39 xr113 (Int32.toNatClampNeg y39_4) = z := ⟨_, rfl⟩
                rw [exe114] at hxe114a hxe114b ⊢
                refine tw_iast (k := 357) (n := 40) (lo := (-1)) (hi := 23) hx hb hK TH hS hmxr112 hkxr112 (by decide) rfl (i := y39_4) (x := xe114) (vp_in_iff.mpr ⟨by  omega, by  omega⟩) (by omega) (by omega) dX12_tries_61 (fun H locs E115 TH hS hp116 hp117 hp118 => ?_)
                have hst119 : tw_fr kp L [] [357] Eg39 E115 := tw_fr.ast tw_fr.rf (fun _ => hkxr112) hp116 hp117 (by decide)
                have hF := hF.tr hst119 (fun _ h => ⟨h, rfl⟩) (by decide) (by decide)
                have hG39 := hG39.tr hst119 (fun _ h => ⟨h, rfl⟩) (by decide) (by decide)
                have hmf120 : tw_fv E115 a0 50 = .int fv0_50 := (hst119.1 a0 50 hm0 (by rw [hk0]; decide)).trans hmf107
                have hmf121 : tw_fv E115 a0 51 = .int xc70 := (hst119.1 a0 51 hm0 (by rw [hk0]; decide)).trans hmf108
                have hmf122 : tw_fv E115 a0 48 = .ref xr112 := (hst119.1 a0 48 hm0 (by rw [hk0]; decide)).trans hxr112
                have hmf123 : tw_fv E115 a0 46 = .ref xr113 := (hst119.1 a0 46 hm0 (by rw [hk0]; decide)).trans hxr113
                have hcg39_0_o := hcg39_0
                have hcg39_1_o := hcg39_1
                have hcg39_0 : pt_ok E115 a0 := pt_ok_fr TH hst119 hm0 hk0 (by decide) (by decide) hcg39_0
                have hcg39_1 : cb_ok E115 a0 (y39_4.toInt + 1) := (by have rf_xe114 : tw_el Eg39 a0 46 (y39_4.toInt).toNat = xe114.toInt := (by rw [tw_el_of hxr113]; exact congrArg Int32.toInt exe114); exact cb_push hcg39_1_o (by omega) rfl rf_xe114 (tw_el_fr TH hst119 hm0 hk0 (by decide) (by decide) (k := 46) rfl (by decide) (by decide) (by decide)) (fun j => (by have w := tw_el_st hxr112 hp116 hp117 hp118 j; rw [w]; (by_cases e : j = (y39_4.toInt).toNat; (rw [if_pos ⟨rfl, e⟩, if_pos e]); (rw [if_neg (fun y => e y.2), if_neg e])))))
                obtain ⟨zi124, ezi124⟩ : ∃ z : Int32, z = y39_4 + Int32.ofInt 1 := ⟨_, rfl⟩
                have hzi124 : zi124.toInt = y39_4.toInt + 1 := by rw [ezi124]; have : ((Int32.ofInt 1).toInt) = 1 := (by decide);  exact (ia_add (by omega) (by omega)).trans (by omega)
                refine lv_iinc (v := zi124) (lv' := [(4, .int zi124), (0, .ref a0)]) hx hb dX12_tries_62 hl (k := 0) rfl ezi124.symm (by decide) rfl (fun ls hl => ?_)
                refine lv_goto (tgt := 39) hx hb dX12_tries_65 (by decide) ?_
                exact ih39 (n39 - 1) (by   omega) zi124 _ _ _ ls (by omega) (by omega) (by  omega) (by  omega) (by   omega) hG39 hcg39_0 (cb_ok_cast (by  omega) hcg39_1) TH hS (lv_sub hl [0, 1] rfl)
          exact hJ39 7 (0 : Int32) _ _ _ ls (by have : ((0 : Int32).toInt) = 0 := (by decide); omega) (by have : ((0 : Int32).toInt) = 0 := (by decide); omega) (by have : ((0 : Int32).toInt) = 0 := (by decide); omega) (by have : ((0 : Int32).toInt) = 0 := (by decide); omega) (by have : ((0 : Int32).toInt) = 0 := (by decide);  omega) tw_fr.rf hg0 (cb_ok_cast (by have : ((0 : Int32).toInt) = 0 := (by decide); omega) hcb0) TH hS (lv_sub hl [0, 2] rfl)
        · have hf125 : ¬ (xc70.toInt < xi71.toInt) := fun q => hc99 ((fa_lt _ _).mpr (by  omega))
          have hbt30 : bt_ok E a0 := hg1 (by rw [tw_fi_of hxi71]; omega)
          exact tw_vret hx hb hr hlocks TH hS hex ⟨rfl, rfl, rfl, hF, hbt30, hg0, hg1⟩ ((by first | exact Nat.le_of_ble_eq_true rfl | (dsimp only; omega) | omega)) ((by first | exact Nat.le_of_ble_eq_true rfl | (dsimp only; omega) | omega)) dX12_tries_30
set_option maxHeartbeats 4000000 in
set_option maxRecDepth 100000 in
theorem tX12_isExact_vP (l : Launch) (D : va_G) (cs : Nat → ClassId) {kp : Nat → Nat} {L : List Nat} {E : Nat → va_E} (a0 : Nat) (fv0_50 : Int32) (fv0_28 : Int32) (hm0 : a0 ∈ L) (hk0 : kp a0 = 12) (hfv0_50 : tw_fv E a0 50 = .int fv0_50) (hfv0_28 : tw_fv E a0 28 = .int fv0_28) (sz : Nat) : Met l yX12_isExact (.code yX12_isExact cX12_isExact 1 (some .boolean) :: cx_big) { frames := 0, cells := 0, slots := 0, locals := 0 } (tw_P D cs kp L E [.ref a0] sz) (tw_Q D cs kp L (fun v kq Lq Eq => (∃ x : Int32, v = some (.int x) ∧ 0 ≤ x.toInt ∧ x.toInt ≤ 1 ∧ (x.toInt ≠ 0 → fv0_50.toInt ≤ 6 ∧ fv0_28.toInt ≤ 6)) ∧ kp = kq ∧ L = Lq ∧ E = Eq) (va_A (va_pl L E) sz)) 0 0 (va_A (va_pl L E) sz) := by
  refine tw_ofW (by decide) (Nat.le_of_ble_eq_true rfl) ?_
  intro p e s m below meth c A ls hx hb hr hml hB hown hlocks hK hN hA TH hS hl
  have hown : s.vm.findClass "TreeMergeModel" = some m.cls := hown
  have hl : lv_has ls 1 [(0, .ref a0)] := hl
  obtain ⟨kp0, ekp⟩ : ∃ z, z = kp := ⟨_, rfl⟩
  obtain ⟨L0, eL⟩ : ∃ z, z = L := ⟨_, rfl⟩
  rw [show tw_Q D cs kp L = tw_Q D cs kp0 L0 by rw [ekp, eL]]
  have hex : ∀ a : Nat, a ∈ L0 → a ∈ L ∧ kp a = kp0 a := fun a h => ⟨by rw [← eL]; exact h, by rw [ekp]⟩
  obtain ⟨qfv0_50, hqfv0_50, hqfv0_50a, hqfv0_50b⟩ := tw_rd TH hm0 hk0 (by decide) (by decide) (k := 50) rfl
  have eqfv0_50 : qfv0_50 = fv0_50 := by have q := hqfv0_50.symm.trans hfv0_50; injection q
  rw [eqfv0_50] at hqfv0_50a hqfv0_50b
  obtain ⟨qfv0_28, hqfv0_28, hqfv0_28a, hqfv0_28b⟩ := tw_rd TH hm0 hk0 (by decide) (by decide) (k := 28) rfl
  have eqfv0_28 : qfv0_28 = fv0_28 := by have q := hqfv0_28.symm.trans hfv0_28; injection q
  rw [eqfv0_28] at hqfv0_28a hqfv0_28b
  refine lv_aload_n hx hb dX12_isExact_0 rfl (lv_at hl 0 rfl) ?_
  refine tw_get (ci := 12) (C := RX12) (T := TX12) (N := 64) hx hb hB cx_inX12 hown hK TH hm0 hk0 rfl ⟨by decide, rfl⟩ 50 (by decide) cw_1243 (fun _ h9 => h9) dX12_isExact_1 (fun hv => ?_)
  rw [hfv0_50]
  refine lv_bipush (v := 6) hx hb dX12_isExact_4 (by decide) ?_
  refine lv_icmp_gt (tgt := 22) hx hb dX12_isExact_6 (by decide) (fun hc1 => ?_) (fun hc1 => ?_)
  · have hf2 : 6 < fv0_50.toInt := by have z := (fa_lt _ _).mp hc1; have : ((6 : Int32).toInt) = 6 := (by decide); omega
    refine lv_iconst (v := 0) hx hb dX12_isExact_22 (by decide) ?_
    exact tw_zret hx hb hr hlocks (by decide) TH hS hex ⟨⟨_, rfl, (show 0 ≤ Int32.toInt 0 from by have : ((0 : Int32).toInt) = 0 := (by decide); omega), (show Int32.toInt 0 ≤ 1 from by have : ((0 : Int32).toInt) = 0 := (by decide); omega), (by have : ((0 : Int32).toInt) = 0 := (by decide); omega)⟩, rfl, rfl, rfl⟩ (Nat.le_of_ble_eq_true rfl) (Nat.le_of_ble_eq_true rfl) dX12_isExact_23
  · have hf3 : ¬ (6 < fv0_50.toInt) := fun q => hc1 ((fa_lt _ _).mpr (by have : ((6 : Int32).toInt) = 6 := (by decide); omega))
    refine lv_aload_n hx hb dX12_isExact_9 rfl (lv_at hl 0 rfl) ?_
    refine tw_get (ci := 12) (C := RX12) (T := TX12) (N := 64) hx hb hB cx_inX12 hown hK TH hm0 hk0 rfl ⟨by decide, rfl⟩ 28 (by decide) cw_1221 (fun _ h9 => h9) dX12_isExact_10 (fun hv => ?_)
    rw [hfv0_28]
    refine lv_bipush (v := 6) hx hb dX12_isExact_13 (by decide) ?_
    refine lv_icmp_gt (tgt := 22) hx hb dX12_isExact_15 (by decide) (fun hc4 => ?_) (fun hc4 => ?_)
    · have hf5 : 6 < fv0_28.toInt := by have z := (fa_lt _ _).mp hc4; have : ((6 : Int32).toInt) = 6 := (by decide); omega
      refine lv_iconst (v := 0) hx hb dX12_isExact_22 (by decide) ?_
      exact tw_zret hx hb hr hlocks (by decide) TH hS hex ⟨⟨_, rfl, (show 0 ≤ Int32.toInt 0 from by have : ((0 : Int32).toInt) = 0 := (by decide); omega), (show Int32.toInt 0 ≤ 1 from by have : ((0 : Int32).toInt) = 0 := (by decide); omega), (by have : ((0 : Int32).toInt) = 0 := (by decide); omega)⟩, rfl, rfl, rfl⟩ (Nat.le_of_ble_eq_true rfl) (Nat.le_of_ble_eq_true rfl) dX12_isExact_23
    · have hf6 : ¬ (6 < fv0_28.toInt) := fun q => hc4 ((fa_lt _ _).mpr (by have : ((6 : Int32).toInt) = 6 := (by decide); omega))
      refine lv_iconst (v := 1) hx hb dX12_isExact_18 (by decide) ?_
      refine lv_goto (tgt := 23) hx hb dX12_isExact_19 (by decide) ?_
      exact tw_zret hx hb hr hlocks (by decide) TH hS hex ⟨⟨_, rfl, (show 0 ≤ Int32.toInt 1 from by have : ((1 : Int32).toInt) = 1 := (by decide); omega), (show Int32.toInt 1 ≤ 1 from by have : ((1 : Int32).toInt) = 1 := (by decide); omega), (by have : ((1 : Int32).toInt) = 1 := (by decide); omega)⟩, rfl, rfl, rfl⟩ (Nat.le_of_ble_eq_true rfl) (Nat.le_of_ble_eq_true rfl) dX12_isExact_23
set_option maxHeartbeats 4000000 in
set_option maxRecDepth 100000 in
theorem tX12_matches (l : Launch) (D : va_G) (cs : Nat → ClassId) {kp : Nat → Nat} {L : List Nat} {E : Nat → va_E} (a0 : Nat) (x1 : Int32) (hm0 : a0 ∈ L) (hk0 : kp a0 = 12) (hp1a : 0 ≤ x1.toInt) (hp1b : x1.toInt ≤ 11) (hg0 : row_ok E a0 (x1.toInt)) (hg1 : tt_ok E a0) (sz : Nat) : Met l yX12_matches (.code yX12_matches cX12_matches 3 none :: cx_big) { frames := 45, cells := 0, slots := 0, locals := 1142 } (tw_P D cs kp L E [.ref a0, .int x1] sz) (tw_Q D cs kp L (fun v kq Lq Eq => v = none ∧ kp = kq ∧ L = Lq ∧ tw_fr kp L [(12, 50), (12, 51)] [354, 355, 356, 357, 358] E Eq ∧ (∃ z0 : Int32, tw_fv Eq a0 50 = .int z0 ∧ (z0.toInt ≤ 40)) ∧ ls_ok Eq a0 (x1.toInt) ∧ pi_ok Eq a0) (va_A (va_pl L E) sz)) 0 0 (va_A (va_pl L E) sz) := by
  refine tw_ofW (by decide) (Nat.le_of_ble_eq_true rfl) ?_
  intro p e s m below meth c A ls hx hb hr hml hB hown hlocks hK hN hA TH hS hl
  have hown : s.vm.findClass "TreeMergeModel" = some m.cls := hown
  have hl : lv_has ls 3 [(0, .ref a0), (1, .int x1)] := hl
  obtain ⟨kp0, ekp⟩ : ∃ z, z = kp := ⟨_, rfl⟩
  obtain ⟨L0, eL⟩ : ∃ z, z = L := ⟨_, rfl⟩
  rw [show tw_Q D cs kp L = tw_Q D cs kp0 L0 by rw [ekp, eL]]
  have hex : ∀ a : Nat, a ∈ L0 → a ∈ L ∧ kp a = kp0 a := fun a h => ⟨by rw [← eL]; exact h, by rw [ekp]⟩
  have hF : tw_fr kp L [(12, 50), (12, 51)] [354, 355, 356, 357, 358] E E := tw_fr.rf
  refine lv_aload_n hx hb dX12_matches_0 rfl (lv_at hl 0 rfl) ?_
  refine lv_iload_n hx hb dX12_matches_1 rfl (lv_at hl 1 rfl) ?_
  refine tw_Vc (o := a0) (ci := 12) (n := 1) (post := (fun v kq Lq Eq => v = none ∧ kp = kq ∧ L = Lq ∧ tw_fr kp L [(12, 50)] [354, 358] E Eq ∧ (ls_ok Eq a0 x1.toInt) ∧ (∃ z0 : Int32, tw_fv Eq a0 50 = .int z0 ∧ (z0.toInt ≤ 40)))) (As := [.int x1]) (rest := []) ⟨hx, hb, hml, hown, hB⟩ (fun sz => tX12_lines l D cs a0 x1 hm0 hk0 (by omega) (by omega) hg0 sz) cg_12_387_X12_lines rfl rfl (by decide +kernel) ⟨Nat.le_of_ble_eq_true rfl, Nat.le_of_ble_eq_true rfl⟩ hK hN TH hS hA rfl hm0 hk0 (by decide) rfl hl.1 rfl (Nat.le_of_ble_eq_true rfl) dX12_matches_2 ⟨Nat.le_of_ble_eq_true rfl, Nat.le_of_ble_eq_true rfl⟩ (fun v1 kp1 L1 E1 H locs hq1 hx1 TH hS => ?_)
  obtain ⟨rfl, rfl, rfl, hst1, hpoxc2_0, ⟨zfxc2_0_0, hzfxc2_0_0, hzpxc2_0⟩⟩ := hq1
  have hF := hF.tr hst1 (fun _ h => ⟨h, rfl⟩) (by decide) (by decide)
  have hg0 : row_ok E1 a0 (x1.toInt) := row_ok_fr TH hst1 hm0 hk0 (by decide) (by decide) (by omega) hg0
  have hg1 : tt_ok E1 a0 := tt_ok_fr TH hst1 hm0 hk0 (by decide) (by decide) hg1
  obtain ⟨qzfxc2_0_0, hqzfxc2_0_0, hqzfxc2_0_0a, hqzfxc2_0_0b⟩ := tw_rd TH hm0 hk0 (by decide) (by decide) (k := 50) rfl
  have eqzfxc2_0_0 : qzfxc2_0_0 = zfxc2_0_0 := by have q := hqzfxc2_0_0.symm.trans hzfxc2_0_0; injection q
  rw [eqzfxc2_0_0] at hqzfxc2_0_0a hqzfxc2_0_0b
  refine W.eq (g2 := F0 m 5 ls []) rfl ?_
  have hls5 := hpoxc2_0
  have hn46 : n46_ok E1 a0 (0) := fun j hj => absurd hj (by omega)
  have hsp := ls_pos hls5
  rw [tw_fi_of hzfxc2_0_0] at hsp
  refine lv_iconst (v := 0) hx hb dX12_matches_5 (by decide) ?_
  refine lv_istore_n (lv' := [(2, .int 0), (0, .ref a0), (1, .int x1)]) hx hb dX12_matches_6 rfl hl (by decide) rfl (fun ls hl => ?_)
  have hJ7 : ∀ (n7 : Nat) (y7_2 : Int32) (Eg7 : Nat → va_E) (H : Heap) (locs : List Loc) (ls : Array Slot), 0 ≤ y7_2.toInt → y7_2.toInt ≤ 40 → (y7_2.toInt ≤ zfxc2_0_0.toInt) → (1 ≤ zfxc2_0_0.toInt) → 40 - y7_2.toInt ≤ (n7 : Int) → tw_fr kp L [] [355] E1 Eg7 → row_ok Eg7 a0 (x1.toInt) → tt_ok Eg7 a0 → ls_ok Eg7 a0 (x1.toInt) → n46_ok Eg7 a0 (y7_2.toInt) → tw_H D cs kp L Eg7 A H → va_S A s.heap H locs → lv_has ls 3 [(2, .int y7_2), (0, .ref a0), (1, .int x1)] → W p l e { frames := 45, cells := 0, slots := 0, locals := 1142 } s m [.ref a0, .int x1].toArray below meth c H locs 0 0 (MQ below (tw_Q D cs kp0 L0 (fun v kq Lq Eq => v = none ∧ kp = kq ∧ L = Lq ∧ tw_fr kp L [(12, 50), (12, 51)] [354, 355, 356, 357, 358] E Eq ∧ (∃ z0 : Int32, tw_fv Eq a0 50 = .int z0 ∧ (z0.toInt ≤ 40)) ∧ ls_ok Eq a0 (x1.toInt) ∧ pi_ok Eq a0) A) [.ref a0, .int x1].toArray s 0 0 A) (F0 m 7 ls []) := by
    intro n7
    induction n7 using Nat.strongRecOn with
    | _ n7 ih7 =>
      intro y7_2 Eg7 H locs ls hy7_2a hy7_2b hin7_0 hin7_1 hmeas7 hG7 hcg7_0 hcg7_1 hcg7_2 hcg7_3 TH hS hl
      have hF := hF.tr hG7 (fun _ h => ⟨h, rfl⟩) (by decide) (by decide)
      have hmf3 : tw_fv Eg7 a0 50 = .int zfxc2_0_0 := (hG7.1 a0 50 hm0 (by rw [hk0]; decide)).trans hzfxc2_0_0
      refine lv_iload_n hx hb dX12_matches_7 rfl (lv_at hl 0 rfl) ?_
      refine lv_aload_n hx hb dX12_matches_8 rfl (lv_at hl 1 rfl) ?_
      refine tw_get (ci := 12) (C := RX12) (T := TX12) (N := 64) hx hb hB cx_inX12 hown hK TH hm0 hk0 rfl ⟨by decide, rfl⟩ 50 (by decide) cw_1243 (fun _ h9 => h9) dX12_matches_9 (fun hv => ?_)
      rw [hmf3]
      refine lv_icmp_ge (tgt := 28) hx hb dX12_matches_12 (by decide) (fun hc4 => ?_) (fun hc4 => ?_)
      · have hf5 : zfxc2_0_0.toInt ≤ y7_2.toInt := by have z := (fa_le _ _).mp hc4;  omega
        have hn47 : n47_ok Eg7 a0 (0) := fun j hj => absurd hj (by omega)
        refine lv_iconst (v := 0) hx hb dX12_matches_28 (by decide) ?_
        refine lv_istore_n (lv' := [(2, .int 0), (0, .ref a0), (1, .int x1)]) hx hb dX12_matches_29 rfl hl (by decide) rfl (fun ls hl => ?_)
        obtain ⟨xi6, hxi6, hxi6a, hxi6b⟩ := tw_rd TH hm0 hk0 (by decide) (by decide) (k := 28) rfl
        have hJ30 : ∀ (n30 : Nat) (y30_2 : Int32) (Eg30 : Nat → va_E) (H : Heap) (locs : List Loc) (ls : Array Slot), 0 ≤ y30_2.toInt → y30_2.toInt ≤ 24 → (y30_2.toInt ≤ xi6.toInt) → (1 ≤ zfxc2_0_0.toInt) → 24 - y30_2.toInt ≤ (n30 : Int) → tw_fr kp L [] [356] Eg7 Eg30 → row_ok Eg30 a0 (x1.toInt) → tt_ok Eg30 a0 → ls_ok Eg30 a0 (x1.toInt) → n46_ok Eg30 a0 (zfxc2_0_0.toInt) → n47_ok Eg30 a0 (y30_2.toInt) → tw_H D cs kp L Eg30 A H → va_S A s.heap H locs → lv_has ls 3 [(2, .int y30_2), (0, .ref a0), (1, .int x1)] → W p l e { frames := 45, cells := 0, slots := 0, locals := 1142 } s m [.ref a0, .int x1].toArray below meth c H locs 0 0 (MQ below (tw_Q D cs kp0 L0 (fun v kq Lq Eq => v = none ∧ kp = kq ∧ L = Lq ∧ tw_fr kp L [(12, 50), (12, 51)] [354, 355, 356, 357, 358] E Eq ∧ (∃ z0 : Int32, tw_fv Eq a0 50 = .int z0 ∧ (z0.toInt ≤ 40)) ∧ ls_ok Eq a0 (x1.toInt) ∧ pi_ok Eq a0) A) [.ref a0, .int x1].toArray s 0 0 A) (F0 m 30 ls []) := by
          intro n30
          induction n30 using Nat.strongRecOn with
          | _ n30 ih30 =>
            intro y30_2 Eg30 H locs ls hy30_2a hy30_2b hin30_0 hin30_1 hmeas30 hG30 hcg30_0 hcg30_1 hcg30_2 hcg30_3 hcg30_4 TH hS hl
            have hF := hF.tr hG30 (fun _ h => ⟨h, rfl⟩) (by decide) (by decide)
            have hmf7 : tw_fv Eg30 a0 50 = .int zfxc2_0_0 := (hG30.1 a0 50 hm0 (by rw [hk0]; decide)).trans hmf3
            have hmf8 : tw_fv Eg30 a0 28 = .int xi6 := (hG30.1 a0 28 hm0 (by rw [hk0]; decide)).trans hxi6
            refine lv_iload_n hx hb dX12_matches_30 rfl (lv_at hl 0 rfl) ?_
            refine lv_aload_n hx hb dX12_matches_31 rfl (lv_at hl 1 rfl) ?_
            refine tw_get (ci := 12) (C := RX12) (T := TX12) (N := 64) hx hb hB cx_inX12 hown hK TH hm0 hk0 rfl ⟨by decide, rfl⟩ 28 (by decide) cw_1221 (fun _ h9 => h9) dX12_matches_32 (fun hv => ?_)
            rw [hmf8]
            refine lv_icmp_ge (tgt := 51) hx hb dX12_matches_35 (by decide) (fun hc9 => ?_) (fun hc9 => ?_)
            · have hf10 : xi6.toInt ≤ y30_2.toInt := by have z := (fa_le _ _).mp hc9;  omega
              refine lv_aload_n hx hb dX12_matches_51 rfl (lv_at hl 1 rfl) ?_
              refine lv_iconst (v := 0) hx hb dX12_matches_52 (by decide) ?_
              refine lv_iconst (v := 0) hx hb dX12_matches_53 (by decide) ?_
              refine tw_Vc (o := a0) (ci := 12) (n := 2) (post := (fun v kq Lq Eq => v = none ∧ kp = kq ∧ L = Lq ∧ tw_fr kp L [] [355, 356] Eg30 Eq ∧ (∀ j : Nat, tw_el Eq a0 46 j = if j = ((0 : Int32).toInt).toNat then (0 : Int32).toInt else tw_el Eg30 a0 46 j) ∧ (∀ j : Nat, tw_el Eq a0 47 j = if j = ((0 : Int32).toInt).toNat then (0 : Int32).toInt else tw_el Eg30 a0 47 j))) (As := [.int 0, .int 0]) (rest := []) ⟨hx, hb, hml, hown, hB⟩ (fun sz => tX12_pairs_vF l D cs a0 (0 : Int32) (0 : Int32) hm0 hk0 (by have : ((0 : Int32).toInt) = 0 := (by decide); omega) (by have : ((0 : Int32).toInt) = 0 := (by decide); omega) (by have : ((0 : Int32).toInt) = 0 := (by decide); omega) (by have : ((0 : Int32).toInt) = 0 := (by decide); omega) sz) cg_12_369_X12_pairs rfl rfl (by decide +kernel) ⟨Nat.le_of_ble_eq_true rfl, Nat.le_of_ble_eq_true rfl⟩ hK hN TH hS hA rfl hm0 hk0 (by decide) rfl hl.1 rfl (Nat.le_of_ble_eq_true rfl) dX12_matches_54 ⟨Nat.le_of_ble_eq_true rfl, Nat.le_of_ble_eq_true rfl⟩ (fun v11 kp11 L11 E11 H locs hq11 hx11 TH hS => ?_)
              obtain ⟨rfl, rfl, rfl, hst11, hpoxc12_0, hpoxc12_1⟩ := hq11
              have hF := hF.tr hst11 (fun _ h => ⟨h, rfl⟩) (by decide) (by decide)
              have hmf13 : tw_fv E11 a0 50 = .int zfxc2_0_0 := (hst11.1 a0 50 hm0 (by rw [hk0]; decide)).trans hmf7
              have hmf14 : tw_fv E11 a0 28 = .int xi6 := (hst11.1 a0 28 hm0 (by rw [hk0]; decide)).trans hmf8
              have hcg30_0 : row_ok E11 a0 (x1.toInt) := row_ok_fr TH hst11 hm0 hk0 (by decide) (by decide) (by omega) hcg30_0
              have hcg30_1 : tt_ok E11 a0 := tt_ok_fr TH hst11 hm0 hk0 (by decide) (by decide) hcg30_1
              have hcg30_2 : ls_ok E11 a0 (x1.toInt) := ls_ok_fr TH hst11 hm0 hk0 (by decide) (by decide) (by omega) hcg30_2
              have hgn15 : pi_ok E11 a0 := (pp_start (E := Eg30) (by rw [tw_fi_of hmf7]; exact n46_ok_cast (by omega) hcg30_3) (by rw [tw_fi_of hmf8]; exact n47_ok_cast (by omega) hcg30_4) (fun j => (hpoxc12_0 j)) (fun j => (hpoxc12_1 j)) (tw_fi_fr hst11 hm0 hk0 (by decide)) (tw_fi_fr hst11 hm0 hk0 (by decide)) (by rw [tw_fi_of hmf7]; omega)).1
              have hgn16 : pt_ok E11 a0 := (pp_start (E := Eg30) (by rw [tw_fi_of hmf7]; exact n46_ok_cast (by omega) hcg30_3) (by rw [tw_fi_of hmf8]; exact n47_ok_cast (by omega) hcg30_4) (fun j => (hpoxc12_0 j)) (fun j => (hpoxc12_1 j)) (tw_fi_fr hst11 hm0 hk0 (by decide)) (tw_fi_fr hst11 hm0 hk0 (by decide)) (by rw [tw_fi_of hmf7]; omega)).2
              refine W.eq (g2 := F0 m 57 ls []) rfl ?_
              refine lv_aload_n hx hb dX12_matches_57 rfl (lv_at hl 1 rfl) ?_
              refine tw_Vc (o := a0) (ci := 12) (n := 0) (post := (fun v kq Lq Eq => (∃ x : Int32, v = some (.int x) ∧ 0 ≤ x.toInt ∧ x.toInt ≤ 1 ∧ (x.toInt ≠ 0 → zfxc2_0_0.toInt ≤ 6 ∧ xi6.toInt ≤ 6)) ∧ kp = kq ∧ L = Lq ∧ E11 = Eq)) (As := []) (rest := []) ⟨hx, hb, hml, hown, hB⟩ (fun sz => tX12_isExact_vP l D cs a0 zfxc2_0_0 xi6 hm0 hk0 hmf13 hmf14 sz) cg_12_390_X12_isExact rfl rfl (by decide +kernel) ⟨Nat.le_of_ble_eq_true rfl, Nat.le_of_ble_eq_true rfl⟩ hK hN TH hS hA rfl hm0 hk0 (by decide) rfl hl.1 rfl (Nat.le_of_ble_eq_true rfl) dX12_matches_58 ⟨Nat.le_of_ble_eq_true rfl, Nat.le_of_ble_eq_true rfl⟩ (fun v17 kp17 L17 E17 H locs hq17 hx17 TH hS => ?_)
              obtain ⟨⟨xc18, rfl, hxc18a, hxc18b, hpoxc18_0⟩, rfl, rfl, rfl⟩ := hq17
              refine W.eq (g2 := F0 m 61 ls [.int xc18]) rfl ?_
              refine lv_if_eq (tgt := 151) hx hb dX12_matches_61 (by decide) (fun hc19 => ?_) (fun hc19 => ?_)
              · have hf20 : xc18.toInt = 0 := by have z := (fa_eq _ _).mp hc19; have : ((0 : Int32).toInt) = 0 := (by decide); omega
                refine lv_aload_n hx hb dX12_matches_151 rfl (lv_at hl 1 rfl) ?_
                refine lv_iload_n hx hb dX12_matches_152 rfl (lv_at hl 2 rfl) ?_
                refine tw_Vc (o := a0) (ci := 12) (n := 1) (post := (fun v kq Lq Eq => v = none ∧ kp = kq ∧ L = Lq ∧ tw_fr kp L [] [355, 356] E11 Eq ∧ pi_ok Eq a0)) (As := [.int x1]) (rest := []) ⟨hx, hb, hml, hown, hB⟩ (fun sz => tX12_rounds l D cs a0 x1 hm0 hk0 (by omega) (by omega) hcg30_0 hcg30_2 hcg30_1 hgn15 sz) cg_12_393_X12_rounds rfl rfl (by decide +kernel) ⟨Nat.le_of_ble_eq_true rfl, Nat.le_of_ble_eq_true rfl⟩ hK hN TH hS hA rfl hm0 hk0 (by decide) rfl hl.1 rfl (Nat.le_of_ble_eq_true rfl) dX12_matches_153 ⟨Nat.le_of_ble_eq_true rfl, Nat.le_of_ble_eq_true rfl⟩ (fun v21 kp21 L21 E21 H locs hq21 hx21 TH hS => ?_)
                obtain ⟨rfl, rfl, rfl, hst21, hgpxc22_0⟩ := hq21
                have hF := hF.tr hst21 (fun _ h => ⟨h, rfl⟩) (by decide) (by decide)
                have hmf23 : tw_fv E21 a0 50 = .int zfxc2_0_0 := (hst21.1 a0 50 hm0 (by rw [hk0]; decide)).trans hmf13
                have hmf24 : tw_fv E21 a0 28 = .int xi6 := (hst21.1 a0 28 hm0 (by rw [hk0]; decide)).trans hmf14
                have hcg30_0 : row_ok E21 a0 (x1.toInt) := row_ok_fr TH hst21 hm0 hk0 (by decide) (by decide) (by omega) hcg30_0
                have hcg30_1 : tt_ok E21 a0 := tt_ok_fr TH hst21 hm0 hk0 (by decide) (by decide) hcg30_1
                have hcg30_2 : ls_ok E21 a0 (x1.toInt) := ls_ok_fr TH hst21 hm0 hk0 (by decide) (by decide) (by omega) hcg30_2
                refine W.eq (g2 := F0 m 156 ls []) rfl ?_
                exact tw_vret hx hb hr hlocks TH hS hex ⟨rfl, rfl, rfl, hF, ⟨zfxc2_0_0, hmf23, by  omega⟩, (ls_ok_cast (by  omega) hcg30_2), hgpxc22_0⟩ (Nat.le_of_ble_eq_true rfl) (Nat.le_of_ble_eq_true rfl) dX12_matches_156
              · have hf25 : ¬ (xc18.toInt = 0) := fun q => hc19 ((fa_eq _ _).mpr (by have : ((0 : Int32).toInt) = 0 := (by decide); omega))
                refine lv_aload_n hx hb dX12_matches_64 rfl (lv_at hl 1 rfl) ?_
                refine lv_iconst (v := (-1)) hx hb dX12_matches_65 (by decide) ?_
                refine tw_put (ci := 12) (v := .int (-1)) (ty := .int) (C := RX12) (T := TX12) (N := 64) hx hb hB cx_inX12 tyX12 tyX12_ok nmX12 hown hK TH hS hm0 hk0 rfl ⟨by decide, rfl⟩ 51 (by decide) cw_1244 (fun _ h9 => h9) rfl (by decide +kernel) rfl rfl ⟨_, rfl, (ia_lo _), (ia_hi _)⟩ dX12_matches_66 (fun H locs E26 TH hS hmf30 hp27 hp28 => ?_)
                have hst29 : tw_fr kp L [(12, 51)] [] E11 E26 := tw_fr.put tw_fr.rf (fun _ => hk0) (by decide) hp27 hp28 (by decide)
                have hF := hF.tr hst29 (fun _ h => ⟨h, rfl⟩) (by decide) (by decide)
                have hmf31 : tw_fv E26 a0 50 = .int zfxc2_0_0 := (hst29.1 a0 50 hm0 (by rw [hk0]; decide)).trans hmf13
                have hmf32 : tw_fv E26 a0 28 = .int xi6 := (hst29.1 a0 28 hm0 (by rw [hk0]; decide)).trans hmf14
                have hcg30_0 : row_ok E26 a0 (x1.toInt) := row_ok_fr TH hst29 hm0 hk0 (by decide) (by decide) (by omega) hcg30_0
                have hcg30_1 : tt_ok E26 a0 := tt_ok_fr TH hst29 hm0 hk0 (by decide) (by decide) hcg30_1
                have hcg30_2 : ls_ok E26 a0 (x1.toInt) := ls_ok_fr TH hst29 hm0 hk0 (by decide) (by decide) (by omega) hcg30_2
                have hgn15 : pi_ok E26 a0 := pi_ok_fr TH hst29 hm0 hk0 (by decide) (by decide) hgn15
                have hgn16 : pt_ok E26 a0 := pt_ok_fr TH hst29 hm0 hk0 (by decide) (by decide) hgn16
                have hgn33 : bc_ok E26 a0 := (fun z => absurd (tw_fi_of hmf30) (by intro y; rw [y] at z; exact z (by decide)))
                refine lv_aload_n hx hb dX12_matches_69 rfl (lv_at hl 1 rfl) ?_
                refine lv_iload_n hx hb dX12_matches_70 rfl (lv_at hl 2 rfl) ?_
                refine lv_iconst (v := 1) hx hb dX12_matches_71 (by decide) ?_
                refine tw_Vc (o := a0) (ci := 12) (n := 2) (post := (fun v kq Lq Eq => v = none ∧ kp = kq ∧ L = Lq ∧ tw_fr kp L [(12, 51)] [355, 356, 357] E26 Eq ∧ bt_ok Eq a0 ∧ pt_ok Eq a0 ∧ bc_ok Eq a0)) (As := [.int x1, .int 1]) (rest := []) ⟨hx, hb, hml, hown, hB⟩ (fun sz => tX12_tries l D cs 6 a0 x1 (1 : Int32) zfxc2_0_0 hm0 hk0 (by omega) (by omega) (by have : ((1 : Int32).toInt) = 1 := (by decide); omega) (by have : ((1 : Int32).toInt) = 1 := (by decide); omega) hmf31 (by have : ((1 : Int32).toInt) = 1 := (by decide); omega) (by have : ((1 : Int32).toInt) = 1 := (by decide); omega) (by have : ((1 : Int32).toInt) = 1 := (by decide); omega) hgn16 hgn33 sz) cg_12_373_X12_tries rfl rfl (by decide +kernel) ⟨Nat.le_of_ble_eq_true rfl, Nat.le_of_ble_eq_true rfl⟩ hK hN TH hS hA rfl hm0 hk0 (by decide) rfl hl.1 rfl (Nat.le_of_ble_eq_true rfl) dX12_matches_72 ⟨Nat.le_of_ble_eq_true rfl, Nat.le_of_ble_eq_true rfl⟩ (fun v34 kp34 L34 E34 H locs hq34 hx34 TH hS => ?_)
                obtain ⟨rfl, rfl, rfl, hst34, hgpxc35_0, hgpxc35_1, hgpxc35_2⟩ := hq34
                have hF := hF.tr hst34 (fun _ h => ⟨h, rfl⟩) (by decide) (by decide)
                have hmf36 : tw_fv E34 a0 50 = .int zfxc2_0_0 := (hst34.1 a0 50 hm0 (by rw [hk0]; decide)).trans hmf31
                have hmf37 : tw_fv E34 a0 28 = .int xi6 := (hst34.1 a0 28 hm0 (by rw [hk0]; decide)).trans hmf32
                have hcg30_0 : row_ok E34 a0 (x1.toInt) := row_ok_fr TH hst34 hm0 hk0 (by decide) (by decide) (by omega) hcg30_0
                have hcg30_1 : tt_ok E34 a0 := tt_ok_fr TH hst34 hm0 hk0 (by decide) (by decide) hcg30_1
                have hcg30_2 : ls_ok E34 a0 (x1.toInt) := ls_ok_fr TH hst34 hm0 hk0 (by decide) (by decide) (by omega) hcg30_2
                refine W.eq (g2 := F0 m 75 ls []) rfl ?_
                have hn47 : n47_ok E34 a0 (0) := fun j hj => absurd hj (by omega)
                refine lv_iconst (v := 0) hx hb dX12_matches_75 (by decide) ?_
                refine lv_istore_n (lv' := [(2, .int 0), (0, .ref a0), (1, .int x1)]) hx hb dX12_matches_76 rfl hl (by decide) rfl (fun ls hl => ?_)
                have hJ77 : ∀ (n77 : Nat) (y77_2 : Int32) (Eg77 : Nat → va_E) (H : Heap) (locs : List Loc) (ls : Array Slot), 0 ≤ y77_2.toInt → y77_2.toInt ≤ 24 → (y77_2.toInt ≤ xi6.toInt) → (1 ≤ zfxc2_0_0.toInt) → 24 - y77_2.toInt ≤ (n77 : Int) → tw_fr kp L [] [356] E34 Eg77 → row_ok Eg77 a0 (x1.toInt) → tt_ok Eg77 a0 → ls_ok Eg77 a0 (x1.toInt) → bt_ok Eg77 a0 → n47_ok Eg77 a0 (y77_2.toInt) → tw_H D cs kp L Eg77 A H → va_S A s.heap H locs → lv_has ls 3 [(2, .int y77_2), (0, .ref a0), (1, .int x1)] → W p l e { frames := 45, cells := 0, slots := 0, locals := 1142 } s m [.ref a0, .int x1].toArray below meth c H locs 0 0 (MQ below (tw_Q D cs kp0 L0 (fun v kq Lq Eq => v = none ∧ kp = kq ∧ L = Lq ∧ tw_fr kp L [(12, 50), (12, 51)] [354, 355, 356, 357, 358] E Eq ∧ (∃ z0 : Int32, tw_fv Eq a0 50 = .int z0 ∧ (z0.toInt ≤ 40)) ∧ ls_ok Eq a0 (x1.toInt) ∧ pi_ok Eq a0) A) [.ref a0, .int x1].toArray s 0 0 A) (F0 m 77 ls []) := by
                  intro n77
                  induction n77 using Nat.strongRecOn with
                  | _ n77 ih77 =>
                    intro y77_2 Eg77 H locs ls hy77_2a hy77_2b hin77_0 hin77_1 hmeas77 hG77 hcg77_0 hcg77_1 hcg77_2 hcg77_3 hcg77_4 TH hS hl
                    have hF := hF.tr hG77 (fun _ h => ⟨h, rfl⟩) (by decide) (by decide)
                    have hmf38 : tw_fv Eg77 a0 50 = .int zfxc2_0_0 := (hG77.1 a0 50 hm0 (by rw [hk0]; decide)).trans hmf36
                    have hmf39 : tw_fv Eg77 a0 28 = .int xi6 := (hG77.1 a0 28 hm0 (by rw [hk0]; decide)).trans hmf37
                    refine lv_iload_n hx hb dX12_matches_77 rfl (lv_at hl 0 rfl) ?_
                    refine lv_aload_n hx hb dX12_matches_78 rfl (lv_at hl 1 rfl) ?_
                    refine tw_get (ci := 12) (C := RX12) (T := TX12) (N := 64) hx hb hB cx_inX12 hown hK TH hm0 hk0 rfl ⟨by decide, rfl⟩ 28 (by decide) cw_1221 (fun _ h9 => h9) dX12_matches_79 (fun hv => ?_)
                    rw [hmf39]
                    refine lv_icmp_ge (tgt := 98) hx hb dX12_matches_82 (by decide) (fun hc40 => ?_) (fun hc40 => ?_)
                    · have hf41 : xi6.toInt ≤ y77_2.toInt := by have z := (fa_le _ _).mp hc40;  omega
                      have hpk0 : pk_ok Eg77 a0 (0) := pk_zero (by rw [tw_fi_of hmf39]; exact n47_ok_cast (by omega) hcg77_4) rfl
                      refine lv_iconst (v := 0) hx hb dX12_matches_98 (by decide) ?_
                      refine lv_istore_n (lv' := [(2, .int 0), (0, .ref a0), (1, .int x1)]) hx hb dX12_matches_99 rfl hl (by decide) rfl (fun ls hl => ?_)
                      have hJ100 : ∀ (n100 : Nat) (y100_2 : Int32) (Eg100 : Nat → va_E) (H : Heap) (locs : List Loc) (ls : Array Slot), 0 ≤ y100_2.toInt → y100_2.toInt ≤ 40 → (y100_2.toInt ≤ zfxc2_0_0.toInt) → (1 ≤ zfxc2_0_0.toInt) → 40 - y100_2.toInt ≤ (n100 : Int) → tw_fr kp L [] [355, 356] Eg77 Eg100 → row_ok Eg100 a0 (x1.toInt) → tt_ok Eg100 a0 → ls_ok Eg100 a0 (x1.toInt) → bt_ok Eg100 a0 → pk_ok Eg100 a0 (y100_2.toInt) → tw_H D cs kp L Eg100 A H → va_S A s.heap H locs → lv_has ls 3 [(2, .int y100_2), (0, .ref a0), (1, .int x1)] → W p l e { frames := 45, cells := 0, slots := 0, locals := 1142 } s m [.ref a0, .int x1].toArray below meth c H locs 0 0 (MQ below (tw_Q D cs kp0 L0 (fun v kq Lq Eq => v = none ∧ kp = kq ∧ L = Lq ∧ tw_fr kp L [(12, 50), (12, 51)] [354, 355, 356, 357, 358] E Eq ∧ (∃ z0 : Int32, tw_fv Eq a0 50 = .int z0 ∧ (z0.toInt ≤ 40)) ∧ ls_ok Eq a0 (x1.toInt) ∧ pi_ok Eq a0) A) [.ref a0, .int x1].toArray s 0 0 A) (F0 m 100 ls []) := by
                        intro n100
                        induction n100 using Nat.strongRecOn with
                        | _ n100 ih100 =>
                          intro y100_2 Eg100 H locs ls hy100_2a hy100_2b hin100_0 hin100_1 hmeas100 hG100 hcg100_0 hcg100_1 hcg100_2 hcg100_3 hcg100_4 TH hS hl
                          have hF := hF.tr hG100 (fun _ h => ⟨h, rfl⟩) (by decide) (by decide)
                          have hmf42 : tw_fv Eg100 a0 50 = .int zfxc2_0_0 := (hG100.1 a0 50 hm0 (by rw [hk0]; decide)).trans hmf38
                          have hmf43 : tw_fv Eg100 a0 28 = .int xi6 := (hG100.1 a0 28 hm0 (by rw [hk0]; decide)).trans hmf39
                          refine lv_iload_n hx hb dX12_matches_100 rfl (lv_at hl 0 rfl) ?_
                          refine lv_aload_n hx hb dX12_matches_101 rfl (lv_at hl 1 rfl) ?_
                          refine tw_get (ci := 12) (C := RX12) (T := TX12) (N := 64) hx hb hB cx_inX12 hown hK TH hm0 hk0 rfl ⟨by decide, rfl⟩ 50 (by decide) cw_1243 (fun _ h9 => h9) dX12_matches_102 (fun hv => ?_)
                          rw [hmf42]
                          refine lv_icmp_ge (tgt := 148) hx hb dX12_matches_105 (by decide) (fun hc44 => ?_) (fun hc44 => ?_)
                          · have hf45 : zfxc2_0_0.toInt ≤ y100_2.toInt := by have z := (fa_le _ _).mp hc44;  omega
                            have hpi148 : pi_ok Eg100 a0 := pk_done (k := zfxc2_0_0.toInt) (pk_ok_cast (by omega) hcg100_4) (tw_fi_of hmf42) (by omega)
                            refine lv_goto (tgt := 156) hx hb dX12_matches_148 (by decide) ?_
                            exact tw_vret hx hb hr hlocks TH hS hex ⟨rfl, rfl, rfl, hF, ⟨zfxc2_0_0, hmf42, by  omega⟩, (ls_ok_cast (by  omega) hcg100_2), hpi148⟩ (Nat.le_of_ble_eq_true rfl) (Nat.le_of_ble_eq_true rfl) dX12_matches_156
                          · have hf46 : ¬ (zfxc2_0_0.toInt ≤ y100_2.toInt) := fun q => hc44 ((fa_le _ _).mpr (by  omega))
                            refine lv_aload_n hx hb dX12_matches_108 rfl (lv_at hl 1 rfl) ?_
                            refine tw_get (ci := 12) (C := RX12) (T := TX12) (N := 64) hx hb hB cx_inX12 hown hK TH hm0 hk0 rfl ⟨by decide, rfl⟩ 46 (by decide) cw_1239 (fun _ h9 => h9) dX12_matches_109 (fun hv => ?_)
                            obtain ⟨xr47, hxr47, hmxr47, hkxr47⟩ : ∃ a : Nat, tw_fv Eg100 a0 46 = .ref a ∧ a ∈ L ∧ kp a = 355 := hv
                            rw [hxr47]
                            refine lv_iload_n hx hb dX12_matches_112 rfl (lv_at hl 0 rfl) ?_
                            refine lv_aload_n hx hb dX12_matches_113 rfl (lv_at hl 1 rfl) ?_
                            refine tw_get (ci := 12) (C := RX12) (T := TX12) (N := 64) hx hb hB cx_inX12 hown hK TH hm0 hk0 rfl ⟨by decide, rfl⟩ 48 (by decide) cw_1241 (fun _ h9 => h9) dX12_matches_114 (fun hv => ?_)
                            obtain ⟨xr48, hxr48, hmxr48, hkxr48⟩ : ∃ a : Nat, tw_fv Eg100 a0 48 = .ref a ∧ a ∈ L ∧ kp a = 357 := hv
                            rw [hxr48]
                            refine lv_iload_n hx hb dX12_matches_117 rfl (lv_at hl 0 rfl) ?_
                            refine tw_iald (k := 357) (t0 := 0) (n := 40) (lo := (-1)) (hi := 23) hx hb hK TH hmxr48 hkxr48 (by decide) rfl rfl (i := y100_2) (vp_in_iff.mpr ⟨by  omega, by  omega⟩) dX12_matches_118 (fun hxe49a hxe49b => ?_)
                            obtain ⟨xe49, exe49⟩ : ∃ z : Int32, tw_iv Eg100 xr48 (Int32.toNatClampNeg y100_2) = z := ⟨_, rfl⟩
                            rw [exe49] at hxe49a hxe49b ⊢
                            refine tw_iast (k := 355) (n := 40) (lo := (-1)) (hi := 23) hx hb hK TH hS hmxr47 hkxr47 (by decide) rfl (i := y100_2) (x := xe49) (vp_in_iff.mpr ⟨by  omega, by  omega⟩) (by omega) (by omega) dX12_matches_119 (fun H locs E50 TH hS hp51 hp52 hp53 => ?_)
                            have hst54 : tw_fr kp L [] [355] Eg100 E50 := tw_fr.ast tw_fr.rf (fun _ => hkxr47) hp51 hp52 (by decide)
                            have hF := hF.tr hst54 (fun _ h => ⟨h, rfl⟩) (by decide) (by decide)
                            have hG100 := hG100.tr hst54 (fun _ h => ⟨h, rfl⟩) (by decide) (by decide)
                            have hmf55 : tw_fv E50 a0 50 = .int zfxc2_0_0 := (hst54.1 a0 50 hm0 (by rw [hk0]; decide)).trans hmf42
                            have hmf56 : tw_fv E50 a0 28 = .int xi6 := (hst54.1 a0 28 hm0 (by rw [hk0]; decide)).trans hmf43
                            have hmf57 : tw_fv E50 a0 46 = .ref xr47 := (hst54.1 a0 46 hm0 (by rw [hk0]; decide)).trans hxr47
                            have hmf58 : tw_fv E50 a0 48 = .ref xr48 := (hst54.1 a0 48 hm0 (by rw [hk0]; decide)).trans hxr48
                            have hcg100_0 : row_ok E50 a0 (x1.toInt) := row_ok_fr TH hst54 hm0 hk0 (by decide) (by decide) (by omega) hcg100_0
                            have hcg100_1 : tt_ok E50 a0 := tt_ok_fr TH hst54 hm0 hk0 (by decide) (by decide) hcg100_1
                            have hcg100_2 : ls_ok E50 a0 (x1.toInt) := ls_ok_fr TH hst54 hm0 hk0 (by decide) (by decide) (by omega) hcg100_2
                            have hcg100_3 : bt_ok E50 a0 := bt_ok_fr TH hst54 hm0 hk0 (by decide) (by decide) hcg100_3
                            have hgn59 : pka_ok E50 a0 (y100_2.toInt) := (by have rf_xe49 : tw_el Eg100 a0 48 (y100_2.toInt).toNat = xe49.toInt := (by rw [tw_el_of hxr48]; exact congrArg Int32.toInt exe49); exact pk_a hcg100_4 (by omega) rf_xe49 (fun j => (by have w := tw_el_st hxr47 hp51 hp52 hp53 j; rw [w]; (by_cases e : j = (y100_2.toInt).toNat; (rw [if_pos ⟨rfl, e⟩, if_pos e]); (rw [if_neg (fun y => e y.2), if_neg e])))) (tw_el_fr TH hst54 hm0 hk0 (by decide) (by decide) (k := 47) rfl (by decide) (by decide) (by decide)) (tw_el_fr TH hst54 hm0 hk0 (by decide) (by decide) (k := 48) rfl (by decide) (by decide) (by decide)) (tw_fi_fr hst54 hm0 hk0 (by decide)))
                            refine lv_aload_n hx hb dX12_matches_120 rfl (lv_at hl 1 rfl) ?_
                            refine tw_get (ci := 12) (C := RX12) (T := TX12) (N := 64) hx hb hB cx_inX12 hown hK TH hm0 hk0 rfl ⟨by decide, rfl⟩ 48 (by decide) cw_1241 (fun _ h9 => h9) dX12_matches_121 (fun hv => ?_)
                            rw [hmf58]
                            refine lv_iload_n hx hb dX12_matches_124 rfl (lv_at hl 0 rfl) ?_
                            refine tw_iald (k := 357) (t0 := 0) (n := 40) (lo := (-1)) (hi := 23) hx hb hK TH hmxr48 hkxr48 (by decide) rfl rfl (i := y100_2) (vp_in_iff.mpr ⟨by  omega, by  omega⟩) dX12_matches_125 (fun hxe60a hxe60b => ?_)
                            obtain ⟨xe60, exe60⟩ : ∃ z : Int32, tw_iv E50 xr48 (Int32.toNatClampNeg y100_2) = z := ⟨_, rfl⟩
                            rw [exe60] at hxe60a hxe60b ⊢
                            refine lv_iconst (v := (-1)) hx hb dX12_matches_126 (by decide) ?_
                            refine lv_icmp_eq (tgt := 142) hx hb dX12_matches_127 (by decide) (fun hc61 => ?_) (fun hc61 => ?_)
                            · have hf62 : xe60.toInt = (-1) := by have z := (fa_eq _ _).mp hc61; have : (((-1) : Int32).toInt) = (-1) := (by decide); omega
                              have rf_xe60 : tw_el E50 a0 48 (y100_2.toInt).toNat = xe60.toInt := (by rw [tw_el_of hmf58]; exact congrArg Int32.toInt exe60)
                              have hpk142 : pk_ok E50 a0 (y100_2.toInt + 1) := pk_c hgn59 hcg100_3 (by omega) rfl (by rw [rf_xe60]; omega)
                              obtain ⟨zi63, ezi63⟩ : ∃ z : Int32, z = y100_2 + Int32.ofInt 1 := ⟨_, rfl⟩
                              have hzi63 : zi63.toInt = y100_2.toInt + 1 := by rw [ezi63]; have : ((Int32.ofInt 1).toInt) = 1 := (by decide);  exact (ia_add (by omega) (by omega)).trans (by omega)
                              refine lv_iinc (v := zi63) (lv' := [(2, .int zi63), (0, .ref a0), (1, .int x1)]) hx hb dX12_matches_142 hl (k := 0) rfl ezi63.symm (by decide) rfl (fun ls hl => ?_)
                              refine lv_goto (tgt := 100) hx hb dX12_matches_145 (by decide) ?_
                              exact ih100 (n100 - 1) (by   omega) zi63 _ _ _ ls (by omega) (by omega) (by  omega) (by  omega) (by   omega) hG100 hcg100_0 hcg100_1 hcg100_2 hcg100_3 (pk_ok_cast (by  omega) hpk142) TH hS (lv_sub hl [0, 1, 2] rfl)
                            · have hf64 : ¬ (xe60.toInt = (-1)) := fun q => hc61 ((fa_eq _ _).mpr (by have : (((-1) : Int32).toInt) = (-1) := (by decide); omega))
                              refine lv_aload_n hx hb dX12_matches_130 rfl (lv_at hl 1 rfl) ?_
                              refine tw_get (ci := 12) (C := RX12) (T := TX12) (N := 64) hx hb hB cx_inX12 hown hK TH hm0 hk0 rfl ⟨by decide, rfl⟩ 47 (by decide) cw_1240 (fun _ h9 => h9) dX12_matches_131 (fun hv => ?_)
                              obtain ⟨xr65, hxr65, hmxr65, hkxr65⟩ : ∃ a : Nat, tw_fv E50 a0 47 = .ref a ∧ a ∈ L ∧ kp a = 356 := hv
                              rw [hxr65]
                              refine lv_aload_n hx hb dX12_matches_134 rfl (lv_at hl 1 rfl) ?_
                              refine tw_get (ci := 12) (C := RX12) (T := TX12) (N := 64) hx hb hB cx_inX12 hown hK TH hm0 hk0 rfl ⟨by decide, rfl⟩ 48 (by decide) cw_1241 (fun _ h9 => h9) dX12_matches_135 (fun hv => ?_)
                              rw [hmf58]
                              refine lv_iload_n hx hb dX12_matches_138 rfl (lv_at hl 0 rfl) ?_
                              refine tw_iald (k := 357) (t0 := 0) (n := 40) (lo := (-1)) (hi := 23) hx hb hK TH hmxr48 hkxr48 (by decide) rfl rfl (i := y100_2) (vp_in_iff.mpr ⟨by  omega, by  omega⟩) dX12_matches_139 (fun hxe66a hxe66b => ?_)
                              rw [exe60]
                              refine lv_iload_n hx hb dX12_matches_140 rfl (lv_at hl 0 rfl) ?_
                              refine tw_iast (k := 356) (n := 24) (lo := (-1)) (hi := 39) hx hb hK TH hS hmxr65 hkxr65 (by decide) rfl (i := xe60) (x := y100_2) (vp_in_iff.mpr ⟨by  omega, by  omega⟩) (by omega) (by omega) dX12_matches_141 (fun H locs E67 TH hS hp68 hp69 hp70 => ?_)
                              have hst71 : tw_fr kp L [] [356] E50 E67 := tw_fr.ast tw_fr.rf (fun _ => hkxr65) hp68 hp69 (by decide)
                              have hF := hF.tr hst71 (fun _ h => ⟨h, rfl⟩) (by decide) (by decide)
                              have hG100 := hG100.tr hst71 (fun _ h => ⟨h, rfl⟩) (by decide) (by decide)
                              have hmf72 : tw_fv E67 a0 50 = .int zfxc2_0_0 := (hst71.1 a0 50 hm0 (by rw [hk0]; decide)).trans hmf55
                              have hmf73 : tw_fv E67 a0 28 = .int xi6 := (hst71.1 a0 28 hm0 (by rw [hk0]; decide)).trans hmf56
                              have hmf74 : tw_fv E67 a0 46 = .ref xr47 := (hst71.1 a0 46 hm0 (by rw [hk0]; decide)).trans hmf57
                              have hmf75 : tw_fv E67 a0 48 = .ref xr48 := (hst71.1 a0 48 hm0 (by rw [hk0]; decide)).trans hmf58
                              have hmf76 : tw_fv E67 a0 47 = .ref xr65 := (hst71.1 a0 47 hm0 (by rw [hk0]; decide)).trans hxr65
                              have hcg100_0 : row_ok E67 a0 (x1.toInt) := row_ok_fr TH hst71 hm0 hk0 (by decide) (by decide) (by omega) hcg100_0
                              have hcg100_1 : tt_ok E67 a0 := tt_ok_fr TH hst71 hm0 hk0 (by decide) (by decide) hcg100_1
                              have hcg100_2 : ls_ok E67 a0 (x1.toInt) := ls_ok_fr TH hst71 hm0 hk0 (by decide) (by decide) (by omega) hcg100_2
                              have hcg100_3 : bt_ok E67 a0 := bt_ok_fr TH hst71 hm0 hk0 (by decide) (by decide) hcg100_3
                              have hgn77 : pk_ok E67 a0 (y100_2.toInt + 1) := (by have rf_xe60 : tw_el E50 a0 48 (y100_2.toInt).toNat = xe60.toInt := (by rw [tw_el_of hmf58]; exact congrArg Int32.toInt exe60); exact pk_b hgn59 hcg100_3 (tw_fi_fr hst71 hm0 hk0 (by decide)) (by rw [tw_fi_of hmf55]; omega) (by omega) rfl (by omega) rf_xe60 (tw_el_fr TH hst71 hm0 hk0 (by decide) (by decide) (k := 46) rfl (by decide) (by decide) (by decide)) (fun j => (by have w := tw_el_st hxr65 hp68 hp69 hp70 j; rw [w]; (by_cases e : j = (xe60.toInt).toNat; (rw [if_pos ⟨rfl, e⟩, if_pos e]); (rw [if_neg (fun y => e y.2), if_neg e])))) (tw_el_fr TH hst71 hm0 hk0 (by decide) (by decide) (k := 48) rfl (by decide) (by decide) (by decide)) (tw_fi_fr hst71 hm0 hk0 (by decide)))
                              have hst142 := trivial
                              obtain ⟨zi78, ezi78⟩ : ∃ z : Int32, z = y100_2 + Int32.ofInt 1 := ⟨_, rfl⟩
                              have hzi78 : zi78.toInt = y100_2.toInt + 1 := by rw [ezi78]; have : ((Int32.ofInt 1).toInt) = 1 := (by decide);  exact (ia_add (by omega) (by omega)).trans (by omega)
                              refine lv_iinc (v := zi78) (lv' := [(2, .int zi78), (0, .ref a0), (1, .int x1)]) hx hb dX12_matches_142 hl (k := 0) rfl ezi78.symm (by decide) rfl (fun ls hl => ?_)
                              refine lv_goto (tgt := 100) hx hb dX12_matches_145 (by decide) ?_
                              exact ih100 (n100 - 1) (by   omega) zi78 _ _ _ ls (by omega) (by omega) (by  omega) (by  omega) (by   omega) hG100 hcg100_0 hcg100_1 hcg100_2 hcg100_3 (pk_ok_cast (by  omega) hgn77) TH hS (lv_sub hl [0, 1, 2] rfl)
                      exact hJ100 41 (0 : Int32) _ _ _ ls (by have : ((0 : Int32).toInt) = 0 := (by decide); omega) (by have : ((0 : Int32).toInt) = 0 := (by decide); omega) (by have : ((0 : Int32).toInt) = 0 := (by decide); omega) (by have : ((0 : Int32).toInt) = 0 := (by decide); omega) (by have : ((0 : Int32).toInt) = 0 := (by decide);  omega) tw_fr.rf hcg77_0 hcg77_1 hcg77_2 hcg77_3 (pk_ok_cast (by have : ((0 : Int32).toInt) = 0 := (by decide); omega) hpk0) TH hS (lv_sub hl [0, 1, 2] rfl)
                    · have hf79 : ¬ (xi6.toInt ≤ y77_2.toInt) := fun q => hc40 ((fa_le _ _).mpr (by  omega))
                      refine lv_aload_n hx hb dX12_matches_85 rfl (lv_at hl 1 rfl) ?_
                      refine tw_get (ci := 12) (C := RX12) (T := TX12) (N := 64) hx hb hB cx_inX12 hown hK TH hm0 hk0 rfl ⟨by decide, rfl⟩ 47 (by decide) cw_1240 (fun _ h9 => h9) dX12_matches_86 (fun hv => ?_)
                      obtain ⟨xr80, hxr80, hmxr80, hkxr80⟩ : ∃ a : Nat, tw_fv Eg77 a0 47 = .ref a ∧ a ∈ L ∧ kp a = 356 := hv
                      rw [hxr80]
                      refine lv_iload_n hx hb dX12_matches_89 rfl (lv_at hl 0 rfl) ?_
                      refine lv_iconst (v := (-1)) hx hb dX12_matches_90 (by decide) ?_
                      refine tw_iast (k := 356) (n := 24) (lo := (-1)) (hi := 39) hx hb hK TH hS hmxr80 hkxr80 (by decide) rfl (i := y77_2) (x := (-1)) (vp_in_iff.mpr ⟨by  omega, by  omega⟩) (by have : (((-1) : Int32).toInt) = (-1) := (by decide); omega) (by have : (((-1) : Int32).toInt) = (-1) := (by decide); omega) dX12_matches_91 (fun H locs E81 TH hS hp82 hp83 hp84 => ?_)
                      have hst85 : tw_fr kp L [] [356] Eg77 E81 := tw_fr.ast tw_fr.rf (fun _ => hkxr80) hp82 hp83 (by decide)
                      have hF := hF.tr hst85 (fun _ h => ⟨h, rfl⟩) (by decide) (by decide)
                      have hG77 := hG77.tr hst85 (fun _ h => ⟨h, rfl⟩) (by decide) (by decide)
                      have hmf86 : tw_fv E81 a0 50 = .int zfxc2_0_0 := (hst85.1 a0 50 hm0 (by rw [hk0]; decide)).trans hmf38
                      have hmf87 : tw_fv E81 a0 28 = .int xi6 := (hst85.1 a0 28 hm0 (by rw [hk0]; decide)).trans hmf39
                      have hmf88 : tw_fv E81 a0 47 = .ref xr80 := (hst85.1 a0 47 hm0 (by rw [hk0]; decide)).trans hxr80
                      have hcg77_0_o := hcg77_0
                      have hcg77_1_o := hcg77_1
                      have hcg77_2_o := hcg77_2
                      have hcg77_3_o := hcg77_3
                      have hcg77_4_o := hcg77_4
                      have hcg77_0 : row_ok E81 a0 (x1.toInt) := row_ok_fr TH hst85 hm0 hk0 (by decide) (by decide) (by omega) hcg77_0
                      have hcg77_1 : tt_ok E81 a0 := tt_ok_fr TH hst85 hm0 hk0 (by decide) (by decide) hcg77_1
                      have hcg77_2 : ls_ok E81 a0 (x1.toInt) := ls_ok_fr TH hst85 hm0 hk0 (by decide) (by decide) (by omega) hcg77_2
                      have hcg77_3 : bt_ok E81 a0 := bt_ok_fr TH hst85 hm0 hk0 (by decide) (by decide) hcg77_3
                      have hcg77_4 : n47_ok E81 a0 (y77_2.toInt + 1) := n47_push hcg77_4_o rfl (fun j => (by have w := tw_el_st hxr80 hp82 hp83 hp84 j; show _ = (if j = (y77_2.toInt).toNat then (-1) else tw_el Eg77 a0 47 j); rw [w]; (by_cases e : j = (y77_2.toInt).toNat; (rw [if_pos ⟨rfl, e⟩, if_pos e]; decide); (rw [if_neg (fun y => e y.2), if_neg e]))))
                      obtain ⟨zi89, ezi89⟩ : ∃ z : Int32, z = y77_2 + Int32.ofInt 1 := ⟨_, rfl⟩
                      have hzi89 : zi89.toInt = y77_2.toInt + 1 := by rw [ezi89]; have : ((Int32.ofInt 1).toInt) = 1 := (by decide);  exact (ia_add (by omega) (by omega)).trans (by omega)
                      refine lv_iinc (v := zi89) (lv' := [(2, .int zi89), (0, .ref a0), (1, .int x1)]) hx hb dX12_matches_92 hl (k := 0) rfl ezi89.symm (by decide) rfl (fun ls hl => ?_)
                      refine lv_goto (tgt := 77) hx hb dX12_matches_95 (by decide) ?_
                      exact ih77 (n77 - 1) (by   omega) zi89 _ _ _ ls (by omega) (by omega) (by  omega) (by  omega) (by   omega) hG77 hcg77_0 hcg77_1 hcg77_2 hcg77_3 (n47_ok_cast (by  omega) hcg77_4) TH hS (lv_sub hl [0, 1, 2] rfl)
                exact hJ77 25 (0 : Int32) _ _ _ ls (by have : ((0 : Int32).toInt) = 0 := (by decide); omega) (by have : ((0 : Int32).toInt) = 0 := (by decide); omega) (by have : ((0 : Int32).toInt) = 0 := (by decide); omega) (by have : ((0 : Int32).toInt) = 0 := (by decide); omega) (by have : ((0 : Int32).toInt) = 0 := (by decide);  omega) tw_fr.rf hcg30_0 hcg30_1 hcg30_2 hgpxc35_0 (n47_ok_cast (by have : ((0 : Int32).toInt) = 0 := (by decide); omega) hn47) TH hS (lv_sub hl [0, 1, 2] rfl)
            · have hf90 : ¬ (xi6.toInt ≤ y30_2.toInt) := fun q => hc9 ((fa_le _ _).mpr (by  omega))
              refine lv_aload_n hx hb dX12_matches_38 rfl (lv_at hl 1 rfl) ?_
              refine tw_get (ci := 12) (C := RX12) (T := TX12) (N := 64) hx hb hB cx_inX12 hown hK TH hm0 hk0 rfl ⟨by decide, rfl⟩ 47 (by decide) cw_1240 (fun _ h9 => h9) dX12_matches_39 (fun hv => ?_)
              obtain ⟨xr91, hxr91, hmxr91, hkxr91⟩ : ∃ a : Nat, tw_fv Eg30 a0 47 = .ref a ∧ a ∈ L ∧ kp a = 356 := hv
              rw [hxr91]
              refine lv_iload_n hx hb dX12_matches_42 rfl (lv_at hl 0 rfl) ?_
              refine lv_iconst (v := (-1)) hx hb dX12_matches_43 (by decide) ?_
              refine tw_iast (k := 356) (n := 24) (lo := (-1)) (hi := 39) hx hb hK TH hS hmxr91 hkxr91 (by decide) rfl (i := y30_2) (x := (-1)) (vp_in_iff.mpr ⟨by  omega, by  omega⟩) (by have : (((-1) : Int32).toInt) = (-1) := (by decide); omega) (by have : (((-1) : Int32).toInt) = (-1) := (by decide); omega) dX12_matches_44 (fun H locs E92 TH hS hp93 hp94 hp95 => ?_)
              have hst96 : tw_fr kp L [] [356] Eg30 E92 := tw_fr.ast tw_fr.rf (fun _ => hkxr91) hp93 hp94 (by decide)
              have hF := hF.tr hst96 (fun _ h => ⟨h, rfl⟩) (by decide) (by decide)
              have hG30 := hG30.tr hst96 (fun _ h => ⟨h, rfl⟩) (by decide) (by decide)
              have hmf97 : tw_fv E92 a0 50 = .int zfxc2_0_0 := (hst96.1 a0 50 hm0 (by rw [hk0]; decide)).trans hmf7
              have hmf98 : tw_fv E92 a0 28 = .int xi6 := (hst96.1 a0 28 hm0 (by rw [hk0]; decide)).trans hmf8
              have hmf99 : tw_fv E92 a0 47 = .ref xr91 := (hst96.1 a0 47 hm0 (by rw [hk0]; decide)).trans hxr91
              have hcg30_0_o := hcg30_0
              have hcg30_1_o := hcg30_1
              have hcg30_2_o := hcg30_2
              have hcg30_3_o := hcg30_3
              have hcg30_4_o := hcg30_4
              have hcg30_0 : row_ok E92 a0 (x1.toInt) := row_ok_fr TH hst96 hm0 hk0 (by decide) (by decide) (by omega) hcg30_0
              have hcg30_1 : tt_ok E92 a0 := tt_ok_fr TH hst96 hm0 hk0 (by decide) (by decide) hcg30_1
              have hcg30_2 : ls_ok E92 a0 (x1.toInt) := ls_ok_fr TH hst96 hm0 hk0 (by decide) (by decide) (by omega) hcg30_2
              have hcg30_3 : n46_ok E92 a0 (zfxc2_0_0.toInt) := n46_ok_fr TH hst96 hm0 hk0 (by decide) (by decide) hcg30_3
              have hcg30_4 : n47_ok E92 a0 (y30_2.toInt + 1) := n47_push hcg30_4_o rfl (fun j => (by have w := tw_el_st hxr91 hp93 hp94 hp95 j; show _ = (if j = (y30_2.toInt).toNat then (-1) else tw_el Eg30 a0 47 j); rw [w]; (by_cases e : j = (y30_2.toInt).toNat; (rw [if_pos ⟨rfl, e⟩, if_pos e]; decide); (rw [if_neg (fun y => e y.2), if_neg e]))))
              obtain ⟨zi100, ezi100⟩ : ∃ z : Int32, z = y30_2 + Int32.ofInt 1 := ⟨_, rfl⟩
              have hzi100 : zi100.toInt = y30_2.toInt + 1 := by rw [ezi100]; have : ((Int32.ofInt 1).toInt) = 1 := (by decide);  exact (ia_add (by omega) (by omega)).trans (by omega)
              refine lv_iinc (v := zi100) (lv' := [(2, .int zi100), (0, .ref a0), (1, .int x1)]) hx hb dX12_matches_45 hl (k := 0) rfl ezi100.symm (by decide) rfl (fun ls hl => ?_)
              refine lv_goto (tgt := 30) hx hb dX12_matches_48 (by decide) ?_
              exact ih30 (n30 - 1) (by   omega) zi100 _ _ _ ls (by omega) (by omega) (by  omega) (by  omega) (by   omega) hG30 hcg30_0 hcg30_1 hcg30_2 hcg30_3 (n47_ok_cast (by  omega) hcg30_4) TH hS (lv_sub hl [0, 1, 2] rfl)
        exact hJ30 25 (0 : Int32) _ _ _ ls (by have : ((0 : Int32).toInt) = 0 := (by decide); omega) (by have : ((0 : Int32).toInt) = 0 := (by decide); omega) (by have : ((0 : Int32).toInt) = 0 := (by decide); omega) (by have : ((0 : Int32).toInt) = 0 := (by decide); omega) (by have : ((0 : Int32).toInt) = 0 := (by decide);  omega) tw_fr.rf hcg7_0 hcg7_1 hcg7_2 (n46_ok_cast (by have : ((0 : Int32).toInt) = 0 := (by decide); omega) hcg7_3) (n47_ok_cast (by have : ((0 : Int32).toInt) = 0 := (by decide); omega) hn47) TH hS (lv_sub hl [0, 1, 2] rfl)
      · have hf101 : ¬ (zfxc2_0_0.toInt ≤ y7_2.toInt) := fun q => hc4 ((fa_le _ _).mpr (by  omega))
        refine lv_aload_n hx hb dX12_matches_15 rfl (lv_at hl 1 rfl) ?_
        refine tw_get (ci := 12) (C := RX12) (T := TX12) (N := 64) hx hb hB cx_inX12 hown hK TH hm0 hk0 rfl ⟨by decide, rfl⟩ 46 (by decide) cw_1239 (fun _ h9 => h9) dX12_matches_16 (fun hv => ?_)
        obtain ⟨xr102, hxr102, hmxr102, hkxr102⟩ : ∃ a : Nat, tw_fv Eg7 a0 46 = .ref a ∧ a ∈ L ∧ kp a = 355 := hv
        rw [hxr102]
        refine lv_iload_n hx hb dX12_matches_19 rfl (lv_at hl 0 rfl) ?_
        refine lv_iconst (v := (-1)) hx hb dX12_matches_20 (by decide) ?_
        refine tw_iast (k := 355) (n := 40) (lo := (-1)) (hi := 23) hx hb hK TH hS hmxr102 hkxr102 (by decide) rfl (i := y7_2) (x := (-1)) (vp_in_iff.mpr ⟨by  omega, by  omega⟩) (by have : (((-1) : Int32).toInt) = (-1) := (by decide); omega) (by have : (((-1) : Int32).toInt) = (-1) := (by decide); omega) dX12_matches_21 (fun H locs E103 TH hS hp104 hp105 hp106 => ?_)
        have hst107 : tw_fr kp L [] [355] Eg7 E103 := tw_fr.ast tw_fr.rf (fun _ => hkxr102) hp104 hp105 (by decide)
        have hF := hF.tr hst107 (fun _ h => ⟨h, rfl⟩) (by decide) (by decide)
        have hG7 := hG7.tr hst107 (fun _ h => ⟨h, rfl⟩) (by decide) (by decide)
        have hmf108 : tw_fv E103 a0 50 = .int zfxc2_0_0 := (hst107.1 a0 50 hm0 (by rw [hk0]; decide)).trans hmf3
        have hmf109 : tw_fv E103 a0 46 = .ref xr102 := (hst107.1 a0 46 hm0 (by rw [hk0]; decide)).trans hxr102
        have hcg7_0_o := hcg7_0
        have hcg7_1_o := hcg7_1
        have hcg7_2_o := hcg7_2
        have hcg7_3_o := hcg7_3
        have hcg7_0 : row_ok E103 a0 (x1.toInt) := row_ok_fr TH hst107 hm0 hk0 (by decide) (by decide) (by omega) hcg7_0
        have hcg7_1 : tt_ok E103 a0 := tt_ok_fr TH hst107 hm0 hk0 (by decide) (by decide) hcg7_1
        have hcg7_2 : ls_ok E103 a0 (x1.toInt) := ls_ok_fr TH hst107 hm0 hk0 (by decide) (by decide) (by omega) hcg7_2
        have hcg7_3 : n46_ok E103 a0 (y7_2.toInt + 1) := n46_push hcg7_3_o rfl (fun j => (by have w := tw_el_st hxr102 hp104 hp105 hp106 j; show _ = (if j = (y7_2.toInt).toNat then (-1) else tw_el Eg7 a0 46 j); rw [w]; (by_cases e : j = (y7_2.toInt).toNat; (rw [if_pos ⟨rfl, e⟩, if_pos e]; decide); (rw [if_neg (fun y => e y.2), if_neg e]))))
        obtain ⟨zi110, ezi110⟩ : ∃ z : Int32, z = y7_2 + Int32.ofInt 1 := ⟨_, rfl⟩
        have hzi110 : zi110.toInt = y7_2.toInt + 1 := by rw [ezi110]; have : ((Int32.ofInt 1).toInt) = 1 := (by decide);  exact (ia_add (by omega) (by omega)).trans (by omega)
        refine lv_iinc (v := zi110) (lv' := [(2, .int zi110), (0, .ref a0), (1, .int x1)]) hx hb dX12_matches_22 hl (k := 0) rfl ezi110.symm (by decide) rfl (fun ls hl => ?_)
        refine lv_goto (tgt := 7) hx hb dX12_matches_25 (by decide) ?_
        exact ih7 (n7 - 1) (by   omega) zi110 _ _ _ ls (by omega) (by omega) (by  omega) (by  omega) (by   omega) hG7 hcg7_0 hcg7_1 hcg7_2 (n46_ok_cast (by  omega) hcg7_3) TH hS (lv_sub hl [0, 1, 2] rfl)
  exact hJ7 41 (0 : Int32) _ _ _ ls (by have : ((0 : Int32).toInt) = 0 := (by decide); omega) (by have : ((0 : Int32).toInt) = 0 := (by decide); omega) (by have : ((0 : Int32).toInt) = 0 := (by decide); omega) (by have : ((0 : Int32).toInt) = 0 := (by decide); omega) (by have : ((0 : Int32).toInt) = 0 := (by decide);  omega) tw_fr.rf hg0 hg1 hls5 (n46_ok_cast (by have : ((0 : Int32).toInt) = 0 := (by decide); omega) hn46) TH hS (lv_sub hl [0, 1, 2] rfl)
