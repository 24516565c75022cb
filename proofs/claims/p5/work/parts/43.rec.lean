theorem cg_12_539_X12_nameOf : GoodIn cx_big (wsV "TreeMergeModel" 539 "TreeMergeModel" yX12_nameOf (.code yX12_nameOf cX12_nameOf 8 (some .int) :: cx_big)) := cx_gV cw_1865 cw_1867 cp_146 cw_13 cw_1868
theorem cg_12_557_X12_isSame : GoodIn cx_big (wsV "TreeMergeModel" 557 "TreeMergeModel" yX12_isSame (.code yX12_isSame cX12_isSame 7 (some .boolean) :: cx_big)) := cx_gV cw_1896 cw_1898 cp_149 cw_13 cw_1899
theorem cg_12_542_X12_wordWriter : GoodIn cx_big (wsV "TreeMergeModel" 542 "TreeMergeModel" yX12_wordWriter (.code yX12_wordWriter cX12_wordWriter 5 (some .int) :: cx_big)) := cx_gV cw_1872 cw_1874 cp_147 cw_13 cw_1875
theorem cg_12_551_X12_placeOf : GoodIn cx_big (wsV "TreeMergeModel" 551 "TreeMergeModel" yX12_placeOf (.code yX12_placeOf cX12_placeOf 5 (some .int) :: cx_big)) := cx_gV cw_1861 cw_1863 cp_145 cw_13 cw_1864
theorem cg_12_554_X12_deepOf : GoodIn cx_big (wsV "TreeMergeModel" 554 "TreeMergeModel" yX12_deepOf (.code yX12_deepOf cX12_deepOf 5 (some .int) :: cx_big)) := cx_gV cw_1876 cw_1878 cp_148 cw_13 cw_1879
theorem cg_12_563_X12_prints : GoodIn cx_big (wsV "TreeMergeModel" 563 "TreeMergeModel" yX12_prints (.code yX12_prints cX12_prints 2 none :: cx_big)) := cx_gV cw_1908 cw_1910 cp_151 cw_13 cw_1911
theorem cg_12_566_X12_prints_ : GoodIn cx_big (wsV "TreeMergeModel" 566 "TreeMergeModel" yX12_prints_ (.code yX12_prints_ cX12_prints_ 7 none :: cx_big)) := cx_gV cw_1904 cw_1906 cp_150 cw_13 cw_1907
set_option maxHeartbeats 4000000 in
set_option maxRecDepth 100000 in
theorem tX12_nameOf (l : Launch) (D : va_G) (cs : Nat → ClassId) (dd : Nat) : ∀ {kp : Nat → Nat} {L : List Nat} {E : Nat → va_E} (a0 : Nat) (x1 : Int32) (x2 : Int32) (hm0 : a0 ∈ L) (hk0 : kp a0 = 12) (hp1a : 0 ≤ x1.toInt) (hp1b : x1.toInt ≤ 15) (hp2a : 0 ≤ x2.toInt) (hp2b : x2.toInt ≤ 149) (hpre0 : rw_h E a0 x1.toInt (x2.toInt).toNat ≠ 0) (hpre1 : (rt_mu (rw_h E a0 x1.toInt) (rw_p E a0 x1.toInt) (rw_q E a0 x1.toInt) x2.toInt : Int) + 1 ≤ (dd : Int)) (hg0 : rw_ok E a0 (x1.toInt)) (sz : Nat), Met l yX12_nameOf (.code yX12_nameOf cX12_nameOf 8 (some .int) :: cx_big) { frames := dd + 2, cells := 0, slots := 0, locals := 27 * (dd) + 67 } (tw_P D cs kp L E [.ref a0, .int x1, .int x2] sz) (tw_Q D cs kp L (fun v kq Lq Eq => (∃ x : Int32, v = some (.int x)) ∧ kp = kq ∧ L = Lq ∧ E = Eq) (va_A (va_pl L E) sz)) 0 0 (va_A (va_pl L E) sz) := by
  induction dd with
  | zero =>
    intro kp L E a0 x1 x2 hm0 hk0 hp1a hp1b hp2a hp2b hpre0 hpre1 hg0 sz
    exfalso
    omega
  | succ dd ih =>
    intro kp L E a0 x1 x2 hm0 hk0 hp1a hp1b hp2a hp2b hpre0 hpre1 hg0 sz
    refine tw_ofW (by decide) (Nat.le_of_ble_eq_true rfl) ?_
    intro p e s m below meth c A ls hx hb hr hml hB hown hlocks hK hN hA TH hS hl
    have hown : s.vm.findClass "TreeMergeModel" = some m.cls := hown
    have hl : lv_has ls 8 [(0, .ref a0), (1, .int x1), (2, .int x2)] := hl
    obtain ⟨kp0, ekp⟩ : ∃ z, z = kp := ⟨_, rfl⟩
    obtain ⟨L0, eL⟩ : ∃ z, z = L := ⟨_, rfl⟩
    rw [show tw_Q D cs kp L = tw_Q D cs kp0 L0 by rw [ekp, eL]]
    have hex : ∀ a : Nat, a ∈ L0 → a ∈ L ∧ kp a = kp0 a := fun a h => ⟨by rw [← eL]; exact h, by rw [ekp]⟩
    refine lv_aload_n hx hb dX12_nameOf_0 rfl (lv_at hl 0 rfl) ?_
    refine tw_get (ci := 12) (C := RX12) (T := TX12) (N := 64) hx hb hB cx_inX12 hown hK TH hm0 hk0 rfl ⟨by decide, rfl⟩ 20 (by decide) cw_1213 (fun _ h9 => h9) dX12_nameOf_1 (fun hv => ?_)
    obtain ⟨xr1, hxr1, hmxr1, hkxr1⟩ : ∃ a : Nat, tw_fv E a0 20 = .ref a ∧ a ∈ L ∧ kp a = 330 := hv
    rw [hxr1]
    refine lv_iload_n hx hb dX12_nameOf_4 rfl (lv_at hl 2 rfl) ?_
    refine tw_iald (k := 330) (t0 := 0) (n := 150) (lo := 0) (hi := 9) hx hb hK TH hmxr1 hkxr1 (by decide) rfl rfl (i := x2) (vp_in_iff.mpr ⟨by  omega, by  omega⟩) dX12_nameOf_5 (fun hxe2a hxe2b => ?_)
    obtain ⟨xe2, exe2⟩ : ∃ z : Int32, tw_iv E xr1 (Int32.toNatClampNeg x2) = z := ⟨_, rfl⟩
    rw [exe2] at hxe2a hxe2b ⊢
    refine lv_bipush (v := 7) hx hb dX12_nameOf_6 (by decide) ?_
    refine lv_iadd hx hb dX12_nameOf_8 ?_
    refine lv_topi (fun zi3 ezi3 => ?_)
    have hzi3 : zi3.toInt = xe2.toInt + 7 := by rw [ezi3]; have : ((7 : Int32).toInt) = 7 := (by decide); have := ia_lo xe2; have := ia_hi xe2; exact (ia_add (by omega) (by omega)).trans (by omega)
    refine lv_i2l (v := (zi3).toInt64) hx hb dX12_nameOf_9 rfl ?_
    refine tw_topl (fun zl4 ezl4 => ?_)
    have hzl4 : zl4.toInt = zi3.toInt := by rw [ezl4];  exact (Int32.toInt_toInt64 _)
    refine lv_lstore_n (lv' := [(3, .long zl4), (0, .ref a0), (1, .int x1), (2, .int x2)]) hx hb dX12_nameOf_10 rfl hl (by decide) rfl (fun ls hl => ?_)
    refine lv_aload_n hx hb dX12_nameOf_11 rfl (lv_at hl 1 rfl) ?_
    refine tw_get (ci := 12) (C := RX12) (T := TX12) (N := 64) hx hb hB cx_inX12 hown hK TH hm0 hk0 rfl ⟨by decide, rfl⟩ 17 (by decide) cw_1210 (fun _ h9 => h9) dX12_nameOf_12 (fun hv => ?_)
    obtain ⟨xr5, hxr5, hmxr5, hkxr5⟩ : ∃ a : Nat, tw_fv E a0 17 = .ref a ∧ a ∈ L ∧ kp a = 317 := hv
    rw [hxr5]
    refine lv_iload_n hx hb dX12_nameOf_15 rfl (lv_at hl 2 rfl) ?_
    refine tw_aald (k := 317) (t0 := 6) (n := 16) (lo := 327) (hi := 0) (ty := .long) hx hb hK TH hmxr5 hkxr5 (by decide) rfl rfl (i := x1) (vp_in_iff.mpr ⟨by  omega, by  omega⟩) dX12_nameOf_16 (fun xr6 exr6 hmxr6 hkxr6 => ?_)
    have hkxr6 : kp xr6 = 327 := hkxr6
    refine lv_iload_n hx hb dX12_nameOf_17 rfl (lv_at hl 3 rfl) ?_
    refine tw_lald2 (k := 327) (n := 150) (lo := 0) (hi := 0) hx hb hK TH hmxr6 hkxr6 (by decide) rfl (i := x2) (vp_in_iff.mpr ⟨by  omega, by  omega⟩) dX12_nameOf_18 (fun xl7 exl7 => ?_)
    refine lv_lstore (lv' := [(5, .long xl7), (3, .long zl4), (0, .ref a0), (1, .int x1), (2, .int x2)]) hx hb dX12_nameOf_19 hl (by decide) rfl (fun ls hl => ?_)
    refine lv_lload hx hb dX12_nameOf_21 (lv_at hl 0 rfl) ?_
    refine tw_Sc (n := 1) (post := (fun v kq Lq Eq => (∃ x : Int32, v = some (.int x) ∧ 0 ≤ x.toInt ∧ x.toInt ≤ 8) ∧ kp = kq ∧ L = Lq ∧ E = Eq)) (As := [.long xl7]) (rest := []) ⟨hx, hb, hml, hown, hB⟩ (fun sz => tX12_longOf l D cs xl7  sz) cg_12_297_X12_longOf rfl rfl (by decide +kernel) ⟨(by first | exact Nat.le_of_ble_eq_true rfl | (dsimp only; omega) | omega), (by first | exact Nat.le_of_ble_eq_true rfl | (dsimp only; omega) | omega)⟩ hK hN TH hS hA rfl hl.1 rfl ((by first | exact Nat.le_of_ble_eq_true rfl | (dsimp only; omega) | omega)) dX12_nameOf_23 ⟨(by first | exact Nat.le_of_ble_eq_true rfl | (dsimp only; omega) | omega), (by first | exact Nat.le_of_ble_eq_true rfl | (dsimp only; omega) | omega)⟩ (fun v8 kp8 L8 E8 H locs hq8 hx8 TH hS => ?_)
    obtain ⟨⟨xc9, rfl, hxc9a, hxc9b⟩, rfl, rfl, rfl⟩ := hq8
    refine W.eq (g2 := F0 m 26 ls [.int xc9]) rfl ?_
    refine lv_iconst (v := 1) hx hb dX12_nameOf_26 (by decide) ?_
    refine lv_isub hx hb dX12_nameOf_27 ?_
    refine lv_topi (fun zi10 ezi10 => ?_)
    have hzi10 : zi10.toInt = xc9.toInt - 1 := by rw [ezi10]; have : ((1 : Int32).toInt) = 1 := (by decide); have := ia_lo xc9; have := ia_hi xc9; exact (ia_sub (by omega) (by omega)).trans (by omega)
    refine lv_istore (lv' := [(7, .int zi10), (5, .long xl7), (3, .long zl4), (0, .ref a0), (1, .int x1), (2, .int x2)]) hx hb dX12_nameOf_28 hl (by decide) rfl (fun ls hl => ?_)
    have hJ30 : ∀ (n30 : Nat) (y30_7 : Int32) (y30_3 : Int64) (H : Heap) (locs : List Loc) (ls : Array Slot), (-1) ≤ y30_7.toInt → y30_7.toInt ≤ 7 → y30_7.toInt + 1 ≤ (n30 : Int) → tw_H D cs kp L E A H → va_S A s.heap H locs → lv_has ls 8 [(7, .int y30_7), (5, .long xl7), (3, .long y30_3), (0, .ref a0), (1, .int x1), (2, .int x2)] → W p l e { frames := dd + 1 + 2, cells := 0, slots := 0, locals := 27 * (dd + 1) + 67 } s m [.ref a0, .int x1, .int x2].toArray below meth c H locs 0 0 (MQ below (tw_Q D cs kp0 L0 (fun v kq Lq Eq => (∃ x : Int32, v = some (.int x)) ∧ kp = kq ∧ L = Lq ∧ E = Eq) A) [.ref a0, .int x1, .int x2].toArray s 0 0 A) (F0 m 30 ls []) := by
      intro n30
      induction n30 using Nat.strongRecOn with
      | _ n30 ih30 =>
        intro y30_7 y30_3 H locs ls hy30_7a hy30_7b hmeas30 TH hS hl
        refine lv_iload hx hb dX12_nameOf_30 (lv_at hl 0 rfl) ?_
        refine lv_if_lt (tgt := 64) hx hb dX12_nameOf_32 (by decide) (fun hc11 => ?_) (fun hc11 => ?_)
        · have hf12 : y30_7.toInt < 0 := by have z := (fa_lt _ _).mp hc11; have : ((0 : Int32).toInt) = 0 := (by decide); omega
          refine lv_aload_n hx hb dX12_nameOf_64 rfl (lv_at hl 3 rfl) ?_
          refine lv_iload_n hx hb dX12_nameOf_65 rfl (lv_at hl 4 rfl) ?_
          refine lv_iload_n hx hb dX12_nameOf_66 rfl (lv_at hl 5 rfl) ?_
          refine tw_Vc (o := a0) (ci := 12) (n := 2) (post := (fun v kq Lq Eq => (∃ x : Int32, v = some (.int x) ∧ (-1) ≤ x.toInt ∧ x.toInt ≤ 149 ∧ (rt_kbk (rw_h E a0 x1.toInt) (rw_p E a0 x1.toInt) (rw_q E a0 x1.toInt) 150 x2.toInt (-1) x.toInt)) ∧ kp = kq ∧ L = Lq ∧ E = Eq)) (As := [.int x1, .int x2]) (rest := []) ⟨hx, hb, hml, hown, hB⟩ (fun sz => tX12_firstKid l D cs a0 x1 x2 hm0 hk0 (by omega) (by omega) sz) cg_12_291_X12_firstKid rfl rfl (by decide +kernel) ⟨(by first | exact Nat.le_of_ble_eq_true rfl | (dsimp only; omega) | omega), (by first | exact Nat.le_of_ble_eq_true rfl | (dsimp only; omega) | omega)⟩ hK hN TH hS hA rfl hm0 hk0 (by decide) rfl hl.1 rfl ((by first | exact Nat.le_of_ble_eq_true rfl | (dsimp only; omega) | omega)) dX12_nameOf_67 ⟨(by first | exact Nat.le_of_ble_eq_true rfl | (dsimp only; omega) | omega), (by first | exact Nat.le_of_ble_eq_true rfl | (dsimp only; omega) | omega)⟩ (fun v13 kp13 L13 E13 H locs hq13 hx13 TH hS => ?_)
          obtain ⟨⟨xc14, rfl, hxc14a, hxc14b, hpoxc14_0⟩, rfl, rfl, rfl⟩ := hq13
          refine W.eq (g2 := F0 m 70 ls [.int xc14]) rfl ?_
          refine lv_istore (lv' := [(7, .int xc14), (5, .long xl7), (3, .long y30_3), (0, .ref a0), (1, .int x1), (2, .int x2)]) hx hb dX12_nameOf_70 hl (by decide) rfl (fun ls hl => ?_)
          have hJ72 : ∀ (n72 : Nat) (y72_7 : Int32) (y72_3 : Int64) (H : Heap) (locs : List Loc) (ls : Array Slot), (-1) ≤ y72_7.toInt → y72_7.toInt ≤ 149 → (kd_is (rw_h E a0 (x1.toInt)) (rw_p E a0 (x1.toInt)) (x2.toInt) (y72_7.toInt)) → (rt_kz (rw_h E a0 (x1.toInt)) (rw_p E a0 (x1.toInt)) (rw_q E a0 (x1.toInt)) (x2.toInt) (y72_7.toInt) : Int) ≤ (n72 : Int) → tw_H D cs kp L E A H → va_S A s.heap H locs → lv_has ls 8 [(7, .int y72_7), (3, .long y72_3), (0, .ref a0), (1, .int x1), (2, .int x2)] → W p l e { frames := dd + 1 + 2, cells := 0, slots := 0, locals := 27 * (dd + 1) + 67 } s m [.ref a0, .int x1, .int x2].toArray below meth c H locs 0 0 (MQ below (tw_Q D cs kp0 L0 (fun v kq Lq Eq => (∃ x : Int32, v = some (.int x)) ∧ kp = kq ∧ L = Lq ∧ E = Eq) A) [.ref a0, .int x1, .int x2].toArray s 0 0 A) (F0 m 72 ls []) := by
            intro n72
            induction n72 using Nat.strongRecOn with
            | _ n72 ih72 =>
              intro y72_7 y72_3 H locs ls hy72_7a hy72_7b hin72_0 hmeas72 TH hS hl
              refine lv_iload hx hb dX12_nameOf_72 (lv_at hl 0 rfl) ?_
              refine lv_iconst (v := (-1)) hx hb dX12_nameOf_74 (by decide) ?_
              refine lv_icmp_eq (tgt := 111) hx hb dX12_nameOf_75 (by decide) (fun hc15 => ?_) (fun hc15 => ?_)
              · have hf16 : y72_7.toInt = (-1) := by have z := (fa_eq _ _).mp hc15; have : (((-1) : Int32).toInt) = (-1) := (by decide); omega
                refine lv_lload_n hx hb dX12_nameOf_111 rfl (lv_at hl 1 rfl) ?_
                refine lv_l2i (v := (y72_3).toInt32) hx hb dX12_nameOf_112 rfl ?_
                refine lv_topi (fun zi17 ezi17 => ?_)
                exact tw_iret hx hb hr hlocks TH hS hex ⟨⟨_, rfl⟩, rfl, rfl, rfl⟩ ((by first | exact Nat.le_of_ble_eq_true rfl | (dsimp only; omega) | omega)) ((by first | exact Nat.le_of_ble_eq_true rfl | (dsimp only; omega) | omega)) dX12_nameOf_113
              · have hf18 : ¬ (y72_7.toInt = (-1)) := fun q => hc15 ((fa_eq _ _).mpr (by have : (((-1) : Int32).toInt) = (-1) := (by decide); omega))
                have hkc7 := hin72_0.resolve_left (by omega)
                refine lv_lload_n hx hb dX12_nameOf_78 rfl (lv_at hl 1 rfl) ?_
                refine lv_ldc2 hx hb hown (hB _ cw_1871) dX12_nameOf_79 ?_
                refine lv_lmul hx hb dX12_nameOf_82 ?_
                refine tw_topl (fun zl19 ezl19 => ?_)
                refine lv_aload_n hx hb dX12_nameOf_83 rfl (lv_at hl 2 rfl) ?_
                refine lv_iload_n hx hb dX12_nameOf_84 rfl (lv_at hl 3 rfl) ?_
                refine lv_iload hx hb dX12_nameOf_85 (lv_at hl 0 rfl) ?_
                refine tw_Vc (o := a0) (ci := 12) (n := 2) (post := (fun v kq Lq Eq => (∃ x : Int32, v = some (.int x)) ∧ kp = kq ∧ L = Lq ∧ E = Eq)) (As := [.int x1, .int y72_7]) (rest := [.long zl19]) ⟨hx, hb, hml, hown, hB⟩ (fun sz => ih a0 x1 y72_7 hm0 hk0 (by omega) (by omega) (by omega) (by omega) (by  exact (hin72_0.resolve_left (by omega)).2.2.2.1) (by  have hkc := hin72_0.resolve_left (by omega); have w := rt_mu_kid (q := rw_q E a0 (x1.toInt)) hg0.1 hg0.2.1 hkc; omega) hg0 sz) cg_12_539_X12_nameOf rfl rfl (by decide +kernel) ⟨(by first | exact Nat.le_of_ble_eq_true rfl | (dsimp only; omega) | omega), (by first | exact Nat.le_of_ble_eq_true rfl | (dsimp only; omega) | omega)⟩ hK hN TH hS hA rfl hm0 hk0 (by decide) rfl hl.1 rfl ((by first | exact Nat.le_of_ble_eq_true rfl | (dsimp only; omega) | omega)) dX12_nameOf_87 ⟨(by first | exact Nat.le_of_ble_eq_true rfl | (dsimp only; omega) | omega), (by first | exact Nat.le_of_ble_eq_true rfl | (dsimp only; omega) | omega)⟩ (fun v20 kp20 L20 E20 H locs hq20 hx20 TH hS => ?_)
                obtain ⟨⟨xc21, rfl⟩, rfl, rfl, rfl⟩ := hq20
                refine W.eq (g2 := F0 m 90 ls [.int xc21, .long zl19]) rfl ?_
                refine lv_i2l (v := (xc21).toInt64) hx hb dX12_nameOf_90 rfl ?_
                refine tw_topl (fun zl22 ezl22 => ?_)
                have hzl22 : zl22.toInt = xc21.toInt := by rw [ezl22];  exact (Int32.toInt_toInt64 _)
                refine lv_ladd hx hb dX12_nameOf_91 ?_
                refine tw_topl (fun zl23 ezl23 => ?_)
                refine lv_lconst (v := 1) hx hb dX12_nameOf_92 (by decide) ?_
                refine tw_topl (fun zl24 ezl24 => ?_)
                have hzl24 : zl24.toInt = 1 := by rw [ezl24]; decide
                refine lv_ladd hx hb dX12_nameOf_93 ?_
                refine tw_topl (fun zl25 ezl25 => ?_)
                refine lv_ldc2 hx hb hown (hB _ cw_1870) dX12_nameOf_94 ?_
                refine lv_lrem hx hb dX12_nameOf_97 (by decide) ?_
                refine tw_topl (fun zl26 ezl26 => ?_)
                refine lv_lstore_n (lv' := [(3, .long zl26), (7, .int y72_7), (0, .ref a0), (1, .int x1), (2, .int x2)]) hx hb dX12_nameOf_98 rfl hl (by decide) rfl (fun ls hl => ?_)
                refine lv_aload_n hx hb dX12_nameOf_99 rfl (lv_at hl 2 rfl) ?_
                refine lv_iload_n hx hb dX12_nameOf_100 rfl (lv_at hl 3 rfl) ?_
                refine lv_iload hx hb dX12_nameOf_101 (lv_at hl 1 rfl) ?_
                refine tw_Vc (o := a0) (ci := 12) (n := 2) (post := (fun v kq Lq Eq => (∃ x : Int32, v = some (.int x) ∧ (-1) ≤ x.toInt ∧ x.toInt ≤ 149 ∧ (rt_kbk (rw_h E a0 x1.toInt) (rw_p E a0 x1.toInt) (rw_q E a0 x1.toInt) 150 (rw_p E a0 x1.toInt (y72_7.toInt).toNat) (rw_q E a0 x1.toInt (y72_7.toInt).toNat) x.toInt)) ∧ kp = kq ∧ L = Lq ∧ E = Eq)) (As := [.int x1, .int y72_7]) (rest := []) ⟨hx, hb, hml, hown, hB⟩ (fun sz => tX12_nextKid l D cs a0 x1 y72_7 hm0 hk0 (by omega) (by omega) (by omega) (by omega) sz) cg_12_294_X12_nextKid rfl rfl (by decide +kernel) ⟨(by first | exact Nat.le_of_ble_eq_true rfl | (dsimp only; omega) | omega), (by first | exact Nat.le_of_ble_eq_true rfl | (dsimp only; omega) | omega)⟩ hK hN TH hS hA rfl hm0 hk0 (by decide) rfl hl.1 rfl ((by first | exact Nat.le_of_ble_eq_true rfl | (dsimp only; omega) | omega)) dX12_nameOf_103 ⟨(by first | exact Nat.le_of_ble_eq_true rfl | (dsimp only; omega) | omega), (by first | exact Nat.le_of_ble_eq_true rfl | (dsimp only; omega) | omega)⟩ (fun v27 kp27 L27 E27 H locs hq27 hx27 TH hS => ?_)
                obtain ⟨⟨xc28, rfl, hxc28a, hxc28b, hpoxc28_0⟩, rfl, rfl, rfl⟩ := hq27
                refine W.eq (g2 := F0 m 106 ls [.int xc28]) rfl ?_
                refine lv_istore (lv' := [(7, .int xc28), (3, .long zl26), (0, .ref a0), (1, .int x1), (2, .int x2)]) hx hb dX12_nameOf_106 hl (by decide) rfl (fun ls hl => ?_)
                refine lv_goto (tgt := 72) hx hb dX12_nameOf_108 (by decide) ?_
                exact ih72 (n72 - 1) (by  have hkc := hin72_0.resolve_left (by omega); have q := hpoxc28_0; rw [hkc.2.2.2.2] at q; have hfall := rt_kz_fall hkc.1 hkc.2.2 q;  omega) xc28 zl26 _ _ ls (by omega) (by omega) (by  have hkc := hin72_0.resolve_left (by omega); have q := hpoxc28_0; rw [hkc.2.2.2.2] at q; exact kd_is_of q) (by  have hkc := hin72_0.resolve_left (by omega); have q := hpoxc28_0; rw [hkc.2.2.2.2] at q; have hfall := rt_kz_fall hkc.1 hkc.2.2 q;  omega) TH hS (lv_sub hl [0, 1, 2, 3, 4] rfl)
          exact hJ72 151 xc14 y30_3 _ _ ls (by omega) (by omega) (by  exact kd_is_of hpoxc14_0) (by  have := rt_kz_le (h := rw_h E a0 (x1.toInt)) (p := rw_p E a0 (x1.toInt)) (q := rw_q E a0 (x1.toInt)) (n := x2.toInt) (c := xc14.toInt); omega) TH hS (lv_sub hl [0, 2, 3, 4, 5] rfl)
        · have hf29 : ¬ (y30_7.toInt < 0) := fun q => hc11 ((fa_lt _ _).mpr (by have : ((0 : Int32).toInt) = 0 := (by decide); omega))
          refine lv_lload_n hx hb dX12_nameOf_35 rfl (lv_at hl 2 rfl) ?_
          refine lv_ldc2 hx hb hown (hB _ cw_1869) dX12_nameOf_36 ?_
          refine lv_lmul hx hb dX12_nameOf_39 ?_
          refine tw_topl (fun zl30 ezl30 => ?_)
          refine lv_lload hx hb dX12_nameOf_40 (lv_at hl 1 rfl) ?_
          refine lv_bipush (v := 8) hx hb dX12_nameOf_42 (by decide) ?_
          refine lv_iload hx hb dX12_nameOf_44 (lv_at hl 0 rfl) ?_
          refine lv_imul hx hb dX12_nameOf_46 ?_
          refine lv_topi (fun zi31 ezi31 => ?_)
          have hzi31 : zi31.toInt = 8 * y30_7.toInt := by rw [ezi31]; exact (ia_mul (by have hc : ((8 : Int32).toInt) = 8 := (by decide); rw [hc]; omega) (by have hc : ((8 : Int32).toInt) = 8 := (by decide); rw [hc]; omega)).trans (by have hc : ((8 : Int32).toInt) = 8 := (by decide); rw [hc])
          refine lv_lushr (v := ((xl7).toUInt64 >>> (((zi31 : Int32)).toInt64.toUInt64 &&& Int64.toUInt64 63)).toInt64) hx hb dX12_nameOf_47 rfl ?_
          refine tw_topl (fun zl32 ezl32 => ?_)
          refine lv_ldc2 hx hb hown (hB _ cw_1679) dX12_nameOf_48 ?_
          refine lv_land hx hb dX12_nameOf_51 ?_
          refine tw_topl (fun zl33 ezl33 => ?_)
          refine lv_ladd hx hb dX12_nameOf_52 ?_
          refine tw_topl (fun zl34 ezl34 => ?_)
          refine lv_ldc2 hx hb hown (hB _ cw_1870) dX12_nameOf_53 ?_
          refine lv_lrem hx hb dX12_nameOf_56 (by decide) ?_
          refine tw_topl (fun zl35 ezl35 => ?_)
          refine lv_lstore_n (lv' := [(3, .long zl35), (7, .int y30_7), (5, .long xl7), (0, .ref a0), (1, .int x1), (2, .int x2)]) hx hb dX12_nameOf_57 rfl hl (by decide) rfl (fun ls hl => ?_)
          obtain ⟨zi36, ezi36⟩ : ∃ z : Int32, z = y30_7 + Int32.ofInt (-1) := ⟨_, rfl⟩
          have hzi36 : zi36.toInt = y30_7.toInt + (-1) := by rw [ezi36]; have : ((Int32.ofInt (-1)).toInt) = (-1) := (by decide);  exact (ia_add (by omega) (by omega)).trans (by omega)
          refine lv_iinc (v := zi36) (lv' := [(7, .int zi36), (3, .long zl35), (5, .long xl7), (0, .ref a0), (1, .int x1), (2, .int x2)]) hx hb dX12_nameOf_58 hl (k := 1) rfl ezi36.symm (by decide) rfl (fun ls hl => ?_)
          refine lv_goto (tgt := 30) hx hb dX12_nameOf_61 (by decide) ?_
          exact ih30 (n30 - 1) (by   omega) zi36 zl35 _ _ ls (by omega) (by omega) (by   omega) TH hS (lv_sub hl [0, 2, 1, 3, 4, 5] rfl)
    exact hJ30 9 zi10 zl4 _ _ ls (by omega) (by omega) (by   omega) TH hS (lv_sub hl [0, 1, 2, 3, 4, 5] rfl)
set_option maxHeartbeats 4000000 in
set_option maxRecDepth 100000 in
theorem tX12_isSame (l : Launch) (D : va_G) (cs : Nat → ClassId) (dd : Nat) : ∀ {kp : Nat → Nat} {L : List Nat} {E : Nat → va_E} (a0 : Nat) (x1 : Int32) (x2 : Int32) (x3 : Int32) (x4 : Int32) (hm0 : a0 ∈ L) (hk0 : kp a0 = 12) (hp1a : 0 ≤ x1.toInt) (hp1b : x1.toInt ≤ 11) (hp2a : 0 ≤ x2.toInt) (hp2b : x2.toInt ≤ 149) (hp3a : 0 ≤ x3.toInt) (hp3b : x3.toInt ≤ 11) (hp4a : 0 ≤ x4.toInt) (hp4b : x4.toInt ≤ 149) (hpre0 : rw_h E a0 x1.toInt (x2.toInt).toNat ≠ 0) (hpre1 : (rt_mu (rw_h E a0 x1.toInt) (rw_p E a0 x1.toInt) (rw_q E a0 x1.toInt) x2.toInt : Int) + 1 ≤ (dd : Int)) (hg0 : rw_ok E a0 (x1.toInt)) (sz : Nat), Met l yX12_isSame (.code yX12_isSame cX12_isSame 7 (some .boolean) :: cx_big) { frames := dd + 2, cells := 0, slots := 0, locals := 26 * (dd) + 67 } (tw_P D cs kp L E [.ref a0, .int x1, .int x2, .int x3, .int x4] sz) (tw_Q D cs kp L (fun v kq Lq Eq => (∃ x : Int32, v = some (.int x) ∧ 0 ≤ x.toInt ∧ x.toInt ≤ 1) ∧ kp = kq ∧ L = Lq ∧ E = Eq) (va_A (va_pl L E) sz)) 0 0 (va_A (va_pl L E) sz) := by
  induction dd with
  | zero =>
    intro kp L E a0 x1 x2 x3 x4 hm0 hk0 hp1a hp1b hp2a hp2b hp3a hp3b hp4a hp4b hpre0 hpre1 hg0 sz
    exfalso
    omega
  | succ dd ih =>
    intro kp L E a0 x1 x2 x3 x4 hm0 hk0 hp1a hp1b hp2a hp2b hp3a hp3b hp4a hp4b hpre0 hpre1 hg0 sz
    refine tw_ofW (by decide) (Nat.le_of_ble_eq_true rfl) ?_
    intro p e s m below meth c A ls hx hb hr hml hB hown hlocks hK hN hA TH hS hl
    have hown : s.vm.findClass "TreeMergeModel" = some m.cls := hown
    have hl : lv_has ls 7 [(0, .ref a0), (1, .int x1), (2, .int x2), (3, .int x3), (4, .int x4)] := hl
    obtain ⟨kp0, ekp⟩ : ∃ z, z = kp := ⟨_, rfl⟩
    obtain ⟨L0, eL⟩ : ∃ z, z = L := ⟨_, rfl⟩
    rw [show tw_Q D cs kp L = tw_Q D cs kp0 L0 by rw [ekp, eL]]
    have hex : ∀ a : Nat, a ∈ L0 → a ∈ L ∧ kp a = kp0 a := fun a h => ⟨by rw [← eL]; exact h, by rw [ekp]⟩
    refine lv_aload_n hx hb dX12_isSame_0 rfl (lv_at hl 0 rfl) ?_
    refine tw_get (ci := 12) (C := RX12) (T := TX12) (N := 64) hx hb hB cx_inX12 hown hK TH hm0 hk0 rfl ⟨by decide, rfl⟩ 20 (by decide) cw_1213 (fun _ h9 => h9) dX12_isSame_1 (fun hv => ?_)
    obtain ⟨xr1, hxr1, hmxr1, hkxr1⟩ : ∃ a : Nat, tw_fv E a0 20 = .ref a ∧ a ∈ L ∧ kp a = 330 := hv
    rw [hxr1]
    refine lv_iload_n hx hb dX12_isSame_4 rfl (lv_at hl 2 rfl) ?_
    refine tw_iald (k := 330) (t0 := 0) (n := 150) (lo := 0) (hi := 9) hx hb hK TH hmxr1 hkxr1 (by decide) rfl rfl (i := x2) (vp_in_iff.mpr ⟨by  omega, by  omega⟩) dX12_isSame_5 (fun hxe2a hxe2b => ?_)
    obtain ⟨xe2, exe2⟩ : ∃ z : Int32, tw_iv E xr1 (Int32.toNatClampNeg x2) = z := ⟨_, rfl⟩
    rw [exe2] at hxe2a hxe2b ⊢
    refine lv_aload_n hx hb dX12_isSame_6 rfl (lv_at hl 0 rfl) ?_
    refine tw_get (ci := 12) (C := RX12) (T := TX12) (N := 64) hx hb hB cx_inX12 hown hK TH hm0 hk0 rfl ⟨by decide, rfl⟩ 20 (by decide) cw_1213 (fun _ h9 => h9) dX12_isSame_7 (fun hv => ?_)
    rw [hxr1]
    refine lv_iload hx hb dX12_isSame_10 (lv_at hl 4 rfl) ?_
    refine tw_iald (k := 330) (t0 := 0) (n := 150) (lo := 0) (hi := 9) hx hb hK TH hmxr1 hkxr1 (by decide) rfl rfl (i := x4) (vp_in_iff.mpr ⟨by  omega, by  omega⟩) dX12_isSame_12 (fun hxe3a hxe3b => ?_)
    obtain ⟨xe3, exe3⟩ : ∃ z : Int32, tw_iv E xr1 (Int32.toNatClampNeg x4) = z := ⟨_, rfl⟩
    rw [exe3] at hxe3a hxe3b ⊢
    refine lv_icmp_ne (tgt := 37) hx hb dX12_isSame_13 (by decide) (fun hc4 => ?_) (fun hc4 => ?_)
    · have hf5 : ¬ (xe2.toInt = xe3.toInt) := fun q => hc4 ((fa_eq _ _).mpr (by  omega))
      refine lv_iconst (v := 0) hx hb dX12_isSame_37 (by decide) ?_
      exact tw_zret hx hb hr hlocks (by decide) TH hS hex ⟨⟨_, rfl, (show 0 ≤ Int32.toInt 0 from by have : ((0 : Int32).toInt) = 0 := (by decide); omega), (show Int32.toInt 0 ≤ 1 from by have : ((0 : Int32).toInt) = 0 := (by decide); omega)⟩, rfl, rfl, rfl⟩ ((by first | exact Nat.le_of_ble_eq_true rfl | (dsimp only; omega) | omega)) ((by first | exact Nat.le_of_ble_eq_true rfl | (dsimp only; omega) | omega)) dX12_isSame_38
    · have hf6 : xe2.toInt = xe3.toInt := by have z := (fa_eq _ _).mp hc4;  omega
      refine lv_aload_n hx hb dX12_isSame_16 rfl (lv_at hl 0 rfl) ?_
      refine tw_get (ci := 12) (C := RX12) (T := TX12) (N := 64) hx hb hB cx_inX12 hown hK TH hm0 hk0 rfl ⟨by decide, rfl⟩ 17 (by decide) cw_1210 (fun _ h9 => h9) dX12_isSame_17 (fun hv => ?_)
      obtain ⟨xr7, hxr7, hmxr7, hkxr7⟩ : ∃ a : Nat, tw_fv E a0 17 = .ref a ∧ a ∈ L ∧ kp a = 317 := hv
      rw [hxr7]
      refine lv_iload_n hx hb dX12_isSame_20 rfl (lv_at hl 1 rfl) ?_
      refine tw_aald (k := 317) (t0 := 6) (n := 16) (lo := 327) (hi := 0) (ty := .long) hx hb hK TH hmxr7 hkxr7 (by decide) rfl rfl (i := x1) (vp_in_iff.mpr ⟨by  omega, by  omega⟩) dX12_isSame_21 (fun xr8 exr8 hmxr8 hkxr8 => ?_)
      have hkxr8 : kp xr8 = 327 := hkxr8
      refine lv_iload_n hx hb dX12_isSame_22 rfl (lv_at hl 2 rfl) ?_
      refine tw_lald2 (k := 327) (n := 150) (lo := 0) (hi := 0) hx hb hK TH hmxr8 hkxr8 (by decide) rfl (i := x2) (vp_in_iff.mpr ⟨by  omega, by  omega⟩) dX12_isSame_23 (fun xl9 exl9 => ?_)
      refine lv_aload_n hx hb dX12_isSame_24 rfl (lv_at hl 0 rfl) ?_
      refine tw_get (ci := 12) (C := RX12) (T := TX12) (N := 64) hx hb hB cx_inX12 hown hK TH hm0 hk0 rfl ⟨by decide, rfl⟩ 17 (by decide) cw_1210 (fun _ h9 => h9) dX12_isSame_25 (fun hv => ?_)
      rw [hxr7]
      refine lv_iload_n hx hb dX12_isSame_28 rfl (lv_at hl 3 rfl) ?_
      refine tw_aald (k := 317) (t0 := 6) (n := 16) (lo := 327) (hi := 0) (ty := .long) hx hb hK TH hmxr7 hkxr7 (by decide) rfl rfl (i := x3) (vp_in_iff.mpr ⟨by  omega, by  omega⟩) dX12_isSame_29 (fun xr10 exr10 hmxr10 hkxr10 => ?_)
      have hkxr10 : kp xr10 = 327 := hkxr10
      refine lv_iload hx hb dX12_isSame_30 (lv_at hl 4 rfl) ?_
      refine tw_lald2 (k := 327) (n := 150) (lo := 0) (hi := 0) hx hb hK TH hmxr10 hkxr10 (by decide) rfl (i := x4) (vp_in_iff.mpr ⟨by  omega, by  omega⟩) dX12_isSame_32 (fun xl11 exl11 => ?_)
      refine W.lcmp hx hb dX12_isSame_33 ?_
      have hzi12 := ia_lc xl9 xl11
      generalize lg_cmp xl9 xl11 = zi12 at hzi12 ⊢
      refine lv_if_eq (tgt := 39) hx hb dX12_isSame_34 (by decide) (fun hc13 => ?_) (fun hc13 => ?_)
      · have hf14 : zi12.toInt = 0 := by have z := (fa_eq _ _).mp hc13; have : ((0 : Int32).toInt) = 0 := (by decide); omega
        refine lv_aload_n hx hb dX12_isSame_39 rfl (lv_at hl 0 rfl) ?_
        refine lv_iload_n hx hb dX12_isSame_40 rfl (lv_at hl 1 rfl) ?_
        refine lv_iload_n hx hb dX12_isSame_41 rfl (lv_at hl 2 rfl) ?_
        refine tw_Vc (o := a0) (ci := 12) (n := 2) (post := (fun v kq Lq Eq => (∃ x : Int32, v = some (.int x) ∧ (-1) ≤ x.toInt ∧ x.toInt ≤ 149 ∧ (rt_kbk (rw_h E a0 x1.toInt) (rw_p E a0 x1.toInt) (rw_q E a0 x1.toInt) 150 x2.toInt (-1) x.toInt)) ∧ kp = kq ∧ L = Lq ∧ E = Eq)) (As := [.int x1, .int x2]) (rest := []) ⟨hx, hb, hml, hown, hB⟩ (fun sz => tX12_firstKid l D cs a0 x1 x2 hm0 hk0 (by omega) (by omega) sz) cg_12_291_X12_firstKid rfl rfl (by decide +kernel) ⟨(by first | exact Nat.le_of_ble_eq_true rfl | (dsimp only; omega) | omega), (by first | exact Nat.le_of_ble_eq_true rfl | (dsimp only; omega) | omega)⟩ hK hN TH hS hA rfl hm0 hk0 (by decide) rfl hl.1 rfl ((by first | exact Nat.le_of_ble_eq_true rfl | (dsimp only; omega) | omega)) dX12_isSame_42 ⟨(by first | exact Nat.le_of_ble_eq_true rfl | (dsimp only; omega) | omega), (by first | exact Nat.le_of_ble_eq_true rfl | (dsimp only; omega) | omega)⟩ (fun v15 kp15 L15 E15 H locs hq15 hx15 TH hS => ?_)
        obtain ⟨⟨xc16, rfl, hxc16a, hxc16b, hpoxc16_0⟩, rfl, rfl, rfl⟩ := hq15
        refine W.eq (g2 := F0 m 45 ls [.int xc16]) rfl ?_
        refine lv_istore (lv' := [(5, .int xc16), (0, .ref a0), (1, .int x1), (2, .int x2), (3, .int x3), (4, .int x4)]) hx hb dX12_isSame_45 hl (by decide) rfl (fun ls hl => ?_)
        refine lv_aload_n hx hb dX12_isSame_47 rfl (lv_at hl 1 rfl) ?_
        refine lv_iload_n hx hb dX12_isSame_48 rfl (lv_at hl 4 rfl) ?_
        refine lv_iload hx hb dX12_isSame_49 (lv_at hl 5 rfl) ?_
        refine tw_Vc (o := a0) (ci := 12) (n := 2) (post := (fun v kq Lq Eq => (∃ x : Int32, v = some (.int x) ∧ (-1) ≤ x.toInt ∧ x.toInt ≤ 149 ∧ (rt_kbk (rw_h E a0 x3.toInt) (rw_p E a0 x3.toInt) (rw_q E a0 x3.toInt) 150 x4.toInt (-1) x.toInt)) ∧ kp = kq ∧ L = Lq ∧ E = Eq)) (As := [.int x3, .int x4]) (rest := []) ⟨hx, hb, hml, hown, hB⟩ (fun sz => tX12_firstKid l D cs a0 x3 x4 hm0 hk0 (by omega) (by omega) sz) cg_12_291_X12_firstKid rfl rfl (by decide +kernel) ⟨(by first | exact Nat.le_of_ble_eq_true rfl | (dsimp only; omega) | omega), (by first | exact Nat.le_of_ble_eq_true rfl | (dsimp only; omega) | omega)⟩ hK hN TH hS hA rfl hm0 hk0 (by decide) rfl hl.1 rfl ((by first | exact Nat.le_of_ble_eq_true rfl | (dsimp only; omega) | omega)) dX12_isSame_51 ⟨(by first | exact Nat.le_of_ble_eq_true rfl | (dsimp only; omega) | omega), (by first | exact Nat.le_of_ble_eq_true rfl | (dsimp only; omega) | omega)⟩ (fun v17 kp17 L17 E17 H locs hq17 hx17 TH hS => ?_)
        obtain ⟨⟨xc18, rfl, hxc18a, hxc18b, hpoxc18_0⟩, rfl, rfl, rfl⟩ := hq17
        refine W.eq (g2 := F0 m 54 ls [.int xc18]) rfl ?_
        refine lv_istore (lv' := [(6, .int xc18), (5, .int xc16), (0, .ref a0), (1, .int x1), (2, .int x2), (3, .int x3), (4, .int x4)]) hx hb dX12_isSame_54 hl (by decide) rfl (fun ls hl => ?_)
        have hJ56 : ∀ (n56 : Nat) (y56_6 : Int32) (y56_5 : Int32) (H : Heap) (locs : List Loc) (ls : Array Slot), (-1) ≤ y56_6.toInt → y56_6.toInt ≤ 149 → (-1) ≤ y56_5.toInt → y56_5.toInt ≤ 149 → (kd_is (rw_h E a0 (x1.toInt)) (rw_p E a0 (x1.toInt)) (x2.toInt) (y56_5.toInt)) → (rt_kz (rw_h E a0 (x1.toInt)) (rw_p E a0 (x1.toInt)) (rw_q E a0 (x1.toInt)) (x2.toInt) (y56_5.toInt) : Int) ≤ (n56 : Int) → tw_H D cs kp L E A H → va_S A s.heap H locs → lv_has ls 7 [(6, .int y56_6), (5, .int y56_5), (0, .ref a0), (1, .int x1), (2, .int x2), (3, .int x3)] → W p l e { frames := dd + 1 + 2, cells := 0, slots := 0, locals := 26 * (dd + 1) + 67 } s m [.ref a0, .int x1, .int x2, .int x3, .int x4].toArray below meth c H locs 0 0 (MQ below (tw_Q D cs kp0 L0 (fun v kq Lq Eq => (∃ x : Int32, v = some (.int x) ∧ 0 ≤ x.toInt ∧ x.toInt ≤ 1) ∧ kp = kq ∧ L = Lq ∧ E = Eq) A) [.ref a0, .int x1, .int x2, .int x3, .int x4].toArray s 0 0 A) (F0 m 56 ls []) := by
          intro n56
          induction n56 using Nat.strongRecOn with
          | _ n56 ih56 =>
            intro y56_6 y56_5 H locs ls hy56_6a hy56_6b hy56_5a hy56_5b hin56_0 hmeas56 TH hS hl
            refine lv_iload hx hb dX12_isSame_56 (lv_at hl 1 rfl) ?_
            refine lv_iconst (v := (-1)) hx hb dX12_isSame_58 (by decide) ?_
            refine lv_icmp_eq (tgt := 104) hx hb dX12_isSame_59 (by decide) (fun hc19 => ?_) (fun hc19 => ?_)
            · have hf20 : y56_5.toInt = (-1) := by have z := (fa_eq _ _).mp hc19; have : (((-1) : Int32).toInt) = (-1) := (by decide); omega
              refine lv_iload hx hb dX12_isSame_104 (lv_at hl 1 rfl) ?_
              refine lv_iconst (v := (-1)) hx hb dX12_isSame_106 (by decide) ?_
              refine lv_icmp_ne (tgt := 120) hx hb dX12_isSame_107 (by decide) (fun hc21 => ?_) (fun hc21 => ?_)
              · have hf22 : ¬ (y56_5.toInt = (-1)) := fun q => hc21 ((fa_eq _ _).mpr (by have : (((-1) : Int32).toInt) = (-1) := (by decide); omega))
                exfalso; omega
              · have hf23 : y56_5.toInt = (-1) := by have z := (fa_eq _ _).mp hc21; have : (((-1) : Int32).toInt) = (-1) := (by decide); omega
                refine lv_iload hx hb dX12_isSame_110 (lv_at hl 0 rfl) ?_
                refine lv_iconst (v := (-1)) hx hb dX12_isSame_112 (by decide) ?_
                refine lv_icmp_ne (tgt := 120) hx hb dX12_isSame_113 (by decide) (fun hc24 => ?_) (fun hc24 => ?_)
                · have hf25 : ¬ (y56_6.toInt = (-1)) := fun q => hc24 ((fa_eq _ _).mpr (by have : (((-1) : Int32).toInt) = (-1) := (by decide); omega))
                  refine lv_iconst (v := 0) hx hb dX12_isSame_120 (by decide) ?_
                  exact tw_zret hx hb hr hlocks (by decide) TH hS hex ⟨⟨_, rfl, (show 0 ≤ Int32.toInt 0 from by have : ((0 : Int32).toInt) = 0 := (by decide); omega), (show Int32.toInt 0 ≤ 1 from by have : ((0 : Int32).toInt) = 0 := (by decide); omega)⟩, rfl, rfl, rfl⟩ ((by first | exact Nat.le_of_ble_eq_true rfl | (dsimp only; omega) | omega)) ((by first | exact Nat.le_of_ble_eq_true rfl | (dsimp only; omega) | omega)) dX12_isSame_121
                · have hf26 : y56_6.toInt = (-1) := by have z := (fa_eq _ _).mp hc24; have : (((-1) : Int32).toInt) = (-1) := (by decide); omega
                  refine lv_iconst (v := 1) hx hb dX12_isSame_116 (by decide) ?_
                  refine lv_goto (tgt := 121) hx hb dX12_isSame_117 (by decide) ?_
                  exact tw_zret hx hb hr hlocks (by decide) TH hS hex ⟨⟨_, rfl, (show 0 ≤ Int32.toInt 1 from by have : ((1 : Int32).toInt) = 1 := (by decide); omega), (show Int32.toInt 1 ≤ 1 from by have : ((1 : Int32).toInt) = 1 := (by decide); omega)⟩, rfl, rfl, rfl⟩ ((by first | exact Nat.le_of_ble_eq_true rfl | (dsimp only; omega) | omega)) ((by first | exact Nat.le_of_ble_eq_true rfl | (dsimp only; omega) | omega)) dX12_isSame_121
            · have hf27 : ¬ (y56_5.toInt = (-1)) := fun q => hc19 ((fa_eq _ _).mpr (by have : (((-1) : Int32).toInt) = (-1) := (by decide); omega))
              refine lv_iload hx hb dX12_isSame_62 (lv_at hl 0 rfl) ?_
              refine lv_iconst (v := (-1)) hx hb dX12_isSame_64 (by decide) ?_
              refine lv_icmp_eq (tgt := 104) hx hb dX12_isSame_65 (by decide) (fun hc28 => ?_) (fun hc28 => ?_)
              · have hf29 : y56_6.toInt = (-1) := by have z := (fa_eq _ _).mp hc28; have : (((-1) : Int32).toInt) = (-1) := (by decide); omega
                refine lv_iload hx hb dX12_isSame_104 (lv_at hl 1 rfl) ?_
                refine lv_iconst (v := (-1)) hx hb dX12_isSame_106 (by decide) ?_
                refine lv_icmp_ne (tgt := 120) hx hb dX12_isSame_107 (by decide) (fun hc30 => ?_) (fun hc30 => ?_)
                · have hf31 : ¬ (y56_5.toInt = (-1)) := fun q => hc30 ((fa_eq _ _).mpr (by have : (((-1) : Int32).toInt) = (-1) := (by decide); omega))
                  refine lv_iconst (v := 0) hx hb dX12_isSame_120 (by decide) ?_
                  exact tw_zret hx hb hr hlocks (by decide) TH hS hex ⟨⟨_, rfl, (show 0 ≤ Int32.toInt 0 from by have : ((0 : Int32).toInt) = 0 := (by decide); omega), (show Int32.toInt 0 ≤ 1 from by have : ((0 : Int32).toInt) = 0 := (by decide); omega)⟩, rfl, rfl, rfl⟩ ((by first | exact Nat.le_of_ble_eq_true rfl | (dsimp only; omega) | omega)) ((by first | exact Nat.le_of_ble_eq_true rfl | (dsimp only; omega) | omega)) dX12_isSame_121
                · have hf32 : y56_5.toInt = (-1) := by have z := (fa_eq _ _).mp hc30; have : (((-1) : Int32).toInt) = (-1) := (by decide); omega
                  exfalso; omega
              · have hf33 : ¬ (y56_6.toInt = (-1)) := fun q => hc28 ((fa_eq _ _).mpr (by have : (((-1) : Int32).toInt) = (-1) := (by decide); omega))
                have hkc5 := hin56_0.resolve_left (by omega)
                refine lv_aload_n hx hb dX12_isSame_68 rfl (lv_at hl 2 rfl) ?_
                refine lv_iload_n hx hb dX12_isSame_69 rfl (lv_at hl 3 rfl) ?_
                refine lv_iload hx hb dX12_isSame_70 (lv_at hl 1 rfl) ?_
                refine lv_iload_n hx hb dX12_isSame_72 rfl (lv_at hl 5 rfl) ?_
                refine lv_iload hx hb dX12_isSame_73 (lv_at hl 0 rfl) ?_
                refine tw_Vc (o := a0) (ci := 12) (n := 4) (post := (fun v kq Lq Eq => (∃ x : Int32, v = some (.int x) ∧ 0 ≤ x.toInt ∧ x.toInt ≤ 1) ∧ kp = kq ∧ L = Lq ∧ E = Eq)) (As := [.int x1, .int y56_5, .int x3, .int y56_6]) (rest := []) ⟨hx, hb, hml, hown, hB⟩ (fun sz => ih a0 x1 y56_5 x3 y56_6 hm0 hk0 (by omega) (by omega) (by omega) (by omega) (by omega) (by omega) (by omega) (by omega) (by  exact (hin56_0.resolve_left (by omega)).2.2.2.1) (by  have hkc := hin56_0.resolve_left (by omega); have w := rt_mu_kid (q := rw_q E a0 (x1.toInt)) hg0.1 hg0.2.1 hkc; omega) hg0 sz) cg_12_557_X12_isSame rfl rfl (by decide +kernel) ⟨(by first | exact Nat.le_of_ble_eq_true rfl | (dsimp only; omega) | omega), (by first | exact Nat.le_of_ble_eq_true rfl | (dsimp only; omega) | omega)⟩ hK hN TH hS hA rfl hm0 hk0 (by decide) rfl hl.1 rfl ((by first | exact Nat.le_of_ble_eq_true rfl | (dsimp only; omega) | omega)) dX12_isSame_75 ⟨(by first | exact Nat.le_of_ble_eq_true rfl | (dsimp only; omega) | omega), (by first | exact Nat.le_of_ble_eq_true rfl | (dsimp only; omega) | omega)⟩ (fun v34 kp34 L34 E34 H locs hq34 hx34 TH hS => ?_)
                obtain ⟨⟨xc35, rfl, hxc35a, hxc35b⟩, rfl, rfl, rfl⟩ := hq34
                refine W.eq (g2 := F0 m 78 ls [.int xc35]) rfl ?_
                refine lv_if_ne (tgt := 83) hx hb dX12_isSame_78 (by decide) (fun hc36 => ?_) (fun hc36 => ?_)
                · have hf37 : ¬ (xc35.toInt = 0) := fun q => hc36 ((fa_eq _ _).mpr (by have : ((0 : Int32).toInt) = 0 := (by decide); omega))
                  refine lv_aload_n hx hb dX12_isSame_83 rfl (lv_at hl 2 rfl) ?_
                  refine lv_iload_n hx hb dX12_isSame_84 rfl (lv_at hl 3 rfl) ?_
                  refine lv_iload hx hb dX12_isSame_85 (lv_at hl 1 rfl) ?_
                  refine tw_Vc (o := a0) (ci := 12) (n := 2) (post := (fun v kq Lq Eq => (∃ x : Int32, v = some (.int x) ∧ (-1) ≤ x.toInt ∧ x.toInt ≤ 149 ∧ (rt_kbk (rw_h E a0 x1.toInt) (rw_p E a0 x1.toInt) (rw_q E a0 x1.toInt) 150 (rw_p E a0 x1.toInt (y56_5.toInt).toNat) (rw_q E a0 x1.toInt (y56_5.toInt).toNat) x.toInt)) ∧ kp = kq ∧ L = Lq ∧ E = Eq)) (As := [.int x1, .int y56_5]) (rest := []) ⟨hx, hb, hml, hown, hB⟩ (fun sz => tX12_nextKid l D cs a0 x1 y56_5 hm0 hk0 (by omega) (by omega) (by omega) (by omega) sz) cg_12_294_X12_nextKid rfl rfl (by decide +kernel) ⟨(by first | exact Nat.le_of_ble_eq_true rfl | (dsimp only; omega) | omega), (by first | exact Nat.le_of_ble_eq_true rfl | (dsimp only; omega) | omega)⟩ hK hN TH hS hA rfl hm0 hk0 (by decide) rfl hl.1 rfl ((by first | exact Nat.le_of_ble_eq_true rfl | (dsimp only; omega) | omega)) dX12_isSame_87 ⟨(by first | exact Nat.le_of_ble_eq_true rfl | (dsimp only; omega) | omega), (by first | exact Nat.le_of_ble_eq_true rfl | (dsimp only; omega) | omega)⟩ (fun v38 kp38 L38 E38 H locs hq38 hx38 TH hS => ?_)
                  obtain ⟨⟨xc39, rfl, hxc39a, hxc39b, hpoxc39_0⟩, rfl, rfl, rfl⟩ := hq38
                  refine W.eq (g2 := F0 m 90 ls [.int xc39]) rfl ?_
                  refine lv_istore (lv' := [(5, .int xc39), (6, .int y56_6), (0, .ref a0), (1, .int x1), (2, .int x2), (3, .int x3)]) hx hb dX12_isSame_90 hl (by decide) rfl (fun ls hl => ?_)
                  refine lv_aload_n hx hb dX12_isSame_92 rfl (lv_at hl 2 rfl) ?_
                  refine lv_iload_n hx hb dX12_isSame_93 rfl (lv_at hl 5 rfl) ?_
                  refine lv_iload hx hb dX12_isSame_94 (lv_at hl 1 rfl) ?_
                  refine tw_Vc (o := a0) (ci := 12) (n := 2) (post := (fun v kq Lq Eq => (∃ x : Int32, v = some (.int x) ∧ (-1) ≤ x.toInt ∧ x.toInt ≤ 149 ∧ (rt_kbk (rw_h E a0 x3.toInt) (rw_p E a0 x3.toInt) (rw_q E a0 x3.toInt) 150 (rw_p E a0 x3.toInt (y56_6.toInt).toNat) (rw_q E a0 x3.toInt (y56_6.toInt).toNat) x.toInt)) ∧ kp = kq ∧ L = Lq ∧ E = Eq)) (As := [.int x3, .int y56_6]) (rest := []) ⟨hx, hb, hml, hown, hB⟩ (fun sz => tX12_nextKid l D cs a0 x3 y56_6 hm0 hk0 (by omega) (by omega) (by omega) (by omega) sz) cg_12_294_X12_nextKid rfl rfl (by decide +kernel) ⟨(by first | exact Nat.le_of_ble_eq_true rfl | (dsimp only; omega) | omega), (by first | exact Nat.le_of_ble_eq_true rfl | (dsimp only; omega) | omega)⟩ hK hN TH hS hA rfl hm0 hk0 (by decide) rfl hl.1 rfl ((by first | exact Nat.le_of_ble_eq_true rfl | (dsimp only; omega) | omega)) dX12_isSame_96 ⟨(by first | exact Nat.le_of_ble_eq_true rfl | (dsimp only; omega) | omega), (by first | exact Nat.le_of_ble_eq_true rfl | (dsimp only; omega) | omega)⟩ (fun v40 kp40 L40 E40 H locs hq40 hx40 TH hS => ?_)
                  obtain ⟨⟨xc41, rfl, hxc41a, hxc41b, hpoxc41_0⟩, rfl, rfl, rfl⟩ := hq40
                  refine W.eq (g2 := F0 m 99 ls [.int xc41]) rfl ?_
                  refine lv_istore (lv' := [(6, .int xc41), (5, .int xc39), (0, .ref a0), (1, .int x1), (2, .int x2), (3, .int x3)]) hx hb dX12_isSame_99 hl (by decide) rfl (fun ls hl => ?_)
                  refine lv_goto (tgt := 56) hx hb dX12_isSame_101 (by decide) ?_
                  exact ih56 (n56 - 1) (by  have hkc := hin56_0.resolve_left (by omega); have q := hpoxc39_0; rw [hkc.2.2.2.2] at q; have hfall := rt_kz_fall hkc.1 hkc.2.2 q;  omega) xc41 xc39 _ _ ls (by omega) (by omega) (by omega) (by omega) (by  have hkc := hin56_0.resolve_left (by omega); have q := hpoxc39_0; rw [hkc.2.2.2.2] at q; exact kd_is_of q) (by  have hkc := hin56_0.resolve_left (by omega); have q := hpoxc39_0; rw [hkc.2.2.2.2] at q; have hfall := rt_kz_fall hkc.1 hkc.2.2 q;  omega) TH hS (lv_sub hl [0, 1, 2, 3, 4, 5] rfl)
                · have hf42 : xc35.toInt = 0 := by have z := (fa_eq _ _).mp hc36; have : ((0 : Int32).toInt) = 0 := (by decide); omega
                  refine lv_iconst (v := 0) hx hb dX12_isSame_81 (by decide) ?_
                  exact tw_zret hx hb hr hlocks (by decide) TH hS hex ⟨⟨_, rfl, (show 0 ≤ Int32.toInt 0 from by have : ((0 : Int32).toInt) = 0 := (by decide); omega), (show Int32.toInt 0 ≤ 1 from by have : ((0 : Int32).toInt) = 0 := (by decide); omega)⟩, rfl, rfl, rfl⟩ ((by first | exact Nat.le_of_ble_eq_true rfl | (dsimp only; omega) | omega)) ((by first | exact Nat.le_of_ble_eq_true rfl | (dsimp only; omega) | omega)) dX12_isSame_82
        exact hJ56 151 xc18 xc16 _ _ ls (by omega) (by omega) (by omega) (by omega) (by  exact kd_is_of hpoxc16_0) (by  have := rt_kz_le (h := rw_h E a0 (x1.toInt)) (p := rw_p E a0 (x1.toInt)) (q := rw_q E a0 (x1.toInt)) (n := x2.toInt) (c := xc16.toInt); omega) TH hS (lv_sub hl [0, 1, 2, 3, 4, 5] rfl)
      · have hf43 : ¬ (zi12.toInt = 0) := fun q => hc13 ((fa_eq _ _).mpr (by have : ((0 : Int32).toInt) = 0 := (by decide); omega))
        refine lv_iconst (v := 0) hx hb dX12_isSame_37 (by decide) ?_
        exact tw_zret hx hb hr hlocks (by decide) TH hS hex ⟨⟨_, rfl, (show 0 ≤ Int32.toInt 0 from by have : ((0 : Int32).toInt) = 0 := (by decide); omega), (show Int32.toInt 0 ≤ 1 from by have : ((0 : Int32).toInt) = 0 := (by decide); omega)⟩, rfl, rfl, rfl⟩ ((by first | exact Nat.le_of_ble_eq_true rfl | (dsimp only; omega) | omega)) ((by first | exact Nat.le_of_ble_eq_true rfl | (dsimp only; omega) | omega)) dX12_isSame_38
set_option maxHeartbeats 4000000 in
set_option maxRecDepth 100000 in
theorem tX12_wordWriter (l : Launch) (D : va_G) (cs : Nat → ClassId) (dd : Nat) : ∀ {kp : Nat → Nat} {L : List Nat} {E : Nat → va_E} (a0 : Nat) (x1 : Int32) (x2 : Int32) (fv0_27 : Int32) (hm0 : a0 ∈ L) (hk0 : kp a0 = 12) (hp1a : 0 ≤ x1.toInt) (hp1b : x1.toInt ≤ 11) (hp2a : 0 ≤ x2.toInt) (hp2b : x2.toInt ≤ 149) (hfv0_27 : tw_fv E a0 27 = .int fv0_27) (hpre0 : x1.toInt < fv0_27.toInt) (hpre1 : x1.toInt + 1 ≤ (dd : Int)) (hg0 : eo_ok E a0) (hg1 : ln_ok E a0) (sz : Nat), Met l yX12_wordWriter (.code yX12_wordWriter cX12_wordWriter 5 (some .int) :: cx_big) { frames := dd + 1, cells := 0, slots := 0, locals := 24 * (dd) + 20 } (tw_P D cs kp L E [.ref a0, .int x1, .int x2] sz) (tw_Q D cs kp L (fun v kq Lq Eq => (∃ x : Int32, v = some (.int x) ∧ 0 ≤ x.toInt ∧ x.toInt ≤ 11) ∧ kp = kq ∧ L = Lq ∧ E = Eq) (va_A (va_pl L E) sz)) 0 0 (va_A (va_pl L E) sz) := by
  induction dd with
  | zero =>
    intro kp L E a0 x1 x2 fv0_27 hm0 hk0 hp1a hp1b hp2a hp2b hfv0_27 hpre0 hpre1 hg0 hg1 sz
    exfalso
    omega
  | succ dd ih =>
    intro kp L E a0 x1 x2 fv0_27 hm0 hk0 hp1a hp1b hp2a hp2b hfv0_27 hpre0 hpre1 hg0 hg1 sz
    refine tw_ofW (by decide) (Nat.le_of_ble_eq_true rfl) ?_
    intro p e s m below meth c A ls hx hb hr hml hB hown hlocks hK hN hA TH hS hl
    have hown : s.vm.findClass "TreeMergeModel" = some m.cls := hown
    have hl : lv_has ls 5 [(0, .ref a0), (1, .int x1), (2, .int x2)] := hl
    obtain ⟨kp0, ekp⟩ : ∃ z, z = kp := ⟨_, rfl⟩
    obtain ⟨L0, eL⟩ : ∃ z, z = L := ⟨_, rfl⟩
    rw [show tw_Q D cs kp L = tw_Q D cs kp0 L0 by rw [ekp, eL]]
    have hex : ∀ a : Nat, a ∈ L0 → a ∈ L ∧ kp a = kp0 a := fun a h => ⟨by rw [← eL]; exact h, by rw [ekp]⟩
    obtain ⟨qfv0_27, hqfv0_27, hqfv0_27a, hqfv0_27b⟩ := tw_rd TH hm0 hk0 (by decide) (by decide) (k := 27) rfl
    have eqfv0_27 : qfv0_27 = fv0_27 := by have q := hqfv0_27.symm.trans hfv0_27; injection q
    rw [eqfv0_27] at hqfv0_27a hqfv0_27b
    refine lv_aload_n hx hb dX12_wordWriter_0 rfl (lv_at hl 0 rfl) ?_
    refine tw_get (ci := 12) (C := RX12) (T := TX12) (N := 64) hx hb hB cx_inX12 hown hK TH hm0 hk0 rfl ⟨by decide, rfl⟩ 24 (by decide) cw_1217 (fun _ h9 => h9) dX12_wordWriter_1 (fun hv => ?_)
    obtain ⟨xr1, hxr1, hmxr1, hkxr1⟩ : ∃ a : Nat, tw_fv E a0 24 = .ref a ∧ a ∈ L ∧ kp a = 334 := hv
    rw [hxr1]
    refine lv_iload_n hx hb dX12_wordWriter_4 rfl (lv_at hl 1 rfl) ?_
    refine tw_iald (k := 334) (t0 := 0) (n := 12) (lo := (-1)) (hi := 11) hx hb hK TH hmxr1 hkxr1 (by decide) rfl rfl (i := x1) (vp_in_iff.mpr ⟨by  omega, by  omega⟩) dX12_wordWriter_5 (fun hxe2a hxe2b => ?_)
    obtain ⟨xe2, exe2⟩ : ∃ z : Int32, tw_iv E xr1 (Int32.toNatClampNeg x1) = z := ⟨_, rfl⟩
    rw [exe2] at hxe2a hxe2b ⊢
    refine lv_istore_n (lv' := [(3, .int xe2), (0, .ref a0), (1, .int x1), (2, .int x2)]) hx hb dX12_wordWriter_6 rfl hl (by decide) rfl (fun ls hl => ?_)
    refine lv_aload_n hx hb dX12_wordWriter_7 rfl (lv_at hl 1 rfl) ?_
    refine tw_get (ci := 12) (C := RX12) (T := TX12) (N := 64) hx hb hB cx_inX12 hown hK TH hm0 hk0 rfl ⟨by decide, rfl⟩ 25 (by decide) cw_1218 (fun _ h9 => h9) dX12_wordWriter_8 (fun hv => ?_)
    obtain ⟨xr3, hxr3, hmxr3, hkxr3⟩ : ∃ a : Nat, tw_fv E a0 25 = .ref a ∧ a ∈ L ∧ kp a = 335 := hv
    rw [hxr3]
    refine lv_iload_n hx hb dX12_wordWriter_11 rfl (lv_at hl 2 rfl) ?_
    refine tw_iald (k := 335) (t0 := 0) (n := 12) (lo := (-1)) (hi := 11) hx hb hK TH hmxr3 hkxr3 (by decide) rfl rfl (i := x1) (vp_in_iff.mpr ⟨by  omega, by  omega⟩) dX12_wordWriter_12 (fun hxe4a hxe4b => ?_)
    obtain ⟨xe4, exe4⟩ : ∃ z : Int32, tw_iv E xr3 (Int32.toNatClampNeg x1) = z := ⟨_, rfl⟩
    rw [exe4] at hxe4a hxe4b ⊢
    refine lv_istore (lv' := [(4, .int xe4), (3, .int xe2), (0, .ref a0), (1, .int x1), (2, .int x2)]) hx hb dX12_wordWriter_13 hl (by decide) rfl (fun ls hl => ?_)
    have hl15 : xe2.toInt = -1 ∨ (0 ≤ xe2.toInt ∧ xe2.toInt < x1.toInt ∧ r2_ok E a0 (x1.toInt) (xe2.toInt)) := (by have q := hg1 (x1.toInt).toNat (by rw [tw_fi_of hfv0_27]; omega) 24 (by decide); have w : tw_el E a0 24 (x1.toInt).toNat = xe2.toInt := (by rw [tw_el_of hxr1]; exact congrArg Int32.toInt exe2); rw [w, show (((x1.toInt).toNat : Nat) : Int) = x1.toInt by omega] at q; exact q)
    have hn15 : xe2.toInt = -1 ∨ (0 ≤ xe2.toInt ∧ xe2.toInt < x1.toInt) := hl15.imp id (fun q => ⟨q.1, q.2.1⟩)
    have hl16 : xe4.toInt = -1 ∨ (0 ≤ xe4.toInt ∧ xe4.toInt < x1.toInt ∧ r2_ok E a0 (x1.toInt) (xe4.toInt)) := (by have q := hg1 (x1.toInt).toNat (by rw [tw_fi_of hfv0_27]; omega) 25 (by decide); have w : tw_el E a0 25 (x1.toInt).toNat = xe4.toInt := (by rw [tw_el_of hxr3]; exact congrArg Int32.toInt exe4); rw [w, show (((x1.toInt).toNat : Nat) : Int) = x1.toInt by omega] at q; exact q)
    have hn16 : xe4.toInt = -1 ∨ (0 ≤ xe4.toInt ∧ xe4.toInt < x1.toInt) := hl16.imp id (fun q => ⟨q.1, q.2.1⟩)
    refine lv_iload_n hx hb dX12_wordWriter_15 rfl (lv_at hl 1 rfl) ?_
    refine lv_iconst (v := (-1)) hx hb dX12_wordWriter_16 (by decide) ?_
    refine lv_icmp_eq (tgt := 58) hx hb dX12_wordWriter_17 (by decide) (fun hc5 => ?_) (fun hc5 => ?_)
    · have hf6 : xe2.toInt = (-1) := by have z := (fa_eq _ _).mp hc5; have : (((-1) : Int32).toInt) = (-1) := (by decide); omega
      refine lv_iload hx hb dX12_wordWriter_58 (lv_at hl 0 rfl) ?_
      refine lv_iconst (v := (-1)) hx hb dX12_wordWriter_60 (by decide) ?_
      refine lv_icmp_eq (tgt := 105) hx hb dX12_wordWriter_61 (by decide) (fun hc7 => ?_) (fun hc7 => ?_)
      · have hf8 : xe4.toInt = (-1) := by have z := (fa_eq _ _).mp hc7; have : (((-1) : Int32).toInt) = (-1) := (by decide); omega
        refine lv_iload_n hx hb dX12_wordWriter_105 rfl (lv_at hl 3 rfl) ?_
        exact tw_iret hx hb hr hlocks TH hS hex ⟨⟨_, rfl, (show 0 ≤ Int32.toInt x1 from by  omega), (show Int32.toInt x1 ≤ 11 from by  omega)⟩, rfl, rfl, rfl⟩ ((by first | exact Nat.le_of_ble_eq_true rfl | (dsimp only; omega) | omega)) ((by first | exact Nat.le_of_ble_eq_true rfl | (dsimp only; omega) | omega)) dX12_wordWriter_106
      · have hf9 : ¬ (xe4.toInt = (-1)) := fun q => hc7 ((fa_eq _ _).mpr (by have : (((-1) : Int32).toInt) = (-1) := (by decide); omega))
        refine lv_aload_n hx hb dX12_wordWriter_64 rfl (lv_at hl 2 rfl) ?_
        refine tw_get (ci := 12) (C := RX12) (T := TX12) (N := 64) hx hb hB cx_inX12 hown hK TH hm0 hk0 rfl ⟨by decide, rfl⟩ 16 (by decide) cw_1209 (fun _ h9 => h9) dX12_wordWriter_65 (fun hv => ?_)
        obtain ⟨xr10, hxr10, hmxr10, hkxr10⟩ : ∃ a : Nat, tw_fv E a0 16 = .ref a ∧ a ∈ L ∧ kp a = 316 := hv
        rw [hxr10]
        refine lv_iload hx hb dX12_wordWriter_68 (lv_at hl 0 rfl) ?_
        refine tw_aald (k := 316) (t0 := 5) (n := 16) (lo := 326) (hi := 0) (ty := .boolean) hx hb hK TH hmxr10 hkxr10 (by decide) rfl rfl (i := xe4) (vp_in_iff.mpr ⟨by  omega, by  omega⟩) dX12_wordWriter_70 (fun xr11 exr11 hmxr11 hkxr11 => ?_)
        have hkxr11 : kp xr11 = 326 := hkxr11
        refine lv_iload_n hx hb dX12_wordWriter_71 rfl (lv_at hl 4 rfl) ?_
        refine tw_zald (k := 326) (t0 := 3) (n := 150) (lo := 0) (hi := 1) hx hb hK TH hmxr11 hkxr11 (by decide) rfl rfl (i := x2) (vp_in_iff.mpr ⟨by  omega, by  omega⟩) dX12_wordWriter_72 (fun hxe12a hxe12b => ?_)
        obtain ⟨xe12, exe12⟩ : ∃ z : Int32, tw_iv E xr11 (Int32.toNatClampNeg x2) = z := ⟨_, rfl⟩
        rw [exe12] at hxe12a hxe12b ⊢
        refine lv_if_eq (tgt := 105) hx hb dX12_wordWriter_73 (by decide) (fun hc13 => ?_) (fun hc13 => ?_)
        · have hf14 : xe12.toInt = 0 := by have z := (fa_eq _ _).mp hc13; have : ((0 : Int32).toInt) = 0 := (by decide); omega
          refine lv_iload_n hx hb dX12_wordWriter_105 rfl (lv_at hl 3 rfl) ?_
          exact tw_iret hx hb hr hlocks TH hS hex ⟨⟨_, rfl, (show 0 ≤ Int32.toInt x1 from by  omega), (show Int32.toInt x1 ≤ 11 from by  omega)⟩, rfl, rfl, rfl⟩ ((by first | exact Nat.le_of_ble_eq_true rfl | (dsimp only; omega) | omega)) ((by first | exact Nat.le_of_ble_eq_true rfl | (dsimp only; omega) | omega)) dX12_wordWriter_106
        · have hf15 : ¬ (xe12.toInt = 0) := fun q => hc13 ((fa_eq _ _).mpr (by have : ((0 : Int32).toInt) = 0 := (by decide); omega))
          refine lv_aload_n hx hb dX12_wordWriter_76 rfl (lv_at hl 2 rfl) ?_
          refine tw_get (ci := 12) (C := RX12) (T := TX12) (N := 64) hx hb hB cx_inX12 hown hK TH hm0 hk0 rfl ⟨by decide, rfl⟩ 17 (by decide) cw_1210 (fun _ h9 => h9) dX12_wordWriter_77 (fun hv => ?_)
          obtain ⟨xr16, hxr16, hmxr16, hkxr16⟩ : ∃ a : Nat, tw_fv E a0 17 = .ref a ∧ a ∈ L ∧ kp a = 317 := hv
          rw [hxr16]
          refine lv_iload hx hb dX12_wordWriter_80 (lv_at hl 0 rfl) ?_
          refine tw_aald (k := 317) (t0 := 6) (n := 16) (lo := 327) (hi := 0) (ty := .long) hx hb hK TH hmxr16 hkxr16 (by decide) rfl rfl (i := xe4) (vp_in_iff.mpr ⟨by  omega, by  omega⟩) dX12_wordWriter_82 (fun xr17 exr17 hmxr17 hkxr17 => ?_)
          have hkxr17 : kp xr17 = 327 := hkxr17
          refine lv_iload_n hx hb dX12_wordWriter_83 rfl (lv_at hl 4 rfl) ?_
          refine tw_lald2 (k := 327) (n := 150) (lo := 0) (hi := 0) hx hb hK TH hmxr17 hkxr17 (by decide) rfl (i := x2) (vp_in_iff.mpr ⟨by  omega, by  omega⟩) dX12_wordWriter_84 (fun xl18 exl18 => ?_)
          refine lv_aload_n hx hb dX12_wordWriter_85 rfl (lv_at hl 2 rfl) ?_
          refine tw_get (ci := 12) (C := RX12) (T := TX12) (N := 64) hx hb hB cx_inX12 hown hK TH hm0 hk0 rfl ⟨by decide, rfl⟩ 17 (by decide) cw_1210 (fun _ h9 => h9) dX12_wordWriter_86 (fun hv => ?_)
          rw [hxr16]
          refine lv_iload_n hx hb dX12_wordWriter_89 rfl (lv_at hl 3 rfl) ?_
          refine tw_aald (k := 317) (t0 := 6) (n := 16) (lo := 327) (hi := 0) (ty := .long) hx hb hK TH hmxr16 hkxr16 (by decide) rfl rfl (i := x1) (vp_in_iff.mpr ⟨by  omega, by  omega⟩) dX12_wordWriter_90 (fun xr19 exr19 hmxr19 hkxr19 => ?_)
          have hkxr19 : kp xr19 = 327 := hkxr19
          refine lv_iload_n hx hb dX12_wordWriter_91 rfl (lv_at hl 4 rfl) ?_
          refine tw_lald2 (k := 327) (n := 150) (lo := 0) (hi := 0) hx hb hK TH hmxr19 hkxr19 (by decide) rfl (i := x2) (vp_in_iff.mpr ⟨by  omega, by  omega⟩) dX12_wordWriter_92 (fun xl20 exl20 => ?_)
          refine W.lcmp hx hb dX12_wordWriter_93 ?_
          have hzi21 := ia_lc xl18 xl20
          generalize lg_cmp xl18 xl20 = zi21 at hzi21 ⊢
          refine lv_if_ne (tgt := 105) hx hb dX12_wordWriter_94 (by decide) (fun hc22 => ?_) (fun hc22 => ?_)
          · have hf23 : ¬ (zi21.toInt = 0) := fun q => hc22 ((fa_eq _ _).mpr (by have : ((0 : Int32).toInt) = 0 := (by decide); omega))
            refine lv_iload_n hx hb dX12_wordWriter_105 rfl (lv_at hl 3 rfl) ?_
            exact tw_iret hx hb hr hlocks TH hS hex ⟨⟨_, rfl, (show 0 ≤ Int32.toInt x1 from by  omega), (show Int32.toInt x1 ≤ 11 from by  omega)⟩, rfl, rfl, rfl⟩ ((by first | exact Nat.le_of_ble_eq_true rfl | (dsimp only; omega) | omega)) ((by first | exact Nat.le_of_ble_eq_true rfl | (dsimp only; omega) | omega)) dX12_wordWriter_106
          · have hf24 : zi21.toInt = 0 := by have z := (fa_eq _ _).mp hc22; have : ((0 : Int32).toInt) = 0 := (by decide); omega
            refine lv_aload_n hx hb dX12_wordWriter_97 rfl (lv_at hl 2 rfl) ?_
            refine lv_iload hx hb dX12_wordWriter_98 (lv_at hl 0 rfl) ?_
            refine lv_iload_n hx hb dX12_wordWriter_100 rfl (lv_at hl 4 rfl) ?_
            refine tw_Vc (o := a0) (ci := 12) (n := 2) (post := (fun v kq Lq Eq => (∃ x : Int32, v = some (.int x) ∧ 0 ≤ x.toInt ∧ x.toInt ≤ 11) ∧ kp = kq ∧ L = Lq ∧ E = Eq)) (As := [.int xe4, .int x2]) (rest := []) ⟨hx, hb, hml, hown, hB⟩ (fun sz => ih a0 xe4 x2 fv0_27 hm0 hk0 (by omega) (by omega) (by omega) (by omega) hfv0_27 (by  omega) (by  omega) hg0 hg1 sz) cg_12_542_X12_wordWriter rfl rfl (by decide +kernel) ⟨(by first | exact Nat.le_of_ble_eq_true rfl | (dsimp only; omega) | omega), (by first | exact Nat.le_of_ble_eq_true rfl | (dsimp only; omega) | omega)⟩ hK hN TH hS hA rfl hm0 hk0 (by decide) rfl hl.1 rfl ((by first | exact Nat.le_of_ble_eq_true rfl | (dsimp only; omega) | omega)) dX12_wordWriter_101 ⟨(by first | exact Nat.le_of_ble_eq_true rfl | (dsimp only; omega) | omega), (by first | exact Nat.le_of_ble_eq_true rfl | (dsimp only; omega) | omega)⟩ (fun v25 kp25 L25 E25 H locs hq25 hx25 TH hS => ?_)
            obtain ⟨⟨xc26, rfl, hxc26a, hxc26b⟩, rfl, rfl, rfl⟩ := hq25
            refine W.eq (g2 := F0 m 104 ls [.int xc26]) rfl ?_
            exact tw_iret hx hb hr hlocks TH hS hex ⟨⟨_, rfl, (show 0 ≤ Int32.toInt xc26 from by  omega), (show Int32.toInt xc26 ≤ 11 from by  omega)⟩, rfl, rfl, rfl⟩ ((by first | exact Nat.le_of_ble_eq_true rfl | (dsimp only; omega) | omega)) ((by first | exact Nat.le_of_ble_eq_true rfl | (dsimp only; omega) | omega)) dX12_wordWriter_104
    · have hf27 : ¬ (xe2.toInt = (-1)) := fun q => hc5 ((fa_eq _ _).mpr (by have : (((-1) : Int32).toInt) = (-1) := (by decide); omega))
      refine lv_aload_n hx hb dX12_wordWriter_20 rfl (lv_at hl 2 rfl) ?_
      refine tw_get (ci := 12) (C := RX12) (T := TX12) (N := 64) hx hb hB cx_inX12 hown hK TH hm0 hk0 rfl ⟨by decide, rfl⟩ 16 (by decide) cw_1209 (fun _ h9 => h9) dX12_wordWriter_21 (fun hv => ?_)
      obtain ⟨xr28, hxr28, hmxr28, hkxr28⟩ : ∃ a : Nat, tw_fv E a0 16 = .ref a ∧ a ∈ L ∧ kp a = 316 := hv
      rw [hxr28]
      refine lv_iload_n hx hb dX12_wordWriter_24 rfl (lv_at hl 1 rfl) ?_
      refine tw_aald (k := 316) (t0 := 5) (n := 16) (lo := 326) (hi := 0) (ty := .boolean) hx hb hK TH hmxr28 hkxr28 (by decide) rfl rfl (i := xe2) (vp_in_iff.mpr ⟨by  omega, by  omega⟩) dX12_wordWriter_25 (fun xr29 exr29 hmxr29 hkxr29 => ?_)
      have hkxr29 : kp xr29 = 326 := hkxr29
      refine lv_iload_n hx hb dX12_wordWriter_26 rfl (lv_at hl 4 rfl) ?_
      refine tw_zald (k := 326) (t0 := 3) (n := 150) (lo := 0) (hi := 1) hx hb hK TH hmxr29 hkxr29 (by decide) rfl rfl (i := x2) (vp_in_iff.mpr ⟨by  omega, by  omega⟩) dX12_wordWriter_27 (fun hxe30a hxe30b => ?_)
      obtain ⟨xe30, exe30⟩ : ∃ z : Int32, tw_iv E xr29 (Int32.toNatClampNeg x2) = z := ⟨_, rfl⟩
      rw [exe30] at hxe30a hxe30b ⊢
      refine lv_if_eq (tgt := 58) hx hb dX12_wordWriter_28 (by decide) (fun hc31 => ?_) (fun hc31 => ?_)
      · have hf32 : xe30.toInt = 0 := by have z := (fa_eq _ _).mp hc31; have : ((0 : Int32).toInt) = 0 := (by decide); omega
        refine lv_iload hx hb dX12_wordWriter_58 (lv_at hl 0 rfl) ?_
        refine lv_iconst (v := (-1)) hx hb dX12_wordWriter_60 (by decide) ?_
        refine lv_icmp_eq (tgt := 105) hx hb dX12_wordWriter_61 (by decide) (fun hc33 => ?_) (fun hc33 => ?_)
        · have hf34 : xe4.toInt = (-1) := by have z := (fa_eq _ _).mp hc33; have : (((-1) : Int32).toInt) = (-1) := (by decide); omega
          refine lv_iload_n hx hb dX12_wordWriter_105 rfl (lv_at hl 3 rfl) ?_
          exact tw_iret hx hb hr hlocks TH hS hex ⟨⟨_, rfl, (show 0 ≤ Int32.toInt x1 from by  omega), (show Int32.toInt x1 ≤ 11 from by  omega)⟩, rfl, rfl, rfl⟩ ((by first | exact Nat.le_of_ble_eq_true rfl | (dsimp only; omega) | omega)) ((by first | exact Nat.le_of_ble_eq_true rfl | (dsimp only; omega) | omega)) dX12_wordWriter_106
        · have hf35 : ¬ (xe4.toInt = (-1)) := fun q => hc33 ((fa_eq _ _).mpr (by have : (((-1) : Int32).toInt) = (-1) := (by decide); omega))
          refine lv_aload_n hx hb dX12_wordWriter_64 rfl (lv_at hl 2 rfl) ?_
          refine tw_get (ci := 12) (C := RX12) (T := TX12) (N := 64) hx hb hB cx_inX12 hown hK TH hm0 hk0 rfl ⟨by decide, rfl⟩ 16 (by decide) cw_1209 (fun _ h9 => h9) dX12_wordWriter_65 (fun hv => ?_)
          rw [hxr28]
          refine lv_iload hx hb dX12_wordWriter_68 (lv_at hl 0 rfl) ?_
          refine tw_aald (k := 316) (t0 := 5) (n := 16) (lo := 326) (hi := 0) (ty := .boolean) hx hb hK TH hmxr28 hkxr28 (by decide) rfl rfl (i := xe4) (vp_in_iff.mpr ⟨by  omega, by  omega⟩) dX12_wordWriter_70 (fun xr36 exr36 hmxr36 hkxr36 => ?_)
          have hkxr36 : kp xr36 = 326 := hkxr36
          refine lv_iload_n hx hb dX12_wordWriter_71 rfl (lv_at hl 4 rfl) ?_
          refine tw_zald (k := 326) (t0 := 3) (n := 150) (lo := 0) (hi := 1) hx hb hK TH hmxr36 hkxr36 (by decide) rfl rfl (i := x2) (vp_in_iff.mpr ⟨by  omega, by  omega⟩) dX12_wordWriter_72 (fun hxe37a hxe37b => ?_)
          obtain ⟨xe37, exe37⟩ : ∃ z : Int32, tw_iv E xr36 (Int32.toNatClampNeg x2) = z := ⟨_, rfl⟩
          rw [exe37] at hxe37a hxe37b ⊢
          refine lv_if_eq (tgt := 105) hx hb dX12_wordWriter_73 (by decide) (fun hc38 => ?_) (fun hc38 => ?_)
          · have hf39 : xe37.toInt = 0 := by have z := (fa_eq _ _).mp hc38; have : ((0 : Int32).toInt) = 0 := (by decide); omega
            refine lv_iload_n hx hb dX12_wordWriter_105 rfl (lv_at hl 3 rfl) ?_
            exact tw_iret hx hb hr hlocks TH hS hex ⟨⟨_, rfl, (show 0 ≤ Int32.toInt x1 from by  omega), (show Int32.toInt x1 ≤ 11 from by  omega)⟩, rfl, rfl, rfl⟩ ((by first | exact Nat.le_of_ble_eq_true rfl | (dsimp only; omega) | omega)) ((by first | exact Nat.le_of_ble_eq_true rfl | (dsimp only; omega) | omega)) dX12_wordWriter_106
          · have hf40 : ¬ (xe37.toInt = 0) := fun q => hc38 ((fa_eq _ _).mpr (by have : ((0 : Int32).toInt) = 0 := (by decide); omega))
            refine lv_aload_n hx hb dX12_wordWriter_76 rfl (lv_at hl 2 rfl) ?_
            refine tw_get (ci := 12) (C := RX12) (T := TX12) (N := 64) hx hb hB cx_inX12 hown hK TH hm0 hk0 rfl ⟨by decide, rfl⟩ 17 (by decide) cw_1210 (fun _ h9 => h9) dX12_wordWriter_77 (fun hv => ?_)
            obtain ⟨xr41, hxr41, hmxr41, hkxr41⟩ : ∃ a : Nat, tw_fv E a0 17 = .ref a ∧ a ∈ L ∧ kp a = 317 := hv
            rw [hxr41]
            refine lv_iload hx hb dX12_wordWriter_80 (lv_at hl 0 rfl) ?_
            refine tw_aald (k := 317) (t0 := 6) (n := 16) (lo := 327) (hi := 0) (ty := .long) hx hb hK TH hmxr41 hkxr41 (by decide) rfl rfl (i := xe4) (vp_in_iff.mpr ⟨by  omega, by  omega⟩) dX12_wordWriter_82 (fun xr42 exr42 hmxr42 hkxr42 => ?_)
            have hkxr42 : kp xr42 = 327 := hkxr42
            refine lv_iload_n hx hb dX12_wordWriter_83 rfl (lv_at hl 4 rfl) ?_
            refine tw_lald2 (k := 327) (n := 150) (lo := 0) (hi := 0) hx hb hK TH hmxr42 hkxr42 (by decide) rfl (i := x2) (vp_in_iff.mpr ⟨by  omega, by  omega⟩) dX12_wordWriter_84 (fun xl43 exl43 => ?_)
            refine lv_aload_n hx hb dX12_wordWriter_85 rfl (lv_at hl 2 rfl) ?_
            refine tw_get (ci := 12) (C := RX12) (T := TX12) (N := 64) hx hb hB cx_inX12 hown hK TH hm0 hk0 rfl ⟨by decide, rfl⟩ 17 (by decide) cw_1210 (fun _ h9 => h9) dX12_wordWriter_86 (fun hv => ?_)
            rw [hxr41]
            refine lv_iload_n hx hb dX12_wordWriter_89 rfl (lv_at hl 3 rfl) ?_
            refine tw_aald (k := 317) (t0 := 6) (n := 16) (lo := 327) (hi := 0) (ty := .long) hx hb hK TH hmxr41 hkxr41 (by decide) rfl rfl (i := x1) (vp_in_iff.mpr ⟨by  omega, by  omega⟩) dX12_wordWriter_90 (fun xr44 exr44 hmxr44 hkxr44 => ?_)
            have hkxr44 : kp xr44 = 327 := hkxr44
            refine lv_iload_n hx hb dX12_wordWriter_91 rfl (lv_at hl 4 rfl) ?_
            refine tw_lald2 (k := 327) (n := 150) (lo := 0) (hi := 0) hx hb hK TH hmxr44 hkxr44 (by decide) rfl (i := x2) (vp_in_iff.mpr ⟨by  omega, by  omega⟩) dX12_wordWriter_92 (fun xl45 exl45 => ?_)
            refine W.lcmp hx hb dX12_wordWriter_93 ?_
            have hzi46 := ia_lc xl43 xl45
            generalize lg_cmp xl43 xl45 = zi46 at hzi46 ⊢
            refine lv_if_ne (tgt := 105) hx hb dX12_wordWriter_94 (by decide) (fun hc47 => ?_) (fun hc47 => ?_)
            · have hf48 : ¬ (zi46.toInt = 0) := fun q => hc47 ((fa_eq _ _).mpr (by have : ((0 : Int32).toInt) = 0 := (by decide); omega))
              refine lv_iload_n hx hb dX12_wordWriter_105 rfl (lv_at hl 3 rfl) ?_
              exact tw_iret hx hb hr hlocks TH hS hex ⟨⟨_, rfl, (show 0 ≤ Int32.toInt x1 from by  omega), (show Int32.toInt x1 ≤ 11 from by  omega)⟩, rfl, rfl, rfl⟩ ((by first | exact Nat.le_of_ble_eq_true rfl | (dsimp only; omega) | omega)) ((by first | exact Nat.le_of_ble_eq_true rfl | (dsimp only; omega) | omega)) dX12_wordWriter_106
            · have hf49 : zi46.toInt = 0 := by have z := (fa_eq _ _).mp hc47; have : ((0 : Int32).toInt) = 0 := (by decide); omega
              refine lv_aload_n hx hb dX12_wordWriter_97 rfl (lv_at hl 2 rfl) ?_
              refine lv_iload hx hb dX12_wordWriter_98 (lv_at hl 0 rfl) ?_
              refine lv_iload_n hx hb dX12_wordWriter_100 rfl (lv_at hl 4 rfl) ?_
              refine tw_Vc (o := a0) (ci := 12) (n := 2) (post := (fun v kq Lq Eq => (∃ x : Int32, v = some (.int x) ∧ 0 ≤ x.toInt ∧ x.toInt ≤ 11) ∧ kp = kq ∧ L = Lq ∧ E = Eq)) (As := [.int xe4, .int x2]) (rest := []) ⟨hx, hb, hml, hown, hB⟩ (fun sz => ih a0 xe4 x2 fv0_27 hm0 hk0 (by omega) (by omega) (by omega) (by omega) hfv0_27 (by  omega) (by  omega) hg0 hg1 sz) cg_12_542_X12_wordWriter rfl rfl (by decide +kernel) ⟨(by first | exact Nat.le_of_ble_eq_true rfl | (dsimp only; omega) | omega), (by first | exact Nat.le_of_ble_eq_true rfl | (dsimp only; omega) | omega)⟩ hK hN TH hS hA rfl hm0 hk0 (by decide) rfl hl.1 rfl ((by first | exact Nat.le_of_ble_eq_true rfl | (dsimp only; omega) | omega)) dX12_wordWriter_101 ⟨(by first | exact Nat.le_of_ble_eq_true rfl | (dsimp only; omega) | omega), (by first | exact Nat.le_of_ble_eq_true rfl | (dsimp only; omega) | omega)⟩ (fun v50 kp50 L50 E50 H locs hq50 hx50 TH hS => ?_)
              obtain ⟨⟨xc51, rfl, hxc51a, hxc51b⟩, rfl, rfl, rfl⟩ := hq50
              refine W.eq (g2 := F0 m 104 ls [.int xc51]) rfl ?_
              exact tw_iret hx hb hr hlocks TH hS hex ⟨⟨_, rfl, (show 0 ≤ Int32.toInt xc51 from by  omega), (show Int32.toInt xc51 ≤ 11 from by  omega)⟩, rfl, rfl, rfl⟩ ((by first | exact Nat.le_of_ble_eq_true rfl | (dsimp only; omega) | omega)) ((by first | exact Nat.le_of_ble_eq_true rfl | (dsimp only; omega) | omega)) dX12_wordWriter_104
      · have hf52 : ¬ (xe30.toInt = 0) := fun q => hc31 ((fa_eq _ _).mpr (by have : ((0 : Int32).toInt) = 0 := (by decide); omega))
        refine lv_aload_n hx hb dX12_wordWriter_31 rfl (lv_at hl 2 rfl) ?_
        refine tw_get (ci := 12) (C := RX12) (T := TX12) (N := 64) hx hb hB cx_inX12 hown hK TH hm0 hk0 rfl ⟨by decide, rfl⟩ 17 (by decide) cw_1210 (fun _ h9 => h9) dX12_wordWriter_32 (fun hv => ?_)
        obtain ⟨xr53, hxr53, hmxr53, hkxr53⟩ : ∃ a : Nat, tw_fv E a0 17 = .ref a ∧ a ∈ L ∧ kp a = 317 := hv
        rw [hxr53]
        refine lv_iload_n hx hb dX12_wordWriter_35 rfl (lv_at hl 1 rfl) ?_
        refine tw_aald (k := 317) (t0 := 6) (n := 16) (lo := 327) (hi := 0) (ty := .long) hx hb hK TH hmxr53 hkxr53 (by decide) rfl rfl (i := xe2) (vp_in_iff.mpr ⟨by  omega, by  omega⟩) dX12_wordWriter_36 (fun xr54 exr54 hmxr54 hkxr54 => ?_)
        have hkxr54 : kp xr54 = 327 := hkxr54
        refine lv_iload_n hx hb dX12_wordWriter_37 rfl (lv_at hl 4 rfl) ?_
        refine tw_lald2 (k := 327) (n := 150) (lo := 0) (hi := 0) hx hb hK TH hmxr54 hkxr54 (by decide) rfl (i := x2) (vp_in_iff.mpr ⟨by  omega, by  omega⟩) dX12_wordWriter_38 (fun xl55 exl55 => ?_)
        refine lv_aload_n hx hb dX12_wordWriter_39 rfl (lv_at hl 2 rfl) ?_
        refine tw_get (ci := 12) (C := RX12) (T := TX12) (N := 64) hx hb hB cx_inX12 hown hK TH hm0 hk0 rfl ⟨by decide, rfl⟩ 17 (by decide) cw_1210 (fun _ h9 => h9) dX12_wordWriter_40 (fun hv => ?_)
        rw [hxr53]
        refine lv_iload_n hx hb dX12_wordWriter_43 rfl (lv_at hl 3 rfl) ?_
        refine tw_aald (k := 317) (t0 := 6) (n := 16) (lo := 327) (hi := 0) (ty := .long) hx hb hK TH hmxr53 hkxr53 (by decide) rfl rfl (i := x1) (vp_in_iff.mpr ⟨by  omega, by  omega⟩) dX12_wordWriter_44 (fun xr56 exr56 hmxr56 hkxr56 => ?_)
        have hkxr56 : kp xr56 = 327 := hkxr56
        refine lv_iload_n hx hb dX12_wordWriter_45 rfl (lv_at hl 4 rfl) ?_
        refine tw_lald2 (k := 327) (n := 150) (lo := 0) (hi := 0) hx hb hK TH hmxr56 hkxr56 (by decide) rfl (i := x2) (vp_in_iff.mpr ⟨by  omega, by  omega⟩) dX12_wordWriter_46 (fun xl57 exl57 => ?_)
        refine W.lcmp hx hb dX12_wordWriter_47 ?_
        have hzi58 := ia_lc xl55 xl57
        generalize lg_cmp xl55 xl57 = zi58 at hzi58 ⊢
        refine lv_if_ne (tgt := 58) hx hb dX12_wordWriter_48 (by decide) (fun hc59 => ?_) (fun hc59 => ?_)
        · have hf60 : ¬ (zi58.toInt = 0) := fun q => hc59 ((fa_eq _ _).mpr (by have : ((0 : Int32).toInt) = 0 := (by decide); omega))
          refine lv_iload hx hb dX12_wordWriter_58 (lv_at hl 0 rfl) ?_
          refine lv_iconst (v := (-1)) hx hb dX12_wordWriter_60 (by decide) ?_
          refine lv_icmp_eq (tgt := 105) hx hb dX12_wordWriter_61 (by decide) (fun hc61 => ?_) (fun hc61 => ?_)
          · have hf62 : xe4.toInt = (-1) := by have z := (fa_eq _ _).mp hc61; have : (((-1) : Int32).toInt) = (-1) := (by decide); omega
            refine lv_iload_n hx hb dX12_wordWriter_105 rfl (lv_at hl 3 rfl) ?_
            exact tw_iret hx hb hr hlocks TH hS hex ⟨⟨_, rfl, (show 0 ≤ Int32.toInt x1 from by  omega), (show Int32.toInt x1 ≤ 11 from by  omega)⟩, rfl, rfl, rfl⟩ ((by first | exact Nat.le_of_ble_eq_true rfl | (dsimp only; omega) | omega)) ((by first | exact Nat.le_of_ble_eq_true rfl | (dsimp only; omega) | omega)) dX12_wordWriter_106
          · have hf63 : ¬ (xe4.toInt = (-1)) := fun q => hc61 ((fa_eq _ _).mpr (by have : (((-1) : Int32).toInt) = (-1) := (by decide); omega))
            refine lv_aload_n hx hb dX12_wordWriter_64 rfl (lv_at hl 2 rfl) ?_
            refine tw_get (ci := 12) (C := RX12) (T := TX12) (N := 64) hx hb hB cx_inX12 hown hK TH hm0 hk0 rfl ⟨by decide, rfl⟩ 16 (by decide) cw_1209 (fun _ h9 => h9) dX12_wordWriter_65 (fun hv => ?_)
            rw [hxr28]
            refine lv_iload hx hb dX12_wordWriter_68 (lv_at hl 0 rfl) ?_
            refine tw_aald (k := 316) (t0 := 5) (n := 16) (lo := 326) (hi := 0) (ty := .boolean) hx hb hK TH hmxr28 hkxr28 (by decide) rfl rfl (i := xe4) (vp_in_iff.mpr ⟨by  omega, by  omega⟩) dX12_wordWriter_70 (fun xr64 exr64 hmxr64 hkxr64 => ?_)
            have hkxr64 : kp xr64 = 326 := hkxr64
            refine lv_iload_n hx hb dX12_wordWriter_71 rfl (lv_at hl 4 rfl) ?_
            refine tw_zald (k := 326) (t0 := 3) (n := 150) (lo := 0) (hi := 1) hx hb hK TH hmxr64 hkxr64 (by decide) rfl rfl (i := x2) (vp_in_iff.mpr ⟨by  omega, by  omega⟩) dX12_wordWriter_72 (fun hxe65a hxe65b => ?_)
            obtain ⟨xe65, exe65⟩ : ∃ z : Int32, tw_iv E xr64 (Int32.toNatClampNeg x2) = z := ⟨_, rfl⟩
            rw [exe65] at hxe65a hxe65b ⊢
            refine lv_if_eq (tgt := 105) hx hb dX12_wordWriter_73 (by decide) (fun hc66 => ?_) (fun hc66 => ?_)
            · have hf67 : xe65.toInt = 0 := by have z := (fa_eq _ _).mp hc66; have : ((0 : Int32).toInt) = 0 := (by decide); omega
              refine lv_iload_n hx hb dX12_wordWriter_105 rfl (lv_at hl 3 rfl) ?_
              exact tw_iret hx hb hr hlocks TH hS hex ⟨⟨_, rfl, (show 0 ≤ Int32.toInt x1 from by  omega), (show Int32.toInt x1 ≤ 11 from by  omega)⟩, rfl, rfl, rfl⟩ ((by first | exact Nat.le_of_ble_eq_true rfl | (dsimp only; omega) | omega)) ((by first | exact Nat.le_of_ble_eq_true rfl | (dsimp only; omega) | omega)) dX12_wordWriter_106
            · have hf68 : ¬ (xe65.toInt = 0) := fun q => hc66 ((fa_eq _ _).mpr (by have : ((0 : Int32).toInt) = 0 := (by decide); omega))
              refine lv_aload_n hx hb dX12_wordWriter_76 rfl (lv_at hl 2 rfl) ?_
              refine tw_get (ci := 12) (C := RX12) (T := TX12) (N := 64) hx hb hB cx_inX12 hown hK TH hm0 hk0 rfl ⟨by decide, rfl⟩ 17 (by decide) cw_1210 (fun _ h9 => h9) dX12_wordWriter_77 (fun hv => ?_)
              rw [hxr53]
              refine lv_iload hx hb dX12_wordWriter_80 (lv_at hl 0 rfl) ?_
              refine tw_aald (k := 317) (t0 := 6) (n := 16) (lo := 327) (hi := 0) (ty := .long) hx hb hK TH hmxr53 hkxr53 (by decide) rfl rfl (i := xe4) (vp_in_iff.mpr ⟨by  omega, by  omega⟩) dX12_wordWriter_82 (fun xr69 exr69 hmxr69 hkxr69 => ?_)
              have hkxr69 : kp xr69 = 327 := hkxr69
              refine lv_iload_n hx hb dX12_wordWriter_83 rfl (lv_at hl 4 rfl) ?_
              refine tw_lald2 (k := 327) (n := 150) (lo := 0) (hi := 0) hx hb hK TH hmxr69 hkxr69 (by decide) rfl (i := x2) (vp_in_iff.mpr ⟨by  omega, by  omega⟩) dX12_wordWriter_84 (fun xl70 exl70 => ?_)
              refine lv_aload_n hx hb dX12_wordWriter_85 rfl (lv_at hl 2 rfl) ?_
              refine tw_get (ci := 12) (C := RX12) (T := TX12) (N := 64) hx hb hB cx_inX12 hown hK TH hm0 hk0 rfl ⟨by decide, rfl⟩ 17 (by decide) cw_1210 (fun _ h9 => h9) dX12_wordWriter_86 (fun hv => ?_)
              rw [hxr53]
              refine lv_iload_n hx hb dX12_wordWriter_89 rfl (lv_at hl 3 rfl) ?_
              refine tw_aald (k := 317) (t0 := 6) (n := 16) (lo := 327) (hi := 0) (ty := .long) hx hb hK TH hmxr53 hkxr53 (by decide) rfl rfl (i := x1) (vp_in_iff.mpr ⟨by  omega, by  omega⟩) dX12_wordWriter_90 (fun xr71 exr71 hmxr71 hkxr71 => ?_)
              have ezxr71 : xr56 = xr71 := exr56.symm.trans exr71
              subst ezxr71
              refine lv_iload_n hx hb dX12_wordWriter_91 rfl (lv_at hl 4 rfl) ?_
              refine tw_lald2 (k := 327) (n := 150) (lo := 0) (hi := 0) hx hb hK TH hmxr56 hkxr56 (by decide) rfl (i := x2) (vp_in_iff.mpr ⟨by  omega, by  omega⟩) dX12_wordWriter_92 (fun xl72 exl72 => ?_)
              refine W.lcmp hx hb dX12_wordWriter_93 ?_
              have hzi73 := ia_lc xl70 xl72
              generalize lg_cmp xl70 xl72 = zi73 at hzi73 ⊢
              refine lv_if_ne (tgt := 105) hx hb dX12_wordWriter_94 (by decide) (fun hc74 => ?_) (fun hc74 => ?_)
              · have hf75 : ¬ (zi73.toInt = 0) := fun q => hc74 ((fa_eq _ _).mpr (by have : ((0 : Int32).toInt) = 0 := (by decide); omega))
                refine lv_iload_n hx hb dX12_wordWriter_105 rfl (lv_at hl 3 rfl) ?_
                exact tw_iret hx hb hr hlocks TH hS hex ⟨⟨_, rfl, (show 0 ≤ Int32.toInt x1 from by  omega), (show Int32.toInt x1 ≤ 11 from by  omega)⟩, rfl, rfl, rfl⟩ ((by first | exact Nat.le_of_ble_eq_true rfl | (dsimp only; omega) | omega)) ((by first | exact Nat.le_of_ble_eq_true rfl | (dsimp only; omega) | omega)) dX12_wordWriter_106
              · have hf76 : zi73.toInt = 0 := by have z := (fa_eq _ _).mp hc74; have : ((0 : Int32).toInt) = 0 := (by decide); omega
                refine lv_aload_n hx hb dX12_wordWriter_97 rfl (lv_at hl 2 rfl) ?_
                refine lv_iload hx hb dX12_wordWriter_98 (lv_at hl 0 rfl) ?_
                refine lv_iload_n hx hb dX12_wordWriter_100 rfl (lv_at hl 4 rfl) ?_
                refine tw_Vc (o := a0) (ci := 12) (n := 2) (post := (fun v kq Lq Eq => (∃ x : Int32, v = some (.int x) ∧ 0 ≤ x.toInt ∧ x.toInt ≤ 11) ∧ kp = kq ∧ L = Lq ∧ E = Eq)) (As := [.int xe4, .int x2]) (rest := []) ⟨hx, hb, hml, hown, hB⟩ (fun sz => ih a0 xe4 x2 fv0_27 hm0 hk0 (by omega) (by omega) (by omega) (by omega) hfv0_27 (by  omega) (by  omega) hg0 hg1 sz) cg_12_542_X12_wordWriter rfl rfl (by decide +kernel) ⟨(by first | exact Nat.le_of_ble_eq_true rfl | (dsimp only; omega) | omega), (by first | exact Nat.le_of_ble_eq_true rfl | (dsimp only; omega) | omega)⟩ hK hN TH hS hA rfl hm0 hk0 (by decide) rfl hl.1 rfl ((by first | exact Nat.le_of_ble_eq_true rfl | (dsimp only; omega) | omega)) dX12_wordWriter_101 ⟨(by first | exact Nat.le_of_ble_eq_true rfl | (dsimp only; omega) | omega), (by first | exact Nat.le_of_ble_eq_true rfl | (dsimp only; omega) | omega)⟩ (fun v77 kp77 L77 E77 H locs hq77 hx77 TH hS => ?_)
                obtain ⟨⟨xc78, rfl, hxc78a, hxc78b⟩, rfl, rfl, rfl⟩ := hq77
                refine W.eq (g2 := F0 m 104 ls [.int xc78]) rfl ?_
                exact tw_iret hx hb hr hlocks TH hS hex ⟨⟨_, rfl, (show 0 ≤ Int32.toInt xc78 from by  omega), (show Int32.toInt xc78 ≤ 11 from by  omega)⟩, rfl, rfl, rfl⟩ ((by first | exact Nat.le_of_ble_eq_true rfl | (dsimp only; omega) | omega)) ((by first | exact Nat.le_of_ble_eq_true rfl | (dsimp only; omega) | omega)) dX12_wordWriter_104
        · have hf79 : zi58.toInt = 0 := by have z := (fa_eq _ _).mp hc59; have : ((0 : Int32).toInt) = 0 := (by decide); omega
          refine lv_aload_n hx hb dX12_wordWriter_51 rfl (lv_at hl 2 rfl) ?_
          refine lv_iload_n hx hb dX12_wordWriter_52 rfl (lv_at hl 1 rfl) ?_
          refine lv_iload_n hx hb dX12_wordWriter_53 rfl (lv_at hl 4 rfl) ?_
          refine tw_Vc (o := a0) (ci := 12) (n := 2) (post := (fun v kq Lq Eq => (∃ x : Int32, v = some (.int x) ∧ 0 ≤ x.toInt ∧ x.toInt ≤ 11) ∧ kp = kq ∧ L = Lq ∧ E = Eq)) (As := [.int xe2, .int x2]) (rest := []) ⟨hx, hb, hml, hown, hB⟩ (fun sz => ih a0 xe2 x2 fv0_27 hm0 hk0 (by omega) (by omega) (by omega) (by omega) hfv0_27 (by  omega) (by  omega) hg0 hg1 sz) cg_12_542_X12_wordWriter rfl rfl (by decide +kernel) ⟨(by first | exact Nat.le_of_ble_eq_true rfl | (dsimp only; omega) | omega), (by first | exact Nat.le_of_ble_eq_true rfl | (dsimp only; omega) | omega)⟩ hK hN TH hS hA rfl hm0 hk0 (by decide) rfl hl.1 rfl ((by first | exact Nat.le_of_ble_eq_true rfl | (dsimp only; omega) | omega)) dX12_wordWriter_54 ⟨(by first | exact Nat.le_of_ble_eq_true rfl | (dsimp only; omega) | omega), (by first | exact Nat.le_of_ble_eq_true rfl | (dsimp only; omega) | omega)⟩ (fun v80 kp80 L80 E80 H locs hq80 hx80 TH hS => ?_)
          obtain ⟨⟨xc81, rfl, hxc81a, hxc81b⟩, rfl, rfl, rfl⟩ := hq80
          refine W.eq (g2 := F0 m 57 ls [.int xc81]) rfl ?_
          exact tw_iret hx hb hr hlocks TH hS hex ⟨⟨_, rfl, (show 0 ≤ Int32.toInt xc81 from by  omega), (show Int32.toInt xc81 ≤ 11 from by  omega)⟩, rfl, rfl, rfl⟩ ((by first | exact Nat.le_of_ble_eq_true rfl | (dsimp only; omega) | omega)) ((by first | exact Nat.le_of_ble_eq_true rfl | (dsimp only; omega) | omega)) dX12_wordWriter_57
set_option maxHeartbeats 4000000 in
set_option maxRecDepth 100000 in
theorem tX12_isRow_vR (l : Launch) (D : va_G) (cs : Nat → ClassId) {kp : Nat → Nat} {L : List Nat} {E : Nat → va_E} (a0 : Nat) (x1 : Int32) (fv0_27 : Int32) (fv0_29 : Int32) (hm0 : a0 ∈ L) (hk0 : kp a0 = 12) (hfv0_27 : tw_fv E a0 27 = .int fv0_27) (hfv0_29 : tw_fv E a0 29 = .int fv0_29) (sz : Nat) : Met l yX12_isRow (.code yX12_isRow cX12_isRow 2 (some .boolean) :: cx_big) { frames := 2, cells := 0, slots := 0, locals := 46 } (tw_P D cs kp L E [.ref a0, .int x1] sz) (tw_Q D cs kp L (fun v kq Lq Eq => (∃ x : Int32, v = some (.int x) ∧ 0 ≤ x.toInt ∧ x.toInt ≤ 1 ∧ (x.toInt ≠ 0 → (0 ≤ x1.toInt ∧ x1.toInt < fv0_27.toInt) ∨ (x1.toInt = 12 ∧ fv0_29.toInt = 1))) ∧ kp = kq ∧ L = Lq ∧ E = Eq) (va_A (va_pl L E) sz)) 0 0 (va_A (va_pl L E) sz) := by
  refine tw_ofW (by decide) (Nat.le_of_ble_eq_true rfl) ?_
  intro p e s m below meth c A ls hx hb hr hml hB hown hlocks hK hN hA TH hS hl
  have hown : s.vm.findClass "TreeMergeModel" = some m.cls := hown
  have hl : lv_has ls 2 [(0, .ref a0), (1, .int x1)] := hl
  obtain ⟨kp0, ekp⟩ : ∃ z, z = kp := ⟨_, rfl⟩
  obtain ⟨L0, eL⟩ : ∃ z, z = L := ⟨_, rfl⟩
  rw [show tw_Q D cs kp L = tw_Q D cs kp0 L0 by rw [ekp, eL]]
  have hex : ∀ a : Nat, a ∈ L0 → a ∈ L ∧ kp a = kp0 a := fun a h => ⟨by rw [← eL]; exact h, by rw [ekp]⟩
  obtain ⟨qfv0_27, hqfv0_27, hqfv0_27a, hqfv0_27b⟩ := tw_rd TH hm0 hk0 (by decide) (by decide) (k := 27) rfl
  have eqfv0_27 : qfv0_27 = fv0_27 := by have q := hqfv0_27.symm.trans hfv0_27; injection q
  rw [eqfv0_27] at hqfv0_27a hqfv0_27b
  obtain ⟨qfv0_29, hqfv0_29, hqfv0_29a, hqfv0_29b⟩ := tw_rd TH hm0 hk0 (by decide) (by decide) (k := 29) rfl
  have eqfv0_29 : qfv0_29 = fv0_29 := by have q := hqfv0_29.symm.trans hfv0_29; injection q
  rw [eqfv0_29] at hqfv0_29a hqfv0_29b
  refine lv_aload_n hx hb dX12_isRow_0 rfl (lv_at hl 0 rfl) ?_
  refine lv_iload_n hx hb dX12_isRow_1 rfl (lv_at hl 1 rfl) ?_
  refine tw_Vc (o := a0) (ci := 12) (n := 1) (post := (fun v kq Lq Eq => (∃ x : Int32, v = some (.int x) ∧ 0 ≤ x.toInt ∧ x.toInt ≤ 1 ∧ (x.toInt ≠ 0 → 0 ≤ x1.toInt ∧ x1.toInt < fv0_27.toInt)) ∧ kp = kq ∧ L = Lq ∧ E = Eq)) (As := [.int x1]) (rest := []) ⟨hx, hb, hml, hown, hB⟩ (fun sz => tX12_isEdition l D cs a0 x1 fv0_27 hm0 hk0 hfv0_27 sz) cg_12_396_X12_isEdition rfl rfl (by decide +kernel) ⟨Nat.le_of_ble_eq_true rfl, Nat.le_of_ble_eq_true rfl⟩ hK hN TH hS hA rfl hm0 hk0 (by decide) rfl hl.1 rfl (Nat.le_of_ble_eq_true rfl) dX12_isRow_2 ⟨Nat.le_of_ble_eq_true rfl, Nat.le_of_ble_eq_true rfl⟩ (fun v1 kp1 L1 E1 H locs hq1 hx1 TH hS => ?_)
  obtain ⟨⟨xc2, rfl, hxc2a, hxc2b, hpoxc2_0⟩, rfl, rfl, rfl⟩ := hq1
  refine W.eq (g2 := F0 m 5 ls [.int xc2]) rfl ?_
  refine lv_if_ne (tgt := 21) hx hb dX12_isRow_5 (by decide) (fun hc3 => ?_) (fun hc3 => ?_)
  · have hf4 : ¬ (xc2.toInt = 0) := fun q => hc3 ((fa_eq _ _).mpr (by have : ((0 : Int32).toInt) = 0 := (by decide); omega))
    refine lv_iconst (v := 1) hx hb dX12_isRow_21 (by decide) ?_
    refine lv_goto (tgt := 26) hx hb dX12_isRow_22 (by decide) ?_
    exact tw_zret hx hb hr hlocks (by decide) TH hS hex ⟨⟨_, rfl, (show 0 ≤ Int32.toInt 1 from by have : ((1 : Int32).toInt) = 1 := (by decide); omega), (show Int32.toInt 1 ≤ 1 from by have : ((1 : Int32).toInt) = 1 := (by decide); omega), (by have : ((1 : Int32).toInt) = 1 := (by decide); omega)⟩, rfl, rfl, rfl⟩ (Nat.le_of_ble_eq_true rfl) (Nat.le_of_ble_eq_true rfl) dX12_isRow_26
  · have hf5 : xc2.toInt = 0 := by have z := (fa_eq _ _).mp hc3; have : ((0 : Int32).toInt) = 0 := (by decide); omega
    refine lv_iload_n hx hb dX12_isRow_8 rfl (lv_at hl 1 rfl) ?_
    refine lv_bipush (v := 12) hx hb dX12_isRow_9 (by decide) ?_
    refine lv_icmp_ne (tgt := 25) hx hb dX12_isRow_11 (by decide) (fun hc6 => ?_) (fun hc6 => ?_)
    · have hf7 : ¬ (x1.toInt = 12) := fun q => hc6 ((fa_eq _ _).mpr (by have : ((12 : Int32).toInt) = 12 := (by decide); omega))
      refine lv_iconst (v := 0) hx hb dX12_isRow_25 (by decide) ?_
      exact tw_zret hx hb hr hlocks (by decide) TH hS hex ⟨⟨_, rfl, (show 0 ≤ Int32.toInt 0 from by have : ((0 : Int32).toInt) = 0 := (by decide); omega), (show Int32.toInt 0 ≤ 1 from by have : ((0 : Int32).toInt) = 0 := (by decide); omega), (by have : ((0 : Int32).toInt) = 0 := (by decide); omega)⟩, rfl, rfl, rfl⟩ (Nat.le_of_ble_eq_true rfl) (Nat.le_of_ble_eq_true rfl) dX12_isRow_26
    · have hf8 : x1.toInt = 12 := by have z := (fa_eq _ _).mp hc6; have : ((12 : Int32).toInt) = 12 := (by decide); omega
      refine lv_aload_n hx hb dX12_isRow_14 rfl (lv_at hl 0 rfl) ?_
      refine tw_get (ci := 12) (C := RX12) (T := TX12) (N := 64) hx hb hB cx_inX12 hown hK TH hm0 hk0 rfl ⟨by decide, rfl⟩ 29 (by decide) cw_1222 (fun _ h9 => h9) dX12_isRow_15 (fun hv => ?_)
      rw [hfv0_29]
      refine lv_if_eq (tgt := 25) hx hb dX12_isRow_18 (by decide) (fun hc9 => ?_) (fun hc9 => ?_)
      · have hf10 : fv0_29.toInt = 0 := by have z := (fa_eq _ _).mp hc9; have : ((0 : Int32).toInt) = 0 := (by decide); omega
        refine lv_iconst (v := 0) hx hb dX12_isRow_25 (by decide) ?_
        exact tw_zret hx hb hr hlocks (by decide) TH hS hex ⟨⟨_, rfl, (show 0 ≤ Int32.toInt 0 from by have : ((0 : Int32).toInt) = 0 := (by decide); omega), (show Int32.toInt 0 ≤ 1 from by have : ((0 : Int32).toInt) = 0 := (by decide); omega), (by have : ((0 : Int32).toInt) = 0 := (by decide); omega)⟩, rfl, rfl, rfl⟩ (Nat.le_of_ble_eq_true rfl) (Nat.le_of_ble_eq_true rfl) dX12_isRow_26
      · have hf11 : ¬ (fv0_29.toInt = 0) := fun q => hc9 ((fa_eq _ _).mpr (by have : ((0 : Int32).toInt) = 0 := (by decide); omega))
        refine lv_iconst (v := 1) hx hb dX12_isRow_21 (by decide) ?_
        refine lv_goto (tgt := 26) hx hb dX12_isRow_22 (by decide) ?_
        exact tw_zret hx hb hr hlocks (by decide) TH hS hex ⟨⟨_, rfl, (show 0 ≤ Int32.toInt 1 from by have : ((1 : Int32).toInt) = 1 := (by decide); omega), (show Int32.toInt 1 ≤ 1 from by have : ((1 : Int32).toInt) = 1 := (by decide); omega), (by have : ((1 : Int32).toInt) = 1 := (by decide); omega)⟩, rfl, rfl, rfl⟩ (Nat.le_of_ble_eq_true rfl) (Nat.le_of_ble_eq_true rfl) dX12_isRow_26
set_option maxHeartbeats 4000000 in
set_option maxRecDepth 100000 in
theorem tX12_isNode_vR (l : Launch) (D : va_G) (cs : Nat → ClassId) {kp : Nat → Nat} {L : List Nat} {E : Nat → va_E} (a0 : Nat) (x1 : Int32) (x2 : Int32) (fv0_27 : Int32) (fv0_29 : Int32) (fv0_26 : Int32) (hm0 : a0 ∈ L) (hk0 : kp a0 = 12) (hfv0_27 : tw_fv E a0 27 = .int fv0_27) (hfv0_29 : tw_fv E a0 29 = .int fv0_29) (hfv0_26 : tw_fv E a0 26 = .int fv0_26) (sz : Nat) : Met l yX12_isNode (.code yX12_isNode cX12_isNode 3 (some .boolean) :: cx_big) { frames := 3, cells := 0, slots := 0, locals := 67 } (tw_P D cs kp L E [.ref a0, .int x1, .int x2] sz) (tw_Q D cs kp L (fun v kq Lq Eq => (∃ x : Int32, v = some (.int x) ∧ 0 ≤ x.toInt ∧ x.toInt ≤ 1 ∧ (x.toInt ≠ 0 → ((0 ≤ x1.toInt ∧ x1.toInt < fv0_27.toInt) ∨ (x1.toInt = 12 ∧ fv0_29.toInt = 1)) ∧ 0 ≤ x2.toInt ∧ x2.toInt < fv0_26.toInt) ∧ (x.toInt ≠ 0 → rw_h E a0 x1.toInt (x2.toInt).toNat ≠ 0)) ∧ kp = kq ∧ L = Lq ∧ E = Eq) (va_A (va_pl L E) sz)) 0 0 (va_A (va_pl L E) sz) := by
  refine tw_ofW (by decide) (Nat.le_of_ble_eq_true rfl) ?_
  intro p e s m below meth c A ls hx hb hr hml hB hown hlocks hK hN hA TH hS hl
  have hown : s.vm.findClass "TreeMergeModel" = some m.cls := hown
  have hl : lv_has ls 3 [(0, .ref a0), (1, .int x1), (2, .int x2)] := hl
  obtain ⟨kp0, ekp⟩ : ∃ z, z = kp := ⟨_, rfl⟩
  obtain ⟨L0, eL⟩ : ∃ z, z = L := ⟨_, rfl⟩
  rw [show tw_Q D cs kp L = tw_Q D cs kp0 L0 by rw [ekp, eL]]
  have hex : ∀ a : Nat, a ∈ L0 → a ∈ L ∧ kp a = kp0 a := fun a h => ⟨by rw [← eL]; exact h, by rw [ekp]⟩
  obtain ⟨qfv0_27, hqfv0_27, hqfv0_27a, hqfv0_27b⟩ := tw_rd TH hm0 hk0 (by decide) (by decide) (k := 27) rfl
  have eqfv0_27 : qfv0_27 = fv0_27 := by have q := hqfv0_27.symm.trans hfv0_27; injection q
  rw [eqfv0_27] at hqfv0_27a hqfv0_27b
  obtain ⟨qfv0_29, hqfv0_29, hqfv0_29a, hqfv0_29b⟩ := tw_rd TH hm0 hk0 (by decide) (by decide) (k := 29) rfl
  have eqfv0_29 : qfv0_29 = fv0_29 := by have q := hqfv0_29.symm.trans hfv0_29; injection q
  rw [eqfv0_29] at hqfv0_29a hqfv0_29b
  obtain ⟨qfv0_26, hqfv0_26, hqfv0_26a, hqfv0_26b⟩ := tw_rd TH hm0 hk0 (by decide) (by decide) (k := 26) rfl
  have eqfv0_26 : qfv0_26 = fv0_26 := by have q := hqfv0_26.symm.trans hfv0_26; injection q
  rw [eqfv0_26] at hqfv0_26a hqfv0_26b
  refine lv_aload_n hx hb dX12_isNode_0 rfl (lv_at hl 0 rfl) ?_
  refine lv_iload_n hx hb dX12_isNode_1 rfl (lv_at hl 1 rfl) ?_
  refine tw_Vc (o := a0) (ci := 12) (n := 1) (post := (fun v kq Lq Eq => (∃ x : Int32, v = some (.int x) ∧ 0 ≤ x.toInt ∧ x.toInt ≤ 1 ∧ (x.toInt ≠ 0 → (0 ≤ x1.toInt ∧ x1.toInt < fv0_27.toInt) ∨ (x1.toInt = 12 ∧ fv0_29.toInt = 1))) ∧ kp = kq ∧ L = Lq ∧ E = Eq)) (As := [.int x1]) (rest := []) ⟨hx, hb, hml, hown, hB⟩ (fun sz => tX12_isRow_vR l D cs a0 x1 fv0_27 fv0_29 hm0 hk0 hfv0_27 hfv0_29 sz) cg_12_545_X12_isRow rfl rfl (by decide +kernel) ⟨Nat.le_of_ble_eq_true rfl, Nat.le_of_ble_eq_true rfl⟩ hK hN TH hS hA rfl hm0 hk0 (by decide) rfl hl.1 rfl (Nat.le_of_ble_eq_true rfl) dX12_isNode_2 ⟨Nat.le_of_ble_eq_true rfl, Nat.le_of_ble_eq_true rfl⟩ (fun v1 kp1 L1 E1 H locs hq1 hx1 TH hS => ?_)
  obtain ⟨⟨xc2, rfl, hxc2a, hxc2b, hpoxc2_0⟩, rfl, rfl, rfl⟩ := hq1
  refine W.eq (g2 := F0 m 5 ls [.int xc2]) rfl ?_
  refine lv_if_eq (tgt := 39) hx hb dX12_isNode_5 (by decide) (fun hc3 => ?_) (fun hc3 => ?_)
  · have hf4 : xc2.toInt = 0 := by have z := (fa_eq _ _).mp hc3; have : ((0 : Int32).toInt) = 0 := (by decide); omega
    refine lv_iconst (v := 0) hx hb dX12_isNode_39 (by decide) ?_
    exact tw_zret hx hb hr hlocks (by decide) TH hS hex ⟨⟨_, rfl, (show 0 ≤ Int32.toInt 0 from by have : ((0 : Int32).toInt) = 0 := (by decide); omega), (show Int32.toInt 0 ≤ 1 from by have : ((0 : Int32).toInt) = 0 := (by decide); omega), (by have : ((0 : Int32).toInt) = 0 := (by decide); omega), (by have : ((0 : Int32).toInt) = 0 := (by decide); intro q; exfalso; exact q (by decide))⟩, rfl, rfl, rfl⟩ (Nat.le_of_ble_eq_true rfl) (Nat.le_of_ble_eq_true rfl) dX12_isNode_40
  · have hf5 : ¬ (xc2.toInt = 0) := fun q => hc3 ((fa_eq _ _).mpr (by have : ((0 : Int32).toInt) = 0 := (by decide); omega))
    refine lv_iload_n hx hb dX12_isNode_8 rfl (lv_at hl 2 rfl) ?_
    refine lv_i2l (v := (x2).toInt64) hx hb dX12_isNode_9 rfl ?_
    refine tw_topl (fun zl6 ezl6 => ?_)
    have hzl6 : zl6.toInt = x2.toInt := by rw [ezl6];  exact (Int32.toInt_toInt64 _)
    refine lv_lconst (v := 0) hx hb dX12_isNode_10 (by decide) ?_
    refine tw_topl (fun zl7 ezl7 => ?_)
    have hzl7 : zl7.toInt = 0 := by rw [ezl7]; decide
    refine lv_aload_n hx hb dX12_isNode_11 rfl (lv_at hl 0 rfl) ?_
    refine tw_get (ci := 12) (C := RX12) (T := TX12) (N := 64) hx hb hB cx_inX12 hown hK TH hm0 hk0 rfl ⟨by decide, rfl⟩ 26 (by decide) cw_1219 (fun _ h9 => h9) dX12_isNode_12 (fun hv => ?_)
    rw [hfv0_26]
    refine lv_iconst (v := 1) hx hb dX12_isNode_15 (by decide) ?_
    refine lv_isub hx hb dX12_isNode_16 ?_
    refine lv_topi (fun zi8 ezi8 => ?_)
    have hzi8 : zi8.toInt = fv0_26.toInt - 1 := by rw [ezi8]; have : ((1 : Int32).toInt) = 1 := (by decide); have := ia_lo fv0_26; have := ia_hi fv0_26; exact (ia_sub (by omega) (by omega)).trans (by omega)
    refine lv_i2l (v := (zi8).toInt64) hx hb dX12_isNode_17 rfl ?_
    refine tw_topl (fun zl9 ezl9 => ?_)
    have hzl9 : zl9.toInt = zi8.toInt := by rw [ezl9];  exact (Int32.toInt_toInt64 _)
    refine tw_Sc (n := 3) (post := (fun v kq Lq Eq => (∃ x : Int32, v = some (.int x) ∧ 0 ≤ x.toInt ∧ x.toInt ≤ 1 ∧ (x.toInt ≠ 0 → zl7.toInt ≤ zl6.toInt ∧ zl6.toInt ≤ zl9.toInt)) ∧ kp = kq ∧ L = Lq ∧ E = Eq)) (As := [.long zl6, .long zl7, .long zl9]) (rest := []) ⟨hx, hb, hml, hown, hB⟩ (fun sz => tX12_in l D cs zl6 zl7 zl9  sz) cg_12_171_X12_in rfl rfl (by decide +kernel) ⟨Nat.le_of_ble_eq_true rfl, Nat.le_of_ble_eq_true rfl⟩ hK hN TH hS hA rfl hl.1 rfl (Nat.le_of_ble_eq_true rfl) dX12_isNode_18 ⟨Nat.le_of_ble_eq_true rfl, Nat.le_of_ble_eq_true rfl⟩ (fun v10 kp10 L10 E10 H locs hq10 hx10 TH hS => ?_)
    obtain ⟨⟨xc11, rfl, hxc11a, hxc11b, hpoxc11_0⟩, rfl, rfl, rfl⟩ := hq10
    refine W.eq (g2 := F0 m 21 ls [.int xc11]) rfl ?_
    refine lv_if_eq (tgt := 39) hx hb dX12_isNode_21 (by decide) (fun hc12 => ?_) (fun hc12 => ?_)
    · have hf13 : xc11.toInt = 0 := by have z := (fa_eq _ _).mp hc12; have : ((0 : Int32).toInt) = 0 := (by decide); omega
      refine lv_iconst (v := 0) hx hb dX12_isNode_39 (by decide) ?_
      exact tw_zret hx hb hr hlocks (by decide) TH hS hex ⟨⟨_, rfl, (show 0 ≤ Int32.toInt 0 from by have : ((0 : Int32).toInt) = 0 := (by decide); omega), (show Int32.toInt 0 ≤ 1 from by have : ((0 : Int32).toInt) = 0 := (by decide); omega), (by have : ((0 : Int32).toInt) = 0 := (by decide); omega), (by have : ((0 : Int32).toInt) = 0 := (by decide); intro q; exfalso; exact q (by decide))⟩, rfl, rfl, rfl⟩ (Nat.le_of_ble_eq_true rfl) (Nat.le_of_ble_eq_true rfl) dX12_isNode_40
    · have hf14 : ¬ (xc11.toInt = 0) := fun q => hc12 ((fa_eq _ _).mpr (by have : ((0 : Int32).toInt) = 0 := (by decide); omega))
      refine lv_aload_n hx hb dX12_isNode_24 rfl (lv_at hl 0 rfl) ?_
      refine tw_get (ci := 12) (C := RX12) (T := TX12) (N := 64) hx hb hB cx_inX12 hown hK TH hm0 hk0 rfl ⟨by decide, rfl⟩ 16 (by decide) cw_1209 (fun _ h9 => h9) dX12_isNode_25 (fun hv => ?_)
      obtain ⟨xr15, hxr15, hmxr15, hkxr15⟩ : ∃ a : Nat, tw_fv E a0 16 = .ref a ∧ a ∈ L ∧ kp a = 316 := hv
      rw [hxr15]
      refine lv_iload_n hx hb dX12_isNode_28 rfl (lv_at hl 1 rfl) ?_
      refine tw_aald (k := 316) (t0 := 5) (n := 16) (lo := 326) (hi := 0) (ty := .boolean) hx hb hK TH hmxr15 hkxr15 (by decide) rfl rfl (i := x1) (vp_in_iff.mpr ⟨by  omega, by  omega⟩) dX12_isNode_29 (fun xr16 exr16 hmxr16 hkxr16 => ?_)
      have hkxr16 : kp xr16 = 326 := hkxr16
      refine lv_iload_n hx hb dX12_isNode_30 rfl (lv_at hl 2 rfl) ?_
      refine tw_zald (k := 326) (t0 := 3) (n := 150) (lo := 0) (hi := 1) hx hb hK TH hmxr16 hkxr16 (by decide) rfl rfl (i := x2) (vp_in_iff.mpr ⟨by  omega, by  omega⟩) dX12_isNode_31 (fun hxe17a hxe17b => ?_)
      obtain ⟨xe17, exe17⟩ : ∃ z : Int32, tw_iv E xr16 (Int32.toNatClampNeg x2) = z := ⟨_, rfl⟩
      rw [exe17] at hxe17a hxe17b ⊢
      refine lv_if_eq (tgt := 39) hx hb dX12_isNode_32 (by decide) (fun hc18 => ?_) (fun hc18 => ?_)
      · have hf19 : xe17.toInt = 0 := by have z := (fa_eq _ _).mp hc18; have : ((0 : Int32).toInt) = 0 := (by decide); omega
        refine lv_iconst (v := 0) hx hb dX12_isNode_39 (by decide) ?_
        exact tw_zret hx hb hr hlocks (by decide) TH hS hex ⟨⟨_, rfl, (show 0 ≤ Int32.toInt 0 from by have : ((0 : Int32).toInt) = 0 := (by decide); omega), (show Int32.toInt 0 ≤ 1 from by have : ((0 : Int32).toInt) = 0 := (by decide); omega), (by have : ((0 : Int32).toInt) = 0 := (by decide); omega), (by have : ((0 : Int32).toInt) = 0 := (by decide); intro q; exfalso; exact q (by decide))⟩, rfl, rfl, rfl⟩ (Nat.le_of_ble_eq_true rfl) (Nat.le_of_ble_eq_true rfl) dX12_isNode_40
      · have hf20 : ¬ (xe17.toInt = 0) := fun q => hc18 ((fa_eq _ _).mpr (by have : ((0 : Int32).toInt) = 0 := (by decide); omega))
        refine lv_iconst (v := 1) hx hb dX12_isNode_35 (by decide) ?_
        refine lv_goto (tgt := 40) hx hb dX12_isNode_36 (by decide) ?_
        exact tw_zret hx hb hr hlocks (by decide) TH hS hex ⟨⟨_, rfl, (show 0 ≤ Int32.toInt 1 from by have : ((1 : Int32).toInt) = 1 := (by decide); omega), (show Int32.toInt 1 ≤ 1 from by have : ((1 : Int32).toInt) = 1 := (by decide); omega), (by have : ((1 : Int32).toInt) = 1 := (by decide); omega), (by have : ((1 : Int32).toInt) = 1 := (by decide); have rf_xe17 : rw_h E a0 (x1.toInt) (x2.toInt).toNat = xe17.toInt := rw_h_of (m := a0) (i := x1) (c := x2) hxr15 exr16 exe17; intro _; rw [rf_xe17]; omega)⟩, rfl, rfl, rfl⟩ (Nat.le_of_ble_eq_true rfl) (Nat.le_of_ble_eq_true rfl) dX12_isNode_40
set_option maxHeartbeats 4000000 in
set_option maxRecDepth 100000 in
theorem tX12_of (l : Launch) (D : va_G) (cs : Nat → ClassId) {kp : Nat → Nat} {L : List Nat} {E : Nat → va_E} (a0 : Nat) (x1 : Int32) (x2 : Int32) (x3 : Int32) (hm0 : a0 ∈ L) (hk0 : kp a0 = 12) (hg0 : eo_ok E a0) (hg1 : ln_ok E a0) (hg2 : dr_ok E a0) (sz : Nat) : Met l yX12_of (.code yX12_of cX12_of 4 (some .int) :: cx_big) { frames := 43, cells := 0, slots := 0, locals := 1174 } (tw_P D cs kp L E [.ref a0, .int x1, .int x2, .int x3] sz) (tw_Q D cs kp L (fun v kq Lq Eq => (∃ x : Int32, v = some (.int x)) ∧ kp = kq ∧ L = Lq ∧ E = Eq) (va_A (va_pl L E) sz)) 0 0 (va_A (va_pl L E) sz) := by
  refine tw_ofW (by decide) (Nat.le_of_ble_eq_true rfl) ?_
  intro p e s m below meth c A ls hx hb hr hml hB hown hlocks hK hN hA TH hS hl
  have hown : s.vm.findClass "TreeMergeModel" = some m.cls := hown
  have hl : lv_has ls 4 [(0, .ref a0), (1, .int x1), (2, .int x2), (3, .int x3)] := hl
  obtain ⟨kp0, ekp⟩ : ∃ z, z = kp := ⟨_, rfl⟩
  obtain ⟨L0, eL⟩ : ∃ z, z = L := ⟨_, rfl⟩
  rw [show tw_Q D cs kp L = tw_Q D cs kp0 L0 by rw [ekp, eL]]
  have hex : ∀ a : Nat, a ∈ L0 → a ∈ L ∧ kp a = kp0 a := fun a h => ⟨by rw [← eL]; exact h, by rw [ekp]⟩
  refine lv_aload_n hx hb dX12_of_0 rfl (lv_at hl 0 rfl) ?_
  refine lv_iload_n hx hb dX12_of_1 rfl (lv_at hl 1 rfl) ?_
  refine lv_iload_n hx hb dX12_of_2 rfl (lv_at hl 2 rfl) ?_
  obtain ⟨xi1, hxi1, hxi1a, hxi1b⟩ := tw_rd TH hm0 hk0 (by decide) (by decide) (k := 27) rfl
  obtain ⟨xi2, hxi2, hxi2a, hxi2b⟩ := tw_rd TH hm0 hk0 (by decide) (by decide) (k := 29) rfl
  obtain ⟨xi3, hxi3, hxi3a, hxi3b⟩ := tw_rd TH hm0 hk0 (by decide) (by decide) (k := 26) rfl
  refine tw_Vc (o := a0) (ci := 12) (n := 2) (post := (fun v kq Lq Eq => (∃ x : Int32, v = some (.int x) ∧ 0 ≤ x.toInt ∧ x.toInt ≤ 1 ∧ (x.toInt ≠ 0 → ((0 ≤ x1.toInt ∧ x1.toInt < xi1.toInt) ∨ (x1.toInt = 12 ∧ xi2.toInt = 1)) ∧ 0 ≤ x2.toInt ∧ x2.toInt < xi3.toInt) ∧ (x.toInt ≠ 0 → rw_h E a0 x1.toInt (x2.toInt).toNat ≠ 0)) ∧ kp = kq ∧ L = Lq ∧ E = Eq)) (As := [.int x1, .int x2]) (rest := []) ⟨hx, hb, hml, hown, hB⟩ (fun sz => tX12_isNode_vR l D cs a0 x1 x2 xi1 xi2 xi3 hm0 hk0 hxi1 hxi2 hxi3 sz) cg_12_548_X12_isNode rfl rfl (by decide +kernel) ⟨Nat.le_of_ble_eq_true rfl, Nat.le_of_ble_eq_true rfl⟩ hK hN TH hS hA rfl hm0 hk0 (by decide) rfl hl.1 rfl (Nat.le_of_ble_eq_true rfl) dX12_of_3 ⟨Nat.le_of_ble_eq_true rfl, Nat.le_of_ble_eq_true rfl⟩ (fun v4 kp4 L4 E4 H locs hq4 hx4 TH hS => ?_)
  obtain ⟨⟨xc5, rfl, hxc5a, hxc5b, hpoxc5_0, hpoxc5_1⟩, rfl, rfl, rfl⟩ := hq4
  refine W.eq (g2 := F0 m 6 ls [.int xc5]) rfl ?_
  refine lv_if_ne (tgt := 11) hx hb dX12_of_6 (by decide) (fun hc6 => ?_) (fun hc6 => ?_)
  · have hf7 : ¬ (xc5.toInt = 0) := fun q => hc6 ((fa_eq _ _).mpr (by have : ((0 : Int32).toInt) = 0 := (by decide); omega))
    have hnn := hpoxc5_0 (by omega)
    have hnh := hpoxc5_1 (by omega)
    have hrow : row_ok E a0 (x1.toInt) := (by rcases hnn.1 with z | z; (exact hg0 (x1.toInt) z.1 (by rw [tw_fi_of hxi1]; exact z.2)); (rw [z.1]; exact hg2 (by rw [tw_fi_of hxi2]; exact z.2)))
    have hn0 := hnn.1
    have hn1 := hnn.2.1
    have hn2 := hnn.2.2
    refine lv_iload_n hx hb dX12_of_11 rfl (lv_at hl 3 rfl) ?_
    by_cases hc8_0 : x3 = 0
    · refine lv_tableIn (x := x3) (off := 44) (tgt := 56) hx hb dX12_of_12 (by rw [hc8_0]; decide) (by rw [hc8_0]; decide) (by rw [hc8_0]; decide) (by decide) ?_
      refine lv_aload_n hx hb dX12_of_56 rfl (lv_at hl 0 rfl) ?_
      refine tw_get (ci := 12) (C := RX12) (T := TX12) (N := 64) hx hb hB cx_inX12 hown hK TH hm0 hk0 rfl ⟨by decide, rfl⟩ 20 (by decide) cw_1213 (fun _ h9 => h9) dX12_of_57 (fun hv => ?_)
      obtain ⟨xr9, hxr9, hmxr9, hkxr9⟩ : ∃ a : Nat, tw_fv E a0 20 = .ref a ∧ a ∈ L ∧ kp a = 330 := hv
      rw [hxr9]
      refine lv_iload_n hx hb dX12_of_60 rfl (lv_at hl 2 rfl) ?_
      refine tw_iald (k := 330) (t0 := 0) (n := 150) (lo := 0) (hi := 9) hx hb hK TH hmxr9 hkxr9 (by decide) rfl rfl (i := x2) (vp_in_iff.mpr ⟨by  omega, by  omega⟩) dX12_of_61 (fun hxe10a hxe10b => ?_)
      obtain ⟨xe10, exe10⟩ : ∃ z : Int32, tw_iv E xr9 (Int32.toNatClampNeg x2) = z := ⟨_, rfl⟩
      rw [exe10] at hxe10a hxe10b ⊢
      exact tw_iret hx hb hr hlocks TH hS hex ⟨⟨_, rfl⟩, rfl, rfl, rfl⟩ (Nat.le_of_ble_eq_true rfl) (Nat.le_of_ble_eq_true rfl) dX12_of_62
    by_cases hc8_1 : x3 = 1
    · refine lv_tableIn (x := x3) (off := 51) (tgt := 63) hx hb dX12_of_12 (by rw [hc8_1]; decide) (by rw [hc8_1]; decide) (by rw [hc8_1]; decide) (by decide) ?_
      refine lv_aload_n hx hb dX12_of_63 rfl (lv_at hl 0 rfl) ?_
      refine tw_get (ci := 12) (C := RX12) (T := TX12) (N := 64) hx hb hB cx_inX12 hown hK TH hm0 hk0 rfl ⟨by decide, rfl⟩ 18 (by decide) cw_1211 (fun _ h9 => h9) dX12_of_64 (fun hv => ?_)
      obtain ⟨xr11, hxr11, hmxr11, hkxr11⟩ : ∃ a : Nat, tw_fv E a0 18 = .ref a ∧ a ∈ L ∧ kp a = 318 := hv
      rw [hxr11]
      refine lv_iload_n hx hb dX12_of_67 rfl (lv_at hl 1 rfl) ?_
      refine tw_aald (k := 318) (t0 := 4) (n := 16) (lo := 328) (hi := 0) (ty := .int) hx hb hK TH hmxr11 hkxr11 (by decide) rfl rfl (i := x1) (vp_in_iff.mpr ⟨by  omega, by  omega⟩) dX12_of_68 (fun xr12 exr12 hmxr12 hkxr12 => ?_)
      have hkxr12 : kp xr12 = 328 := hkxr12
      refine lv_iload_n hx hb dX12_of_69 rfl (lv_at hl 2 rfl) ?_
      refine tw_iald (k := 328) (t0 := 0) (n := 150) (lo := (-1)) (hi := 149) hx hb hK TH hmxr12 hkxr12 (by decide) rfl rfl (i := x2) (vp_in_iff.mpr ⟨by  omega, by  omega⟩) dX12_of_70 (fun hxe13a hxe13b => ?_)
      obtain ⟨xe13, exe13⟩ : ∃ z : Int32, tw_iv E xr12 (Int32.toNatClampNeg x2) = z := ⟨_, rfl⟩
      rw [exe13] at hxe13a hxe13b ⊢
      exact tw_iret hx hb hr hlocks TH hS hex ⟨⟨_, rfl⟩, rfl, rfl, rfl⟩ (Nat.le_of_ble_eq_true rfl) (Nat.le_of_ble_eq_true rfl) dX12_of_71
    by_cases hc8_2 : x3 = 2
    · refine lv_tableIn (x := x3) (off := 60) (tgt := 72) hx hb dX12_of_12 (by rw [hc8_2]; decide) (by rw [hc8_2]; decide) (by rw [hc8_2]; decide) (by decide) ?_
      refine lv_aload_n hx hb dX12_of_72 rfl (lv_at hl 0 rfl) ?_
      refine lv_iload_n hx hb dX12_of_73 rfl (lv_at hl 1 rfl) ?_
      refine lv_iload_n hx hb dX12_of_74 rfl (lv_at hl 2 rfl) ?_
      refine tw_Vc (o := a0) (ci := 12) (n := 2) (post := (fun v kq Lq Eq => (∃ x : Int32, v = some (.int x)) ∧ kp = kq ∧ L = Lq ∧ E = Eq)) (As := [.int x1, .int x2]) (rest := []) ⟨hx, hb, hml, hown, hB⟩ (fun sz => tX12_placeOf l D cs a0 x1 x2 hm0 hk0 (by omega) (by omega) (by omega) (by omega) sz) cg_12_551_X12_placeOf rfl rfl (by decide +kernel) ⟨Nat.le_of_ble_eq_true rfl, Nat.le_of_ble_eq_true rfl⟩ hK hN TH hS hA rfl hm0 hk0 (by decide) rfl hl.1 rfl (Nat.le_of_ble_eq_true rfl) dX12_of_75 ⟨Nat.le_of_ble_eq_true rfl, Nat.le_of_ble_eq_true rfl⟩ (fun v14 kp14 L14 E14 H locs hq14 hx14 TH hS => ?_)
      obtain ⟨⟨xc15, rfl⟩, rfl, rfl, rfl⟩ := hq14
      refine W.eq (g2 := F0 m 78 ls [.int xc15]) rfl ?_
      exact tw_iret hx hb hr hlocks TH hS hex ⟨⟨_, rfl⟩, rfl, rfl, rfl⟩ (Nat.le_of_ble_eq_true rfl) (Nat.le_of_ble_eq_true rfl) dX12_of_78
    by_cases hc8_3 : x3 = 3
    · refine lv_tableIn (x := x3) (off := 67) (tgt := 79) hx hb dX12_of_12 (by rw [hc8_3]; decide) (by rw [hc8_3]; decide) (by rw [hc8_3]; decide) (by decide) ?_
      refine lv_aload_n hx hb dX12_of_79 rfl (lv_at hl 0 rfl) ?_
      refine lv_iload_n hx hb dX12_of_80 rfl (lv_at hl 1 rfl) ?_
      refine lv_iload_n hx hb dX12_of_81 rfl (lv_at hl 2 rfl) ?_
      refine tw_Vc (o := a0) (ci := 12) (n := 2) (post := (fun v kq Lq Eq => (∃ x : Int32, v = some (.int x) ∧ 0 ≤ x.toInt ∧ x.toInt ≤ 150 ∧ (x.toInt = 0 → nk_inv (rw_h E a0 x1.toInt) (rw_p E a0 x1.toInt) x2.toInt 150)) ∧ kp = kq ∧ L = Lq ∧ E = Eq)) (As := [.int x1, .int x2]) (rest := []) ⟨hx, hb, hml, hown, hB⟩ (fun sz => tX12_kidsOf l D cs a0 x1 x2 hm0 hk0 (by omega) (by omega) sz) cg_12_315_X12_kidsOf rfl rfl (by decide +kernel) ⟨Nat.le_of_ble_eq_true rfl, Nat.le_of_ble_eq_true rfl⟩ hK hN TH hS hA rfl hm0 hk0 (by decide) rfl hl.1 rfl (Nat.le_of_ble_eq_true rfl) dX12_of_82 ⟨Nat.le_of_ble_eq_true rfl, Nat.le_of_ble_eq_true rfl⟩ (fun v16 kp16 L16 E16 H locs hq16 hx16 TH hS => ?_)
      obtain ⟨⟨xc17, rfl, hxc17a, hxc17b, hpoxc17_0⟩, rfl, rfl, rfl⟩ := hq16
      refine W.eq (g2 := F0 m 85 ls [.int xc17]) rfl ?_
      exact tw_iret hx hb hr hlocks TH hS hex ⟨⟨_, rfl⟩, rfl, rfl, rfl⟩ (Nat.le_of_ble_eq_true rfl) (Nat.le_of_ble_eq_true rfl) dX12_of_85
    by_cases hc8_4 : x3 = 4
    · refine lv_tableIn (x := x3) (off := 74) (tgt := 86) hx hb dX12_of_12 (by rw [hc8_4]; decide) (by rw [hc8_4]; decide) (by rw [hc8_4]; decide) (by decide) ?_
      refine lv_aload_n hx hb dX12_of_86 rfl (lv_at hl 0 rfl) ?_
      refine lv_iload_n hx hb dX12_of_87 rfl (lv_at hl 1 rfl) ?_
      refine lv_iload_n hx hb dX12_of_88 rfl (lv_at hl 2 rfl) ?_
      refine tw_Vc (o := a0) (ci := 12) (n := 2) (post := (fun v kq Lq Eq => (∃ x : Int32, v = some (.int x)) ∧ kp = kq ∧ L = Lq ∧ E = Eq)) (As := [.int x1, .int x2]) (rest := []) ⟨hx, hb, hml, hown, hB⟩ (fun sz => tX12_nameOf l D cs 40 a0 x1 x2 hm0 hk0 (by omega) (by omega) (by omega) (by omega) (by  exact hnh) (by  exact rt_mu_40 hrow (by omega) (by omega) hnh) hrow.1 sz) cg_12_539_X12_nameOf rfl rfl (by decide +kernel) ⟨Nat.le_of_ble_eq_true rfl, Nat.le_of_ble_eq_true rfl⟩ hK hN TH hS hA rfl hm0 hk0 (by decide) rfl hl.1 rfl (Nat.le_of_ble_eq_true rfl) dX12_of_89 ⟨Nat.le_of_ble_eq_true rfl, Nat.le_of_ble_eq_true rfl⟩ (fun v18 kp18 L18 E18 H locs hq18 hx18 TH hS => ?_)
      obtain ⟨⟨xc19, rfl⟩, rfl, rfl, rfl⟩ := hq18
      refine W.eq (g2 := F0 m 92 ls [.int xc19]) rfl ?_
      exact tw_iret hx hb hr hlocks TH hS hex ⟨⟨_, rfl⟩, rfl, rfl, rfl⟩ (Nat.le_of_ble_eq_true rfl) (Nat.le_of_ble_eq_true rfl) dX12_of_92
    by_cases hc8_5 : x3 = 5
    · refine lv_tableIn (x := x3) (off := 81) (tgt := 93) hx hb dX12_of_12 (by rw [hc8_5]; decide) (by rw [hc8_5]; decide) (by rw [hc8_5]; decide) (by decide) ?_
      refine lv_iload_n hx hb dX12_of_93 rfl (lv_at hl 1 rfl) ?_
      refine lv_bipush (v := 12) hx hb dX12_of_94 (by decide) ?_
      refine lv_icmp_ne (tgt := 103) hx hb dX12_of_96 (by decide) (fun hc20 => ?_) (fun hc20 => ?_)
      · have hf21 : ¬ (x1.toInt = 12) := fun q => hc20 ((fa_eq _ _).mpr (by have : ((12 : Int32).toInt) = 12 := (by decide); omega))
        refine lv_aload_n hx hb dX12_of_103 rfl (lv_at hl 0 rfl) ?_
        refine lv_iload_n hx hb dX12_of_104 rfl (lv_at hl 1 rfl) ?_
        refine lv_iload_n hx hb dX12_of_105 rfl (lv_at hl 2 rfl) ?_
        refine tw_Vc (o := a0) (ci := 12) (n := 2) (post := (fun v kq Lq Eq => (∃ x : Int32, v = some (.int x) ∧ 0 ≤ x.toInt ∧ x.toInt ≤ 11) ∧ kp = kq ∧ L = Lq ∧ E = Eq)) (As := [.int x1, .int x2]) (rest := []) ⟨hx, hb, hml, hown, hB⟩ (fun sz => tX12_wordWriter l D cs 12 a0 x1 x2 xi1 hm0 hk0 (by omega) (by omega) (by omega) (by omega) hxi1 (by  omega) (by  omega) hg0 hg1 sz) cg_12_542_X12_wordWriter rfl rfl (by decide +kernel) ⟨Nat.le_of_ble_eq_true rfl, Nat.le_of_ble_eq_true rfl⟩ hK hN TH hS hA rfl hm0 hk0 (by decide) rfl hl.1 rfl (Nat.le_of_ble_eq_true rfl) dX12_of_106 ⟨Nat.le_of_ble_eq_true rfl, Nat.le_of_ble_eq_true rfl⟩ (fun v22 kp22 L22 E22 H locs hq22 hx22 TH hS => ?_)
        obtain ⟨⟨xc23, rfl, hxc23a, hxc23b⟩, rfl, rfl, rfl⟩ := hq22
        refine W.eq (g2 := F0 m 109 ls [.int xc23]) rfl ?_
        exact tw_iret hx hb hr hlocks TH hS hex ⟨⟨_, rfl⟩, rfl, rfl, rfl⟩ (Nat.le_of_ble_eq_true rfl) (Nat.le_of_ble_eq_true rfl) dX12_of_109
      · have hf24 : x1.toInt = 12 := by have z := (fa_eq _ _).mp hc20; have : ((12 : Int32).toInt) = 12 := (by decide); omega
        refine lv_iconst (v := (-1)) hx hb dX12_of_99 (by decide) ?_
        refine lv_goto (tgt := 109) hx hb dX12_of_100 (by decide) ?_
        exact tw_iret hx hb hr hlocks TH hS hex ⟨⟨_, rfl⟩, rfl, rfl, rfl⟩ (Nat.le_of_ble_eq_true rfl) (Nat.le_of_ble_eq_true rfl) dX12_of_109
    by_cases hc8_6 : x3 = 6
    · refine lv_tableIn (x := x3) (off := 98) (tgt := 110) hx hb dX12_of_12 (by rw [hc8_6]; decide) (by rw [hc8_6]; decide) (by rw [hc8_6]; decide) (by decide) ?_
      refine lv_aload_n hx hb dX12_of_110 rfl (lv_at hl 0 rfl) ?_
      refine lv_iload_n hx hb dX12_of_111 rfl (lv_at hl 1 rfl) ?_
      refine lv_iload_n hx hb dX12_of_112 rfl (lv_at hl 2 rfl) ?_
      refine tw_Vc (o := a0) (ci := 12) (n := 2) (post := (fun v kq Lq Eq => (∃ x : Int32, v = some (.int x)) ∧ kp = kq ∧ L = Lq ∧ E = Eq)) (As := [.int x1, .int x2]) (rest := []) ⟨hx, hb, hml, hown, hB⟩ (fun sz => tX12_deepOf l D cs a0 x1 x2 hm0 hk0 (by omega) (by omega) (by omega) (by omega) (by  exact hnh) hrow.1 sz) cg_12_554_X12_deepOf rfl rfl (by decide +kernel) ⟨Nat.le_of_ble_eq_true rfl, Nat.le_of_ble_eq_true rfl⟩ hK hN TH hS hA rfl hm0 hk0 (by decide) rfl hl.1 rfl (Nat.le_of_ble_eq_true rfl) dX12_of_113 ⟨Nat.le_of_ble_eq_true rfl, Nat.le_of_ble_eq_true rfl⟩ (fun v25 kp25 L25 E25 H locs hq25 hx25 TH hS => ?_)
      obtain ⟨⟨xc26, rfl⟩, rfl, rfl, rfl⟩ := hq25
      refine W.eq (g2 := F0 m 116 ls [.int xc26]) rfl ?_
      exact tw_iret hx hb hr hlocks TH hS hex ⟨⟨_, rfl⟩, rfl, rfl, rfl⟩ (Nat.le_of_ble_eq_true rfl) (Nat.le_of_ble_eq_true rfl) dX12_of_116
    have hout : x3.toInt < 0 ∨ 6 < x3.toInt := by simp only [fa_eq] at hc8_0 hc8_1 hc8_2 hc8_3 hc8_4 hc8_5 hc8_6; have : ((0 : Int32).toInt) = 0 := (by decide); have : ((1 : Int32).toInt) = 1 := (by decide); have : ((2 : Int32).toInt) = 2 := (by decide); have : ((3 : Int32).toInt) = 3 := (by decide); have : ((4 : Int32).toInt) = 4 := (by decide); have : ((5 : Int32).toInt) = 5 := (by decide); have : ((6 : Int32).toInt) = 6 := (by decide); omega
    refine lv_tableOut (tgt := 117) hx hb dX12_of_12 hout (by decide) ?_
    refine lv_iconst (v := (-1)) hx hb dX12_of_117 (by decide) ?_
    exact tw_iret hx hb hr hlocks TH hS hex ⟨⟨_, rfl⟩, rfl, rfl, rfl⟩ (Nat.le_of_ble_eq_true rfl) (Nat.le_of_ble_eq_true rfl) dX12_of_118
  · have hf27 : xc5.toInt = 0 := by have z := (fa_eq _ _).mp hc6; have : ((0 : Int32).toInt) = 0 := (by decide); omega
    refine lv_iconst (v := (-1)) hx hb dX12_of_9 (by decide) ?_
    exact tw_iret hx hb hr hlocks TH hS hex ⟨⟨_, rfl⟩, rfl, rfl, rfl⟩ (Nat.le_of_ble_eq_true rfl) (Nat.le_of_ble_eq_true rfl) dX12_of_10
set_option maxHeartbeats 4000000 in
set_option maxRecDepth 100000 in
theorem tX12_name (l : Launch) (D : va_G) (cs : Nat → ClassId) {kp : Nat → Nat} {L : List Nat} {E : Nat → va_E} (a0 : Nat) (x1 : Int32) (hm0 : a0 ∈ L) (hk0 : kp a0 = 12) (hg0 : eo_ok E a0) (sz : Nat) : Met l yX12_name (.code yX12_name cX12_name 2 (some .int) :: cx_big) { frames := 43, cells := 0, slots := 0, locals := 1174 } (tw_P D cs kp L E [.ref a0, .int x1] sz) (tw_Q D cs kp L (fun v kq Lq Eq => (∃ x : Int32, v = some (.int x)) ∧ kp = kq ∧ L = Lq ∧ E = Eq) (va_A (va_pl L E) sz)) 0 0 (va_A (va_pl L E) sz) := by
  refine tw_ofW (by decide) (Nat.le_of_ble_eq_true rfl) ?_
  intro p e s m below meth c A ls hx hb hr hml hB hown hlocks hK hN hA TH hS hl
  have hown : s.vm.findClass "TreeMergeModel" = some m.cls := hown
  have hl : lv_has ls 2 [(0, .ref a0), (1, .int x1)] := hl
  obtain ⟨kp0, ekp⟩ : ∃ z, z = kp := ⟨_, rfl⟩
  obtain ⟨L0, eL⟩ : ∃ z, z = L := ⟨_, rfl⟩
  rw [show tw_Q D cs kp L = tw_Q D cs kp0 L0 by rw [ekp, eL]]
  have hex : ∀ a : Nat, a ∈ L0 → a ∈ L ∧ kp a = kp0 a := fun a h => ⟨by rw [← eL]; exact h, by rw [ekp]⟩
  refine lv_aload_n hx hb dX12_name_0 rfl (lv_at hl 0 rfl) ?_
  refine lv_iload_n hx hb dX12_name_1 rfl (lv_at hl 1 rfl) ?_
  obtain ⟨xi1, hxi1, hxi1a, hxi1b⟩ := tw_rd TH hm0 hk0 (by decide) (by decide) (k := 27) rfl
  refine tw_Vc (o := a0) (ci := 12) (n := 1) (post := (fun v kq Lq Eq => (∃ x : Int32, v = some (.int x) ∧ 0 ≤ x.toInt ∧ x.toInt ≤ 1 ∧ (x.toInt ≠ 0 → 0 ≤ x1.toInt ∧ x1.toInt < xi1.toInt)) ∧ kp = kq ∧ L = Lq ∧ E = Eq)) (As := [.int x1]) (rest := []) ⟨hx, hb, hml, hown, hB⟩ (fun sz => tX12_isEdition l D cs a0 x1 xi1 hm0 hk0 hxi1 sz) cg_12_396_X12_isEdition rfl rfl (by decide +kernel) ⟨Nat.le_of_ble_eq_true rfl, Nat.le_of_ble_eq_true rfl⟩ hK hN TH hS hA rfl hm0 hk0 (by decide) rfl hl.1 rfl (Nat.le_of_ble_eq_true rfl) dX12_name_2 ⟨Nat.le_of_ble_eq_true rfl, Nat.le_of_ble_eq_true rfl⟩ (fun v2 kp2 L2 E2 H locs hq2 hx2 TH hS => ?_)
  obtain ⟨⟨xc3, rfl, hxc3a, hxc3b, hpoxc3_0⟩, rfl, rfl, rfl⟩ := hq2
  refine W.eq (g2 := F0 m 5 ls [.int xc3]) rfl ?_
  refine lv_if_eq (tgt := 21) hx hb dX12_name_5 (by decide) (fun hc4 => ?_) (fun hc4 => ?_)
  · have hf5 : xc3.toInt = 0 := by have z := (fa_eq _ _).mp hc4; have : ((0 : Int32).toInt) = 0 := (by decide); omega
    refine lv_iconst (v := (-1)) hx hb dX12_name_21 (by decide) ?_
    exact tw_iret hx hb hr hlocks TH hS hex ⟨⟨_, rfl⟩, rfl, rfl, rfl⟩ (Nat.le_of_ble_eq_true rfl) (Nat.le_of_ble_eq_true rfl) dX12_name_22
  · have hf6 : ¬ (xc3.toInt = 0) := fun q => hc4 ((fa_eq _ _).mpr (by have : ((0 : Int32).toInt) = 0 := (by decide); omega))
    refine lv_aload_n hx hb dX12_name_8 rfl (lv_at hl 0 rfl) ?_
    refine lv_iload_n hx hb dX12_name_9 rfl (lv_at hl 1 rfl) ?_
    refine lv_aload_n hx hb dX12_name_10 rfl (lv_at hl 0 rfl) ?_
    refine lv_iload_n hx hb dX12_name_11 rfl (lv_at hl 1 rfl) ?_
    refine tw_Vc (o := a0) (ci := 12) (n := 1) (post := (fun v kq Lq Eq => (∃ x : Int32, v = some (.int x) ∧ (-1) ≤ x.toInt ∧ x.toInt ≤ 149 ∧ ((x.toInt = -1 ∧ rt_nr (rw_h E a0 x1.toInt) (rw_p E a0 x1.toInt) 150) ∨ (0 ≤ x.toInt ∧ x.toInt < 150 ∧ rw_h E a0 x1.toInt (x.toInt).toNat ≠ 0 ∧ rw_p E a0 x1.toInt (x.toInt).toNat = -1))) ∧ kp = kq ∧ L = Lq ∧ E = Eq)) (As := [.int x1]) (rest := [.int x1, .ref a0]) ⟨hx, hb, hml, hown, hB⟩ (fun sz => tX12_root l D cs a0 x1 hm0 hk0 (by omega) (by omega) sz) cg_12_324_X12_root rfl rfl (by decide +kernel) ⟨Nat.le_of_ble_eq_true rfl, Nat.le_of_ble_eq_true rfl⟩ hK hN TH hS hA rfl hm0 hk0 (by decide) rfl hl.1 rfl (Nat.le_of_ble_eq_true rfl) dX12_name_12 ⟨Nat.le_of_ble_eq_true rfl, Nat.le_of_ble_eq_true rfl⟩ (fun v7 kp7 L7 E7 H locs hq7 hx7 TH hS => ?_)
    obtain ⟨⟨xc8, rfl, hxc8a, hxc8b, hpoxc8_0⟩, rfl, rfl, rfl⟩ := hq7
    refine W.eq (g2 := F0 m 15 ls [.int xc8, .int x1, .ref a0]) rfl ?_
    have hrow1 : row_ok E a0 (x1.toInt) := hg0 (x1.toInt) (by omega) (by rw [tw_fi_of hxi1]; omega)
    have hrt1 := row_root hrow1 hpoxc8_0
    have hra1 := hrt1.1
    have hrb1 := hrt1.2.1
    refine tw_Vc (o := a0) (ci := 12) (n := 2) (post := (fun v kq Lq Eq => (∃ x : Int32, v = some (.int x)) ∧ kp = kq ∧ L = Lq ∧ E = Eq)) (As := [.int x1, .int xc8]) (rest := []) ⟨hx, hb, hml, hown, hB⟩ (fun sz => tX12_nameOf l D cs 40 a0 x1 xc8 hm0 hk0 (by omega) (by omega) (by omega) (by omega) (by  exact hrt1.2.2.1) (by  exact rt_mu_40 hrow1 hrt1.1 hrt1.2.1 hrt1.2.2.1) hrow1.1 sz) cg_12_539_X12_nameOf rfl rfl (by decide +kernel) ⟨Nat.le_of_ble_eq_true rfl, Nat.le_of_ble_eq_true rfl⟩ hK hN TH hS hA rfl hm0 hk0 (by decide) rfl hl.1 rfl (Nat.le_of_ble_eq_true rfl) dX12_name_15 ⟨Nat.le_of_ble_eq_true rfl, Nat.le_of_ble_eq_true rfl⟩ (fun v9 kp9 L9 E9 H locs hq9 hx9 TH hS => ?_)
    obtain ⟨⟨xc10, rfl⟩, rfl, rfl, rfl⟩ := hq9
    refine W.eq (g2 := F0 m 18 ls [.int xc10]) rfl ?_
    refine lv_goto (tgt := 22) hx hb dX12_name_18 (by decide) ?_
    exact tw_iret hx hb hr hlocks TH hS hex ⟨⟨_, rfl⟩, rfl, rfl, rfl⟩ (Nat.le_of_ble_eq_true rfl) (Nat.le_of_ble_eq_true rfl) dX12_name_22
set_option maxHeartbeats 4000000 in
set_option maxRecDepth 100000 in
theorem tX12_same (l : Launch) (D : va_G) (cs : Nat → ClassId) {kp : Nat → Nat} {L : List Nat} {E : Nat → va_E} (a0 : Nat) (x1 : Int32) (x2 : Int32) (hm0 : a0 ∈ L) (hk0 : kp a0 = 12) (hg0 : eo_ok E a0) (sz : Nat) : Met l yX12_same (.code yX12_same cX12_same 3 (some .boolean) :: cx_big) { frames := 43, cells := 0, slots := 0, locals := 1133 } (tw_P D cs kp L E [.ref a0, .int x1, .int x2] sz) (tw_Q D cs kp L (fun v kq Lq Eq => (∃ x : Int32, v = some (.int x) ∧ 0 ≤ x.toInt ∧ x.toInt ≤ 1) ∧ kp = kq ∧ L = Lq ∧ E = Eq) (va_A (va_pl L E) sz)) 0 0 (va_A (va_pl L E) sz) := by
  refine tw_ofW (by decide) (Nat.le_of_ble_eq_true rfl) ?_
  intro p e s m below meth c A ls hx hb hr hml hB hown hlocks hK hN hA TH hS hl
  have hown : s.vm.findClass "TreeMergeModel" = some m.cls := hown
  have hl : lv_has ls 3 [(0, .ref a0), (1, .int x1), (2, .int x2)] := hl
  obtain ⟨kp0, ekp⟩ : ∃ z, z = kp := ⟨_, rfl⟩
  obtain ⟨L0, eL⟩ : ∃ z, z = L := ⟨_, rfl⟩
  rw [show tw_Q D cs kp L = tw_Q D cs kp0 L0 by rw [ekp, eL]]
  have hex : ∀ a : Nat, a ∈ L0 → a ∈ L ∧ kp a = kp0 a := fun a h => ⟨by rw [← eL]; exact h, by rw [ekp]⟩
  refine lv_aload_n hx hb dX12_same_0 rfl (lv_at hl 0 rfl) ?_
  refine lv_iload_n hx hb dX12_same_1 rfl (lv_at hl 1 rfl) ?_
  obtain ⟨xi1, hxi1, hxi1a, hxi1b⟩ := tw_rd TH hm0 hk0 (by decide) (by decide) (k := 27) rfl
  refine tw_Vc (o := a0) (ci := 12) (n := 1) (post := (fun v kq Lq Eq => (∃ x : Int32, v = some (.int x) ∧ 0 ≤ x.toInt ∧ x.toInt ≤ 1 ∧ (x.toInt ≠ 0 → 0 ≤ x1.toInt ∧ x1.toInt < xi1.toInt)) ∧ kp = kq ∧ L = Lq ∧ E = Eq)) (As := [.int x1]) (rest := []) ⟨hx, hb, hml, hown, hB⟩ (fun sz => tX12_isEdition l D cs a0 x1 xi1 hm0 hk0 hxi1 sz) cg_12_396_X12_isEdition rfl rfl (by decide +kernel) ⟨Nat.le_of_ble_eq_true rfl, Nat.le_of_ble_eq_true rfl⟩ hK hN TH hS hA rfl hm0 hk0 (by decide) rfl hl.1 rfl (Nat.le_of_ble_eq_true rfl) dX12_same_2 ⟨Nat.le_of_ble_eq_true rfl, Nat.le_of_ble_eq_true rfl⟩ (fun v2 kp2 L2 E2 H locs hq2 hx2 TH hS => ?_)
  obtain ⟨⟨xc3, rfl, hxc3a, hxc3b, hpoxc3_0⟩, rfl, rfl, rfl⟩ := hq2
  refine W.eq (g2 := F0 m 5 ls [.int xc3]) rfl ?_
  refine lv_if_eq (tgt := 39) hx hb dX12_same_5 (by decide) (fun hc4 => ?_) (fun hc4 => ?_)
  · have hf5 : xc3.toInt = 0 := by have z := (fa_eq _ _).mp hc4; have : ((0 : Int32).toInt) = 0 := (by decide); omega
    refine lv_iconst (v := 0) hx hb dX12_same_39 (by decide) ?_
    exact tw_zret hx hb hr hlocks (by decide) TH hS hex ⟨⟨_, rfl, (show 0 ≤ Int32.toInt 0 from by have : ((0 : Int32).toInt) = 0 := (by decide); omega), (show Int32.toInt 0 ≤ 1 from by have : ((0 : Int32).toInt) = 0 := (by decide); omega)⟩, rfl, rfl, rfl⟩ (Nat.le_of_ble_eq_true rfl) (Nat.le_of_ble_eq_true rfl) dX12_same_40
  · have hf6 : ¬ (xc3.toInt = 0) := fun q => hc4 ((fa_eq _ _).mpr (by have : ((0 : Int32).toInt) = 0 := (by decide); omega))
    refine lv_aload_n hx hb dX12_same_8 rfl (lv_at hl 0 rfl) ?_
    refine lv_iload_n hx hb dX12_same_9 rfl (lv_at hl 2 rfl) ?_
    refine tw_Vc (o := a0) (ci := 12) (n := 1) (post := (fun v kq Lq Eq => (∃ x : Int32, v = some (.int x) ∧ 0 ≤ x.toInt ∧ x.toInt ≤ 1 ∧ (x.toInt ≠ 0 → 0 ≤ x2.toInt ∧ x2.toInt < xi1.toInt)) ∧ kp = kq ∧ L = Lq ∧ E = Eq)) (As := [.int x2]) (rest := []) ⟨hx, hb, hml, hown, hB⟩ (fun sz => tX12_isEdition l D cs a0 x2 xi1 hm0 hk0 hxi1 sz) cg_12_396_X12_isEdition rfl rfl (by decide +kernel) ⟨Nat.le_of_ble_eq_true rfl, Nat.le_of_ble_eq_true rfl⟩ hK hN TH hS hA rfl hm0 hk0 (by decide) rfl hl.1 rfl (Nat.le_of_ble_eq_true rfl) dX12_same_10 ⟨Nat.le_of_ble_eq_true rfl, Nat.le_of_ble_eq_true rfl⟩ (fun v7 kp7 L7 E7 H locs hq7 hx7 TH hS => ?_)
    obtain ⟨⟨xc8, rfl, hxc8a, hxc8b, hpoxc8_0⟩, rfl, rfl, rfl⟩ := hq7
    refine W.eq (g2 := F0 m 13 ls [.int xc8]) rfl ?_
    refine lv_if_eq (tgt := 39) hx hb dX12_same_13 (by decide) (fun hc9 => ?_) (fun hc9 => ?_)
    · have hf10 : xc8.toInt = 0 := by have z := (fa_eq _ _).mp hc9; have : ((0 : Int32).toInt) = 0 := (by decide); omega
      refine lv_iconst (v := 0) hx hb dX12_same_39 (by decide) ?_
      exact tw_zret hx hb hr hlocks (by decide) TH hS hex ⟨⟨_, rfl, (show 0 ≤ Int32.toInt 0 from by have : ((0 : Int32).toInt) = 0 := (by decide); omega), (show Int32.toInt 0 ≤ 1 from by have : ((0 : Int32).toInt) = 0 := (by decide); omega)⟩, rfl, rfl, rfl⟩ (Nat.le_of_ble_eq_true rfl) (Nat.le_of_ble_eq_true rfl) dX12_same_40
    · have hf11 : ¬ (xc8.toInt = 0) := fun q => hc9 ((fa_eq _ _).mpr (by have : ((0 : Int32).toInt) = 0 := (by decide); omega))
      refine lv_aload_n hx hb dX12_same_16 rfl (lv_at hl 0 rfl) ?_
      refine lv_iload_n hx hb dX12_same_17 rfl (lv_at hl 1 rfl) ?_
      refine lv_aload_n hx hb dX12_same_18 rfl (lv_at hl 0 rfl) ?_
      refine lv_iload_n hx hb dX12_same_19 rfl (lv_at hl 1 rfl) ?_
      refine tw_Vc (o := a0) (ci := 12) (n := 1) (post := (fun v kq Lq Eq => (∃ x : Int32, v = some (.int x) ∧ (-1) ≤ x.toInt ∧ x.toInt ≤ 149 ∧ ((x.toInt = -1 ∧ rt_nr (rw_h E a0 x1.toInt) (rw_p E a0 x1.toInt) 150) ∨ (0 ≤ x.toInt ∧ x.toInt < 150 ∧ rw_h E a0 x1.toInt (x.toInt).toNat ≠ 0 ∧ rw_p E a0 x1.toInt (x.toInt).toNat = -1))) ∧ kp = kq ∧ L = Lq ∧ E = Eq)) (As := [.int x1]) (rest := [.int x1, .ref a0]) ⟨hx, hb, hml, hown, hB⟩ (fun sz => tX12_root l D cs a0 x1 hm0 hk0 (by omega) (by omega) sz) cg_12_324_X12_root rfl rfl (by decide +kernel) ⟨Nat.le_of_ble_eq_true rfl, Nat.le_of_ble_eq_true rfl⟩ hK hN TH hS hA rfl hm0 hk0 (by decide) rfl hl.1 rfl (Nat.le_of_ble_eq_true rfl) dX12_same_20 ⟨Nat.le_of_ble_eq_true rfl, Nat.le_of_ble_eq_true rfl⟩ (fun v12 kp12 L12 E12 H locs hq12 hx12 TH hS => ?_)
      obtain ⟨⟨xc13, rfl, hxc13a, hxc13b, hpoxc13_0⟩, rfl, rfl, rfl⟩ := hq12
      refine W.eq (g2 := F0 m 23 ls [.int xc13, .int x1, .ref a0]) rfl ?_
      have hrow1 : row_ok E a0 (x1.toInt) := hg0 (x1.toInt) (by omega) (by rw [tw_fi_of hxi1]; omega)
      have hrt1 := row_root hrow1 hpoxc13_0
      have hra1 := hrt1.1
      have hrb1 := hrt1.2.1
      refine lv_iload_n hx hb dX12_same_23 rfl (lv_at hl 2 rfl) ?_
      refine lv_aload_n hx hb dX12_same_24 rfl (lv_at hl 0 rfl) ?_
      refine lv_iload_n hx hb dX12_same_25 rfl (lv_at hl 2 rfl) ?_
      refine tw_Vc (o := a0) (ci := 12) (n := 1) (post := (fun v kq Lq Eq => (∃ x : Int32, v = some (.int x) ∧ (-1) ≤ x.toInt ∧ x.toInt ≤ 149 ∧ ((x.toInt = -1 ∧ rt_nr (rw_h E a0 x2.toInt) (rw_p E a0 x2.toInt) 150) ∨ (0 ≤ x.toInt ∧ x.toInt < 150 ∧ rw_h E a0 x2.toInt (x.toInt).toNat ≠ 0 ∧ rw_p E a0 x2.toInt (x.toInt).toNat = -1))) ∧ kp = kq ∧ L = Lq ∧ E = Eq)) (As := [.int x2]) (rest := [.int x2, .int xc13, .int x1, .ref a0]) ⟨hx, hb, hml, hown, hB⟩ (fun sz => tX12_root l D cs a0 x2 hm0 hk0 (by omega) (by omega) sz) cg_12_324_X12_root rfl rfl (by decide +kernel) ⟨Nat.le_of_ble_eq_true rfl, Nat.le_of_ble_eq_true rfl⟩ hK hN TH hS hA rfl hm0 hk0 (by decide) rfl hl.1 rfl (Nat.le_of_ble_eq_true rfl) dX12_same_26 ⟨Nat.le_of_ble_eq_true rfl, Nat.le_of_ble_eq_true rfl⟩ (fun v14 kp14 L14 E14 H locs hq14 hx14 TH hS => ?_)
      obtain ⟨⟨xc15, rfl, hxc15a, hxc15b, hpoxc15_0⟩, rfl, rfl, rfl⟩ := hq14
      refine W.eq (g2 := F0 m 29 ls [.int xc15, .int x2, .int xc13, .int x1, .ref a0]) rfl ?_
      have hrow2 : row_ok E a0 (x2.toInt) := hg0 (x2.toInt) (by omega) (by rw [tw_fi_of hxi1]; omega)
      have hrt2 := row_root hrow2 hpoxc15_0
      have hra2 := hrt2.1
      have hrb2 := hrt2.2.1
      refine tw_Vc (o := a0) (ci := 12) (n := 4) (post := (fun v kq Lq Eq => (∃ x : Int32, v = some (.int x) ∧ 0 ≤ x.toInt ∧ x.toInt ≤ 1) ∧ kp = kq ∧ L = Lq ∧ E = Eq)) (As := [.int x1, .int xc13, .int x2, .int xc15]) (rest := []) ⟨hx, hb, hml, hown, hB⟩ (fun sz => tX12_isSame l D cs 40 a0 x1 xc13 x2 xc15 hm0 hk0 (by omega) (by omega) (by omega) (by omega) (by omega) (by omega) (by omega) (by omega) (by  exact hrt1.2.2.1) (by  exact rt_mu_40 hrow1 hrt1.1 hrt1.2.1 hrt1.2.2.1) hrow1.1 sz) cg_12_557_X12_isSame rfl rfl (by decide +kernel) ⟨Nat.le_of_ble_eq_true rfl, Nat.le_of_ble_eq_true rfl⟩ hK hN TH hS hA rfl hm0 hk0 (by decide) rfl hl.1 rfl (Nat.le_of_ble_eq_true rfl) dX12_same_29 ⟨Nat.le_of_ble_eq_true rfl, Nat.le_of_ble_eq_true rfl⟩ (fun v16 kp16 L16 E16 H locs hq16 hx16 TH hS => ?_)
      obtain ⟨⟨xc17, rfl, hxc17a, hxc17b⟩, rfl, rfl, rfl⟩ := hq16
      refine W.eq (g2 := F0 m 32 ls [.int xc17]) rfl ?_
      refine lv_if_eq (tgt := 39) hx hb dX12_same_32 (by decide) (fun hc18 => ?_) (fun hc18 => ?_)
      · have hf19 : xc17.toInt = 0 := by have z := (fa_eq _ _).mp hc18; have : ((0 : Int32).toInt) = 0 := (by decide); omega
        refine lv_iconst (v := 0) hx hb dX12_same_39 (by decide) ?_
        exact tw_zret hx hb hr hlocks (by decide) TH hS hex ⟨⟨_, rfl, (show 0 ≤ Int32.toInt 0 from by have : ((0 : Int32).toInt) = 0 := (by decide); omega), (show Int32.toInt 0 ≤ 1 from by have : ((0 : Int32).toInt) = 0 := (by decide); omega)⟩, rfl, rfl, rfl⟩ (Nat.le_of_ble_eq_true rfl) (Nat.le_of_ble_eq_true rfl) dX12_same_40
      · have hf20 : ¬ (xc17.toInt = 0) := fun q => hc18 ((fa_eq _ _).mpr (by have : ((0 : Int32).toInt) = 0 := (by decide); omega))
        refine lv_iconst (v := 1) hx hb dX12_same_35 (by decide) ?_
        refine lv_goto (tgt := 40) hx hb dX12_same_36 (by decide) ?_
        exact tw_zret hx hb hr hlocks (by decide) TH hS hex ⟨⟨_, rfl, (show 0 ≤ Int32.toInt 1 from by have : ((1 : Int32).toInt) = 1 := (by decide); omega), (show Int32.toInt 1 ≤ 1 from by have : ((1 : Int32).toInt) = 1 := (by decide); omega)⟩, rfl, rfl, rfl⟩ (Nat.le_of_ble_eq_true rfl) (Nat.le_of_ble_eq_true rfl) dX12_same_40
set_option maxHeartbeats 4000000 in
set_option maxRecDepth 100000 in
theorem tX12_node (l : Launch) (D : va_G) (cs : Nat → ClassId) {kp : Nat → Nat} {L : List Nat} {E : Nat → va_E} (a0 : Nat) (x1 : Int32) (x2 : Int32) (hm0 : a0 ∈ L) (hk0 : kp a0 = 12) (hg0 : eo_ok E a0) (sz : Nat) : Met l yX12_node (.code yX12_node cX12_node 6 (some .int) :: cx_big) { frames := 3, cells := 0, slots := 0, locals := 72 } (tw_P D cs kp L E [.ref a0, .int x1, .int x2] sz) (tw_Q D cs kp L (fun v kq Lq Eq => (∃ x : Int32, v = some (.int x)) ∧ kp = kq ∧ L = Lq ∧ E = Eq) (va_A (va_pl L E) sz)) 0 0 (va_A (va_pl L E) sz) := by
  refine tw_ofW (by decide) (Nat.le_of_ble_eq_true rfl) ?_
  intro p e s m below meth c A ls hx hb hr hml hB hown hlocks hK hN hA TH hS hl
  have hown : s.vm.findClass "TreeMergeModel" = some m.cls := hown
  have hl : lv_has ls 6 [(0, .ref a0), (1, .int x1), (2, .int x2)] := hl
  obtain ⟨kp0, ekp⟩ : ∃ z, z = kp := ⟨_, rfl⟩
  obtain ⟨L0, eL⟩ : ∃ z, z = L := ⟨_, rfl⟩
  rw [show tw_Q D cs kp L = tw_Q D cs kp0 L0 by rw [ekp, eL]]
  have hex : ∀ a : Nat, a ∈ L0 → a ∈ L ∧ kp a = kp0 a := fun a h => ⟨by rw [← eL]; exact h, by rw [ekp]⟩
  refine lv_aload_n hx hb dX12_node_0 rfl (lv_at hl 0 rfl) ?_
  refine lv_iload_n hx hb dX12_node_1 rfl (lv_at hl 1 rfl) ?_
  obtain ⟨xi1, hxi1, hxi1a, hxi1b⟩ := tw_rd TH hm0 hk0 (by decide) (by decide) (k := 27) rfl
  refine tw_Vc (o := a0) (ci := 12) (n := 1) (post := (fun v kq Lq Eq => (∃ x : Int32, v = some (.int x) ∧ 0 ≤ x.toInt ∧ x.toInt ≤ 1 ∧ (x.toInt ≠ 0 → 0 ≤ x1.toInt ∧ x1.toInt < xi1.toInt)) ∧ kp = kq ∧ L = Lq ∧ E = Eq)) (As := [.int x1]) (rest := []) ⟨hx, hb, hml, hown, hB⟩ (fun sz => tX12_isEdition l D cs a0 x1 xi1 hm0 hk0 hxi1 sz) cg_12_396_X12_isEdition rfl rfl (by decide +kernel) ⟨Nat.le_of_ble_eq_true rfl, Nat.le_of_ble_eq_true rfl⟩ hK hN TH hS hA rfl hm0 hk0 (by decide) rfl hl.1 rfl (Nat.le_of_ble_eq_true rfl) dX12_node_2 ⟨Nat.le_of_ble_eq_true rfl, Nat.le_of_ble_eq_true rfl⟩ (fun v2 kp2 L2 E2 H locs hq2 hx2 TH hS => ?_)
  obtain ⟨⟨xc3, rfl, hxc3a, hxc3b, hpoxc3_0⟩, rfl, rfl, rfl⟩ := hq2
  refine W.eq (g2 := F0 m 5 ls [.int xc3]) rfl ?_
  refine lv_if_ne (tgt := 10) hx hb dX12_node_5 (by decide) (fun hc4 => ?_) (fun hc4 => ?_)
  · have hf5 : ¬ (xc3.toInt = 0) := fun q => hc4 ((fa_eq _ _).mpr (by have : ((0 : Int32).toInt) = 0 := (by decide); omega))
    refine lv_iload_n hx hb dX12_node_10 rfl (lv_at hl 2 rfl) ?_
    refine lv_iconst (v := (-1)) hx hb dX12_node_11 (by decide) ?_
    refine lv_icmp_ne (tgt := 21) hx hb dX12_node_12 (by decide) (fun hc6 => ?_) (fun hc6 => ?_)
    · have hf7 : ¬ (x2.toInt = (-1)) := fun q => hc6 ((fa_eq _ _).mpr (by have : (((-1) : Int32).toInt) = (-1) := (by decide); omega))
      refine lv_aload_n hx hb dX12_node_21 rfl (lv_at hl 0 rfl) ?_
      refine lv_iload_n hx hb dX12_node_22 rfl (lv_at hl 1 rfl) ?_
      refine tw_Vc (o := a0) (ci := 12) (n := 1) (post := (fun v kq Lq Eq => (∃ x : Int32, v = some (.int x) ∧ (-1) ≤ x.toInt ∧ x.toInt ≤ 149 ∧ ((x.toInt = -1 ∧ rt_nr (rw_h E a0 x1.toInt) (rw_p E a0 x1.toInt) 150) ∨ (0 ≤ x.toInt ∧ x.toInt < 150 ∧ rw_h E a0 x1.toInt (x.toInt).toNat ≠ 0 ∧ rw_p E a0 x1.toInt (x.toInt).toNat = -1))) ∧ kp = kq ∧ L = Lq ∧ E = Eq)) (As := [.int x1]) (rest := []) ⟨hx, hb, hml, hown, hB⟩ (fun sz => tX12_root l D cs a0 x1 hm0 hk0 (by omega) (by omega) sz) cg_12_324_X12_root rfl rfl (by decide +kernel) ⟨Nat.le_of_ble_eq_true rfl, Nat.le_of_ble_eq_true rfl⟩ hK hN TH hS hA rfl hm0 hk0 (by decide) rfl hl.1 rfl (Nat.le_of_ble_eq_true rfl) dX12_node_23 ⟨Nat.le_of_ble_eq_true rfl, Nat.le_of_ble_eq_true rfl⟩ (fun v8 kp8 L8 E8 H locs hq8 hx8 TH hS => ?_)
      obtain ⟨⟨xc9, rfl, hxc9a, hxc9b, hpoxc9_0⟩, rfl, rfl, rfl⟩ := hq8
      refine W.eq (g2 := F0 m 26 ls [.int xc9]) rfl ?_
      have hrow1 : row_ok E a0 (x1.toInt) := hg0 (x1.toInt) (by omega) (by rw [tw_fi_of hxi1]; omega)
      have hrt1 := row_root hrow1 hpoxc9_0
      have hra1 := hrt1.1
      have hrb1 := hrt1.2.1
      refine lv_istore_n (lv' := [(3, .int xc9), (0, .ref a0), (1, .int x1), (2, .int x2)]) hx hb dX12_node_26 rfl hl (by decide) rfl (fun ls hl => ?_)
      refine lv_iload_n hx hb dX12_node_27 rfl (lv_at hl 0 rfl) ?_
      refine lv_istore (lv' := [(4, .int xc9), (3, .int xc9), (0, .ref a0), (1, .int x1), (2, .int x2)]) hx hb dX12_node_28 hl (by decide) rfl (fun ls hl => ?_)
      refine lv_iconst (v := 0) hx hb dX12_node_30 (by decide) ?_
      refine lv_istore (lv' := [(5, .int 0), (4, .int xc9), (3, .int xc9), (0, .ref a0), (1, .int x1), (2, .int x2)]) hx hb dX12_node_31 hl (by decide) rfl (fun ls hl => ?_)
      have hJ33 : ∀ (n33 : Nat) (y33_5 : Int32) (y33_4 : Int32) (H : Heap) (locs : List Loc) (ls : Array Slot), (-1) ≤ y33_4.toInt → y33_4.toInt ≤ 149 → (y33_4.toInt = -1 ∨ (0 ≤ y33_4.toInt ∧ y33_4.toInt < 150 ∧ rw_h E a0 (x1.toInt) (y33_4.toInt).toNat ≠ 0)) → (0 ≤ y33_5.toInt) → (rt_mz (rw_h E a0 (x1.toInt)) (rw_p E a0 (x1.toInt)) (rw_q E a0 (x1.toInt)) (y33_4.toInt) : Int) ≤ (n33 : Int) → tw_H D cs kp L E A H → va_S A s.heap H locs → lv_has ls 6 [(5, .int y33_5), (4, .int y33_4), (3, .int xc9), (0, .ref a0), (1, .int x1), (2, .int x2)] → W p l e { frames := 3, cells := 0, slots := 0, locals := 72 } s m [.ref a0, .int x1, .int x2].toArray below meth c H locs 0 0 (MQ below (tw_Q D cs kp0 L0 (fun v kq Lq Eq => (∃ x : Int32, v = some (.int x)) ∧ kp = kq ∧ L = Lq ∧ E = Eq) A) [.ref a0, .int x1, .int x2].toArray s 0 0 A) (F0 m 33 ls []) := by
        intro n33
        induction n33 using Nat.strongRecOn with
        | _ n33 ih33 =>
          intro y33_5 y33_4 H locs ls hy33_4a hy33_4b hin33_0 hin33_1 hmeas33 TH hS hl
          refine lv_iload hx hb dX12_node_33 (lv_at hl 0 rfl) ?_
          refine lv_iload_n hx hb dX12_node_35 rfl (lv_at hl 5 rfl) ?_
          refine lv_icmp_ge (tgt := 61) hx hb dX12_node_36 (by decide) (fun hc10 => ?_) (fun hc10 => ?_)
          · have hf11 : x2.toInt ≤ y33_5.toInt := by have z := (fa_le _ _).mp hc10;  omega
            refine lv_iload_n hx hb dX12_node_61 rfl (lv_at hl 5 rfl) ?_
            refine lv_if_ge (tgt := 69) hx hb dX12_node_62 (by decide) (fun hc12 => ?_) (fun hc12 => ?_)
            · have hf13 : 0 ≤ x2.toInt := by have z := (fa_le _ _).mp hc12; have : ((0 : Int32).toInt) = 0 := (by decide); omega
              refine lv_iload hx hb dX12_node_69 (lv_at hl 1 rfl) ?_
              exact tw_iret hx hb hr hlocks TH hS hex ⟨⟨_, rfl⟩, rfl, rfl, rfl⟩ (Nat.le_of_ble_eq_true rfl) (Nat.le_of_ble_eq_true rfl) dX12_node_71
            · have hf14 : ¬ (0 ≤ x2.toInt) := fun q => hc12 ((fa_le _ _).mpr (by have : ((0 : Int32).toInt) = 0 := (by decide); omega))
              refine lv_iconst (v := (-1)) hx hb dX12_node_65 (by decide) ?_
              refine lv_goto (tgt := 71) hx hb dX12_node_66 (by decide) ?_
              exact tw_iret hx hb hr hlocks TH hS hex ⟨⟨_, rfl⟩, rfl, rfl, rfl⟩ (Nat.le_of_ble_eq_true rfl) (Nat.le_of_ble_eq_true rfl) dX12_node_71
          · have hf15 : ¬ (x2.toInt ≤ y33_5.toInt) := fun q => hc10 ((fa_le _ _).mpr (by  omega))
            refine lv_iload hx hb dX12_node_39 (lv_at hl 1 rfl) ?_
            refine lv_iconst (v := (-1)) hx hb dX12_node_41 (by decide) ?_
            refine lv_icmp_eq (tgt := 61) hx hb dX12_node_42 (by decide) (fun hc16 => ?_) (fun hc16 => ?_)
            · have hf17 : y33_4.toInt = (-1) := by have z := (fa_eq _ _).mp hc16; have : (((-1) : Int32).toInt) = (-1) := (by decide); omega
              refine lv_iload_n hx hb dX12_node_61 rfl (lv_at hl 5 rfl) ?_
              refine lv_if_ge (tgt := 69) hx hb dX12_node_62 (by decide) (fun hc18 => ?_) (fun hc18 => ?_)
              · have hf19 : 0 ≤ x2.toInt := by have z := (fa_le _ _).mp hc18; have : ((0 : Int32).toInt) = 0 := (by decide); omega
                refine lv_iload hx hb dX12_node_69 (lv_at hl 1 rfl) ?_
                exact tw_iret hx hb hr hlocks TH hS hex ⟨⟨_, rfl⟩, rfl, rfl, rfl⟩ (Nat.le_of_ble_eq_true rfl) (Nat.le_of_ble_eq_true rfl) dX12_node_71
              · have hf20 : ¬ (0 ≤ x2.toInt) := fun q => hc18 ((fa_le _ _).mpr (by have : ((0 : Int32).toInt) = 0 := (by decide); omega))
                refine lv_iconst (v := (-1)) hx hb dX12_node_65 (by decide) ?_
                refine lv_goto (tgt := 71) hx hb dX12_node_66 (by decide) ?_
                exact tw_iret hx hb hr hlocks TH hS hex ⟨⟨_, rfl⟩, rfl, rfl, rfl⟩ (Nat.le_of_ble_eq_true rfl) (Nat.le_of_ble_eq_true rfl) dX12_node_71
            · have hf21 : ¬ (y33_4.toInt = (-1)) := fun q => hc16 ((fa_eq _ _).mpr (by have : (((-1) : Int32).toInt) = (-1) := (by decide); omega))
              have hn4 := hin33_0.resolve_left (by omega)
              refine lv_aload_n hx hb dX12_node_45 rfl (lv_at hl 3 rfl) ?_
              refine lv_iload_n hx hb dX12_node_46 rfl (lv_at hl 4 rfl) ?_
              refine lv_iload hx hb dX12_node_47 (lv_at hl 1 rfl) ?_
              refine lv_iload_n hx hb dX12_node_49 rfl (lv_at hl 2 rfl) ?_
              refine tw_Vc (o := a0) (ci := 12) (n := 3) (post := (fun v kq Lq Eq => (∃ x : Int32, v = some (.int x) ∧ (-1) ≤ x.toInt ∧ x.toInt ≤ 149 ∧ (x.toInt = -1 ∨ (rw_h E a0 x1.toInt (x.toInt).toNat ≠ 0 ∧ rt_lt (rt_K (rw_p E a0 x1.toInt) (rw_q E a0 x1.toInt) y33_4.toInt) (rt_K (rw_p E a0 x1.toInt) (rw_q E a0 x1.toInt) x.toInt)))) ∧ kp = kq ∧ L = Lq ∧ E = Eq)) (As := [.int x1, .int y33_4, .int xc9]) (rest := []) ⟨hx, hb, hml, hown, hB⟩ (fun sz => tX12_next l D cs a0 x1 y33_4 xc9 hm0 hk0 (by omega) (by omega) (by omega) (by omega) (by omega) (by omega) (by  exact hn4.2.2) (by  exact hrt1.2.2.1) (by  exact hrt1.2.2.2) hrow1.1 sz) cg_12_278_X12_next rfl rfl (by decide +kernel) ⟨Nat.le_of_ble_eq_true rfl, Nat.le_of_ble_eq_true rfl⟩ hK hN TH hS hA rfl hm0 hk0 (by decide) rfl hl.1 rfl (Nat.le_of_ble_eq_true rfl) dX12_node_50 ⟨Nat.le_of_ble_eq_true rfl, Nat.le_of_ble_eq_true rfl⟩ (fun v22 kp22 L22 E22 H locs hq22 hx22 TH hS => ?_)
              obtain ⟨⟨xc23, rfl, hxc23a, hxc23b, hpoxc23_0⟩, rfl, rfl, rfl⟩ := hq22
              refine W.eq (g2 := F0 m 53 ls [.int xc23]) rfl ?_
              refine lv_istore (lv' := [(4, .int xc23), (5, .int y33_5), (3, .int xc9), (0, .ref a0), (1, .int x1), (2, .int x2)]) hx hb dX12_node_53 hl (by decide) rfl (fun ls hl => ?_)
              have hx2 := ia_hi x2
              obtain ⟨zi24, ezi24⟩ : ∃ z : Int32, z = y33_5 + Int32.ofInt 1 := ⟨_, rfl⟩
              have hzi24 : zi24.toInt = y33_5.toInt + 1 := by rw [ezi24]; have : ((Int32.ofInt 1).toInt) = 1 := (by decide);  exact (ia_add (by omega) (by omega)).trans (by omega)
              refine lv_iinc (v := zi24) (lv' := [(5, .int zi24), (4, .int xc23), (3, .int xc9), (0, .ref a0), (1, .int x1), (2, .int x2)]) hx hb dX12_node_55 hl (k := 1) rfl ezi24.symm (by decide) rfl (fun ls hl => ?_)
              refine lv_goto (tgt := 33) hx hb dX12_node_58 (by decide) ?_
              exact ih33 (n33 - 1) (by  have hn3 := hin33_0.resolve_left (by omega); have hfall := rt_mz_fall (h := rw_h E a0 (x1.toInt)) (p := rw_p E a0 (x1.toInt)) (q := rw_q E a0 (x1.toInt)) (n := y33_4.toInt) (c := xc23.toInt) hn3.1 (by rcases hpoxc23_0 with q | q; exact Or.inl q; (by_cases hz : xc23.toInt = -1; exact Or.inl hz; exact Or.inr ⟨by omega, by omega, q.1, q.2⟩));  omega) zi24 xc23 _ _ ls (by omega) (by omega) (by  rcases hpoxc23_0 with q | q; exact Or.inl q; (by_cases hz : xc23.toInt = -1; exact Or.inl hz; exact Or.inr ⟨by omega, by omega, q.1⟩)) (by  omega) (by  have hn3 := hin33_0.resolve_left (by omega); have hfall := rt_mz_fall (h := rw_h E a0 (x1.toInt)) (p := rw_p E a0 (x1.toInt)) (q := rw_q E a0 (x1.toInt)) (n := y33_4.toInt) (c := xc23.toInt) hn3.1 (by rcases hpoxc23_0 with q | q; exact Or.inl q; (by_cases hz : xc23.toInt = -1; exact Or.inl hz; exact Or.inr ⟨by omega, by omega, q.1, q.2⟩));  omega) TH hS (lv_sub hl [0, 1, 2, 3, 4, 5] rfl)
      exact hJ33 152 (0 : Int32) xc9 _ _ ls (by omega) (by omega) (by have : ((0 : Int32).toInt) = 0 := (by decide); exact Or.inr ⟨hrt1.1, hrt1.2.1, hrt1.2.2.1⟩) (by have : ((0 : Int32).toInt) = 0 := (by decide); omega) (by have : ((0 : Int32).toInt) = 0 := (by decide); have := rt_mz_le (h := rw_h E a0 (x1.toInt)) (p := rw_p E a0 (x1.toInt)) (q := rw_q E a0 (x1.toInt)) (n := xc9.toInt); omega) TH hS (lv_sub hl [0, 1, 2, 3, 4, 5] rfl)
    · have hf25 : x2.toInt = (-1) := by have z := (fa_eq _ _).mp hc6; have : (((-1) : Int32).toInt) = (-1) := (by decide); omega
      refine lv_aload_n hx hb dX12_node_15 rfl (lv_at hl 0 rfl) ?_
      refine lv_iload_n hx hb dX12_node_16 rfl (lv_at hl 1 rfl) ?_
      refine tw_Vc (o := a0) (ci := 12) (n := 1) (post := (fun v kq Lq Eq => (∃ x : Int32, v = some (.int x) ∧ 0 ≤ x.toInt ∧ x.toInt ≤ 150 ∧ (x.toInt = (rt_size (rw_h E a0 x1.toInt) : Int))) ∧ kp = kq ∧ L = Lq ∧ E = Eq)) (As := [.int x1]) (rest := []) ⟨hx, hb, hml, hown, hB⟩ (fun sz => tX12_size l D cs a0 x1 hm0 hk0 (by omega) (by omega) sz) cg_12_432_X12_size rfl rfl (by decide +kernel) ⟨Nat.le_of_ble_eq_true rfl, Nat.le_of_ble_eq_true rfl⟩ hK hN TH hS hA rfl hm0 hk0 (by decide) rfl hl.1 rfl (Nat.le_of_ble_eq_true rfl) dX12_node_17 ⟨Nat.le_of_ble_eq_true rfl, Nat.le_of_ble_eq_true rfl⟩ (fun v26 kp26 L26 E26 H locs hq26 hx26 TH hS => ?_)
      obtain ⟨⟨xc27, rfl, hxc27a, hxc27b, hpoxc27_0⟩, rfl, rfl, rfl⟩ := hq26
      refine W.eq (g2 := F0 m 20 ls [.int xc27]) rfl ?_
      exact tw_iret hx hb hr hlocks TH hS hex ⟨⟨_, rfl⟩, rfl, rfl, rfl⟩ (Nat.le_of_ble_eq_true rfl) (Nat.le_of_ble_eq_true rfl) dX12_node_20
  · have hf28 : xc3.toInt = 0 := by have z := (fa_eq _ _).mp hc4; have : ((0 : Int32).toInt) = 0 := (by decide); omega
    refine lv_iconst (v := (-1)) hx hb dX12_node_8 (by decide) ?_
    exact tw_iret hx hb hr hlocks TH hS hex ⟨⟨_, rfl⟩, rfl, rfl, rfl⟩ (Nat.le_of_ble_eq_true rfl) (Nat.le_of_ble_eq_true rfl) dX12_node_9
set_option maxHeartbeats 4000000 in
set_option maxRecDepth 100000 in
theorem tX12_prints_ (l : Launch) (D : va_G) (cs : Nat → ClassId) (dd : Nat) : ∀ {kp : Nat → Nat} {L : List Nat} {E : Nat → va_E} (a0 : Nat) (x1 : Int32) (x2 : Int32) (fv0_63 : Int32) (hm0 : a0 ∈ L) (hk0 : kp a0 = 12) (hp1a : 0 ≤ x1.toInt) (hp1b : x1.toInt ≤ 11) (hp2a : 0 ≤ x2.toInt) (hp2b : x2.toInt ≤ 149) (hfv0_63 : tw_fv E a0 63 = .int fv0_63) (hpre0 : rw_h E a0 x1.toInt (x2.toInt).toNat ≠ 0) (hpre1 : (rt_mu (rw_h E a0 x1.toInt) (rw_p E a0 x1.toInt) (rw_q E a0 x1.toInt) x2.toInt : Int) + 1 ≤ (dd : Int)) (hpre2 : fv0_63.toInt + 513 * ((rt_mu (rw_h E a0 x1.toInt) (rw_p E a0 x1.toInt) (rw_q E a0 x1.toInt) x2.toInt : Int) + 1) ≤ 20560) (hg0 : rw_ok E a0 (x1.toInt)) (hg1 : kg_ok E a0) (sz : Nat), Met l yX12_prints_ (.code yX12_prints_ cX12_prints_ 7 none :: cx_big) { frames := dd + 2, cells := 0, slots := 0, locals := 26 * (dd) + 67 } (tw_P D cs kp L E [.ref a0, .int x1, .int x2] sz) (tw_Q D cs kp L (fun v kq Lq Eq => v = none ∧ kp = kq ∧ L = Lq ∧ tw_fr kp L [(12, 63)] [366] E Eq ∧ (tw_fi Eq a0 63 + 513 * (rt_R (rw_h E a0 x1.toInt) (rw_p E a0 x1.toInt) (rw_q E a0 x1.toInt) x2.toInt : Int) + 1 ≤ fv0_63.toInt + 513 * ((rt_mu (rw_h E a0 x1.toInt) (rw_p E a0 x1.toInt) (rw_q E a0 x1.toInt) x2.toInt : Int) + 1)) ∧ (∃ z0 : Int32, tw_fv Eq a0 63 = .int z0 ∧ (z0.toInt ≤ 20560))) (va_A (va_pl L E) sz)) 0 0 (va_A (va_pl L E) sz) := by
  induction dd with
  | zero =>
    intro kp L E a0 x1 x2 fv0_63 hm0 hk0 hp1a hp1b hp2a hp2b hfv0_63 hpre0 hpre1 hpre2 hg0 hg1 sz
    exfalso
    omega
  | succ dd ih =>
    intro kp L E a0 x1 x2 fv0_63 hm0 hk0 hp1a hp1b hp2a hp2b hfv0_63 hpre0 hpre1 hpre2 hg0 hg1 sz
    refine tw_ofW (by decide) (Nat.le_of_ble_eq_true rfl) ?_
    intro p e s m below meth c A ls hx hb hr hml hB hown hlocks hK hN hA TH hS hl
    have hown : s.vm.findClass "TreeMergeModel" = some m.cls := hown
    have hl : lv_has ls 7 [(0, .ref a0), (1, .int x1), (2, .int x2)] := hl
    obtain ⟨kp0, ekp⟩ : ∃ z, z = kp := ⟨_, rfl⟩
    obtain ⟨L0, eL⟩ : ∃ z, z = L := ⟨_, rfl⟩
    rw [show tw_Q D cs kp L = tw_Q D cs kp0 L0 by rw [ekp, eL]]
    have hex : ∀ a : Nat, a ∈ L0 → a ∈ L ∧ kp a = kp0 a := fun a h => ⟨by rw [← eL]; exact h, by rw [ekp]⟩
    have hF : tw_fr kp L [(12, 63)] [366] E E := tw_fr.rf
    obtain ⟨qfv0_63, hqfv0_63, hqfv0_63a, hqfv0_63b⟩ := tw_rd TH hm0 hk0 (by decide) (by decide) (k := 63) rfl
    have eqfv0_63 : qfv0_63 = fv0_63 := by have q := hqfv0_63.symm.trans hfv0_63; injection q
    rw [eqfv0_63] at hqfv0_63a hqfv0_63b
    have hRW := hg0
    refine lv_aload_n hx hb dX12_prints__0 rfl (lv_at hl 0 rfl) ?_
    refine tw_get (ci := 12) (C := RX12) (T := TX12) (N := 64) hx hb hB cx_inX12 hown hK TH hm0 hk0 rfl ⟨by decide, rfl⟩ 20 (by decide) cw_1213 (fun _ h9 => h9) dX12_prints__1 (fun hv => ?_)
    obtain ⟨xr1, hxr1, hmxr1, hkxr1⟩ : ∃ a : Nat, tw_fv E a0 20 = .ref a ∧ a ∈ L ∧ kp a = 330 := hv
    rw [hxr1]
    refine lv_iload_n hx hb dX12_prints__4 rfl (lv_at hl 2 rfl) ?_
    refine tw_iald (k := 330) (t0 := 0) (n := 150) (lo := 0) (hi := 9) hx hb hK TH hmxr1 hkxr1 (by decide) rfl rfl (i := x2) (vp_in_iff.mpr ⟨by  omega, by  omega⟩) dX12_prints__5 (fun hxe2a hxe2b => ?_)
    obtain ⟨xe2, exe2⟩ : ∃ z : Int32, tw_iv E xr1 (Int32.toNatClampNeg x2) = z := ⟨_, rfl⟩
    rw [exe2] at hxe2a hxe2b ⊢
    refine lv_istore_n (lv' := [(3, .int xe2), (0, .ref a0), (1, .int x1), (2, .int x2)]) hx hb dX12_prints__6 rfl hl (by decide) rfl (fun ls hl => ?_)
    refine lv_iconst (v := 0) hx hb dX12_prints__7 (by decide) ?_
    refine lv_istore (lv' := [(4, .int 0), (3, .int xe2), (0, .ref a0), (1, .int x1), (2, .int x2)]) hx hb dX12_prints__8 hl (by decide) rfl (fun ls hl => ?_)
    have hJ10 : ∀ (n10 : Nat) (y10_4 : Int32) (u10_0_63 : Int32) (Eg10 : Nat → va_E) (H : Heap) (locs : List Loc) (ls : Array Slot), 0 ≤ y10_4.toInt → y10_4.toInt ≤ 500 → 0 ≤ u10_0_63.toInt → u10_0_63.toInt ≤ 20560 → (u10_0_63.toInt = fv0_63.toInt + y10_4.toInt) → (0 ≤ y10_4.toInt) → (y10_4.toInt ≤ 500) → 500 - y10_4.toInt ≤ (n10 : Int) → tw_fv Eg10 a0 63 = .int u10_0_63 → tw_fr kp L [(12, 63)] [366] E Eg10 → rw_ok Eg10 a0 (x1.toInt) → kg_ok Eg10 a0 → tw_H D cs kp L Eg10 A H → va_S A s.heap H locs → lv_has ls 7 [(4, .int y10_4), (3, .int xe2), (0, .ref a0), (1, .int x1), (2, .int x2)] → W p l e { frames := dd + 1 + 2, cells := 0, slots := 0, locals := 26 * (dd + 1) + 67 } s m [.ref a0, .int x1, .int x2].toArray below meth c H locs 0 0 (MQ below (tw_Q D cs kp0 L0 (fun v kq Lq Eq => v = none ∧ kp = kq ∧ L = Lq ∧ tw_fr kp L [(12, 63)] [366] E Eq ∧ (tw_fi Eq a0 63 + 513 * (rt_R (rw_h E a0 x1.toInt) (rw_p E a0 x1.toInt) (rw_q E a0 x1.toInt) x2.toInt : Int) + 1 ≤ fv0_63.toInt + 513 * ((rt_mu (rw_h E a0 x1.toInt) (rw_p E a0 x1.toInt) (rw_q E a0 x1.toInt) x2.toInt : Int) + 1)) ∧ (∃ z0 : Int32, tw_fv Eq a0 63 = .int z0 ∧ (z0.toInt ≤ 20560))) A) [.ref a0, .int x1, .int x2].toArray s 0 0 A) (F0 m 10 ls []) := by
      intro n10
      induction n10 using Nat.strongRecOn with
      | _ n10 ih10 =>
        intro y10_4 u10_0_63 Eg10 H locs ls hy10_4a hy10_4b hu10_0_63a hu10_0_63b hin10_0 hin10_1 hin10_2 hmeas10 hfm10_0 hG10 hg0 hg1 TH hS hl
        have hF := hF.tr hG10 (fun _ h => ⟨h, rfl⟩) (by decide) (by decide)
        have hmf3 : tw_fv Eg10 a0 20 = .ref xr1 := (hG10.1 a0 20 hm0 (by rw [hk0]; decide)).trans hxr1
        refine lv_iload hx hb dX12_prints__10 (lv_at hl 0 rfl) ?_
        refine lv_aload_n hx hb dX12_prints__12 rfl (lv_at hl 2 rfl) ?_
        refine tw_get (ci := 12) (C := RX12) (T := TX12) (N := 64) hx hb hB cx_inX12 hown hK TH hm0 hk0 rfl ⟨by decide, rfl⟩ 32 (by decide) cw_1225 (fun _ h9 => h9) dX12_prints__13 (fun hv => ?_)
        obtain ⟨xr4, hxr4, hmxr4, hkxr4⟩ : ∃ a : Nat, tw_fv Eg10 a0 32 = .ref a ∧ a ∈ L ∧ kp a = 338 := hv
        rw [hxr4]
        refine lv_iload_n hx hb dX12_prints__16 rfl (lv_at hl 1 rfl) ?_
        refine tw_iald (k := 338) (t0 := 0) (n := 10) (lo := 0) (hi := 500) hx hb hK TH hmxr4 hkxr4 (by decide) rfl rfl (i := xe2) (vp_in_iff.mpr ⟨by  omega, by  omega⟩) dX12_prints__17 (fun hxe5a hxe5b => ?_)
        obtain ⟨xe5, exe5⟩ : ∃ z : Int32, tw_iv Eg10 xr4 (Int32.toNatClampNeg xe2) = z := ⟨_, rfl⟩
        rw [exe5] at hxe5a hxe5b ⊢
        refine lv_icmp_ge (tgt := 45) hx hb dX12_prints__18 (by decide) (fun hc6 => ?_) (fun hc6 => ?_)
        · have hf7 : xe5.toInt ≤ y10_4.toInt := by have z := (fa_le _ _).mp hc6;  omega
          refine lv_aload_n hx hb dX12_prints__45 rfl (lv_at hl 2 rfl) ?_
          refine tw_get (ci := 12) (C := RX12) (T := TX12) (N := 64) hx hb hB cx_inX12 hown hK TH hm0 hk0 rfl ⟨by decide, rfl⟩ 17 (by decide) cw_1210 (fun _ h9 => h9) dX12_prints__46 (fun hv => ?_)
          obtain ⟨xr8, hxr8, hmxr8, hkxr8⟩ : ∃ a : Nat, tw_fv Eg10 a0 17 = .ref a ∧ a ∈ L ∧ kp a = 317 := hv
          rw [hxr8]
          refine lv_iload_n hx hb dX12_prints__49 rfl (lv_at hl 3 rfl) ?_
          refine tw_aald (k := 317) (t0 := 6) (n := 16) (lo := 327) (hi := 0) (ty := .long) hx hb hK TH hmxr8 hkxr8 (by decide) rfl rfl (i := x1) (vp_in_iff.mpr ⟨by  omega, by  omega⟩) dX12_prints__50 (fun xr9 exr9 hmxr9 hkxr9 => ?_)
          have hkxr9 : kp xr9 = 327 := hkxr9
          refine lv_iload_n hx hb dX12_prints__51 rfl (lv_at hl 4 rfl) ?_
          refine tw_lald2 (k := 327) (n := 150) (lo := 0) (hi := 0) hx hb hK TH hmxr9 hkxr9 (by decide) rfl (i := x2) (vp_in_iff.mpr ⟨by  omega, by  omega⟩) dX12_prints__52 (fun xl10 exl10 => ?_)
          refine lv_lstore (lv' := [(4, .long xl10), (3, .int xe2), (0, .ref a0), (1, .int x1), (2, .int x2)]) hx hb dX12_prints__53 hl (by decide) rfl (fun ls hl => ?_)
          refine lv_lload hx hb dX12_prints__55 (lv_at hl 0 rfl) ?_
          refine lv_lconst (v := 0) hx hb dX12_prints__57 (by decide) ?_
          refine tw_topl (fun zl11 ezl11 => ?_)
          have hzl11 : zl11.toInt = 0 := by rw [ezl11]; decide
          refine W.lcmp hx hb dX12_prints__58 ?_
          have hzi12 := ia_lc xl10 zl11
          generalize lg_cmp xl10 zl11 = zi12 at hzi12 ⊢
          have hJ68 : ∀ (u68_0_63 : Int32) (Eg68 : Nat → va_E) (H : Heap) (locs : List Loc) (ls : Array Slot), 0 ≤ u68_0_63.toInt → u68_0_63.toInt ≤ 20560 → (u68_0_63.toInt ≤ fv0_63.toInt + 501) → tw_fv Eg68 a0 63 = .int u68_0_63 → tw_fr kp L [(12, 63)] [366] Eg10 Eg68 → rw_ok Eg68 a0 (x1.toInt) → kg_ok Eg68 a0 → tw_H D cs kp L Eg68 A H → va_S A s.heap H locs → lv_has ls 7 [(4, .long xl10), (0, .ref a0), (1, .int x1), (2, .int x2)] → W p l e { frames := dd + 1 + 2, cells := 0, slots := 0, locals := 26 * (dd + 1) + 67 } s m [.ref a0, .int x1, .int x2].toArray below meth c H locs 0 0 (MQ below (tw_Q D cs kp0 L0 (fun v kq Lq Eq => v = none ∧ kp = kq ∧ L = Lq ∧ tw_fr kp L [(12, 63)] [366] E Eq ∧ (tw_fi Eq a0 63 + 513 * (rt_R (rw_h E a0 x1.toInt) (rw_p E a0 x1.toInt) (rw_q E a0 x1.toInt) x2.toInt : Int) + 1 ≤ fv0_63.toInt + 513 * ((rt_mu (rw_h E a0 x1.toInt) (rw_p E a0 x1.toInt) (rw_q E a0 x1.toInt) x2.toInt : Int) + 1)) ∧ (∃ z0 : Int32, tw_fv Eq a0 63 = .int z0 ∧ (z0.toInt ≤ 20560))) A) [.ref a0, .int x1, .int x2].toArray s 0 0 A) (F0 m 68 ls []) := by
            intro u68_0_63 Eg68 H locs ls hu68_0_63a hu68_0_63b hin68_0 hfm68_0 hG68 hg0 hg1 TH hS hl
            have hF := hF.tr hG68 (fun _ h => ⟨h, rfl⟩) (by decide) (by decide)
            have hG10 := hG10.tr hG68 (fun _ h => ⟨h, rfl⟩) (by decide) (by decide)
            have hmf13 : tw_fv Eg68 a0 20 = .ref xr1 := (hG68.1 a0 20 hm0 (by rw [hk0]; decide)).trans hmf3
            have hmf14 : tw_fv Eg68 a0 32 = .ref xr4 := (hG68.1 a0 32 hm0 (by rw [hk0]; decide)).trans hxr4
            have hmf15 : tw_fv Eg68 a0 17 = .ref xr8 := (hG68.1 a0 17 hm0 (by rw [hk0]; decide)).trans hxr8
            refine lv_lload hx hb dX12_prints__68 (lv_at hl 0 rfl) ?_
            refine tw_Sc (n := 1) (post := (fun v kq Lq Eq => (∃ x : Int32, v = some (.int x) ∧ 0 ≤ x.toInt ∧ x.toInt ≤ 8) ∧ kp = kq ∧ L = Lq ∧ Eg68 = Eq)) (As := [.long xl10]) (rest := []) ⟨hx, hb, hml, hown, hB⟩ (fun sz => tX12_longOf l D cs xl10  sz) cg_12_297_X12_longOf rfl rfl (by decide +kernel) ⟨(by first | exact Nat.le_of_ble_eq_true rfl | (dsimp only; omega) | omega), (by first | exact Nat.le_of_ble_eq_true rfl | (dsimp only; omega) | omega)⟩ hK hN TH hS hA rfl hl.1 rfl ((by first | exact Nat.le_of_ble_eq_true rfl | (dsimp only; omega) | omega)) dX12_prints__70 ⟨(by first | exact Nat.le_of_ble_eq_true rfl | (dsimp only; omega) | omega), (by first | exact Nat.le_of_ble_eq_true rfl | (dsimp only; omega) | omega)⟩ (fun v16 kp16 L16 E16 H locs hq16 hx16 TH hS => ?_)
            obtain ⟨⟨xc17, rfl, hxc17a, hxc17b⟩, rfl, rfl, rfl⟩ := hq16
            refine W.eq (g2 := F0 m 73 ls [.int xc17]) rfl ?_
            refine lv_iconst (v := 1) hx hb dX12_prints__73 (by decide) ?_
            refine lv_isub hx hb dX12_prints__74 ?_
            refine lv_topi (fun zi18 ezi18 => ?_)
            have hzi18 : zi18.toInt = xc17.toInt - 1 := by rw [ezi18]; have : ((1 : Int32).toInt) = 1 := (by decide); have := ia_lo xc17; have := ia_hi xc17; exact (ia_sub (by omega) (by omega)).trans (by omega)
            refine lv_istore (lv' := [(6, .int zi18), (4, .long xl10), (0, .ref a0), (1, .int x1), (2, .int x2)]) hx hb dX12_prints__75 hl (by decide) rfl (fun ls hl => ?_)
            have hJ77 : ∀ (n77 : Nat) (y77_6 : Int32) (u77_0_63 : Int32) (Eg77 : Nat → va_E) (H : Heap) (locs : List Loc) (ls : Array Slot), (-1) ≤ y77_6.toInt → y77_6.toInt ≤ 7 → 0 ≤ u77_0_63.toInt → u77_0_63.toInt ≤ 20560 → (u77_0_63.toInt ≤ fv0_63.toInt + 508 - y77_6.toInt) → (-1 ≤ y77_6.toInt) → (y77_6.toInt ≤ 7) → y77_6.toInt + 1 ≤ (n77 : Int) → tw_fv Eg77 a0 63 = .int u77_0_63 → tw_fr kp L [(12, 63)] [366] Eg68 Eg77 → rw_ok Eg77 a0 (x1.toInt) → kg_ok Eg77 a0 → tw_H D cs kp L Eg77 A H → va_S A s.heap H locs → lv_has ls 7 [(6, .int y77_6), (4, .long xl10), (0, .ref a0), (1, .int x1), (2, .int x2)] → W p l e { frames := dd + 1 + 2, cells := 0, slots := 0, locals := 26 * (dd + 1) + 67 } s m [.ref a0, .int x1, .int x2].toArray below meth c H locs 0 0 (MQ below (tw_Q D cs kp0 L0 (fun v kq Lq Eq => v = none ∧ kp = kq ∧ L = Lq ∧ tw_fr kp L [(12, 63)] [366] E Eq ∧ (tw_fi Eq a0 63 + 513 * (rt_R (rw_h E a0 x1.toInt) (rw_p E a0 x1.toInt) (rw_q E a0 x1.toInt) x2.toInt : Int) + 1 ≤ fv0_63.toInt + 513 * ((rt_mu (rw_h E a0 x1.toInt) (rw_p E a0 x1.toInt) (rw_q E a0 x1.toInt) x2.toInt : Int) + 1)) ∧ (∃ z0 : Int32, tw_fv Eq a0 63 = .int z0 ∧ (z0.toInt ≤ 20560))) A) [.ref a0, .int x1, .int x2].toArray s 0 0 A) (F0 m 77 ls []) := by
              intro n77
              induction n77 using Nat.strongRecOn with
              | _ n77 ih77 =>
                intro y77_6 u77_0_63 Eg77 H locs ls hy77_6a hy77_6b hu77_0_63a hu77_0_63b hin77_0 hin77_1 hin77_2 hmeas77 hfm77_0 hG77 hg0 hg1 TH hS hl
                have hF := hF.tr hG77 (fun _ h => ⟨h, rfl⟩) (by decide) (by decide)
                have hG10 := hG10.tr hG77 (fun _ h => ⟨h, rfl⟩) (by decide) (by decide)
                have hmf19 : tw_fv Eg77 a0 20 = .ref xr1 := (hG77.1 a0 20 hm0 (by rw [hk0]; decide)).trans hmf13
                have hmf20 : tw_fv Eg77 a0 32 = .ref xr4 := (hG77.1 a0 32 hm0 (by rw [hk0]; decide)).trans hmf14
                have hmf21 : tw_fv Eg77 a0 17 = .ref xr8 := (hG77.1 a0 17 hm0 (by rw [hk0]; decide)).trans hmf15
                refine lv_iload hx hb dX12_prints__77 (lv_at hl 0 rfl) ?_
                refine lv_if_lt (tgt := 105) hx hb dX12_prints__79 (by decide) (fun hc22 => ?_) (fun hc22 => ?_)
                · have hf23 : y77_6.toInt < 0 := by have z := (fa_lt _ _).mp hc22; have : ((0 : Int32).toInt) = 0 := (by decide); omega
                  refine lv_lload hx hb dX12_prints__105 (lv_at hl 1 rfl) ?_
                  refine lv_lconst (v := 0) hx hb dX12_prints__107 (by decide) ?_
                  refine tw_topl (fun zl24 ezl24 => ?_)
                  have hzl24 : zl24.toInt = 0 := by rw [ezl24]; decide
                  refine W.lcmp hx hb dX12_prints__108 ?_
                  have hzi25 := ia_lc xl10 zl24
                  generalize lg_cmp xl10 zl24 = zi25 at hzi25 ⊢
                  have hJ118 : ∀ (u118_0_63 : Int32) (Eg118 : Nat → va_E) (H : Heap) (locs : List Loc) (ls : Array Slot), 0 ≤ u118_0_63.toInt → u118_0_63.toInt ≤ 20560 → (u118_0_63.toInt ≤ fv0_63.toInt + 510) → tw_fv Eg118 a0 63 = .int u118_0_63 → tw_fr kp L [(12, 63)] [366] Eg77 Eg118 → rw_ok Eg118 a0 (x1.toInt) → kg_ok Eg118 a0 → tw_H D cs kp L Eg118 A H → va_S A s.heap H locs → lv_has ls 7 [(0, .ref a0), (1, .int x1), (2, .int x2)] → W p l e { frames := dd + 1 + 2, cells := 0, slots := 0, locals := 26 * (dd + 1) + 67 } s m [.ref a0, .int x1, .int x2].toArray below meth c H locs 0 0 (MQ below (tw_Q D cs kp0 L0 (fun v kq Lq Eq => v = none ∧ kp = kq ∧ L = Lq ∧ tw_fr kp L [(12, 63)] [366] E Eq ∧ (tw_fi Eq a0 63 + 513 * (rt_R (rw_h E a0 x1.toInt) (rw_p E a0 x1.toInt) (rw_q E a0 x1.toInt) x2.toInt : Int) + 1 ≤ fv0_63.toInt + 513 * ((rt_mu (rw_h E a0 x1.toInt) (rw_p E a0 x1.toInt) (rw_q E a0 x1.toInt) x2.toInt : Int) + 1)) ∧ (∃ z0 : Int32, tw_fv Eq a0 63 = .int z0 ∧ (z0.toInt ≤ 20560))) A) [.ref a0, .int x1, .int x2].toArray s 0 0 A) (F0 m 118 ls []) := by
                    intro u118_0_63 Eg118 H locs ls hu118_0_63a hu118_0_63b hin118_0 hfm118_0 hG118 hg0 hg1 TH hS hl
                    have hF := hF.tr hG118 (fun _ h => ⟨h, rfl⟩) (by decide) (by decide)
                    have hG10 := hG10.tr hG118 (fun _ h => ⟨h, rfl⟩) (by decide) (by decide)
                    have hG77 := hG77.tr hG118 (fun _ h => ⟨h, rfl⟩) (by decide) (by decide)
                    have hmf26 : tw_fv Eg118 a0 20 = .ref xr1 := (hG118.1 a0 20 hm0 (by rw [hk0]; decide)).trans hmf19
                    have hmf27 : tw_fv Eg118 a0 32 = .ref xr4 := (hG118.1 a0 32 hm0 (by rw [hk0]; decide)).trans hmf20
                    have hmf28 : tw_fv Eg118 a0 17 = .ref xr8 := (hG118.1 a0 17 hm0 (by rw [hk0]; decide)).trans hmf21
                    refine lv_aload_n hx hb dX12_prints__118 rfl (lv_at hl 0 rfl) ?_
                    refine lv_iload_n hx hb dX12_prints__119 rfl (lv_at hl 1 rfl) ?_
                    refine lv_iload_n hx hb dX12_prints__120 rfl (lv_at hl 2 rfl) ?_
                    refine tw_Vc (o := a0) (ci := 12) (n := 2) (post := (fun v kq Lq Eq => (∃ x : Int32, v = some (.int x) ∧ (-1) ≤ x.toInt ∧ x.toInt ≤ 149 ∧ (rt_kbk (rw_h Eg118 a0 x1.toInt) (rw_p Eg118 a0 x1.toInt) (rw_q Eg118 a0 x1.toInt) 150 x2.toInt (-1) x.toInt)) ∧ kp = kq ∧ L = Lq ∧ Eg118 = Eq)) (As := [.int x1, .int x2]) (rest := []) ⟨hx, hb, hml, hown, hB⟩ (fun sz => tX12_firstKid l D cs a0 x1 x2 hm0 hk0 (by omega) (by omega) sz) cg_12_291_X12_firstKid rfl rfl (by decide +kernel) ⟨(by first | exact Nat.le_of_ble_eq_true rfl | (dsimp only; omega) | omega), (by first | exact Nat.le_of_ble_eq_true rfl | (dsimp only; omega) | omega)⟩ hK hN TH hS hA rfl hm0 hk0 (by decide) rfl hl.1 rfl ((by first | exact Nat.le_of_ble_eq_true rfl | (dsimp only; omega) | omega)) dX12_prints__121 ⟨(by first | exact Nat.le_of_ble_eq_true rfl | (dsimp only; omega) | omega), (by first | exact Nat.le_of_ble_eq_true rfl | (dsimp only; omega) | omega)⟩ (fun v29 kp29 L29 E29 H locs hq29 hx29 TH hS => ?_)
                    obtain ⟨⟨xc30, rfl, hxc30a, hxc30b, hpoxc30_0⟩, rfl, rfl, rfl⟩ := hq29
                    refine W.eq (g2 := F0 m 124 ls [.int xc30]) rfl ?_
                    refine lv_istore (lv' := [(6, .int xc30), (0, .ref a0), (1, .int x1), (2, .int x2)]) hx hb dX12_prints__124 hl (by decide) rfl (fun ls hl => ?_)
                    have fhc := rw_h_fr TH hF hm0 hk0 (by decide) (by decide) (by decide) (i := x1.toInt) (by omega)
                    have fpc := rw_p_fr TH hF hm0 hk0 (by decide) (by decide) (by decide) (i := x1.toInt) (by omega)
                    have fqc := rw_q_fr TH hF hm0 hk0 (by decide) (by decide) (by decide) (i := x1.toInt) (by omega)
                    have hfk := hpoxc30_0
                    rw [fhc, fpc, fqc] at hfk
                    refine lv_iload hx hb dX12_prints__126 (lv_at hl 0 rfl) ?_
                    refine lv_iconst (v := (-1)) hx hb dX12_prints__128 (by decide) ?_
                    refine lv_icmp_ne (tgt := 133) hx hb dX12_prints__129 (by decide) (fun hc31 => ?_) (fun hc31 => ?_)
                    · have hf32 : ¬ (xc30.toInt = (-1)) := fun q => hc31 ((fa_eq _ _).mpr (by have : (((-1) : Int32).toInt) = (-1) := (by decide); omega))
                      refine lv_aload_n hx hb dX12_prints__133 rfl (lv_at hl 1 rfl) ?_
                      refine lv_bipush (v := 40) hx hb dX12_prints__134 (by decide) ?_
                      refine tw_Vc (o := a0) (ci := 12) (n := 1) (post := (fun v kq Lq Eq => v = none ∧ kp = kq ∧ L = Lq ∧ tw_fr kp L [(12, 63)] [366] Eg118 Eq ∧ (∃ z0 : Int32, tw_fv Eq a0 63 = .int z0 ∧ (z0.toInt = u118_0_63.toInt + 1)))) (As := [.int 40]) (rest := []) ⟨hx, hb, hml, hown, hB⟩ (fun sz => tX12_prints l D cs a0 (40 : Int32) u118_0_63 hm0 hk0 hfm118_0 (by have : ((40 : Int32).toInt) = 40 := (by decide); omega) sz) cg_12_563_X12_prints rfl rfl (by decide +kernel) ⟨(by first | exact Nat.le_of_ble_eq_true rfl | (dsimp only; omega) | omega), (by first | exact Nat.le_of_ble_eq_true rfl | (dsimp only; omega) | omega)⟩ hK hN TH hS hA rfl hm0 hk0 (by decide) rfl hl.1 rfl ((by first | exact Nat.le_of_ble_eq_true rfl | (dsimp only; omega) | omega)) dX12_prints__136 ⟨(by first | exact Nat.le_of_ble_eq_true rfl | (dsimp only; omega) | omega), (by first | exact Nat.le_of_ble_eq_true rfl | (dsimp only; omega) | omega)⟩ (fun v33 kp33 L33 E33 H locs hq33 hx33 TH hS => ?_)
                      obtain ⟨rfl, rfl, rfl, hst33, ⟨zfxc34_0_0, hzfxc34_0_0, hzpxc34_0⟩⟩ := hq33
                      have hF := hF.tr hst33 (fun _ h => ⟨h, rfl⟩) (by decide) (by decide)
                      have hG10 := hG10.tr hst33 (fun _ h => ⟨h, rfl⟩) (by decide) (by decide)
                      have hG77 := hG77.tr hst33 (fun _ h => ⟨h, rfl⟩) (by decide) (by decide)
                      have hmf35 : tw_fv E33 a0 20 = .ref xr1 := (hst33.1 a0 20 hm0 (by rw [hk0]; decide)).trans hmf26
                      have hmf36 : tw_fv E33 a0 32 = .ref xr4 := (hst33.1 a0 32 hm0 (by rw [hk0]; decide)).trans hmf27
                      have hmf37 : tw_fv E33 a0 17 = .ref xr8 := (hst33.1 a0 17 hm0 (by rw [hk0]; decide)).trans hmf28
                      have hg0 : rw_ok E33 a0 (x1.toInt) := rw_ok_fr TH hst33 hm0 hk0 (by decide) (by decide) (by omega) hg0
                      have hg1 : kg_ok E33 a0 := kg_ok_fr TH hst33 hm0 hk0 (by decide) (by decide) hg1
                      obtain ⟨qzfxc34_0_0, hqzfxc34_0_0, hqzfxc34_0_0a, hqzfxc34_0_0b⟩ := tw_rd TH hm0 hk0 (by decide) (by decide) (k := 63) rfl
                      have eqzfxc34_0_0 : qzfxc34_0_0 = zfxc34_0_0 := by have q := hqzfxc34_0_0.symm.trans hzfxc34_0_0; injection q
                      rw [eqzfxc34_0_0] at hqzfxc34_0_0a hqzfxc34_0_0b
                      refine W.eq (g2 := F0 m 139 ls []) rfl ?_
                      have hJ139 : ∀ (n139 : Nat) (y139_6 : Int32) (u139_0_63 : Int32) (Eg139 : Nat → va_E) (H : Heap) (locs : List Loc) (ls : Array Slot), (-1) ≤ y139_6.toInt → y139_6.toInt ≤ 149 → 0 ≤ u139_0_63.toInt → u139_0_63.toInt ≤ 20560 → (kd_is (rw_h E a0 (x1.toInt)) (rw_p E a0 (x1.toInt)) (x2.toInt) (y139_6.toInt)) → (y139_6.toInt ≠ -1 → u139_0_63.toInt + 513 * ((rt_mu (rw_h E a0 (x1.toInt)) (rw_p E a0 (x1.toInt)) (rw_q E a0 (x1.toInt)) (y139_6.toInt) : Int) + 1) ≤ fv0_63.toInt + 511 + 513 * (rt_mu (rw_h E a0 (x1.toInt)) (rw_p E a0 (x1.toInt)) (rw_q E a0 (x1.toInt)) (x2.toInt) : Int)) → (y139_6.toInt = -1 → u139_0_63.toInt + 513 * (rt_R (rw_h E a0 (x1.toInt)) (rw_p E a0 (x1.toInt)) (rw_q E a0 (x1.toInt)) (x2.toInt) : Int) + 1 ≤ fv0_63.toInt + 511 + 513 * (rt_mu (rw_h E a0 (x1.toInt)) (rw_p E a0 (x1.toInt)) (rw_q E a0 (x1.toInt)) (x2.toInt) : Int)) → (rt_kz (rw_h E a0 (x1.toInt)) (rw_p E a0 (x1.toInt)) (rw_q E a0 (x1.toInt)) (x2.toInt) (y139_6.toInt) : Int) ≤ (n139 : Int) → tw_fv Eg139 a0 63 = .int u139_0_63 → tw_fr kp L [(12, 63)] [366] E33 Eg139 → rw_ok Eg139 a0 (x1.toInt) → kg_ok Eg139 a0 → tw_H D cs kp L Eg139 A H → va_S A s.heap H locs → lv_has ls 7 [(6, .int y139_6), (0, .ref a0), (1, .int x1), (2, .int x2)] → W p l e { frames := dd + 1 + 2, cells := 0, slots := 0, locals := 26 * (dd + 1) + 67 } s m [.ref a0, .int x1, .int x2].toArray below meth c H locs 0 0 (MQ below (tw_Q D cs kp0 L0 (fun v kq Lq Eq => v = none ∧ kp = kq ∧ L = Lq ∧ tw_fr kp L [(12, 63)] [366] E Eq ∧ (tw_fi Eq a0 63 + 513 * (rt_R (rw_h E a0 x1.toInt) (rw_p E a0 x1.toInt) (rw_q E a0 x1.toInt) x2.toInt : Int) + 1 ≤ fv0_63.toInt + 513 * ((rt_mu (rw_h E a0 x1.toInt) (rw_p E a0 x1.toInt) (rw_q E a0 x1.toInt) x2.toInt : Int) + 1)) ∧ (∃ z0 : Int32, tw_fv Eq a0 63 = .int z0 ∧ (z0.toInt ≤ 20560))) A) [.ref a0, .int x1, .int x2].toArray s 0 0 A) (F0 m 139 ls []) := by
                        intro n139
                        induction n139 using Nat.strongRecOn with
                        | _ n139 ih139 =>
                          intro y139_6 u139_0_63 Eg139 H locs ls hy139_6a hy139_6b hu139_0_63a hu139_0_63b hin139_0 hin139_1 hin139_2 hmeas139 hfm139_0 hG139 hg0 hg1 TH hS hl
                          have hF := hF.tr hG139 (fun _ h => ⟨h, rfl⟩) (by decide) (by decide)
                          have hG10 := hG10.tr hG139 (fun _ h => ⟨h, rfl⟩) (by decide) (by decide)
                          have hG77 := hG77.tr hG139 (fun _ h => ⟨h, rfl⟩) (by decide) (by decide)
                          have hmf38 : tw_fv Eg139 a0 20 = .ref xr1 := (hG139.1 a0 20 hm0 (by rw [hk0]; decide)).trans hmf35
                          have hmf39 : tw_fv Eg139 a0 32 = .ref xr4 := (hG139.1 a0 32 hm0 (by rw [hk0]; decide)).trans hmf36
                          have hmf40 : tw_fv Eg139 a0 17 = .ref xr8 := (hG139.1 a0 17 hm0 (by rw [hk0]; decide)).trans hmf37
                          refine lv_iload hx hb dX12_prints__139 (lv_at hl 0 rfl) ?_
                          refine lv_iconst (v := (-1)) hx hb dX12_prints__141 (by decide) ?_
                          refine lv_icmp_eq (tgt := 176) hx hb dX12_prints__142 (by decide) (fun hc41 => ?_) (fun hc41 => ?_)
                          · have hf42 : y139_6.toInt = (-1) := by have z := (fa_eq _ _).mp hc41; have : (((-1) : Int32).toInt) = (-1) := (by decide); omega
                            refine lv_aload_n hx hb dX12_prints__176 rfl (lv_at hl 1 rfl) ?_
                            refine lv_bipush (v := 41) hx hb dX12_prints__177 (by decide) ?_
                            refine tw_Vc (o := a0) (ci := 12) (n := 1) (post := (fun v kq Lq Eq => v = none ∧ kp = kq ∧ L = Lq ∧ tw_fr kp L [(12, 63)] [366] Eg139 Eq ∧ (∃ z0 : Int32, tw_fv Eq a0 63 = .int z0 ∧ (z0.toInt = u139_0_63.toInt + 1)))) (As := [.int 41]) (rest := []) ⟨hx, hb, hml, hown, hB⟩ (fun sz => tX12_prints l D cs a0 (41 : Int32) u139_0_63 hm0 hk0 hfm139_0 (by have : ((41 : Int32).toInt) = 41 := (by decide); omega) sz) cg_12_563_X12_prints rfl rfl (by decide +kernel) ⟨(by first | exact Nat.le_of_ble_eq_true rfl | (dsimp only; omega) | omega), (by first | exact Nat.le_of_ble_eq_true rfl | (dsimp only; omega) | omega)⟩ hK hN TH hS hA rfl hm0 hk0 (by decide) rfl hl.1 rfl ((by first | exact Nat.le_of_ble_eq_true rfl | (dsimp only; omega) | omega)) dX12_prints__179 ⟨(by first | exact Nat.le_of_ble_eq_true rfl | (dsimp only; omega) | omega), (by first | exact Nat.le_of_ble_eq_true rfl | (dsimp only; omega) | omega)⟩ (fun v43 kp43 L43 E43 H locs hq43 hx43 TH hS => ?_)
                            obtain ⟨rfl, rfl, rfl, hst43, ⟨zfxc44_0_0, hzfxc44_0_0, hzpxc44_0⟩⟩ := hq43
                            have hF := hF.tr hst43 (fun _ h => ⟨h, rfl⟩) (by decide) (by decide)
                            have hG10 := hG10.tr hst43 (fun _ h => ⟨h, rfl⟩) (by decide) (by decide)
                            have hG77 := hG77.tr hst43 (fun _ h => ⟨h, rfl⟩) (by decide) (by decide)
                            have hG139 := hG139.tr hst43 (fun _ h => ⟨h, rfl⟩) (by decide) (by decide)
                            have hmf45 : tw_fv E43 a0 20 = .ref xr1 := (hst43.1 a0 20 hm0 (by rw [hk0]; decide)).trans hmf38
                            have hmf46 : tw_fv E43 a0 32 = .ref xr4 := (hst43.1 a0 32 hm0 (by rw [hk0]; decide)).trans hmf39
                            have hmf47 : tw_fv E43 a0 17 = .ref xr8 := (hst43.1 a0 17 hm0 (by rw [hk0]; decide)).trans hmf40
                            have hg0 : rw_ok E43 a0 (x1.toInt) := rw_ok_fr TH hst43 hm0 hk0 (by decide) (by decide) (by omega) hg0
                            have hg1 : kg_ok E43 a0 := kg_ok_fr TH hst43 hm0 hk0 (by decide) (by decide) hg1
                            obtain ⟨qzfxc44_0_0, hqzfxc44_0_0, hqzfxc44_0_0a, hqzfxc44_0_0b⟩ := tw_rd TH hm0 hk0 (by decide) (by decide) (k := 63) rfl
                            have eqzfxc44_0_0 : qzfxc44_0_0 = zfxc44_0_0 := by have q := hqzfxc44_0_0.symm.trans hzfxc44_0_0; injection q
                            rw [eqzfxc44_0_0] at hqzfxc44_0_0a hqzfxc44_0_0b
                            refine W.eq (g2 := F0 m 182 ls []) rfl ?_
                            exact tw_vret hx hb hr hlocks TH hS hex ⟨rfl, rfl, rfl, hF, (by  have w := rt_R_le (p := rw_p E a0 (x1.toInt)) (q := rw_q E a0 (x1.toInt)) (x := x2.toInt) (by omega) (by omega) hpre0; rw [tw_fi_of hzfxc44_0_0]; (try (have w2 := hin139_2 (by omega))); omega), ⟨zfxc44_0_0, hzfxc44_0_0, by  omega⟩⟩ ((by first | exact Nat.le_of_ble_eq_true rfl | (dsimp only; omega) | omega)) ((by first | exact Nat.le_of_ble_eq_true rfl | (dsimp only; omega) | omega)) dX12_prints__182
                          · have hf48 : ¬ (y139_6.toInt = (-1)) := fun q => hc41 ((fa_eq _ _).mpr (by have : (((-1) : Int32).toInt) = (-1) := (by decide); omega))
                            refine lv_aload_n hx hb dX12_prints__145 rfl (lv_at hl 1 rfl) ?_
                            refine lv_iload_n hx hb dX12_prints__146 rfl (lv_at hl 2 rfl) ?_
                            refine lv_iload hx hb dX12_prints__147 (lv_at hl 0 rfl) ?_
                            have fhb := rw_h_fr TH hF hm0 hk0 (by decide) (by decide) (by decide) (i := x1.toInt) (by omega)
                            have fpb := rw_p_fr TH hF hm0 hk0 (by decide) (by decide) (by decide) (i := x1.toInt) (by omega)
                            have fqb := rw_q_fr TH hF hm0 hk0 (by decide) (by decide) (by decide) (i := x1.toInt) (by omega)
                            have hkc := hin139_0.resolve_left (by omega)
                            have hmk := rt_mu_kid (q := rw_q E a0 (x1.toInt)) hRW.1 hRW.2.1 hkc
                            have hib := hin139_1 (by omega)
                            refine tw_Vc (o := a0) (ci := 12) (n := 2) (post := (fun v kq Lq Eq => v = none ∧ kp = kq ∧ L = Lq ∧ tw_fr kp L [(12, 63)] [366] Eg139 Eq ∧ (tw_fi Eq a0 63 + 513 * (rt_R (rw_h Eg139 a0 x1.toInt) (rw_p Eg139 a0 x1.toInt) (rw_q Eg139 a0 x1.toInt) y139_6.toInt : Int) + 1 ≤ u139_0_63.toInt + 513 * ((rt_mu (rw_h Eg139 a0 x1.toInt) (rw_p Eg139 a0 x1.toInt) (rw_q Eg139 a0 x1.toInt) y139_6.toInt : Int) + 1)) ∧ (∃ z0 : Int32, tw_fv Eq a0 63 = .int z0 ∧ (z0.toInt ≤ 20560)))) (As := [.int x1, .int y139_6]) (rest := []) ⟨hx, hb, hml, hown, hB⟩ (fun sz => ih a0 x1 y139_6 u139_0_63 hm0 hk0 (by omega) (by omega) (by omega) (by omega) hfm139_0 (by  rw [fhb]; exact hkc.2.2.2.1) (by  rw [fhb, fpb, fqb]; omega) (by  rw [fhb, fpb, fqb]; omega) hg0 hg1 sz) cg_12_566_X12_prints_ rfl rfl (by decide +kernel) ⟨(by first | exact Nat.le_of_ble_eq_true rfl | (dsimp only; omega) | omega), (by first | exact Nat.le_of_ble_eq_true rfl | (dsimp only; omega) | omega)⟩ hK hN TH hS hA rfl hm0 hk0 (by decide) rfl hl.1 rfl ((by first | exact Nat.le_of_ble_eq_true rfl | (dsimp only; omega) | omega)) dX12_prints__149 ⟨(by first | exact Nat.le_of_ble_eq_true rfl | (dsimp only; omega) | omega), (by first | exact Nat.le_of_ble_eq_true rfl | (dsimp only; omega) | omega)⟩ (fun v49 kp49 L49 E49 H locs hq49 hx49 TH hS => ?_)
                            obtain ⟨rfl, rfl, rfl, hst49, hpoxc50_0, ⟨zfxc50_0_0, hzfxc50_0_0, hzpxc50_0⟩⟩ := hq49
                            have hF := hF.tr hst49 (fun _ h => ⟨h, rfl⟩) (by decide) (by decide)
                            have hG10 := hG10.tr hst49 (fun _ h => ⟨h, rfl⟩) (by decide) (by decide)
                            have hG77 := hG77.tr hst49 (fun _ h => ⟨h, rfl⟩) (by decide) (by decide)
                            have hG139 := hG139.tr hst49 (fun _ h => ⟨h, rfl⟩) (by decide) (by decide)
                            have hmf51 : tw_fv E49 a0 20 = .ref xr1 := (hst49.1 a0 20 hm0 (by rw [hk0]; decide)).trans hmf38
                            have hmf52 : tw_fv E49 a0 32 = .ref xr4 := (hst49.1 a0 32 hm0 (by rw [hk0]; decide)).trans hmf39
                            have hmf53 : tw_fv E49 a0 17 = .ref xr8 := (hst49.1 a0 17 hm0 (by rw [hk0]; decide)).trans hmf40
                            have hg0 : rw_ok E49 a0 (x1.toInt) := rw_ok_fr TH hst49 hm0 hk0 (by decide) (by decide) (by omega) hg0
                            have hg1 : kg_ok E49 a0 := kg_ok_fr TH hst49 hm0 hk0 (by decide) (by decide) hg1
                            obtain ⟨qzfxc50_0_0, hqzfxc50_0_0, hqzfxc50_0_0a, hqzfxc50_0_0b⟩ := tw_rd TH hm0 hk0 (by decide) (by decide) (k := 63) rfl
                            have eqzfxc50_0_0 : qzfxc50_0_0 = zfxc50_0_0 := by have q := hqzfxc50_0_0.symm.trans hzfxc50_0_0; injection q
                            rw [eqzfxc50_0_0] at hqzfxc50_0_0a hqzfxc50_0_0b
                            refine W.eq (g2 := F0 m 152 ls []) rfl ?_
                            have hpc := hpoxc50_0
                            rw [fhb, fpb, fqb, tw_fi_of hzfxc50_0_0] at hpc
                            refine lv_aload_n hx hb dX12_prints__152 rfl (lv_at hl 1 rfl) ?_
                            refine lv_iload_n hx hb dX12_prints__153 rfl (lv_at hl 2 rfl) ?_
                            refine lv_iload hx hb dX12_prints__154 (lv_at hl 0 rfl) ?_
                            refine tw_Vc (o := a0) (ci := 12) (n := 2) (post := (fun v kq Lq Eq => (∃ x : Int32, v = some (.int x) ∧ (-1) ≤ x.toInt ∧ x.toInt ≤ 149 ∧ (rt_kbk (rw_h E49 a0 x1.toInt) (rw_p E49 a0 x1.toInt) (rw_q E49 a0 x1.toInt) 150 (rw_p E49 a0 x1.toInt (y139_6.toInt).toNat) (rw_q E49 a0 x1.toInt (y139_6.toInt).toNat) x.toInt)) ∧ kp = kq ∧ L = Lq ∧ E49 = Eq)) (As := [.int x1, .int y139_6]) (rest := []) ⟨hx, hb, hml, hown, hB⟩ (fun sz => tX12_nextKid l D cs a0 x1 y139_6 hm0 hk0 (by omega) (by omega) (by omega) (by omega) sz) cg_12_294_X12_nextKid rfl rfl (by decide +kernel) ⟨(by first | exact Nat.le_of_ble_eq_true rfl | (dsimp only; omega) | omega), (by first | exact Nat.le_of_ble_eq_true rfl | (dsimp only; omega) | omega)⟩ hK hN TH hS hA rfl hm0 hk0 (by decide) rfl hl.1 rfl ((by first | exact Nat.le_of_ble_eq_true rfl | (dsimp only; omega) | omega)) dX12_prints__156 ⟨(by first | exact Nat.le_of_ble_eq_true rfl | (dsimp only; omega) | omega), (by first | exact Nat.le_of_ble_eq_true rfl | (dsimp only; omega) | omega)⟩ (fun v54 kp54 L54 E54 H locs hq54 hx54 TH hS => ?_)
                            obtain ⟨⟨xc55, rfl, hxc55a, hxc55b, hpoxc55_0⟩, rfl, rfl, rfl⟩ := hq54
                            refine W.eq (g2 := F0 m 159 ls [.int xc55]) rfl ?_
                            refine lv_istore (lv' := [(6, .int xc55), (0, .ref a0), (1, .int x1), (2, .int x2)]) hx hb dX12_prints__159 hl (by decide) rfl (fun ls hl => ?_)
                            have fhd := rw_h_fr TH hF hm0 hk0 (by decide) (by decide) (by decide) (i := x1.toInt) (by omega)
                            have fpd := rw_p_fr TH hF hm0 hk0 (by decide) (by decide) (by decide) (i := x1.toInt) (by omega)
                            have fqd := rw_q_fr TH hF hm0 hk0 (by decide) (by decide) (by decide) (i := x1.toInt) (by omega)
                            have hnk := hpoxc55_0
                            rw [fhd, fpd, fqd, hkc.2.2.2.2] at hnk
                            refine lv_iload hx hb dX12_prints__161 (lv_at hl 0 rfl) ?_
                            refine lv_iconst (v := (-1)) hx hb dX12_prints__163 (by decide) ?_
                            refine lv_icmp_eq (tgt := 139) hx hb dX12_prints__164 (by decide) (fun hc56 => ?_) (fun hc56 => ?_)
                            · have hf57 : xc55.toInt = (-1) := by have z := (fa_eq _ _).mp hc56; have : (((-1) : Int32).toInt) = (-1) := (by decide); omega
                              exact ih139 (n139 - 1) (by  have hfall := rt_kz_fall hkc.1 hkc.2.2 hnk;  omega) xc55 zfxc50_0_0 _ _ _ ls (by omega) (by omega) (by omega) (by omega) (by  exact kd_is_of hnk) (by  intro hne; have w := rt_R_nextI hRW.1 hRW.2.1 hkc hnk hne; omega) (by  intro he; have w := rt_R_kidI (q := rw_q E a0 (x1.toInt)) hRW.1 hRW.2.1 hkc; omega) (by  have hfall := rt_kz_fall hkc.1 hkc.2.2 hnk;  omega) hzfxc50_0_0 hG139 hg0 hg1 TH hS (lv_sub hl [0, 1, 2, 3] rfl)
                            · have hf58 : ¬ (xc55.toInt = (-1)) := fun q => hc56 ((fa_eq _ _).mpr (by have : (((-1) : Int32).toInt) = (-1) := (by decide); omega))
                              refine lv_aload_n hx hb dX12_prints__167 rfl (lv_at hl 1 rfl) ?_
                              refine lv_bipush (v := 32) hx hb dX12_prints__168 (by decide) ?_
                              refine tw_Vc (o := a0) (ci := 12) (n := 1) (post := (fun v kq Lq Eq => v = none ∧ kp = kq ∧ L = Lq ∧ tw_fr kp L [(12, 63)] [366] E49 Eq ∧ (∃ z0 : Int32, tw_fv Eq a0 63 = .int z0 ∧ (z0.toInt = zfxc50_0_0.toInt + 1)))) (As := [.int 32]) (rest := []) ⟨hx, hb, hml, hown, hB⟩ (fun sz => tX12_prints l D cs a0 (32 : Int32) zfxc50_0_0 hm0 hk0 hzfxc50_0_0 (by have : ((32 : Int32).toInt) = 32 := (by decide); omega) sz) cg_12_563_X12_prints rfl rfl (by decide +kernel) ⟨(by first | exact Nat.le_of_ble_eq_true rfl | (dsimp only; omega) | omega), (by first | exact Nat.le_of_ble_eq_true rfl | (dsimp only; omega) | omega)⟩ hK hN TH hS hA rfl hm0 hk0 (by decide) rfl hl.1 rfl ((by first | exact Nat.le_of_ble_eq_true rfl | (dsimp only; omega) | omega)) dX12_prints__170 ⟨(by first | exact Nat.le_of_ble_eq_true rfl | (dsimp only; omega) | omega), (by first | exact Nat.le_of_ble_eq_true rfl | (dsimp only; omega) | omega)⟩ (fun v59 kp59 L59 E59 H locs hq59 hx59 TH hS => ?_)
                              obtain ⟨rfl, rfl, rfl, hst59, ⟨zfxc60_0_0, hzfxc60_0_0, hzpxc60_0⟩⟩ := hq59
                              have hF := hF.tr hst59 (fun _ h => ⟨h, rfl⟩) (by decide) (by decide)
                              have hG10 := hG10.tr hst59 (fun _ h => ⟨h, rfl⟩) (by decide) (by decide)
                              have hG77 := hG77.tr hst59 (fun _ h => ⟨h, rfl⟩) (by decide) (by decide)
                              have hG139 := hG139.tr hst59 (fun _ h => ⟨h, rfl⟩) (by decide) (by decide)
                              have hmf61 : tw_fv E59 a0 20 = .ref xr1 := (hst59.1 a0 20 hm0 (by rw [hk0]; decide)).trans hmf51
                              have hmf62 : tw_fv E59 a0 32 = .ref xr4 := (hst59.1 a0 32 hm0 (by rw [hk0]; decide)).trans hmf52
                              have hmf63 : tw_fv E59 a0 17 = .ref xr8 := (hst59.1 a0 17 hm0 (by rw [hk0]; decide)).trans hmf53
                              have hg0 : rw_ok E59 a0 (x1.toInt) := rw_ok_fr TH hst59 hm0 hk0 (by decide) (by decide) (by omega) hg0
                              have hg1 : kg_ok E59 a0 := kg_ok_fr TH hst59 hm0 hk0 (by decide) (by decide) hg1
                              obtain ⟨qzfxc60_0_0, hqzfxc60_0_0, hqzfxc60_0_0a, hqzfxc60_0_0b⟩ := tw_rd TH hm0 hk0 (by decide) (by decide) (k := 63) rfl
                              have eqzfxc60_0_0 : qzfxc60_0_0 = zfxc60_0_0 := by have q := hqzfxc60_0_0.symm.trans hzfxc60_0_0; injection q
                              rw [eqzfxc60_0_0] at hqzfxc60_0_0a hqzfxc60_0_0b
                              refine W.eq (g2 := F0 m 173 ls []) rfl ?_
                              refine lv_goto (tgt := 139) hx hb dX12_prints__173 (by decide) ?_
                              exact ih139 (n139 - 1) (by  have hfall := rt_kz_fall hkc.1 hkc.2.2 hnk;  omega) xc55 zfxc60_0_0 _ _ _ ls (by omega) (by omega) (by omega) (by omega) (by  exact kd_is_of hnk) (by  intro hne; have w := rt_R_nextI hRW.1 hRW.2.1 hkc hnk hne; omega) (by  intro he; have w := rt_R_kidI (q := rw_q E a0 (x1.toInt)) hRW.1 hRW.2.1 hkc; omega) (by  have hfall := rt_kz_fall hkc.1 hkc.2.2 hnk;  omega) hzfxc60_0_0 hG139 hg0 hg1 TH hS (lv_sub hl [0, 1, 2, 3] rfl)
                      exact hJ139 151 xc30 zfxc34_0_0 _ _ _ ls (by omega) (by omega) (by omega) (by omega) (by  exact kd_is_of hfk) (by  intro hne; have hk9 := rt_kbk_kid hfk hne; have w := rt_mu_kid (q := rw_q E a0 (x1.toInt)) hRW.1 hRW.2.1 ⟨hk9.1, hk9.2.1, hk9.2.2.1⟩; omega) (by  intro he; exfalso; omega) (by  have := rt_kz_le (h := rw_h E a0 (x1.toInt)) (p := rw_p E a0 (x1.toInt)) (q := rw_q E a0 (x1.toInt)) (n := x2.toInt) (c := xc30.toInt); omega) hzfxc34_0_0 tw_fr.rf hg0 hg1 TH hS (lv_sub hl [0, 1, 2, 3] rfl)
                    · have hf64 : xc30.toInt = (-1) := by have z := (fa_eq _ _).mp hc31; have : (((-1) : Int32).toInt) = (-1) := (by decide); omega
                      exact tw_vret hx hb hr hlocks TH hS hex ⟨rfl, rfl, rfl, hF, (by  have w := rt_R_le (p := rw_p E a0 (x1.toInt)) (q := rw_q E a0 (x1.toInt)) (x := x2.toInt) (by omega) (by omega) hpre0; rw [tw_fi_of hfm118_0]; (try (have w2 := hin139_2 (by omega))); omega), ⟨u118_0_63, hfm118_0, by  omega⟩⟩ ((by first | exact Nat.le_of_ble_eq_true rfl | (dsimp only; omega) | omega)) ((by first | exact Nat.le_of_ble_eq_true rfl | (dsimp only; omega) | omega)) dX12_prints__132
                  have hG118 : tw_fr kp L [(12, 63)] [366] Eg77 Eg77 := tw_fr.rf
                  refine lv_if_eq (tgt := 118) hx hb dX12_prints__109 (by decide) (fun hc65 => ?_) (fun hc65 => ?_)
                  · have hf66 : zi25.toInt = 0 := by have z := (fa_eq _ _).mp hc65; have : ((0 : Int32).toInt) = 0 := (by decide); omega
                    exact hJ118 u77_0_63 _ _ _ ls (by omega) (by omega) (by  omega) hfm77_0 hG118 hg0 hg1 TH hS (lv_sub hl [2, 3, 4] rfl)
                  · have hf67 : ¬ (zi25.toInt = 0) := fun q => hc65 ((fa_eq _ _).mpr (by have : ((0 : Int32).toInt) = 0 := (by decide); omega))
                    refine lv_aload_n hx hb dX12_prints__112 rfl (lv_at hl 2 rfl) ?_
                    refine lv_bipush (v := 125) hx hb dX12_prints__113 (by decide) ?_
                    refine tw_Vc (o := a0) (ci := 12) (n := 1) (post := (fun v kq Lq Eq => v = none ∧ kp = kq ∧ L = Lq ∧ tw_fr kp L [(12, 63)] [366] Eg77 Eq ∧ (∃ z0 : Int32, tw_fv Eq a0 63 = .int z0 ∧ (z0.toInt = u77_0_63.toInt + 1)))) (As := [.int 125]) (rest := []) ⟨hx, hb, hml, hown, hB⟩ (fun sz => tX12_prints l D cs a0 (125 : Int32) u77_0_63 hm0 hk0 hfm77_0 (by have : ((125 : Int32).toInt) = 125 := (by decide); omega) sz) cg_12_563_X12_prints rfl rfl (by decide +kernel) ⟨(by first | exact Nat.le_of_ble_eq_true rfl | (dsimp only; omega) | omega), (by first | exact Nat.le_of_ble_eq_true rfl | (dsimp only; omega) | omega)⟩ hK hN TH hS hA rfl hm0 hk0 (by decide) rfl hl.1 rfl ((by first | exact Nat.le_of_ble_eq_true rfl | (dsimp only; omega) | omega)) dX12_prints__115 ⟨(by first | exact Nat.le_of_ble_eq_true rfl | (dsimp only; omega) | omega), (by first | exact Nat.le_of_ble_eq_true rfl | (dsimp only; omega) | omega)⟩ (fun v68 kp68 L68 E68 H locs hq68 hx68 TH hS => ?_)
                    obtain ⟨rfl, rfl, rfl, hst68, ⟨zfxc69_0_0, hzfxc69_0_0, hzpxc69_0⟩⟩ := hq68
                    have hF := hF.tr hst68 (fun _ h => ⟨h, rfl⟩) (by decide) (by decide)
                    have hG10 := hG10.tr hst68 (fun _ h => ⟨h, rfl⟩) (by decide) (by decide)
                    have hG77 := hG77.tr hst68 (fun _ h => ⟨h, rfl⟩) (by decide) (by decide)
                    have hG118 := hG118.tr hst68 (fun _ h => ⟨h, rfl⟩) (by decide) (by decide)
                    have hmf70 : tw_fv E68 a0 20 = .ref xr1 := (hst68.1 a0 20 hm0 (by rw [hk0]; decide)).trans hmf19
                    have hmf71 : tw_fv E68 a0 32 = .ref xr4 := (hst68.1 a0 32 hm0 (by rw [hk0]; decide)).trans hmf20
                    have hmf72 : tw_fv E68 a0 17 = .ref xr8 := (hst68.1 a0 17 hm0 (by rw [hk0]; decide)).trans hmf21
                    have hg0 : rw_ok E68 a0 (x1.toInt) := rw_ok_fr TH hst68 hm0 hk0 (by decide) (by decide) (by omega) hg0
                    have hg1 : kg_ok E68 a0 := kg_ok_fr TH hst68 hm0 hk0 (by decide) (by decide) hg1
                    obtain ⟨qzfxc69_0_0, hqzfxc69_0_0, hqzfxc69_0_0a, hqzfxc69_0_0b⟩ := tw_rd TH hm0 hk0 (by decide) (by decide) (k := 63) rfl
                    have eqzfxc69_0_0 : qzfxc69_0_0 = zfxc69_0_0 := by have q := hqzfxc69_0_0.symm.trans hzfxc69_0_0; injection q
                    rw [eqzfxc69_0_0] at hqzfxc69_0_0a hqzfxc69_0_0b
                    refine W.eq (g2 := F0 m 118 ls []) rfl ?_
                    exact hJ118 zfxc69_0_0 _ _ _ ls (by omega) (by omega) (by  omega) hzfxc69_0_0 hG118 hg0 hg1 TH hS (lv_sub hl [2, 3, 4] rfl)
                · have hf73 : ¬ (y77_6.toInt < 0) := fun q => hc22 ((fa_lt _ _).mpr (by have : ((0 : Int32).toInt) = 0 := (by decide); omega))
                  refine lv_aload_n hx hb dX12_prints__82 rfl (lv_at hl 2 rfl) ?_
                  refine lv_lload hx hb dX12_prints__83 (lv_at hl 1 rfl) ?_
                  refine lv_bipush (v := 8) hx hb dX12_prints__85 (by decide) ?_
                  refine lv_iload hx hb dX12_prints__87 (lv_at hl 0 rfl) ?_
                  refine lv_imul hx hb dX12_prints__89 ?_
                  refine lv_topi (fun zi74 ezi74 => ?_)
                  have hzi74 : zi74.toInt = 8 * y77_6.toInt := by rw [ezi74]; exact (ia_mul (by have hc : ((8 : Int32).toInt) = 8 := (by decide); rw [hc]; omega) (by have hc : ((8 : Int32).toInt) = 8 := (by decide); rw [hc]; omega)).trans (by have hc : ((8 : Int32).toInt) = 8 := (by decide); rw [hc])
                  refine lv_lushr (v := ((xl10).toUInt64 >>> (((zi74 : Int32)).toInt64.toUInt64 &&& Int64.toUInt64 63)).toInt64) hx hb dX12_prints__90 rfl ?_
                  refine tw_topl (fun zl75 ezl75 => ?_)
                  refine lv_ldc2 hx hb hown (hB _ cw_1679) dX12_prints__91 ?_
                  refine lv_land hx hb dX12_prints__94 ?_
                  refine tw_topl (fun zl76 ezl76 => ?_)
                  refine lv_l2i (v := (zl76).toInt32) hx hb dX12_prints__95 rfl ?_
                  refine lv_topi (fun zi77 ezi77 => ?_)
                  refine tw_Vc (o := a0) (ci := 12) (n := 1) (post := (fun v kq Lq Eq => v = none ∧ kp = kq ∧ L = Lq ∧ tw_fr kp L [(12, 63)] [366] Eg77 Eq ∧ (∃ z0 : Int32, tw_fv Eq a0 63 = .int z0 ∧ (z0.toInt = u77_0_63.toInt + 1)))) (As := [.int zi77]) (rest := []) ⟨hx, hb, hml, hown, hB⟩ (fun sz => tX12_prints l D cs a0 zi77 u77_0_63 hm0 hk0 hfm77_0 (by  omega) sz) cg_12_563_X12_prints rfl rfl (by decide +kernel) ⟨(by first | exact Nat.le_of_ble_eq_true rfl | (dsimp only; omega) | omega), (by first | exact Nat.le_of_ble_eq_true rfl | (dsimp only; omega) | omega)⟩ hK hN TH hS hA rfl hm0 hk0 (by decide) rfl hl.1 rfl ((by first | exact Nat.le_of_ble_eq_true rfl | (dsimp only; omega) | omega)) dX12_prints__96 ⟨(by first | exact Nat.le_of_ble_eq_true rfl | (dsimp only; omega) | omega), (by first | exact Nat.le_of_ble_eq_true rfl | (dsimp only; omega) | omega)⟩ (fun v78 kp78 L78 E78 H locs hq78 hx78 TH hS => ?_)
                  obtain ⟨rfl, rfl, rfl, hst78, ⟨zfxc79_0_0, hzfxc79_0_0, hzpxc79_0⟩⟩ := hq78
                  have hF := hF.tr hst78 (fun _ h => ⟨h, rfl⟩) (by decide) (by decide)
                  have hG10 := hG10.tr hst78 (fun _ h => ⟨h, rfl⟩) (by decide) (by decide)
                  have hG77 := hG77.tr hst78 (fun _ h => ⟨h, rfl⟩) (by decide) (by decide)
                  have hmf80 : tw_fv E78 a0 20 = .ref xr1 := (hst78.1 a0 20 hm0 (by rw [hk0]; decide)).trans hmf19
                  have hmf81 : tw_fv E78 a0 32 = .ref xr4 := (hst78.1 a0 32 hm0 (by rw [hk0]; decide)).trans hmf20
                  have hmf82 : tw_fv E78 a0 17 = .ref xr8 := (hst78.1 a0 17 hm0 (by rw [hk0]; decide)).trans hmf21
                  have hg0 : rw_ok E78 a0 (x1.toInt) := rw_ok_fr TH hst78 hm0 hk0 (by decide) (by decide) (by omega) hg0
                  have hg1 : kg_ok E78 a0 := kg_ok_fr TH hst78 hm0 hk0 (by decide) (by decide) hg1
                  obtain ⟨qzfxc79_0_0, hqzfxc79_0_0, hqzfxc79_0_0a, hqzfxc79_0_0b⟩ := tw_rd TH hm0 hk0 (by decide) (by decide) (k := 63) rfl
                  have eqzfxc79_0_0 : qzfxc79_0_0 = zfxc79_0_0 := by have q := hqzfxc79_0_0.symm.trans hzfxc79_0_0; injection q
                  rw [eqzfxc79_0_0] at hqzfxc79_0_0a hqzfxc79_0_0b
                  refine W.eq (g2 := F0 m 99 ls []) rfl ?_
                  obtain ⟨zi83, ezi83⟩ : ∃ z : Int32, z = y77_6 + Int32.ofInt (-1) := ⟨_, rfl⟩
                  have hzi83 : zi83.toInt = y77_6.toInt + (-1) := by rw [ezi83]; have : ((Int32.ofInt (-1)).toInt) = (-1) := (by decide);  exact (ia_add (by omega) (by omega)).trans (by omega)
                  refine lv_iinc (v := zi83) (lv' := [(6, .int zi83), (4, .long xl10), (0, .ref a0), (1, .int x1), (2, .int x2)]) hx hb dX12_prints__99 hl (k := 0) rfl ezi83.symm (by decide) rfl (fun ls hl => ?_)
                  refine lv_goto (tgt := 77) hx hb dX12_prints__102 (by decide) ?_
                  exact ih77 (n77 - 1) (by   omega) zi83 zfxc79_0_0 _ _ _ ls (by omega) (by omega) (by omega) (by omega) (by  omega) (by  omega) (by  omega) (by   omega) hzfxc79_0_0 hG77 hg0 hg1 TH hS (lv_sub hl [0, 1, 2, 3, 4] rfl)
            exact hJ77 9 zi18 u68_0_63 _ _ _ ls (by omega) (by omega) (by omega) (by omega) (by  omega) (by  omega) (by  omega) (by   omega) hfm68_0 tw_fr.rf hg0 hg1 TH hS (lv_sub hl [0, 1, 2, 3, 4] rfl)
          have hG68 : tw_fr kp L [(12, 63)] [366] Eg10 Eg10 := tw_fr.rf
          refine lv_if_eq (tgt := 68) hx hb dX12_prints__59 (by decide) (fun hc84 => ?_) (fun hc84 => ?_)
          · have hf85 : zi12.toInt = 0 := by have z := (fa_eq _ _).mp hc84; have : ((0 : Int32).toInt) = 0 := (by decide); omega
            exact hJ68 u10_0_63 _ _ _ ls (by omega) (by omega) (by  omega) hfm10_0 hG68 hg0 hg1 TH hS (lv_sub hl [0, 2, 3, 4] rfl)
          · have hf86 : ¬ (zi12.toInt = 0) := fun q => hc84 ((fa_eq _ _).mpr (by have : ((0 : Int32).toInt) = 0 := (by decide); omega))
            refine lv_aload_n hx hb dX12_prints__62 rfl (lv_at hl 2 rfl) ?_
            refine lv_bipush (v := 123) hx hb dX12_prints__63 (by decide) ?_
            refine tw_Vc (o := a0) (ci := 12) (n := 1) (post := (fun v kq Lq Eq => v = none ∧ kp = kq ∧ L = Lq ∧ tw_fr kp L [(12, 63)] [366] Eg10 Eq ∧ (∃ z0 : Int32, tw_fv Eq a0 63 = .int z0 ∧ (z0.toInt = u10_0_63.toInt + 1)))) (As := [.int 123]) (rest := []) ⟨hx, hb, hml, hown, hB⟩ (fun sz => tX12_prints l D cs a0 (123 : Int32) u10_0_63 hm0 hk0 hfm10_0 (by have : ((123 : Int32).toInt) = 123 := (by decide); omega) sz) cg_12_563_X12_prints rfl rfl (by decide +kernel) ⟨(by first | exact Nat.le_of_ble_eq_true rfl | (dsimp only; omega) | omega), (by first | exact Nat.le_of_ble_eq_true rfl | (dsimp only; omega) | omega)⟩ hK hN TH hS hA rfl hm0 hk0 (by decide) rfl hl.1 rfl ((by first | exact Nat.le_of_ble_eq_true rfl | (dsimp only; omega) | omega)) dX12_prints__65 ⟨(by first | exact Nat.le_of_ble_eq_true rfl | (dsimp only; omega) | omega), (by first | exact Nat.le_of_ble_eq_true rfl | (dsimp only; omega) | omega)⟩ (fun v87 kp87 L87 E87 H locs hq87 hx87 TH hS => ?_)
            obtain ⟨rfl, rfl, rfl, hst87, ⟨zfxc88_0_0, hzfxc88_0_0, hzpxc88_0⟩⟩ := hq87
            have hF := hF.tr hst87 (fun _ h => ⟨h, rfl⟩) (by decide) (by decide)
            have hG10 := hG10.tr hst87 (fun _ h => ⟨h, rfl⟩) (by decide) (by decide)
            have hG68 := hG68.tr hst87 (fun _ h => ⟨h, rfl⟩) (by decide) (by decide)
            have hmf89 : tw_fv E87 a0 20 = .ref xr1 := (hst87.1 a0 20 hm0 (by rw [hk0]; decide)).trans hmf3
            have hmf90 : tw_fv E87 a0 32 = .ref xr4 := (hst87.1 a0 32 hm0 (by rw [hk0]; decide)).trans hxr4
            have hmf91 : tw_fv E87 a0 17 = .ref xr8 := (hst87.1 a0 17 hm0 (by rw [hk0]; decide)).trans hxr8
            have hg0 : rw_ok E87 a0 (x1.toInt) := rw_ok_fr TH hst87 hm0 hk0 (by decide) (by decide) (by omega) hg0
            have hg1 : kg_ok E87 a0 := kg_ok_fr TH hst87 hm0 hk0 (by decide) (by decide) hg1
            obtain ⟨qzfxc88_0_0, hqzfxc88_0_0, hqzfxc88_0_0a, hqzfxc88_0_0b⟩ := tw_rd TH hm0 hk0 (by decide) (by decide) (k := 63) rfl
            have eqzfxc88_0_0 : qzfxc88_0_0 = zfxc88_0_0 := by have q := hqzfxc88_0_0.symm.trans hzfxc88_0_0; injection q
            rw [eqzfxc88_0_0] at hqzfxc88_0_0a hqzfxc88_0_0b
            refine W.eq (g2 := F0 m 68 ls []) rfl ?_
            exact hJ68 zfxc88_0_0 _ _ _ ls (by omega) (by omega) (by  omega) hzfxc88_0_0 hG68 hg0 hg1 TH hS (lv_sub hl [0, 2, 3, 4] rfl)
        · have hf92 : ¬ (xe5.toInt ≤ y10_4.toInt) := fun q => hc6 ((fa_le _ _).mpr (by  omega))
          refine lv_aload_n hx hb dX12_prints__21 rfl (lv_at hl 2 rfl) ?_
          refine lv_aload_n hx hb dX12_prints__22 rfl (lv_at hl 2 rfl) ?_
          refine tw_get (ci := 12) (C := RX12) (T := TX12) (N := 64) hx hb hB cx_inX12 hown hK TH hm0 hk0 rfl ⟨by decide, rfl⟩ 30 (by decide) cw_1223 (fun _ h9 => h9) dX12_prints__23 (fun hv => ?_)
          obtain ⟨xr93, hxr93, hmxr93, hkxr93⟩ : ∃ a : Nat, tw_fv Eg10 a0 30 = .ref a ∧ a ∈ L ∧ kp a = 336 := hv
          rw [hxr93]
          refine lv_aload_n hx hb dX12_prints__26 rfl (lv_at hl 2 rfl) ?_
          refine tw_get (ci := 12) (C := RX12) (T := TX12) (N := 64) hx hb hB cx_inX12 hown hK TH hm0 hk0 rfl ⟨by decide, rfl⟩ 31 (by decide) cw_1224 (fun _ h9 => h9) dX12_prints__27 (fun hv => ?_)
          obtain ⟨xr94, hxr94, hmxr94, hkxr94⟩ : ∃ a : Nat, tw_fv Eg10 a0 31 = .ref a ∧ a ∈ L ∧ kp a = 337 := hv
          rw [hxr94]
          refine lv_iload_n hx hb dX12_prints__30 rfl (lv_at hl 1 rfl) ?_
          refine tw_iald (k := 337) (t0 := 0) (n := 10) (lo := 0) (hi := 500) hx hb hK TH hmxr94 hkxr94 (by decide) rfl rfl (i := xe2) (vp_in_iff.mpr ⟨by  omega, by  omega⟩) dX12_prints__31 (fun hxe95a hxe95b => ?_)
          obtain ⟨xe95, exe95⟩ : ∃ z : Int32, tw_iv Eg10 xr94 (Int32.toNatClampNeg xe2) = z := ⟨_, rfl⟩
          rw [exe95] at hxe95a hxe95b ⊢
          refine lv_iload hx hb dX12_prints__32 (lv_at hl 0 rfl) ?_
          refine lv_iadd hx hb dX12_prints__34 ?_
          refine lv_topi (fun zi96 ezi96 => ?_)
          have hzi96 : zi96.toInt = xe95.toInt + y10_4.toInt := by rw [ezi96];  have := ia_lo xe95; have := ia_hi xe95; have := ia_lo y10_4; have := ia_hi y10_4; exact (ia_add (by omega) (by omega)).trans (by omega)
          have rf_xe5 : tw_el Eg10 a0 32 (xe2.toInt).toNat = xe5.toInt := (by rw [tw_el_of hxr4]; exact congrArg Int32.toInt exe5)
          have rf_xe95 : tw_el Eg10 a0 31 (xe2.toInt).toNat = xe95.toInt := (by rw [tw_el_of hxr94]; exact congrArg Int32.toInt exe95)
          have hkg := hg1 (xe2.toInt).toNat (by omega)
          rw [rf_xe95, rf_xe5] at hkg
          refine tw_bald (k := 336) (t0 := 2) (n := 500) (lo := (-128)) (hi := 127) hx hb hK TH hmxr93 hkxr93 (by decide) rfl rfl (i := zi96) (vp_in_iff.mpr ⟨by  omega, by  omega⟩) dX12_prints__35 (fun hxe97a hxe97b => ?_)
          obtain ⟨xe97, exe97⟩ : ∃ z : Int32, tw_iv Eg10 xr93 (Int32.toNatClampNeg zi96) = z := ⟨_, rfl⟩
          rw [exe97] at hxe97a hxe97b ⊢
          refine tw_Vc (o := a0) (ci := 12) (n := 1) (post := (fun v kq Lq Eq => v = none ∧ kp = kq ∧ L = Lq ∧ tw_fr kp L [(12, 63)] [366] Eg10 Eq ∧ (∃ z0 : Int32, tw_fv Eq a0 63 = .int z0 ∧ (z0.toInt = u10_0_63.toInt + 1)))) (As := [.int xe97]) (rest := []) ⟨hx, hb, hml, hown, hB⟩ (fun sz => tX12_prints l D cs a0 xe97 u10_0_63 hm0 hk0 hfm10_0 (by  omega) sz) cg_12_563_X12_prints rfl rfl (by decide +kernel) ⟨(by first | exact Nat.le_of_ble_eq_true rfl | (dsimp only; omega) | omega), (by first | exact Nat.le_of_ble_eq_true rfl | (dsimp only; omega) | omega)⟩ hK hN TH hS hA rfl hm0 hk0 (by decide) rfl hl.1 rfl ((by first | exact Nat.le_of_ble_eq_true rfl | (dsimp only; omega) | omega)) dX12_prints__36 ⟨(by first | exact Nat.le_of_ble_eq_true rfl | (dsimp only; omega) | omega), (by first | exact Nat.le_of_ble_eq_true rfl | (dsimp only; omega) | omega)⟩ (fun v98 kp98 L98 E98 H locs hq98 hx98 TH hS => ?_)
          obtain ⟨rfl, rfl, rfl, hst98, ⟨zfxc99_0_0, hzfxc99_0_0, hzpxc99_0⟩⟩ := hq98
          have hF := hF.tr hst98 (fun _ h => ⟨h, rfl⟩) (by decide) (by decide)
          have hG10 := hG10.tr hst98 (fun _ h => ⟨h, rfl⟩) (by decide) (by decide)
          have hmf100 : tw_fv E98 a0 20 = .ref xr1 := (hst98.1 a0 20 hm0 (by rw [hk0]; decide)).trans hmf3
          have hmf101 : tw_fv E98 a0 32 = .ref xr4 := (hst98.1 a0 32 hm0 (by rw [hk0]; decide)).trans hxr4
          have hmf102 : tw_fv E98 a0 30 = .ref xr93 := (hst98.1 a0 30 hm0 (by rw [hk0]; decide)).trans hxr93
          have hmf103 : tw_fv E98 a0 31 = .ref xr94 := (hst98.1 a0 31 hm0 (by rw [hk0]; decide)).trans hxr94
          have hg0 : rw_ok E98 a0 (x1.toInt) := rw_ok_fr TH hst98 hm0 hk0 (by decide) (by decide) (by omega) hg0
          have hg1 : kg_ok E98 a0 := kg_ok_fr TH hst98 hm0 hk0 (by decide) (by decide) hg1
          obtain ⟨qzfxc99_0_0, hqzfxc99_0_0, hqzfxc99_0_0a, hqzfxc99_0_0b⟩ := tw_rd TH hm0 hk0 (by decide) (by decide) (k := 63) rfl
          have eqzfxc99_0_0 : qzfxc99_0_0 = zfxc99_0_0 := by have q := hqzfxc99_0_0.symm.trans hzfxc99_0_0; injection q
          rw [eqzfxc99_0_0] at hqzfxc99_0_0a hqzfxc99_0_0b
          refine W.eq (g2 := F0 m 39 ls []) rfl ?_
          obtain ⟨zi104, ezi104⟩ : ∃ z : Int32, z = y10_4 + Int32.ofInt 1 := ⟨_, rfl⟩
          have hzi104 : zi104.toInt = y10_4.toInt + 1 := by rw [ezi104]; have : ((Int32.ofInt 1).toInt) = 1 := (by decide);  exact (ia_add (by omega) (by omega)).trans (by omega)
          refine lv_iinc (v := zi104) (lv' := [(4, .int zi104), (3, .int xe2), (0, .ref a0), (1, .int x1), (2, .int x2)]) hx hb dX12_prints__39 hl (k := 0) rfl ezi104.symm (by decide) rfl (fun ls hl => ?_)
          refine lv_goto (tgt := 10) hx hb dX12_prints__42 (by decide) ?_
          exact ih10 (n10 - 1) (by   omega) zi104 zfxc99_0_0 _ _ _ ls (by omega) (by omega) (by omega) (by omega) (by  omega) (by  omega) (by  omega) (by   omega) hzfxc99_0_0 hG10 hg0 hg1 TH hS (lv_sub hl [0, 1, 2, 3, 4] rfl)
    exact hJ10 501 (0 : Int32) fv0_63 _ _ _ ls (by have : ((0 : Int32).toInt) = 0 := (by decide); omega) (by have : ((0 : Int32).toInt) = 0 := (by decide); omega) (by omega) (by omega) (by have : ((0 : Int32).toInt) = 0 := (by decide); omega) (by have : ((0 : Int32).toInt) = 0 := (by decide); omega) (by have : ((0 : Int32).toInt) = 0 := (by decide); omega) (by have : ((0 : Int32).toInt) = 0 := (by decide);  omega) hfv0_63 tw_fr.rf hg0 hg1 TH hS (lv_sub hl [0, 1, 2, 3, 4] rfl)
set_option maxHeartbeats 4000000 in
set_option maxRecDepth 100000 in
theorem tX12_print (l : Launch) (D : va_G) (cs : Nat → ClassId) {kp : Nat → Nat} {L : List Nat} {E : Nat → va_E} (a0 : Nat) (x1 : Int32) (x2 : Int32) (hm0 : a0 ∈ L) (hk0 : kp a0 = 12) (hg0 : eo_ok E a0) (hg1 : kg_ok E a0) (sz : Nat) : Met l yX12_print (.code yX12_print cX12_print 3 (some .int) :: cx_big) { frames := 43, cells := 0, slots := 0, locals := 1133 } (tw_P D cs kp L E [.ref a0, .int x1, .int x2] sz) (tw_Q D cs kp L (fun v kq Lq Eq => (∃ x : Int32, v = some (.int x)) ∧ kp = kq ∧ L = Lq ∧ tw_fr kp L [(12, 63)] [366] E Eq) (va_A (va_pl L E) sz)) 0 0 (va_A (va_pl L E) sz) := by
  refine tw_ofW (by decide) (Nat.le_of_ble_eq_true rfl) ?_
  intro p e s m below meth c A ls hx hb hr hml hB hown hlocks hK hN hA TH hS hl
  have hown : s.vm.findClass "TreeMergeModel" = some m.cls := hown
  have hl : lv_has ls 3 [(0, .ref a0), (1, .int x1), (2, .int x2)] := hl
  obtain ⟨kp0, ekp⟩ : ∃ z, z = kp := ⟨_, rfl⟩
  obtain ⟨L0, eL⟩ : ∃ z, z = L := ⟨_, rfl⟩
  rw [show tw_Q D cs kp L = tw_Q D cs kp0 L0 by rw [ekp, eL]]
  have hex : ∀ a : Nat, a ∈ L0 → a ∈ L ∧ kp a = kp0 a := fun a h => ⟨by rw [← eL]; exact h, by rw [ekp]⟩
  have hF : tw_fr kp L [(12, 63)] [366] E E := tw_fr.rf
  refine lv_aload_n hx hb dX12_print_0 rfl (lv_at hl 0 rfl) ?_
  refine lv_iload_n hx hb dX12_print_1 rfl (lv_at hl 1 rfl) ?_
  obtain ⟨xi1, hxi1, hxi1a, hxi1b⟩ := tw_rd TH hm0 hk0 (by decide) (by decide) (k := 27) rfl
  refine tw_Vc (o := a0) (ci := 12) (n := 1) (post := (fun v kq Lq Eq => (∃ x : Int32, v = some (.int x) ∧ 0 ≤ x.toInt ∧ x.toInt ≤ 1 ∧ (x.toInt ≠ 0 → 0 ≤ x1.toInt ∧ x1.toInt < xi1.toInt)) ∧ kp = kq ∧ L = Lq ∧ E = Eq)) (As := [.int x1]) (rest := []) ⟨hx, hb, hml, hown, hB⟩ (fun sz => tX12_isEdition l D cs a0 x1 xi1 hm0 hk0 hxi1 sz) cg_12_396_X12_isEdition rfl rfl (by decide +kernel) ⟨Nat.le_of_ble_eq_true rfl, Nat.le_of_ble_eq_true rfl⟩ hK hN TH hS hA rfl hm0 hk0 (by decide) rfl hl.1 rfl (Nat.le_of_ble_eq_true rfl) dX12_print_2 ⟨Nat.le_of_ble_eq_true rfl, Nat.le_of_ble_eq_true rfl⟩ (fun v2 kp2 L2 E2 H locs hq2 hx2 TH hS => ?_)
  obtain ⟨⟨xc3, rfl, hxc3a, hxc3b, hpoxc3_0⟩, rfl, rfl, rfl⟩ := hq2
  refine W.eq (g2 := F0 m 5 ls [.int xc3]) rfl ?_
  refine lv_if_ne (tgt := 10) hx hb dX12_print_5 (by decide) (fun hc4 => ?_) (fun hc4 => ?_)
  · have hf5 : ¬ (xc3.toInt = 0) := fun q => hc4 ((fa_eq _ _).mpr (by have : ((0 : Int32).toInt) = 0 := (by decide); omega))
    refine lv_aload_n hx hb dX12_print_10 rfl (lv_at hl 0 rfl) ?_
    refine lv_iconst (v := 0) hx hb dX12_print_11 (by decide) ?_
    refine tw_put (ci := 12) (v := .int 0) (ty := .int) (C := RX12) (T := TX12) (N := 64) hx hb hB cx_inX12 tyX12 tyX12_ok nmX12 hown hK TH hS hm0 hk0 rfl ⟨by decide, rfl⟩ 63 (by decide) cw_1256 (fun _ h9 => h9) rfl (by decide +kernel) rfl rfl ⟨_, rfl, (show 0 ≤ Int32.toInt 0 from by have : ((0 : Int32).toInt) = 0 := (by decide); omega), (show Int32.toInt 0 ≤ 20560 from by have : ((0 : Int32).toInt) = 0 := (by decide); omega)⟩ dX12_print_12 (fun H locs E6 TH hS hmf10 hp7 hp8 => ?_)
    have hst9 : tw_fr kp L [(12, 63)] [] E E6 := tw_fr.put tw_fr.rf (fun _ => hk0) (by decide) hp7 hp8 (by decide)
    have hF := hF.tr hst9 (fun _ h => ⟨h, rfl⟩) (by decide) (by decide)
    have hmf11 : tw_fv E6 a0 27 = .int xi1 := (hst9.1 a0 27 hm0 (by rw [hk0]; decide)).trans hxi1
    have hg0 : eo_ok E6 a0 := eo_ok_fr TH hst9 hm0 hk0 (by decide) (by decide) hg0
    have hg1 : kg_ok E6 a0 := kg_ok_fr TH hst9 hm0 hk0 (by decide) (by decide) hg1
    refine lv_aload_n hx hb dX12_print_15 rfl (lv_at hl 0 rfl) ?_
    refine lv_iload_n hx hb dX12_print_16 rfl (lv_at hl 1 rfl) ?_
    refine lv_aload_n hx hb dX12_print_17 rfl (lv_at hl 0 rfl) ?_
    refine lv_iload_n hx hb dX12_print_18 rfl (lv_at hl 1 rfl) ?_
    refine tw_Vc (o := a0) (ci := 12) (n := 1) (post := (fun v kq Lq Eq => (∃ x : Int32, v = some (.int x) ∧ (-1) ≤ x.toInt ∧ x.toInt ≤ 149 ∧ ((x.toInt = -1 ∧ rt_nr (rw_h E6 a0 x1.toInt) (rw_p E6 a0 x1.toInt) 150) ∨ (0 ≤ x.toInt ∧ x.toInt < 150 ∧ rw_h E6 a0 x1.toInt (x.toInt).toNat ≠ 0 ∧ rw_p E6 a0 x1.toInt (x.toInt).toNat = -1))) ∧ kp = kq ∧ L = Lq ∧ E6 = Eq)) (As := [.int x1]) (rest := [.int x1, .ref a0]) ⟨hx, hb, hml, hown, hB⟩ (fun sz => tX12_root l D cs a0 x1 hm0 hk0 (by omega) (by omega) sz) cg_12_324_X12_root rfl rfl (by decide +kernel) ⟨Nat.le_of_ble_eq_true rfl, Nat.le_of_ble_eq_true rfl⟩ hK hN TH hS hA rfl hm0 hk0 (by decide) rfl hl.1 rfl (Nat.le_of_ble_eq_true rfl) dX12_print_19 ⟨Nat.le_of_ble_eq_true rfl, Nat.le_of_ble_eq_true rfl⟩ (fun v12 kp12 L12 E12 H locs hq12 hx12 TH hS => ?_)
    obtain ⟨⟨xc13, rfl, hxc13a, hxc13b, hpoxc13_0⟩, rfl, rfl, rfl⟩ := hq12
    refine W.eq (g2 := F0 m 22 ls [.int xc13, .int x1, .ref a0]) rfl ?_
    have hrow1 : row_ok E6 a0 (x1.toInt) := hg0 (x1.toInt) (by omega) (by rw [tw_fi_of hmf11]; omega)
    have hrt1 := row_root hrow1 hpoxc13_0
    have hra1 := hrt1.1
    have hrb1 := hrt1.2.1
    have hm40 := rt_mu_40 hrow1 hrt1.1 hrt1.2.1 hrt1.2.2.1
    refine tw_Vc (o := a0) (ci := 12) (n := 2) (post := (fun v kq Lq Eq => v = none ∧ kp = kq ∧ L = Lq ∧ tw_fr kp L [(12, 63)] [366] E6 Eq ∧ (tw_fi Eq a0 63 + 513 * (rt_R (rw_h E6 a0 x1.toInt) (rw_p E6 a0 x1.toInt) (rw_q E6 a0 x1.toInt) xc13.toInt : Int) + 1 ≤ 0 + 513 * ((rt_mu (rw_h E6 a0 x1.toInt) (rw_p E6 a0 x1.toInt) (rw_q E6 a0 x1.toInt) xc13.toInt : Int) + 1)) ∧ (∃ z0 : Int32, tw_fv Eq a0 63 = .int z0 ∧ (z0.toInt ≤ 20560)))) (As := [.int x1, .int xc13]) (rest := []) ⟨hx, hb, hml, hown, hB⟩ (fun sz => tX12_prints_ l D cs 40 a0 x1 xc13 (0 : Int32) hm0 hk0 (by omega) (by omega) (by omega) (by omega) hmf10 (by have : ((0 : Int32).toInt) = 0 := (by decide); exact hrt1.2.2.1) (by have : ((0 : Int32).toInt) = 0 := (by decide); exact hm40) (by have : ((0 : Int32).toInt) = 0 := (by decide); omega) hrow1.1 hg1 sz) cg_12_566_X12_prints_ rfl rfl (by decide +kernel) ⟨Nat.le_of_ble_eq_true rfl, Nat.le_of_ble_eq_true rfl⟩ hK hN TH hS hA rfl hm0 hk0 (by decide) rfl hl.1 rfl (Nat.le_of_ble_eq_true rfl) dX12_print_22 ⟨Nat.le_of_ble_eq_true rfl, Nat.le_of_ble_eq_true rfl⟩ (fun v14 kp14 L14 E14 H locs hq14 hx14 TH hS => ?_)
    obtain ⟨rfl, rfl, rfl, hst14, hpoxc15_0, ⟨zfxc15_0_0, hzfxc15_0_0, hzpxc15_0⟩⟩ := hq14
    have hF := hF.tr hst14 (fun _ h => ⟨h, rfl⟩) (by decide) (by decide)
    have hmf16 : tw_fv E14 a0 27 = .int xi1 := (hst14.1 a0 27 hm0 (by rw [hk0]; decide)).trans hmf11
    have hg0 : eo_ok E14 a0 := eo_ok_fr TH hst14 hm0 hk0 (by decide) (by decide) hg0
    have hg1 : kg_ok E14 a0 := kg_ok_fr TH hst14 hm0 hk0 (by decide) (by decide) hg1
    obtain ⟨qzfxc15_0_0, hqzfxc15_0_0, hqzfxc15_0_0a, hqzfxc15_0_0b⟩ := tw_rd TH hm0 hk0 (by decide) (by decide) (k := 63) rfl
    have eqzfxc15_0_0 : qzfxc15_0_0 = zfxc15_0_0 := by have q := hqzfxc15_0_0.symm.trans hzfxc15_0_0; injection q
    rw [eqzfxc15_0_0] at hqzfxc15_0_0a hqzfxc15_0_0b
    refine W.eq (g2 := F0 m 25 ls []) rfl ?_
    refine lv_iload_n hx hb dX12_print_25 rfl (lv_at hl 2 rfl) ?_
    refine lv_iconst (v := (-1)) hx hb dX12_print_26 (by decide) ?_
    refine lv_icmp_ne (tgt := 37) hx hb dX12_print_27 (by decide) (fun hc17 => ?_) (fun hc17 => ?_)
    · have hf18 : ¬ (x2.toInt = (-1)) := fun q => hc17 ((fa_eq _ _).mpr (by have : (((-1) : Int32).toInt) = (-1) := (by decide); omega))
      refine lv_iload_n hx hb dX12_print_37 rfl (lv_at hl 2 rfl) ?_
      refine lv_i2l (v := (x2).toInt64) hx hb dX12_print_38 rfl ?_
      refine tw_topl (fun zl19 ezl19 => ?_)
      have hzl19 : zl19.toInt = x2.toInt := by rw [ezl19];  exact (Int32.toInt_toInt64 _)
      refine lv_lconst (v := 0) hx hb dX12_print_39 (by decide) ?_
      refine tw_topl (fun zl20 ezl20 => ?_)
      have hzl20 : zl20.toInt = 0 := by rw [ezl20]; decide
      refine lv_aload_n hx hb dX12_print_40 rfl (lv_at hl 0 rfl) ?_
      refine tw_get (ci := 12) (C := RX12) (T := TX12) (N := 64) hx hb hB cx_inX12 hown hK TH hm0 hk0 rfl ⟨by decide, rfl⟩ 63 (by decide) cw_1256 (fun _ h9 => h9) dX12_print_41 (fun hv => ?_)
      rw [hzfxc15_0_0]
      refine lv_iconst (v := 1) hx hb dX12_print_44 (by decide) ?_
      refine lv_isub hx hb dX12_print_45 ?_
      refine lv_topi (fun zi21 ezi21 => ?_)
      have hzi21 : zi21.toInt = zfxc15_0_0.toInt - 1 := by rw [ezi21]; have : ((1 : Int32).toInt) = 1 := (by decide); have := ia_lo zfxc15_0_0; have := ia_hi zfxc15_0_0; exact (ia_sub (by omega) (by omega)).trans (by omega)
      refine lv_i2l (v := (zi21).toInt64) hx hb dX12_print_46 rfl ?_
      refine tw_topl (fun zl22 ezl22 => ?_)
      have hzl22 : zl22.toInt = zi21.toInt := by rw [ezl22];  exact (Int32.toInt_toInt64 _)
      refine tw_Sc (n := 3) (post := (fun v kq Lq Eq => (∃ x : Int32, v = some (.int x) ∧ 0 ≤ x.toInt ∧ x.toInt ≤ 1 ∧ (x.toInt ≠ 0 → zl20.toInt ≤ zl19.toInt ∧ zl19.toInt ≤ zl22.toInt)) ∧ kp = kq ∧ L = Lq ∧ E14 = Eq)) (As := [.long zl19, .long zl20, .long zl22]) (rest := []) ⟨hx, hb, hml, hown, hB⟩ (fun sz => tX12_in l D cs zl19 zl20 zl22  sz) cg_12_171_X12_in rfl rfl (by decide +kernel) ⟨Nat.le_of_ble_eq_true rfl, Nat.le_of_ble_eq_true rfl⟩ hK hN TH hS hA rfl hl.1 rfl (Nat.le_of_ble_eq_true rfl) dX12_print_47 ⟨Nat.le_of_ble_eq_true rfl, Nat.le_of_ble_eq_true rfl⟩ (fun v23 kp23 L23 E23 H locs hq23 hx23 TH hS => ?_)
      obtain ⟨⟨xc24, rfl, hxc24a, hxc24b, hpoxc24_0⟩, rfl, rfl, rfl⟩ := hq23
      refine W.eq (g2 := F0 m 50 ls [.int xc24]) rfl ?_
      refine lv_if_eq (tgt := 62) hx hb dX12_print_50 (by decide) (fun hc25 => ?_) (fun hc25 => ?_)
      · have hf26 : xc24.toInt = 0 := by have z := (fa_eq _ _).mp hc25; have : ((0 : Int32).toInt) = 0 := (by decide); omega
        refine lv_iconst (v := (-1)) hx hb dX12_print_62 (by decide) ?_
        exact tw_iret hx hb hr hlocks TH hS hex ⟨⟨_, rfl⟩, rfl, rfl, hF⟩ (Nat.le_of_ble_eq_true rfl) (Nat.le_of_ble_eq_true rfl) dX12_print_63
      · have hf27 : ¬ (xc24.toInt = 0) := fun q => hc25 ((fa_eq _ _).mpr (by have : ((0 : Int32).toInt) = 0 := (by decide); omega))
        refine lv_aload_n hx hb dX12_print_53 rfl (lv_at hl 0 rfl) ?_
        refine tw_get (ci := 12) (C := RX12) (T := TX12) (N := 64) hx hb hB cx_inX12 hown hK TH hm0 hk0 rfl ⟨by decide, rfl⟩ 62 (by decide) cw_1255 (fun _ h9 => h9) dX12_print_54 (fun hv => ?_)
        obtain ⟨xr28, hxr28, hmxr28, hkxr28⟩ : ∃ a : Nat, tw_fv E14 a0 62 = .ref a ∧ a ∈ L ∧ kp a = 366 := hv
        rw [hxr28]
        refine lv_iload_n hx hb dX12_print_57 rfl (lv_at hl 2 rfl) ?_
        refine tw_bald (k := 366) (t0 := 2) (n := 20560) (lo := (-128)) (hi := 127) hx hb hK TH hmxr28 hkxr28 (by decide) rfl rfl (i := x2) (vp_in_iff.mpr ⟨by  omega, by  omega⟩) dX12_print_58 (fun hxe29a hxe29b => ?_)
        obtain ⟨xe29, exe29⟩ : ∃ z : Int32, tw_iv E14 xr28 (Int32.toNatClampNeg x2) = z := ⟨_, rfl⟩
        rw [exe29] at hxe29a hxe29b ⊢
        refine lv_goto (tgt := 63) hx hb dX12_print_59 (by decide) ?_
        exact tw_iret hx hb hr hlocks TH hS hex ⟨⟨_, rfl⟩, rfl, rfl, hF⟩ (Nat.le_of_ble_eq_true rfl) (Nat.le_of_ble_eq_true rfl) dX12_print_63
    · have hf30 : x2.toInt = (-1) := by have z := (fa_eq _ _).mp hc17; have : (((-1) : Int32).toInt) = (-1) := (by decide); omega
      refine lv_aload_n hx hb dX12_print_30 rfl (lv_at hl 0 rfl) ?_
      refine tw_get (ci := 12) (C := RX12) (T := TX12) (N := 64) hx hb hB cx_inX12 hown hK TH hm0 hk0 rfl ⟨by decide, rfl⟩ 63 (by decide) cw_1256 (fun _ h9 => h9) dX12_print_31 (fun hv => ?_)
      rw [hzfxc15_0_0]
      refine lv_goto (tgt := 63) hx hb dX12_print_34 (by decide) ?_
      exact tw_iret hx hb hr hlocks TH hS hex ⟨⟨_, rfl⟩, rfl, rfl, hF⟩ (Nat.le_of_ble_eq_true rfl) (Nat.le_of_ble_eq_true rfl) dX12_print_63
  · have hf31 : xc3.toInt = 0 := by have z := (fa_eq _ _).mp hc4; have : ((0 : Int32).toInt) = 0 := (by decide); omega
    refine lv_iconst (v := (-1)) hx hb dX12_print_8 (by decide) ?_
    exact tw_iret hx hb hr hlocks TH hS hex ⟨⟨_, rfl⟩, rfl, rfl, hF⟩ (Nat.le_of_ble_eq_true rfl) (Nat.le_of_ble_eq_true rfl) dX12_print_9
set_option maxHeartbeats 4000000 in
set_option maxRecDepth 100000 in
theorem tX12_settle (l : Launch) (D : va_G) (cs : Nat → ClassId) {kp : Nat → Nat} {L : List Nat} {E : Nat → va_E} (a0 : Nat) (x1 : Int32) (x2 : Int32) (x3 : Int32) (hm0 : a0 ∈ L) (hk0 : kp a0 = 12) (hg0 : sd_ok E a0) (sz : Nat) : Met l yX12_settle (.code yX12_settle cX12_settle 5 (some .boolean) :: cx_big) { frames := 2, cells := 0, slots := 0, locals := 46 } (tw_P D cs kp L E [.ref a0, .int x1, .int x2, .int x3] sz) (tw_Q D cs kp L (fun v kq Lq Eq => (∃ x : Int32, v = some (.int x) ∧ 0 ≤ x.toInt ∧ x.toInt ≤ 1 ∧ sd_ok Eq a0) ∧ kp = kq ∧ L = Lq ∧ tw_fr kp L [(12, 58)] [360, 361, 362] E Eq) (va_A (va_pl L E) sz)) 0 0 (va_A (va_pl L E) sz) := by
  refine tw_ofW (by decide) (Nat.le_of_ble_eq_true rfl) ?_
  intro p e s m below meth c A ls hx hb hr hml hB hown hlocks hK hN hA TH hS hl
  have hown : s.vm.findClass "TreeMergeModel" = some m.cls := hown
  have hl : lv_has ls 5 [(0, .ref a0), (1, .int x1), (2, .int x2), (3, .int x3)] := hl
  obtain ⟨kp0, ekp⟩ : ∃ z, z = kp := ⟨_, rfl⟩
  obtain ⟨L0, eL⟩ : ∃ z, z = L := ⟨_, rfl⟩
  rw [show tw_Q D cs kp L = tw_Q D cs kp0 L0 by rw [ekp, eL]]
  have hex : ∀ a : Nat, a ∈ L0 → a ∈ L ∧ kp a = kp0 a := fun a h => ⟨by rw [← eL]; exact h, by rw [ekp]⟩
  have hF : tw_fr kp L [(12, 58)] [360, 361, 362] E E := tw_fr.rf
  refine lv_iload_n hx hb dX12_settle_0 rfl (lv_at hl 1 rfl) ?_
  refine lv_i2l (v := (x1).toInt64) hx hb dX12_settle_1 rfl ?_
  refine tw_topl (fun zl1 ezl1 => ?_)
  have hzl1 : zl1.toInt = x1.toInt := by rw [ezl1];  exact (Int32.toInt_toInt64 _)
  refine lv_lconst (v := 0) hx hb dX12_settle_2 (by decide) ?_
  refine tw_topl (fun zl2 ezl2 => ?_)
  have hzl2 : zl2.toInt = 0 := by rw [ezl2]; decide
  refine lv_aload_n hx hb dX12_settle_3 rfl (lv_at hl 0 rfl) ?_
  refine tw_get (ci := 12) (C := RX12) (T := TX12) (N := 64) hx hb hB cx_inX12 hown hK TH hm0 hk0 rfl ⟨by decide, rfl⟩ 26 (by decide) cw_1219 (fun _ h9 => h9) dX12_settle_4 (fun hv => ?_)
  obtain ⟨xi3, hxi3, hxi3a, hxi3b⟩ : ∃ x : Int32, tw_fv E a0 26 = .int x ∧ 0 ≤ x.toInt ∧ x.toInt ≤ 150 := hv
  rw [hxi3]
  refine lv_iconst (v := 1) hx hb dX12_settle_7 (by decide) ?_
  refine lv_isub hx hb dX12_settle_8 ?_
  refine lv_topi (fun zi4 ezi4 => ?_)
  have hzi4 : zi4.toInt = xi3.toInt - 1 := by rw [ezi4]; have : ((1 : Int32).toInt) = 1 := (by decide); have := ia_lo xi3; have := ia_hi xi3; exact (ia_sub (by omega) (by omega)).trans (by omega)
  refine lv_i2l (v := (zi4).toInt64) hx hb dX12_settle_9 rfl ?_
  refine tw_topl (fun zl5 ezl5 => ?_)
  have hzl5 : zl5.toInt = zi4.toInt := by rw [ezl5];  exact (Int32.toInt_toInt64 _)
  refine tw_Sc (n := 3) (post := (fun v kq Lq Eq => (∃ x : Int32, v = some (.int x) ∧ 0 ≤ x.toInt ∧ x.toInt ≤ 1 ∧ (x.toInt ≠ 0 → zl2.toInt ≤ zl1.toInt ∧ zl1.toInt ≤ zl5.toInt)) ∧ kp = kq ∧ L = Lq ∧ E = Eq)) (As := [.long zl1, .long zl2, .long zl5]) (rest := []) ⟨hx, hb, hml, hown, hB⟩ (fun sz => tX12_in l D cs zl1 zl2 zl5  sz) cg_12_171_X12_in rfl rfl (by decide +kernel) ⟨Nat.le_of_ble_eq_true rfl, Nat.le_of_ble_eq_true rfl⟩ hK hN TH hS hA rfl hl.1 rfl (Nat.le_of_ble_eq_true rfl) dX12_settle_10 ⟨Nat.le_of_ble_eq_true rfl, Nat.le_of_ble_eq_true rfl⟩ (fun v6 kp6 L6 E6 H locs hq6 hx6 TH hS => ?_)
  obtain ⟨⟨xc7, rfl, hxc7a, hxc7b, hpoxc7_0⟩, rfl, rfl, rfl⟩ := hq6
  refine W.eq (g2 := F0 m 13 ls [.int xc7]) rfl ?_
  refine lv_if_eq (tgt := 36) hx hb dX12_settle_13 (by decide) (fun hc8 => ?_) (fun hc8 => ?_)
  · have hf9 : xc7.toInt = 0 := by have z := (fa_eq _ _).mp hc8; have : ((0 : Int32).toInt) = 0 := (by decide); omega
    refine lv_iconst (v := 0) hx hb dX12_settle_36 (by decide) ?_
    exact tw_zret hx hb hr hlocks (by decide) TH hS hex ⟨⟨_, rfl, (show 0 ≤ Int32.toInt 0 from by have : ((0 : Int32).toInt) = 0 := (by decide); omega), (show Int32.toInt 0 ≤ 1 from by have : ((0 : Int32).toInt) = 0 := (by decide); omega), hg0⟩, rfl, rfl, hF⟩ (Nat.le_of_ble_eq_true rfl) (Nat.le_of_ble_eq_true rfl) dX12_settle_37
  · have hf10 : ¬ (xc7.toInt = 0) := fun q => hc8 ((fa_eq _ _).mpr (by have : ((0 : Int32).toInt) = 0 := (by decide); omega))
    refine lv_iload_n hx hb dX12_settle_16 rfl (lv_at hl 2 rfl) ?_
    refine lv_i2l (v := (x2).toInt64) hx hb dX12_settle_17 rfl ?_
    refine tw_topl (fun zl11 ezl11 => ?_)
    have hzl11 : zl11.toInt = x2.toInt := by rw [ezl11];  exact (Int32.toInt_toInt64 _)
    refine lv_lconst (v := 1) hx hb dX12_settle_18 (by decide) ?_
    refine tw_topl (fun zl12 ezl12 => ?_)
    have hzl12 : zl12.toInt = 1 := by rw [ezl12]; decide
    refine lv_ldc2 hx hb hown (hB _ cw_1719) dX12_settle_19 ?_
    refine tw_Sc (n := 3) (post := (fun v kq Lq Eq => (∃ x : Int32, v = some (.int x) ∧ 0 ≤ x.toInt ∧ x.toInt ≤ 1 ∧ (x.toInt ≠ 0 → zl12.toInt ≤ zl11.toInt ∧ zl11.toInt ≤ (3 : Int64).toInt)) ∧ kp = kq ∧ L = Lq ∧ E = Eq)) (As := [.long zl11, .long zl12, .long (3 : Int64)]) (rest := []) ⟨hx, hb, hml, hown, hB⟩ (fun sz => tX12_in l D cs zl11 zl12 (3 : Int64)  sz) cg_12_171_X12_in rfl rfl (by decide +kernel) ⟨Nat.le_of_ble_eq_true rfl, Nat.le_of_ble_eq_true rfl⟩ hK hN TH hS hA rfl hl.1 rfl (Nat.le_of_ble_eq_true rfl) dX12_settle_22 ⟨Nat.le_of_ble_eq_true rfl, Nat.le_of_ble_eq_true rfl⟩ (fun v13 kp13 L13 E13 H locs hq13 hx13 TH hS => ?_)
    obtain ⟨⟨xc14, rfl, hxc14a, hxc14b, hpoxc14_0⟩, rfl, rfl, rfl⟩ := hq13
    refine W.eq (g2 := F0 m 25 ls [.int xc14]) rfl ?_
    have e3l : ((3 : Int64).toInt) = 3 := (by decide)
    refine lv_if_eq (tgt := 36) hx hb dX12_settle_25 (by decide) (fun hc15 => ?_) (fun hc15 => ?_)
    · have hf16 : xc14.toInt = 0 := by have z := (fa_eq _ _).mp hc15; have : ((0 : Int32).toInt) = 0 := (by decide); omega
      refine lv_iconst (v := 0) hx hb dX12_settle_36 (by decide) ?_
      exact tw_zret hx hb hr hlocks (by decide) TH hS hex ⟨⟨_, rfl, (show 0 ≤ Int32.toInt 0 from by have : ((0 : Int32).toInt) = 0 := (by decide); omega), (show Int32.toInt 0 ≤ 1 from by have : ((0 : Int32).toInt) = 0 := (by decide); omega), hg0⟩, rfl, rfl, hF⟩ (Nat.le_of_ble_eq_true rfl) (Nat.le_of_ble_eq_true rfl) dX12_settle_37
    · have hf17 : ¬ (xc14.toInt = 0) := fun q => hc15 ((fa_eq _ _).mpr (by have : ((0 : Int32).toInt) = 0 := (by decide); omega))
      refine lv_aload_n hx hb dX12_settle_28 rfl (lv_at hl 0 rfl) ?_
      refine lv_iload_n hx hb dX12_settle_29 rfl (lv_at hl 3 rfl) ?_
      obtain ⟨xi18, hxi18, hxi18a, hxi18b⟩ := tw_rd TH hm0 hk0 (by decide) (by decide) (k := 27) rfl
      refine tw_Vc (o := a0) (ci := 12) (n := 1) (post := (fun v kq Lq Eq => (∃ x : Int32, v = some (.int x) ∧ 0 ≤ x.toInt ∧ x.toInt ≤ 1 ∧ (x.toInt ≠ 0 → 0 ≤ x3.toInt ∧ x3.toInt < xi18.toInt)) ∧ kp = kq ∧ L = Lq ∧ E = Eq)) (As := [.int x3]) (rest := []) ⟨hx, hb, hml, hown, hB⟩ (fun sz => tX12_isEdition l D cs a0 x3 xi18 hm0 hk0 hxi18 sz) cg_12_396_X12_isEdition rfl rfl (by decide +kernel) ⟨Nat.le_of_ble_eq_true rfl, Nat.le_of_ble_eq_true rfl⟩ hK hN TH hS hA rfl hm0 hk0 (by decide) rfl hl.1 rfl (Nat.le_of_ble_eq_true rfl) dX12_settle_30 ⟨Nat.le_of_ble_eq_true rfl, Nat.le_of_ble_eq_true rfl⟩ (fun v19 kp19 L19 E19 H locs hq19 hx19 TH hS => ?_)
      obtain ⟨⟨xc20, rfl, hxc20a, hxc20b, hpoxc20_0⟩, rfl, rfl, rfl⟩ := hq19
      refine W.eq (g2 := F0 m 33 ls [.int xc20]) rfl ?_
      refine lv_if_ne (tgt := 38) hx hb dX12_settle_33 (by decide) (fun hc21 => ?_) (fun hc21 => ?_)
      · have hf22 : ¬ (xc20.toInt = 0) := fun q => hc21 ((fa_eq _ _).mpr (by have : ((0 : Int32).toInt) = 0 := (by decide); omega))
        refine lv_iconst (v := 0) hx hb dX12_settle_38 (by decide) ?_
        refine lv_istore (lv' := [(4, .int 0), (0, .ref a0), (1, .int x1), (2, .int x2), (3, .int x3)]) hx hb dX12_settle_39 hl (by decide) rfl (fun ls hl => ?_)
        obtain ⟨xi23, hxi23, hxi23a, hxi23b⟩ := tw_rd TH hm0 hk0 (by decide) (by decide) (k := 58) rfl
        have hJ41 : ∀ (n41 : Nat) (y41_4 : Int32) (H : Heap) (locs : List Loc) (ls : Array Slot), 0 ≤ y41_4.toInt → y41_4.toInt ≤ 450 → (∀ j : Nat, (j : Int) < y41_4.toInt → ¬ (tw_el E a0 54 j = x1.toInt ∧ tw_el E a0 55 j = x2.toInt)) → (0 ≤ y41_4.toInt) → (y41_4.toInt ≤ xi23.toInt) → 450 - y41_4.toInt ≤ (n41 : Int) → tw_H D cs kp L E A H → va_S A s.heap H locs → lv_has ls 5 [(4, .int y41_4), (0, .ref a0), (1, .int x1), (2, .int x2), (3, .int x3)] → W p l e { frames := 2, cells := 0, slots := 0, locals := 46 } s m [.ref a0, .int x1, .int x2, .int x3].toArray below meth c H locs 0 0 (MQ below (tw_Q D cs kp0 L0 (fun v kq Lq Eq => (∃ x : Int32, v = some (.int x) ∧ 0 ≤ x.toInt ∧ x.toInt ≤ 1 ∧ sd_ok Eq a0) ∧ kp = kq ∧ L = Lq ∧ tw_fr kp L [(12, 58)] [360, 361, 362] E Eq) A) [.ref a0, .int x1, .int x2, .int x3].toArray s 0 0 A) (F0 m 41 ls []) := by
          intro n41
          induction n41 using Nat.strongRecOn with
          | _ n41 ih41 =>
            intro y41_4 H locs ls hy41_4a hy41_4b hin41_0 hin41_1 hin41_2 hmeas41 TH hS hl
            refine lv_iload hx hb dX12_settle_41 (lv_at hl 0 rfl) ?_
            refine lv_aload_n hx hb dX12_settle_43 rfl (lv_at hl 1 rfl) ?_
            refine tw_get (ci := 12) (C := RX12) (T := TX12) (N := 64) hx hb hB cx_inX12 hown hK TH hm0 hk0 rfl ⟨by decide, rfl⟩ 58 (by decide) cw_1251 (fun _ h9 => h9) dX12_settle_44 (fun hv => ?_)
            rw [hxi23]
            refine lv_icmp_ge (tgt := 78) hx hb dX12_settle_47 (by decide) (fun hc24 => ?_) (fun hc24 => ?_)
            · have hf25 : xi23.toInt ≤ y41_4.toInt := by have z := (fa_le _ _).mp hc24;  omega
              have hq54 : p54_ok E a0 (tw_el E a0 54) := fun _ => rfl
              have hq55 : p55_ok E a0 (tw_el E a0 55) := fun _ => rfl
              have hsd0 : sd_fn (tw_el E a0 54) (tw_el E a0 55) (xi23.toInt) := (by have w := hg0; unfold sd_ok at w; rw [tw_fi_of hxi23] at w; exact w)
              have hsx : (xi23.toInt ≤ y41_4.toInt ∧ ∀ j : Nat, (j : Int) < y41_4.toInt → ¬ (tw_el E a0 54 j = x1.toInt ∧ tw_el E a0 55 j = x2.toInt)) ∨ (y41_4.toInt < xi23.toInt ∧ tw_el E a0 54 (y41_4.toInt).toNat = x1.toInt ∧ tw_el E a0 55 (y41_4.toInt).toNat = x2.toInt) := Or.inl ⟨by omega, hin41_0⟩
              have hsc : y41_4.toInt ≤ 449 := (by have w := sd_room hsd0 (fun i hi => hin41_0 i (by omega)) (n := x1.toInt) (k := x2.toInt) (by omega) (by omega) (by omega) (by omega) (by omega); omega)
              refine lv_aload_n hx hb dX12_settle_78 rfl (lv_at hl 1 rfl) ?_
              refine tw_get (ci := 12) (C := RX12) (T := TX12) (N := 64) hx hb hB cx_inX12 hown hK TH hm0 hk0 rfl ⟨by decide, rfl⟩ 54 (by decide) cw_1247 (fun _ h9 => h9) dX12_settle_79 (fun hv => ?_)
              obtain ⟨xr26, hxr26, hmxr26, hkxr26⟩ : ∃ a : Nat, tw_fv E a0 54 = .ref a ∧ a ∈ L ∧ kp a = 360 := hv
              rw [hxr26]
              refine lv_iload hx hb dX12_settle_82 (lv_at hl 0 rfl) ?_
              refine lv_iload_n hx hb dX12_settle_84 rfl (lv_at hl 2 rfl) ?_
              refine tw_iast (k := 360) (n := 450) (lo := 0) (hi := 149) hx hb hK TH hS hmxr26 hkxr26 (by decide) rfl (i := y41_4) (x := x1) (vp_in_iff.mpr ⟨by  omega, by  omega⟩) (by omega) (by omega) dX12_settle_85 (fun H locs E27 TH hS hp28 hp29 hp30 => ?_)
              have hst31 : tw_fr kp L [] [360] E E27 := tw_fr.ast tw_fr.rf (fun _ => hkxr26) hp28 hp29 (by decide)
              have hF := hF.tr hst31 (fun _ h => ⟨h, rfl⟩) (by decide) (by decide)
              have hmf32 : tw_fv E27 a0 26 = .int xi3 := (hst31.1 a0 26 hm0 (by rw [hk0]; decide)).trans hxi3
              have hmf33 : tw_fv E27 a0 27 = .int xi18 := (hst31.1 a0 27 hm0 (by rw [hk0]; decide)).trans hxi18
              have hmf34 : tw_fv E27 a0 58 = .int xi23 := (hst31.1 a0 58 hm0 (by rw [hk0]; decide)).trans hxi23
              have hmf35 : tw_fv E27 a0 54 = .ref xr26 := (hst31.1 a0 54 hm0 (by rw [hk0]; decide)).trans hxr26
              have hg0_o := hg0
              have hq54_o := hq54
              have hq55_o := hq55
              have hq54 : p54_ok E27 a0 (fun j => if j = (y41_4.toInt).toNat then x1.toInt else tw_el E a0 54 j) := (fun j => (by have w := tw_el_st hxr26 hp28 hp29 hp30 j; rw [w]; show _ = (if j = (y41_4.toInt).toNat then x1.toInt else tw_el E a0 54 j); (by_cases e : j = (y41_4.toInt).toNat; (rw [if_pos ⟨rfl, e⟩, if_pos e]); (rw [if_neg (fun y => e y.2), if_neg e]; (try exact hq54_o j)))))
              have hq55 : p55_ok E27 a0 (tw_el E a0 55) := p55_ok_fr TH hst31 hm0 hk0 (by decide) (by decide) hq55
              refine lv_aload_n hx hb dX12_settle_86 rfl (lv_at hl 1 rfl) ?_
              refine tw_get (ci := 12) (C := RX12) (T := TX12) (N := 64) hx hb hB cx_inX12 hown hK TH hm0 hk0 rfl ⟨by decide, rfl⟩ 55 (by decide) cw_1248 (fun _ h9 => h9) dX12_settle_87 (fun hv => ?_)
              obtain ⟨xr36, hxr36, hmxr36, hkxr36⟩ : ∃ a : Nat, tw_fv E27 a0 55 = .ref a ∧ a ∈ L ∧ kp a = 361 := hv
              rw [hxr36]
              refine lv_iload hx hb dX12_settle_90 (lv_at hl 0 rfl) ?_
              refine lv_iload_n hx hb dX12_settle_92 rfl (lv_at hl 3 rfl) ?_
              refine tw_iast (k := 361) (n := 450) (lo := 0) (hi := 3) hx hb hK TH hS hmxr36 hkxr36 (by decide) rfl (i := y41_4) (x := x2) (vp_in_iff.mpr ⟨by  omega, by  omega⟩) (by omega) (by omega) dX12_settle_93 (fun H locs E37 TH hS hp38 hp39 hp40 => ?_)
              have hst41 : tw_fr kp L [] [361] E27 E37 := tw_fr.ast tw_fr.rf (fun _ => hkxr36) hp38 hp39 (by decide)
              have hF := hF.tr hst41 (fun _ h => ⟨h, rfl⟩) (by decide) (by decide)
              have hmf42 : tw_fv E37 a0 26 = .int xi3 := (hst41.1 a0 26 hm0 (by rw [hk0]; decide)).trans hmf32
              have hmf43 : tw_fv E37 a0 27 = .int xi18 := (hst41.1 a0 27 hm0 (by rw [hk0]; decide)).trans hmf33
              have hmf44 : tw_fv E37 a0 58 = .int xi23 := (hst41.1 a0 58 hm0 (by rw [hk0]; decide)).trans hmf34
              have hmf45 : tw_fv E37 a0 54 = .ref xr26 := (hst41.1 a0 54 hm0 (by rw [hk0]; decide)).trans hmf35
              have hmf46 : tw_fv E37 a0 55 = .ref xr36 := (hst41.1 a0 55 hm0 (by rw [hk0]; decide)).trans hxr36
              have hq54_o := hq54
              have hq55_o := hq55
              have hq54 : p54_ok E37 a0 (fun j => if j = (y41_4.toInt).toNat then x1.toInt else tw_el E a0 54 j) := p54_ok_fr TH hst41 hm0 hk0 (by decide) (by decide) hq54
              have hq55 : p55_ok E37 a0 (fun j => if j = (y41_4.toInt).toNat then x2.toInt else tw_el E a0 55 j) := (fun j => (by have w := tw_el_st hxr36 hp38 hp39 hp40 j; rw [w]; show _ = (if j = (y41_4.toInt).toNat then x2.toInt else tw_el E a0 55 j); (by_cases e : j = (y41_4.toInt).toNat; (rw [if_pos ⟨rfl, e⟩, if_pos e]); (rw [if_neg (fun y => e y.2), if_neg e]; (try exact hq55_o j)))))
              refine lv_aload_n hx hb dX12_settle_94 rfl (lv_at hl 1 rfl) ?_
              refine tw_get (ci := 12) (C := RX12) (T := TX12) (N := 64) hx hb hB cx_inX12 hown hK TH hm0 hk0 rfl ⟨by decide, rfl⟩ 56 (by decide) cw_1249 (fun _ h9 => h9) dX12_settle_95 (fun hv => ?_)
              obtain ⟨xr47, hxr47, hmxr47, hkxr47⟩ : ∃ a : Nat, tw_fv E37 a0 56 = .ref a ∧ a ∈ L ∧ kp a = 362 := hv
              rw [hxr47]
              refine lv_iload hx hb dX12_settle_98 (lv_at hl 0 rfl) ?_
              refine lv_iload_n hx hb dX12_settle_100 rfl (lv_at hl 4 rfl) ?_
              refine tw_iast (k := 362) (n := 450) (lo := 0) (hi := 11) hx hb hK TH hS hmxr47 hkxr47 (by decide) rfl (i := y41_4) (x := x3) (vp_in_iff.mpr ⟨by  omega, by  omega⟩) (by omega) (by omega) dX12_settle_101 (fun H locs E48 TH hS hp49 hp50 hp51 => ?_)
              have hst52 : tw_fr kp L [] [362] E37 E48 := tw_fr.ast tw_fr.rf (fun _ => hkxr47) hp49 hp50 (by decide)
              have hF := hF.tr hst52 (fun _ h => ⟨h, rfl⟩) (by decide) (by decide)
              have hmf53 : tw_fv E48 a0 26 = .int xi3 := (hst52.1 a0 26 hm0 (by rw [hk0]; decide)).trans hmf42
              have hmf54 : tw_fv E48 a0 27 = .int xi18 := (hst52.1 a0 27 hm0 (by rw [hk0]; decide)).trans hmf43
              have hmf55 : tw_fv E48 a0 58 = .int xi23 := (hst52.1 a0 58 hm0 (by rw [hk0]; decide)).trans hmf44
              have hmf56 : tw_fv E48 a0 54 = .ref xr26 := (hst52.1 a0 54 hm0 (by rw [hk0]; decide)).trans hmf45
              have hmf57 : tw_fv E48 a0 55 = .ref xr36 := (hst52.1 a0 55 hm0 (by rw [hk0]; decide)).trans hmf46
              have hmf58 : tw_fv E48 a0 56 = .ref xr47 := (hst52.1 a0 56 hm0 (by rw [hk0]; decide)).trans hxr47
              have hq54 : p54_ok E48 a0 (fun j => if j = (y41_4.toInt).toNat then x1.toInt else tw_el E a0 54 j) := p54_ok_fr TH hst52 hm0 hk0 (by decide) (by decide) hq54
              have hq55 : p55_ok E48 a0 (fun j => if j = (y41_4.toInt).toNat then x2.toInt else tw_el E a0 55 j) := p55_ok_fr TH hst52 hm0 hk0 (by decide) (by decide) hq55
              refine lv_aload_n hx hb dX12_settle_102 rfl (lv_at hl 1 rfl) ?_
              refine lv_aload_n hx hb dX12_settle_103 rfl (lv_at hl 1 rfl) ?_
              refine tw_get (ci := 12) (C := RX12) (T := TX12) (N := 64) hx hb hB cx_inX12 hown hK TH hm0 hk0 rfl ⟨by decide, rfl⟩ 58 (by decide) cw_1251 (fun _ h9 => h9) dX12_settle_104 (fun hv => ?_)
              rw [hmf55]
              refine lv_iload hx hb dX12_settle_107 (lv_at hl 0 rfl) ?_
              refine lv_iconst (v := 1) hx hb dX12_settle_109 (by decide) ?_
              refine lv_iadd hx hb dX12_settle_110 ?_
              refine lv_topi (fun zi59 ezi59 => ?_)
              have hzi59 : zi59.toInt = y41_4.toInt + 1 := by rw [ezi59]; have : ((1 : Int32).toInt) = 1 := (by decide); have := ia_lo y41_4; have := ia_hi y41_4; exact (ia_add (by omega) (by omega)).trans (by omega)
              refine va_mmax hx hb (hml.trans hl.1.symm) hown (hB _ cw_1720) (hB _ cw_1129) (hB _ cw_19) (hB _ cw_1130) (Nat.le_of_ble_eq_true rfl) (Nat.le_of_ble_eq_true rfl) (Nat.le_of_ble_eq_true rfl) (Nat.le_of_ble_eq_true rfl) dX12_settle_111 ?_
              refine lv_topi (fun zi60 ezi60 => ?_)
              have hzi60 : xi23.toInt ≤ zi60.toInt ∧ zi59.toInt ≤ zi60.toInt ∧ (zi60.toInt = xi23.toInt ∨ zi60.toInt = zi59.toInt) := by rw [ezi60];  have q := ia_max xi23 zi59; omega
              refine tw_put (ci := 12) (v := .int zi60) (ty := .int) (C := RX12) (T := TX12) (N := 64) hx hb hB cx_inX12 tyX12 tyX12_ok nmX12 hown hK TH hS hm0 hk0 rfl ⟨by decide, rfl⟩ 58 (by decide) cw_1251 (fun _ h9 => h9) rfl (by decide +kernel) rfl rfl ⟨_, rfl, (show 0 ≤ Int32.toInt zi60 from by  omega), (show Int32.toInt zi60 ≤ 450 from by  omega)⟩ dX12_settle_114 (fun H locs E61 TH hS hmf65 hp62 hp63 => ?_)
              have hst64 : tw_fr kp L [(12, 58)] [] E48 E61 := tw_fr.put tw_fr.rf (fun _ => hk0) (by decide) hp62 hp63 (by decide)
              have hF := hF.tr hst64 (fun _ h => ⟨h, rfl⟩) (by decide) (by decide)
              have hmf66 : tw_fv E61 a0 26 = .int xi3 := (hst64.1 a0 26 hm0 (by rw [hk0]; decide)).trans hmf53
              have hmf67 : tw_fv E61 a0 27 = .int xi18 := (hst64.1 a0 27 hm0 (by rw [hk0]; decide)).trans hmf54
              have hmf68 : tw_fv E61 a0 54 = .ref xr26 := (hst64.1 a0 54 hm0 (by rw [hk0]; decide)).trans hmf56
              have hmf69 : tw_fv E61 a0 55 = .ref xr36 := (hst64.1 a0 55 hm0 (by rw [hk0]; decide)).trans hmf57
              have hmf70 : tw_fv E61 a0 56 = .ref xr47 := (hst64.1 a0 56 hm0 (by rw [hk0]; decide)).trans hmf58
              have hq54 : p54_ok E61 a0 (fun j => if j = (y41_4.toInt).toNat then x1.toInt else tw_el E a0 54 j) := p54_ok_fr TH hst64 hm0 hk0 (by decide) (by decide) hq54
              have hq55 : p55_ok E61 a0 (fun j => if j = (y41_4.toInt).toNat then x2.toInt else tw_el E a0 55 j) := p55_ok_fr TH hst64 hm0 hk0 (by decide) (by decide) hq55
              have hgn71 : sd_ok E61 a0 := (by have w := sd_set (s1 := zi60.toInt) hsd0 hq54 hq55 (by omega) (by omega) (by omega) (by omega) (by omega) (by omega) (by omega) (by omega) hsx (by omega); unfold sd_ok; rw [tw_fi_of hmf65]; exact w)
              refine lv_iconst (v := 1) hx hb dX12_settle_117 (by decide) ?_
              exact tw_zret hx hb hr hlocks (by decide) TH hS hex ⟨⟨_, rfl, (show 0 ≤ Int32.toInt 1 from by have : ((1 : Int32).toInt) = 1 := (by decide); omega), (show Int32.toInt 1 ≤ 1 from by have : ((1 : Int32).toInt) = 1 := (by decide); omega), hgn71⟩, rfl, rfl, hF⟩ (Nat.le_of_ble_eq_true rfl) (Nat.le_of_ble_eq_true rfl) dX12_settle_118
            · have hf72 : ¬ (xi23.toInt ≤ y41_4.toInt) := fun q => hc24 ((fa_le _ _).mpr (by  omega))
              refine lv_aload_n hx hb dX12_settle_50 rfl (lv_at hl 1 rfl) ?_
              refine tw_get (ci := 12) (C := RX12) (T := TX12) (N := 64) hx hb hB cx_inX12 hown hK TH hm0 hk0 rfl ⟨by decide, rfl⟩ 54 (by decide) cw_1247 (fun _ h9 => h9) dX12_settle_51 (fun hv => ?_)
              obtain ⟨xr73, hxr73, hmxr73, hkxr73⟩ : ∃ a : Nat, tw_fv E a0 54 = .ref a ∧ a ∈ L ∧ kp a = 360 := hv
              rw [hxr73]
              refine lv_iload hx hb dX12_settle_54 (lv_at hl 0 rfl) ?_
              refine tw_iald (k := 360) (t0 := 0) (n := 450) (lo := 0) (hi := 149) hx hb hK TH hmxr73 hkxr73 (by decide) rfl rfl (i := y41_4) (vp_in_iff.mpr ⟨by  omega, by  omega⟩) dX12_settle_56 (fun hxe74a hxe74b => ?_)
              obtain ⟨xe74, exe74⟩ : ∃ z : Int32, tw_iv E xr73 (Int32.toNatClampNeg y41_4) = z := ⟨_, rfl⟩
              rw [exe74] at hxe74a hxe74b ⊢
              refine lv_iload_n hx hb dX12_settle_57 rfl (lv_at hl 2 rfl) ?_
              refine lv_icmp_ne (tgt := 72) hx hb dX12_settle_58 (by decide) (fun hc75 => ?_) (fun hc75 => ?_)
              · have hf76 : ¬ (xe74.toInt = x1.toInt) := fun q => hc75 ((fa_eq _ _).mpr (by  omega))
                obtain ⟨zi77, ezi77⟩ : ∃ z : Int32, z = y41_4 + Int32.ofInt 1 := ⟨_, rfl⟩
                have hzi77 : zi77.toInt = y41_4.toInt + 1 := by rw [ezi77]; have : ((Int32.ofInt 1).toInt) = 1 := (by decide);  exact (ia_add (by omega) (by omega)).trans (by omega)
                refine lv_iinc (v := zi77) (lv' := [(4, .int zi77), (0, .ref a0), (1, .int x1), (2, .int x2), (3, .int x3)]) hx hb dX12_settle_72 hl (k := 0) rfl ezi77.symm (by decide) rfl (fun ls hl => ?_)
                refine lv_goto (tgt := 41) hx hb dX12_settle_75 (by decide) ?_
                exact ih41 (n41 - 1) (by   omega) zi77 _ _ ls (by omega) (by omega) (by  have rf_xe74 : tw_el E a0 54 (y41_4.toInt).toNat = xe74.toInt := (by rw [tw_el_of hxr73]; exact congrArg Int32.toInt exe74); intro j hj h; by_cases e : j = (y41_4.toInt).toNat; (subst e; (try rw [rf_xe74] at h); omega); exact hin41_0 j (by omega) h) (by  omega) (by  omega) (by   omega) TH hS (lv_sub hl [0, 1, 2, 3, 4] rfl)
              · have hf78 : xe74.toInt = x1.toInt := by have z := (fa_eq _ _).mp hc75;  omega
                refine lv_aload_n hx hb dX12_settle_61 rfl (lv_at hl 1 rfl) ?_
                refine tw_get (ci := 12) (C := RX12) (T := TX12) (N := 64) hx hb hB cx_inX12 hown hK TH hm0 hk0 rfl ⟨by decide, rfl⟩ 55 (by decide) cw_1248 (fun _ h9 => h9) dX12_settle_62 (fun hv => ?_)
                obtain ⟨xr79, hxr79, hmxr79, hkxr79⟩ : ∃ a : Nat, tw_fv E a0 55 = .ref a ∧ a ∈ L ∧ kp a = 361 := hv
                rw [hxr79]
                refine lv_iload hx hb dX12_settle_65 (lv_at hl 0 rfl) ?_
                refine tw_iald (k := 361) (t0 := 0) (n := 450) (lo := 0) (hi := 3) hx hb hK TH hmxr79 hkxr79 (by decide) rfl rfl (i := y41_4) (vp_in_iff.mpr ⟨by  omega, by  omega⟩) dX12_settle_67 (fun hxe80a hxe80b => ?_)
                obtain ⟨xe80, exe80⟩ : ∃ z : Int32, tw_iv E xr79 (Int32.toNatClampNeg y41_4) = z := ⟨_, rfl⟩
                rw [exe80] at hxe80a hxe80b ⊢
                refine lv_iload_n hx hb dX12_settle_68 rfl (lv_at hl 3 rfl) ?_
                refine lv_icmp_eq (tgt := 78) hx hb dX12_settle_69 (by decide) (fun hc81 => ?_) (fun hc81 => ?_)
                · have hf82 : xe80.toInt = x2.toInt := by have z := (fa_eq _ _).mp hc81;  omega
                  have rf_xe74 : tw_el E a0 54 (y41_4.toInt).toNat = xe74.toInt := (by rw [tw_el_of hxr73]; exact congrArg Int32.toInt exe74)
                  have rf_xe80 : tw_el E a0 55 (y41_4.toInt).toNat = xe80.toInt := (by rw [tw_el_of hxr79]; exact congrArg Int32.toInt exe80)
                  have hq54 : p54_ok E a0 (tw_el E a0 54) := fun _ => rfl
                  have hq55 : p55_ok E a0 (tw_el E a0 55) := fun _ => rfl
                  have hsd0 : sd_fn (tw_el E a0 54) (tw_el E a0 55) (xi23.toInt) := (by have w := hg0; unfold sd_ok at w; rw [tw_fi_of hxi23] at w; exact w)
                  have hsx : (xi23.toInt ≤ y41_4.toInt ∧ ∀ j : Nat, (j : Int) < y41_4.toInt → ¬ (tw_el E a0 54 j = x1.toInt ∧ tw_el E a0 55 j = x2.toInt)) ∨ (y41_4.toInt < xi23.toInt ∧ tw_el E a0 54 (y41_4.toInt).toNat = x1.toInt ∧ tw_el E a0 55 (y41_4.toInt).toNat = x2.toInt) := Or.inr ⟨by omega, by (try rw [rf_xe74]); (try rw [rf_xe80]); omega, by (try rw [rf_xe74]); (try rw [rf_xe80]); omega⟩
                  have hsc : y41_4.toInt ≤ 449 := (by omega)
                  refine lv_aload_n hx hb dX12_settle_78 rfl (lv_at hl 1 rfl) ?_
                  refine tw_get (ci := 12) (C := RX12) (T := TX12) (N := 64) hx hb hB cx_inX12 hown hK TH hm0 hk0 rfl ⟨by decide, rfl⟩ 54 (by decide) cw_1247 (fun _ h9 => h9) dX12_settle_79 (fun hv => ?_)
                  rw [hxr73]
                  refine lv_iload hx hb dX12_settle_82 (lv_at hl 0 rfl) ?_
                  refine lv_iload_n hx hb dX12_settle_84 rfl (lv_at hl 2 rfl) ?_
                  refine tw_iast (k := 360) (n := 450) (lo := 0) (hi := 149) hx hb hK TH hS hmxr73 hkxr73 (by decide) rfl (i := y41_4) (x := x1) (vp_in_iff.mpr ⟨by  omega, by  omega⟩) (by omega) (by omega) dX12_settle_85 (fun H locs E83 TH hS hp84 hp85 hp86 => ?_)
                  have hst87 : tw_fr kp L [] [360] E E83 := tw_fr.ast tw_fr.rf (fun _ => hkxr73) hp84 hp85 (by decide)
                  have hF := hF.tr hst87 (fun _ h => ⟨h, rfl⟩) (by decide) (by decide)
                  have hmf88 : tw_fv E83 a0 26 = .int xi3 := (hst87.1 a0 26 hm0 (by rw [hk0]; decide)).trans hxi3
                  have hmf89 : tw_fv E83 a0 27 = .int xi18 := (hst87.1 a0 27 hm0 (by rw [hk0]; decide)).trans hxi18
                  have hmf90 : tw_fv E83 a0 58 = .int xi23 := (hst87.1 a0 58 hm0 (by rw [hk0]; decide)).trans hxi23
                  have hmf91 : tw_fv E83 a0 54 = .ref xr73 := (hst87.1 a0 54 hm0 (by rw [hk0]; decide)).trans hxr73
                  have hmf92 : tw_fv E83 a0 55 = .ref xr79 := (hst87.1 a0 55 hm0 (by rw [hk0]; decide)).trans hxr79
                  have hg0_o := hg0
                  have hq54_o := hq54
                  have hq55_o := hq55
                  have hq54 : p54_ok E83 a0 (fun j => if j = (y41_4.toInt).toNat then x1.toInt else tw_el E a0 54 j) := (fun j => (by have w := tw_el_st hxr73 hp84 hp85 hp86 j; rw [w]; show _ = (if j = (y41_4.toInt).toNat then x1.toInt else tw_el E a0 54 j); (by_cases e : j = (y41_4.toInt).toNat; (rw [if_pos ⟨rfl, e⟩, if_pos e]); (rw [if_neg (fun y => e y.2), if_neg e]; (try exact hq54_o j)))))
                  have hq55 : p55_ok E83 a0 (tw_el E a0 55) := p55_ok_fr TH hst87 hm0 hk0 (by decide) (by decide) hq55
                  refine lv_aload_n hx hb dX12_settle_86 rfl (lv_at hl 1 rfl) ?_
                  refine tw_get (ci := 12) (C := RX12) (T := TX12) (N := 64) hx hb hB cx_inX12 hown hK TH hm0 hk0 rfl ⟨by decide, rfl⟩ 55 (by decide) cw_1248 (fun _ h9 => h9) dX12_settle_87 (fun hv => ?_)
                  rw [hmf92]
                  refine lv_iload hx hb dX12_settle_90 (lv_at hl 0 rfl) ?_
                  refine lv_iload_n hx hb dX12_settle_92 rfl (lv_at hl 3 rfl) ?_
                  refine tw_iast (k := 361) (n := 450) (lo := 0) (hi := 3) hx hb hK TH hS hmxr79 hkxr79 (by decide) rfl (i := y41_4) (x := x2) (vp_in_iff.mpr ⟨by  omega, by  omega⟩) (by omega) (by omega) dX12_settle_93 (fun H locs E93 TH hS hp94 hp95 hp96 => ?_)
                  have hst97 : tw_fr kp L [] [361] E83 E93 := tw_fr.ast tw_fr.rf (fun _ => hkxr79) hp94 hp95 (by decide)
                  have hF := hF.tr hst97 (fun _ h => ⟨h, rfl⟩) (by decide) (by decide)
                  have hmf98 : tw_fv E93 a0 26 = .int xi3 := (hst97.1 a0 26 hm0 (by rw [hk0]; decide)).trans hmf88
                  have hmf99 : tw_fv E93 a0 27 = .int xi18 := (hst97.1 a0 27 hm0 (by rw [hk0]; decide)).trans hmf89
                  have hmf100 : tw_fv E93 a0 58 = .int xi23 := (hst97.1 a0 58 hm0 (by rw [hk0]; decide)).trans hmf90
                  have hmf101 : tw_fv E93 a0 54 = .ref xr73 := (hst97.1 a0 54 hm0 (by rw [hk0]; decide)).trans hmf91
                  have hmf102 : tw_fv E93 a0 55 = .ref xr79 := (hst97.1 a0 55 hm0 (by rw [hk0]; decide)).trans hmf92
                  have hq54_o := hq54
                  have hq55_o := hq55
                  have hq54 : p54_ok E93 a0 (fun j => if j = (y41_4.toInt).toNat then x1.toInt else tw_el E a0 54 j) := p54_ok_fr TH hst97 hm0 hk0 (by decide) (by decide) hq54
                  have hq55 : p55_ok E93 a0 (fun j => if j = (y41_4.toInt).toNat then x2.toInt else tw_el E a0 55 j) := (fun j => (by have w := tw_el_st hmf92 hp94 hp95 hp96 j; rw [w]; show _ = (if j = (y41_4.toInt).toNat then x2.toInt else tw_el E a0 55 j); (by_cases e : j = (y41_4.toInt).toNat; (rw [if_pos ⟨rfl, e⟩, if_pos e]); (rw [if_neg (fun y => e y.2), if_neg e]; (try exact hq55_o j)))))
                  refine lv_aload_n hx hb dX12_settle_94 rfl (lv_at hl 1 rfl) ?_
                  refine tw_get (ci := 12) (C := RX12) (T := TX12) (N := 64) hx hb hB cx_inX12 hown hK TH hm0 hk0 rfl ⟨by decide, rfl⟩ 56 (by decide) cw_1249 (fun _ h9 => h9) dX12_settle_95 (fun hv => ?_)
                  obtain ⟨xr103, hxr103, hmxr103, hkxr103⟩ : ∃ a : Nat, tw_fv E93 a0 56 = .ref a ∧ a ∈ L ∧ kp a = 362 := hv
                  rw [hxr103]
                  refine lv_iload hx hb dX12_settle_98 (lv_at hl 0 rfl) ?_
                  refine lv_iload_n hx hb dX12_settle_100 rfl (lv_at hl 4 rfl) ?_
                  refine tw_iast (k := 362) (n := 450) (lo := 0) (hi := 11) hx hb hK TH hS hmxr103 hkxr103 (by decide) rfl (i := y41_4) (x := x3) (vp_in_iff.mpr ⟨by  omega, by  omega⟩) (by omega) (by omega) dX12_settle_101 (fun H locs E104 TH hS hp105 hp106 hp107 => ?_)
                  have hst108 : tw_fr kp L [] [362] E93 E104 := tw_fr.ast tw_fr.rf (fun _ => hkxr103) hp105 hp106 (by decide)
                  have hF := hF.tr hst108 (fun _ h => ⟨h, rfl⟩) (by decide) (by decide)
                  have hmf109 : tw_fv E104 a0 26 = .int xi3 := (hst108.1 a0 26 hm0 (by rw [hk0]; decide)).trans hmf98
                  have hmf110 : tw_fv E104 a0 27 = .int xi18 := (hst108.1 a0 27 hm0 (by rw [hk0]; decide)).trans hmf99
                  have hmf111 : tw_fv E104 a0 58 = .int xi23 := (hst108.1 a0 58 hm0 (by rw [hk0]; decide)).trans hmf100
                  have hmf112 : tw_fv E104 a0 54 = .ref xr73 := (hst108.1 a0 54 hm0 (by rw [hk0]; decide)).trans hmf101
                  have hmf113 : tw_fv E104 a0 55 = .ref xr79 := (hst108.1 a0 55 hm0 (by rw [hk0]; decide)).trans hmf102
                  have hmf114 : tw_fv E104 a0 56 = .ref xr103 := (hst108.1 a0 56 hm0 (by rw [hk0]; decide)).trans hxr103
                  have hq54 : p54_ok E104 a0 (fun j => if j = (y41_4.toInt).toNat then x1.toInt else tw_el E a0 54 j) := p54_ok_fr TH hst108 hm0 hk0 (by decide) (by decide) hq54
                  have hq55 : p55_ok E104 a0 (fun j => if j = (y41_4.toInt).toNat then x2.toInt else tw_el E a0 55 j) := p55_ok_fr TH hst108 hm0 hk0 (by decide) (by decide) hq55
                  refine lv_aload_n hx hb dX12_settle_102 rfl (lv_at hl 1 rfl) ?_
                  refine lv_aload_n hx hb dX12_settle_103 rfl (lv_at hl 1 rfl) ?_
                  refine tw_get (ci := 12) (C := RX12) (T := TX12) (N := 64) hx hb hB cx_inX12 hown hK TH hm0 hk0 rfl ⟨by decide, rfl⟩ 58 (by decide) cw_1251 (fun _ h9 => h9) dX12_settle_104 (fun hv => ?_)
                  rw [hmf111]
                  refine lv_iload hx hb dX12_settle_107 (lv_at hl 0 rfl) ?_
                  refine lv_iconst (v := 1) hx hb dX12_settle_109 (by decide) ?_
                  refine lv_iadd hx hb dX12_settle_110 ?_
                  refine lv_topi (fun zi115 ezi115 => ?_)
                  have hzi115 : zi115.toInt = y41_4.toInt + 1 := by rw [ezi115]; have : ((1 : Int32).toInt) = 1 := (by decide); have := ia_lo y41_4; have := ia_hi y41_4; exact (ia_add (by omega) (by omega)).trans (by omega)
                  refine va_mmax hx hb (hml.trans hl.1.symm) hown (hB _ cw_1720) (hB _ cw_1129) (hB _ cw_19) (hB _ cw_1130) (Nat.le_of_ble_eq_true rfl) (Nat.le_of_ble_eq_true rfl) (Nat.le_of_ble_eq_true rfl) (Nat.le_of_ble_eq_true rfl) dX12_settle_111 ?_
                  refine lv_topi (fun zi116 ezi116 => ?_)
                  have hzi116 : xi23.toInt ≤ zi116.toInt ∧ zi115.toInt ≤ zi116.toInt ∧ (zi116.toInt = xi23.toInt ∨ zi116.toInt = zi115.toInt) := by rw [ezi116];  have q := ia_max xi23 zi115; omega
                  refine tw_put (ci := 12) (v := .int zi116) (ty := .int) (C := RX12) (T := TX12) (N := 64) hx hb hB cx_inX12 tyX12 tyX12_ok nmX12 hown hK TH hS hm0 hk0 rfl ⟨by decide, rfl⟩ 58 (by decide) cw_1251 (fun _ h9 => h9) rfl (by decide +kernel) rfl rfl ⟨_, rfl, (show 0 ≤ Int32.toInt zi116 from by  omega), (show Int32.toInt zi116 ≤ 450 from by  omega)⟩ dX12_settle_114 (fun H locs E117 TH hS hmf121 hp118 hp119 => ?_)
                  have hst120 : tw_fr kp L [(12, 58)] [] E104 E117 := tw_fr.put tw_fr.rf (fun _ => hk0) (by decide) hp118 hp119 (by decide)
                  have hF := hF.tr hst120 (fun _ h => ⟨h, rfl⟩) (by decide) (by decide)
                  have hmf122 : tw_fv E117 a0 26 = .int xi3 := (hst120.1 a0 26 hm0 (by rw [hk0]; decide)).trans hmf109
                  have hmf123 : tw_fv E117 a0 27 = .int xi18 := (hst120.1 a0 27 hm0 (by rw [hk0]; decide)).trans hmf110
                  have hmf124 : tw_fv E117 a0 54 = .ref xr73 := (hst120.1 a0 54 hm0 (by rw [hk0]; decide)).trans hmf112
                  have hmf125 : tw_fv E117 a0 55 = .ref xr79 := (hst120.1 a0 55 hm0 (by rw [hk0]; decide)).trans hmf113
                  have hmf126 : tw_fv E117 a0 56 = .ref xr103 := (hst120.1 a0 56 hm0 (by rw [hk0]; decide)).trans hmf114
                  have hq54 : p54_ok E117 a0 (fun j => if j = (y41_4.toInt).toNat then x1.toInt else tw_el E a0 54 j) := p54_ok_fr TH hst120 hm0 hk0 (by decide) (by decide) hq54
                  have hq55 : p55_ok E117 a0 (fun j => if j = (y41_4.toInt).toNat then x2.toInt else tw_el E a0 55 j) := p55_ok_fr TH hst120 hm0 hk0 (by decide) (by decide) hq55
                  have hgn127 : sd_ok E117 a0 := (by have w := sd_set (s1 := zi116.toInt) hsd0 hq54 hq55 (by omega) (by omega) (by omega) (by omega) (by omega) (by omega) (by omega) (by omega) hsx (by omega); unfold sd_ok; rw [tw_fi_of hmf121]; exact w)
                  refine lv_iconst (v := 1) hx hb dX12_settle_117 (by decide) ?_
                  exact tw_zret hx hb hr hlocks (by decide) TH hS hex ⟨⟨_, rfl, (show 0 ≤ Int32.toInt 1 from by have : ((1 : Int32).toInt) = 1 := (by decide); omega), (show Int32.toInt 1 ≤ 1 from by have : ((1 : Int32).toInt) = 1 := (by decide); omega), hgn127⟩, rfl, rfl, hF⟩ (Nat.le_of_ble_eq_true rfl) (Nat.le_of_ble_eq_true rfl) dX12_settle_118
                · have hf128 : ¬ (xe80.toInt = x2.toInt) := fun q => hc81 ((fa_eq _ _).mpr (by  omega))
                  obtain ⟨zi129, ezi129⟩ : ∃ z : Int32, z = y41_4 + Int32.ofInt 1 := ⟨_, rfl⟩
                  have hzi129 : zi129.toInt = y41_4.toInt + 1 := by rw [ezi129]; have : ((Int32.ofInt 1).toInt) = 1 := (by decide);  exact (ia_add (by omega) (by omega)).trans (by omega)
                  refine lv_iinc (v := zi129) (lv' := [(4, .int zi129), (0, .ref a0), (1, .int x1), (2, .int x2), (3, .int x3)]) hx hb dX12_settle_72 hl (k := 0) rfl ezi129.symm (by decide) rfl (fun ls hl => ?_)
                  refine lv_goto (tgt := 41) hx hb dX12_settle_75 (by decide) ?_
                  exact ih41 (n41 - 1) (by   omega) zi129 _ _ ls (by omega) (by omega) (by  have rf_xe74 : tw_el E a0 54 (y41_4.toInt).toNat = xe74.toInt := (by rw [tw_el_of hxr73]; exact congrArg Int32.toInt exe74); have rf_xe80 : tw_el E a0 55 (y41_4.toInt).toNat = xe80.toInt := (by rw [tw_el_of hxr79]; exact congrArg Int32.toInt exe80); intro j hj h; by_cases e : j = (y41_4.toInt).toNat; (subst e; (try rw [rf_xe74] at h); (try rw [rf_xe80] at h); omega); exact hin41_0 j (by omega) h) (by  omega) (by  omega) (by   omega) TH hS (lv_sub hl [0, 1, 2, 3, 4] rfl)
        exact hJ41 451 (0 : Int32) _ _ ls (by have : ((0 : Int32).toInt) = 0 := (by decide); omega) (by have : ((0 : Int32).toInt) = 0 := (by decide); omega) (by have : ((0 : Int32).toInt) = 0 := (by decide); intro j hj; exact absurd hj (by omega)) (by have : ((0 : Int32).toInt) = 0 := (by decide); omega) (by have : ((0 : Int32).toInt) = 0 := (by decide); omega) (by have : ((0 : Int32).toInt) = 0 := (by decide);  omega) TH hS (lv_sub hl [0, 1, 2, 3, 4] rfl)
      · have hf130 : xc20.toInt = 0 := by have z := (fa_eq _ _).mp hc21; have : ((0 : Int32).toInt) = 0 := (by decide); omega
        refine lv_iconst (v := 0) hx hb dX12_settle_36 (by decide) ?_
        exact tw_zret hx hb hr hlocks (by decide) TH hS hex ⟨⟨_, rfl, (show 0 ≤ Int32.toInt 0 from by have : ((0 : Int32).toInt) = 0 := (by decide); omega), (show Int32.toInt 0 ≤ 1 from by have : ((0 : Int32).toInt) = 0 := (by decide); omega), hg0⟩, rfl, rfl, hF⟩ (Nat.le_of_ble_eq_true rfl) (Nat.le_of_ble_eq_true rfl) dX12_settle_37
