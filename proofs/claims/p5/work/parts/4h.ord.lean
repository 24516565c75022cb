set_option maxHeartbeats 4000000 in
set_option maxRecDepth 100000 in
theorem tX12_longOf_vE (l : Launch) (D : va_G) (cs : Nat → ClassId) {kp : Nat → Nat} {L : List Nat} {E : Nat → va_E} (x0 : Int64)  (sz : Nat) : Met l yX12_longOf (.code yX12_longOf cX12_longOf 5 (some .int) :: cx_big) { frames := 0, cells := 0, slots := 0, locals := 0 } (tw_P D cs kp L E [.long x0] sz) (tw_Q D cs kp L (fun v kq Lq Eq => (∃ x : Int32, v = some (.int x) ∧ 0 ≤ x.toInt ∧ x.toInt ≤ 8 ∧ (lo_is (lj_u x0.toInt) x.toInt)) ∧ kp = kq ∧ L = Lq ∧ E = Eq) (va_A (va_pl L E) sz)) 0 0 (va_A (va_pl L E) sz) := by
  refine tw_ofW (by decide) (Nat.le_of_ble_eq_true rfl) ?_
  intro p e s m below meth c A ls hx hb hr hml hB hown hlocks hK hN hA TH hS hl
  have hown : s.vm.findClass "TreeMergeModel" = some m.cls := hown
  have hl : lv_has ls 5 [(0, .long x0)] := hl
  obtain ⟨kp0, ekp⟩ : ∃ z, z = kp := ⟨_, rfl⟩
  obtain ⟨L0, eL⟩ : ∃ z, z = L := ⟨_, rfl⟩
  rw [show tw_Q D cs kp L = tw_Q D cs kp0 L0 by rw [ekp, eL]]
  have hex : ∀ a : Nat, a ∈ L0 → a ∈ L ∧ kp a = kp0 a := fun a h => ⟨by rw [← eL]; exact h, by rw [ekp]⟩
  refine lv_iconst (v := 0) hx hb dX12_longOf_0 (by decide) ?_
  refine lv_istore_n (lv' := [(2, .int 0), (0, .long x0)]) hx hb dX12_longOf_1 rfl hl (by decide) rfl (fun ls hl => ?_)
  refine lv_lload_n hx hb dX12_longOf_2 rfl (lv_at hl 1 rfl) ?_
  refine lv_lstore_n (lv' := [(3, .long x0), (2, .int 0), (0, .long x0)]) hx hb dX12_longOf_3 rfl hl (by decide) rfl (fun ls hl => ?_)
  have hJ4 : ∀ (n4 : Nat) (y4_3 : Int64) (y4_2 : Int32) (H : Heap) (locs : List Loc) (ls : Array Slot), (lo_inv y4_3 (y4_2.toInt)) → (y4_2.toInt ≤ 8) → (0 ≤ y4_2.toInt) → (lo_2 x0 y4_3 (y4_2.toInt)) → 8 - y4_2.toInt ≤ (n4 : Int) → tw_H D cs kp L E A H → va_S A s.heap H locs → lv_has ls 5 [(3, .long y4_3), (2, .int y4_2)] → W p l e { frames := 0, cells := 0, slots := 0, locals := 0 } s m [.long x0].toArray below meth c H locs 0 0 (MQ below (tw_Q D cs kp0 L0 (fun v kq Lq Eq => (∃ x : Int32, v = some (.int x) ∧ 0 ≤ x.toInt ∧ x.toInt ≤ 8 ∧ (lo_is (lj_u x0.toInt) x.toInt)) ∧ kp = kq ∧ L = Lq ∧ E = Eq) A) [.long x0].toArray s 0 0 A) (F0 m 4 ls []) := by
    intro n4
    induction n4 using Nat.strongRecOn with
    | _ n4 ih4 =>
      intro y4_3 y4_2 H locs ls hin4_0 hin4_1 hin4_2 hin4_3 hmeas4 TH hS hl
      refine lv_lload_n hx hb dX12_longOf_4 rfl (lv_at hl 0 rfl) ?_
      refine lv_lconst (v := 0) hx hb dX12_longOf_5 (by decide) ?_
      refine tw_topl (fun zl1 ezl1 => ?_)
      have hzl1 : zl1.toInt = 0 := by rw [ezl1]; decide
      refine W.lcmp hx hb dX12_longOf_6 ?_
      have hzi2 := ia_lc y4_3 zl1
      generalize lg_cmp y4_3 zl1 = zi2 at hzi2 ⊢
      refine lv_if_eq (tgt := 21) hx hb dX12_longOf_7 (by decide) (fun hc3 => ?_) (fun hc3 => ?_)
      · have hf4 : zi2.toInt = 0 := by have z := (fa_eq _ _).mp hc3; have : ((0 : Int32).toInt) = 0 := (by decide); omega
        refine lv_iload_n hx hb dX12_longOf_21 rfl (lv_at hl 1 rfl) ?_
        exact tw_iret hx hb hr hlocks TH hS hex ⟨⟨_, rfl, (show 0 ≤ Int32.toInt y4_2 from by  omega), (show Int32.toInt y4_2 ≤ 8 from by  omega), (by  rw [lj_u_of]; exact lo_2_done hin4_3 (by omega))⟩, rfl, rfl, rfl⟩ (Nat.le_of_ble_eq_true rfl) (Nat.le_of_ble_eq_true rfl) dX12_longOf_22
      · have hf5 : ¬ (zi2.toInt = 0) := fun q => hc3 ((fa_eq _ _).mpr (by have : ((0 : Int32).toInt) = 0 := (by decide); omega))
        have hlt8 := lo_inv_lt hin4_0 (by omega)
        obtain ⟨zi6, ezi6⟩ : ∃ z : Int32, z = y4_2 + Int32.ofInt 1 := ⟨_, rfl⟩
        have hzi6 : zi6.toInt = y4_2.toInt + 1 := by rw [ezi6]; have : ((Int32.ofInt 1).toInt) = 1 := (by decide);  exact (ia_add (by omega) (by omega)).trans (by omega)
        refine lv_iinc (v := zi6) (lv' := [(2, .int zi6), (3, .long y4_3)]) hx hb dX12_longOf_10 hl (k := 1) rfl ezi6.symm (by decide) rfl (fun ls hl => ?_)
        refine lv_lload_n hx hb dX12_longOf_13 rfl (lv_at hl 1 rfl) ?_
        refine lv_bipush (v := 8) hx hb dX12_longOf_14 (by decide) ?_
        refine lv_lushr (v := ((y4_3).toUInt64 >>> (((8 : Int32)).toInt64.toUInt64 &&& Int64.toUInt64 63)).toInt64) hx hb dX12_longOf_16 rfl ?_
        refine tw_topl (fun zl7 ezl7 => ?_)
        refine lv_lstore_n (lv' := [(3, .long zl7), (2, .int zi6)]) hx hb dX12_longOf_17 rfl hl (by decide) rfl (fun ls hl => ?_)
        refine lv_goto (tgt := 4) hx hb dX12_longOf_18 (by decide) ?_
        exact ih4 (n4 - 1) (by   omega) zl7 zi6 _ _ ls (by  exact lo_inv_step hin4_0 (by omega) ezl7 (by omega)) (by  have := lo_inv_lt hin4_0 (by omega); omega) (by  omega) (by  exact lo_2_step hin4_3 (lo_inv_lt hin4_0 (by omega)) (by omega) ezl7 (by omega)) (by   omega) TH hS (lv_sub hl [0, 1] rfl)
  exact hJ4 9 x0 (0 : Int32) _ _ ls (by have : ((0 : Int32).toInt) = 0 := (by decide); exact lo_inv_zero _ (by omega)) (by have : ((0 : Int32).toInt) = 0 := (by decide); omega) (by have : ((0 : Int32).toInt) = 0 := (by decide); omega) (by have : ((0 : Int32).toInt) = 0 := (by decide); exact lo_2_zero _ (by omega)) (by have : ((0 : Int32).toInt) = 0 := (by decide);  omega) TH hS (lv_sub hl [0, 1] rfl)
set_option maxHeartbeats 4000000 in
set_option maxRecDepth 100000 in
theorem tX12_isLess_vE (l : Launch) (D : va_G) (cs : Nat → ClassId) {kp : Nat → Nat} {L : List Nat} {E : Nat → va_E} (x0 : Int64) (x1 : Int64)  (sz : Nat) : Met l yX12_isLess (.code yX12_isLess cX12_isLess 8 (some .boolean) :: cx_big) { frames := 1, cells := 0, slots := 0, locals := 24 } (tw_P D cs kp L E [.long x0, .long x1] sz) (tw_Q D cs kp L (fun v kq Lq Eq => (∃ x : Int32, v = some (.int x) ∧ 0 ≤ x.toInt ∧ x.toInt ≤ 1 ∧ (x.toInt ≠ 0 ↔ lj_i x0.toInt < lj_i x1.toInt)) ∧ kp = kq ∧ L = Lq ∧ E = Eq) (va_A (va_pl L E) sz)) 0 0 (va_A (va_pl L E) sz) := by
  refine tw_ofW (by decide) (Nat.le_of_ble_eq_true rfl) ?_
  intro p e s m below meth c A ls hx hb hr hml hB hown hlocks hK hN hA TH hS hl
  have hown : s.vm.findClass "TreeMergeModel" = some m.cls := hown
  have hl : lv_has ls 8 [(0, .long x0), (2, .long x1)] := hl
  obtain ⟨kp0, ekp⟩ : ∃ z, z = kp := ⟨_, rfl⟩
  obtain ⟨L0, eL⟩ : ∃ z, z = L := ⟨_, rfl⟩
  rw [show tw_Q D cs kp L = tw_Q D cs kp0 L0 by rw [ekp, eL]]
  have hex : ∀ a : Nat, a ∈ L0 → a ∈ L ∧ kp a = kp0 a := fun a h => ⟨by rw [← eL]; exact h, by rw [ekp]⟩
  refine lv_lload_n hx hb dX12_isLess_0 rfl (lv_at hl 0 rfl) ?_
  refine lv_lconst (v := 0) hx hb dX12_isLess_1 (by decide) ?_
  refine tw_topl (fun zl1 ezl1 => ?_)
  have hzl1 : zl1.toInt = 0 := by rw [ezl1]; decide
  refine W.lcmp hx hb dX12_isLess_2 ?_
  have hzi2 := ia_lc x0 zl1
  generalize lg_cmp x0 zl1 = zi2 at hzi2 ⊢
  refine lv_if_ne (tgt := 10) hx hb dX12_isLess_3 (by decide) (fun hc3 => ?_) (fun hc3 => ?_)
  · have hf4 : ¬ (zi2.toInt = 0) := fun q => hc3 ((fa_eq _ _).mpr (by have : ((0 : Int32).toInt) = 0 := (by decide); omega))
    refine lv_lload_n hx hb dX12_isLess_10 rfl (lv_at hl 0 rfl) ?_
    refine lv_bipush (v := 8) hx hb dX12_isLess_11 (by decide) ?_
    refine lv_bipush (v := 8) hx hb dX12_isLess_13 (by decide) ?_
    refine lv_lload_n hx hb dX12_isLess_15 rfl (lv_at hl 0 rfl) ?_
    refine tw_Sc (n := 1) (post := (fun v kq Lq Eq => (∃ x : Int32, v = some (.int x) ∧ 0 ≤ x.toInt ∧ x.toInt ≤ 8 ∧ (lo_is (lj_u x0.toInt) x.toInt)) ∧ kp = kq ∧ L = Lq ∧ E = Eq)) (As := [.long x0]) (rest := [.int 8, .int 8, .long x0]) ⟨hx, hb, hml, hown, hB⟩ (fun sz => tX12_longOf_vE l D cs x0  sz) cg_12_297_X12_longOf rfl rfl (by decide +kernel) ⟨Nat.le_of_ble_eq_true rfl, Nat.le_of_ble_eq_true rfl⟩ hK hN TH hS hA rfl hl.1 rfl (Nat.le_of_ble_eq_true rfl) dX12_isLess_16 ⟨Nat.le_of_ble_eq_true rfl, Nat.le_of_ble_eq_true rfl⟩ (fun v5 kp5 L5 E5 H locs hq5 hx5 TH hS => ?_)
    obtain ⟨⟨xc6, rfl, hxc6a, hxc6b, hpoxc6_0⟩, rfl, rfl, rfl⟩ := hq5
    refine W.eq (g2 := F0 m 19 ls [.int xc6, .int 8, .int 8, .long x0]) rfl ?_
    refine lv_isub hx hb dX12_isLess_19 ?_
    refine lv_topi (fun zi7 ezi7 => ?_)
    have hzi7 : zi7.toInt = 8 - xc6.toInt := by rw [ezi7]; have : ((8 : Int32).toInt) = 8 := (by decide); have := ia_lo xc6; have := ia_hi xc6; exact (ia_sub (by omega) (by omega)).trans (by omega)
    refine lv_imul hx hb dX12_isLess_20 ?_
    refine lv_topi (fun zi8 ezi8 => ?_)
    have hzi8 : zi8.toInt = 8 * zi7.toInt := by rw [ezi8]; exact (ia_mul (by have hc : ((8 : Int32).toInt) = 8 := (by decide); rw [hc]; omega) (by have hc : ((8 : Int32).toInt) = 8 := (by decide); rw [hc]; omega)).trans (by have hc : ((8 : Int32).toInt) = 8 := (by decide); rw [hc])
    refine lv_lshl (v := ((x0) <<< (((zi8 : Int32)).toInt64 &&& 63))) hx hb dX12_isLess_21 rfl ?_
    refine tw_topl (fun zl9 ezl9 => ?_)
    refine lv_lstore (lv' := [(4, .long zl9), (0, .long x0), (2, .long x1)]) hx hb dX12_isLess_22 hl (by decide) rfl (fun ls hl => ?_)
    have hLA : zl9.toInt = lj_i x0.toInt := lj_val (by rw [← lj_u_of]; exact hpoxc6_0) (by omega) (by omega) ezl9
    refine lv_lload_n hx hb dX12_isLess_24 rfl (lv_at hl 2 rfl) ?_
    refine lv_lconst (v := 0) hx hb dX12_isLess_25 (by decide) ?_
    refine tw_topl (fun zl10 ezl10 => ?_)
    have hzl10 : zl10.toInt = 0 := by rw [ezl10]; decide
    refine W.lcmp hx hb dX12_isLess_26 ?_
    have hzi11 := ia_lc x1 zl10
    generalize lg_cmp x1 zl10 = zi11 at hzi11 ⊢
    refine lv_if_ne (tgt := 34) hx hb dX12_isLess_27 (by decide) (fun hc12 => ?_) (fun hc12 => ?_)
    · have hf13 : ¬ (zi11.toInt = 0) := fun q => hc12 ((fa_eq _ _).mpr (by have : ((0 : Int32).toInt) = 0 := (by decide); omega))
      refine lv_lload_n hx hb dX12_isLess_34 rfl (lv_at hl 2 rfl) ?_
      refine lv_bipush (v := 8) hx hb dX12_isLess_35 (by decide) ?_
      refine lv_bipush (v := 8) hx hb dX12_isLess_37 (by decide) ?_
      refine lv_lload_n hx hb dX12_isLess_39 rfl (lv_at hl 2 rfl) ?_
      refine tw_Sc (n := 1) (post := (fun v kq Lq Eq => (∃ x : Int32, v = some (.int x) ∧ 0 ≤ x.toInt ∧ x.toInt ≤ 8 ∧ (lo_is (lj_u x1.toInt) x.toInt)) ∧ kp = kq ∧ L = Lq ∧ E = Eq)) (As := [.long x1]) (rest := [.int 8, .int 8, .long x1]) ⟨hx, hb, hml, hown, hB⟩ (fun sz => tX12_longOf_vE l D cs x1  sz) cg_12_297_X12_longOf rfl rfl (by decide +kernel) ⟨Nat.le_of_ble_eq_true rfl, Nat.le_of_ble_eq_true rfl⟩ hK hN TH hS hA rfl hl.1 rfl (Nat.le_of_ble_eq_true rfl) dX12_isLess_40 ⟨Nat.le_of_ble_eq_true rfl, Nat.le_of_ble_eq_true rfl⟩ (fun v14 kp14 L14 E14 H locs hq14 hx14 TH hS => ?_)
      obtain ⟨⟨xc15, rfl, hxc15a, hxc15b, hpoxc15_0⟩, rfl, rfl, rfl⟩ := hq14
      refine W.eq (g2 := F0 m 43 ls [.int xc15, .int 8, .int 8, .long x1]) rfl ?_
      refine lv_isub hx hb dX12_isLess_43 ?_
      refine lv_topi (fun zi16 ezi16 => ?_)
      have hzi16 : zi16.toInt = 8 - xc15.toInt := by rw [ezi16]; have : ((8 : Int32).toInt) = 8 := (by decide); have := ia_lo xc15; have := ia_hi xc15; exact (ia_sub (by omega) (by omega)).trans (by omega)
      refine lv_imul hx hb dX12_isLess_44 ?_
      refine lv_topi (fun zi17 ezi17 => ?_)
      have hzi17 : zi17.toInt = 8 * zi16.toInt := by rw [ezi17]; exact (ia_mul (by have hc : ((8 : Int32).toInt) = 8 := (by decide); rw [hc]; omega) (by have hc : ((8 : Int32).toInt) = 8 := (by decide); rw [hc]; omega)).trans (by have hc : ((8 : Int32).toInt) = 8 := (by decide); rw [hc])
      refine lv_lshl (v := ((x1) <<< (((zi17 : Int32)).toInt64 &&& 63))) hx hb dX12_isLess_45 rfl ?_
      refine tw_topl (fun zl18 ezl18 => ?_)
      refine lv_lstore (lv' := [(6, .long zl18), (4, .long zl9), (0, .long x0), (2, .long x1)]) hx hb dX12_isLess_46 hl (by decide) rfl (fun ls hl => ?_)
      have hLB : zl18.toInt = lj_i x1.toInt := lj_val (by rw [← lj_u_of]; exact hpoxc15_0) (by omega) (by omega) ezl18
      refine lv_lload hx hb dX12_isLess_48 (lv_at hl 1 rfl) ?_
      refine lv_lload hx hb dX12_isLess_50 (lv_at hl 0 rfl) ?_
      refine W.lcmp hx hb dX12_isLess_52 ?_
      have hzi19 := ia_lc zl9 zl18
      generalize lg_cmp zl9 zl18 = zi19 at hzi19 ⊢
      refine lv_if_ge (tgt := 60) hx hb dX12_isLess_53 (by decide) (fun hc20 => ?_) (fun hc20 => ?_)
      · have hf21 : 0 ≤ zi19.toInt := by have z := (fa_le _ _).mp hc20; have : ((0 : Int32).toInt) = 0 := (by decide); omega
        refine lv_iconst (v := 0) hx hb dX12_isLess_60 (by decide) ?_
        exact tw_zret hx hb hr hlocks (by decide) TH hS hex ⟨⟨_, rfl, (show 0 ≤ Int32.toInt 0 from by have : ((0 : Int32).toInt) = 0 := (by decide); omega), (show Int32.toInt 0 ≤ 1 from by have : ((0 : Int32).toInt) = 0 := (by decide); omega), (by have : ((0 : Int32).toInt) = 0 := (by decide); omega)⟩, rfl, rfl, rfl⟩ (Nat.le_of_ble_eq_true rfl) (Nat.le_of_ble_eq_true rfl) dX12_isLess_61
      · have hf22 : ¬ (0 ≤ zi19.toInt) := fun q => hc20 ((fa_le _ _).mpr (by have : ((0 : Int32).toInt) = 0 := (by decide); omega))
        refine lv_iconst (v := 1) hx hb dX12_isLess_56 (by decide) ?_
        refine lv_goto (tgt := 61) hx hb dX12_isLess_57 (by decide) ?_
        exact tw_zret hx hb hr hlocks (by decide) TH hS hex ⟨⟨_, rfl, (show 0 ≤ Int32.toInt 1 from by have : ((1 : Int32).toInt) = 1 := (by decide); omega), (show Int32.toInt 1 ≤ 1 from by have : ((1 : Int32).toInt) = 1 := (by decide); omega), (by have : ((1 : Int32).toInt) = 1 := (by decide); omega)⟩, rfl, rfl, rfl⟩ (Nat.le_of_ble_eq_true rfl) (Nat.le_of_ble_eq_true rfl) dX12_isLess_61
    · have hf23 : zi11.toInt = 0 := by have z := (fa_eq _ _).mp hc12; have : ((0 : Int32).toInt) = 0 := (by decide); omega
      refine lv_lconst (v := 0) hx hb dX12_isLess_30 (by decide) ?_
      refine tw_topl (fun zl24 ezl24 => ?_)
      have hzl24 : zl24.toInt = 0 := by rw [ezl24]; decide
      refine lv_goto (tgt := 46) hx hb dX12_isLess_31 (by decide) ?_
      refine lv_lstore (lv' := [(6, .long zl24), (4, .long zl9), (0, .long x0), (2, .long x1)]) hx hb dX12_isLess_46 hl (by decide) rfl (fun ls hl => ?_)
      have hLB : zl24.toInt = lj_i x1.toInt := (by rw [lj_zero (by omega)]; exact hzl24)
      refine lv_lload hx hb dX12_isLess_48 (lv_at hl 1 rfl) ?_
      refine lv_lload hx hb dX12_isLess_50 (lv_at hl 0 rfl) ?_
      refine W.lcmp hx hb dX12_isLess_52 ?_
      have hzi25 := ia_lc zl9 zl24
      generalize lg_cmp zl9 zl24 = zi25 at hzi25 ⊢
      refine lv_if_ge (tgt := 60) hx hb dX12_isLess_53 (by decide) (fun hc26 => ?_) (fun hc26 => ?_)
      · have hf27 : 0 ≤ zi25.toInt := by have z := (fa_le _ _).mp hc26; have : ((0 : Int32).toInt) = 0 := (by decide); omega
        refine lv_iconst (v := 0) hx hb dX12_isLess_60 (by decide) ?_
        exact tw_zret hx hb hr hlocks (by decide) TH hS hex ⟨⟨_, rfl, (show 0 ≤ Int32.toInt 0 from by have : ((0 : Int32).toInt) = 0 := (by decide); omega), (show Int32.toInt 0 ≤ 1 from by have : ((0 : Int32).toInt) = 0 := (by decide); omega), (by have : ((0 : Int32).toInt) = 0 := (by decide); omega)⟩, rfl, rfl, rfl⟩ (Nat.le_of_ble_eq_true rfl) (Nat.le_of_ble_eq_true rfl) dX12_isLess_61
      · have hf28 : ¬ (0 ≤ zi25.toInt) := fun q => hc26 ((fa_le _ _).mpr (by have : ((0 : Int32).toInt) = 0 := (by decide); omega))
        refine lv_iconst (v := 1) hx hb dX12_isLess_56 (by decide) ?_
        refine lv_goto (tgt := 61) hx hb dX12_isLess_57 (by decide) ?_
        exact tw_zret hx hb hr hlocks (by decide) TH hS hex ⟨⟨_, rfl, (show 0 ≤ Int32.toInt 1 from by have : ((1 : Int32).toInt) = 1 := (by decide); omega), (show Int32.toInt 1 ≤ 1 from by have : ((1 : Int32).toInt) = 1 := (by decide); omega), (by have : ((1 : Int32).toInt) = 1 := (by decide); omega)⟩, rfl, rfl, rfl⟩ (Nat.le_of_ble_eq_true rfl) (Nat.le_of_ble_eq_true rfl) dX12_isLess_61
  · have hf29 : zi2.toInt = 0 := by have z := (fa_eq _ _).mp hc3; have : ((0 : Int32).toInt) = 0 := (by decide); omega
    refine lv_lconst (v := 0) hx hb dX12_isLess_6 (by decide) ?_
    refine tw_topl (fun zl30 ezl30 => ?_)
    have hzl30 : zl30.toInt = 0 := by rw [ezl30]; decide
    refine lv_goto (tgt := 22) hx hb dX12_isLess_7 (by decide) ?_
    refine lv_lstore (lv' := [(4, .long zl30), (0, .long x0), (2, .long x1)]) hx hb dX12_isLess_22 hl (by decide) rfl (fun ls hl => ?_)
    have hLA : zl30.toInt = lj_i x0.toInt := (by rw [lj_zero (by omega)]; exact hzl30)
    refine lv_lload_n hx hb dX12_isLess_24 rfl (lv_at hl 2 rfl) ?_
    refine lv_lconst (v := 0) hx hb dX12_isLess_25 (by decide) ?_
    refine tw_topl (fun zl31 ezl31 => ?_)
    have hzl31 : zl31.toInt = 0 := by rw [ezl31]; decide
    refine W.lcmp hx hb dX12_isLess_26 ?_
    have hzi32 := ia_lc x1 zl31
    generalize lg_cmp x1 zl31 = zi32 at hzi32 ⊢
    refine lv_if_ne (tgt := 34) hx hb dX12_isLess_27 (by decide) (fun hc33 => ?_) (fun hc33 => ?_)
    · have hf34 : ¬ (zi32.toInt = 0) := fun q => hc33 ((fa_eq _ _).mpr (by have : ((0 : Int32).toInt) = 0 := (by decide); omega))
      refine lv_lload_n hx hb dX12_isLess_34 rfl (lv_at hl 2 rfl) ?_
      refine lv_bipush (v := 8) hx hb dX12_isLess_35 (by decide) ?_
      refine lv_bipush (v := 8) hx hb dX12_isLess_37 (by decide) ?_
      refine lv_lload_n hx hb dX12_isLess_39 rfl (lv_at hl 2 rfl) ?_
      refine tw_Sc (n := 1) (post := (fun v kq Lq Eq => (∃ x : Int32, v = some (.int x) ∧ 0 ≤ x.toInt ∧ x.toInt ≤ 8 ∧ (lo_is (lj_u x1.toInt) x.toInt)) ∧ kp = kq ∧ L = Lq ∧ E = Eq)) (As := [.long x1]) (rest := [.int 8, .int 8, .long x1]) ⟨hx, hb, hml, hown, hB⟩ (fun sz => tX12_longOf_vE l D cs x1  sz) cg_12_297_X12_longOf rfl rfl (by decide +kernel) ⟨Nat.le_of_ble_eq_true rfl, Nat.le_of_ble_eq_true rfl⟩ hK hN TH hS hA rfl hl.1 rfl (Nat.le_of_ble_eq_true rfl) dX12_isLess_40 ⟨Nat.le_of_ble_eq_true rfl, Nat.le_of_ble_eq_true rfl⟩ (fun v35 kp35 L35 E35 H locs hq35 hx35 TH hS => ?_)
      obtain ⟨⟨xc36, rfl, hxc36a, hxc36b, hpoxc36_0⟩, rfl, rfl, rfl⟩ := hq35
      refine W.eq (g2 := F0 m 43 ls [.int xc36, .int 8, .int 8, .long x1]) rfl ?_
      refine lv_isub hx hb dX12_isLess_43 ?_
      refine lv_topi (fun zi37 ezi37 => ?_)
      have hzi37 : zi37.toInt = 8 - xc36.toInt := by rw [ezi37]; have : ((8 : Int32).toInt) = 8 := (by decide); have := ia_lo xc36; have := ia_hi xc36; exact (ia_sub (by omega) (by omega)).trans (by omega)
      refine lv_imul hx hb dX12_isLess_44 ?_
      refine lv_topi (fun zi38 ezi38 => ?_)
      have hzi38 : zi38.toInt = 8 * zi37.toInt := by rw [ezi38]; exact (ia_mul (by have hc : ((8 : Int32).toInt) = 8 := (by decide); rw [hc]; omega) (by have hc : ((8 : Int32).toInt) = 8 := (by decide); rw [hc]; omega)).trans (by have hc : ((8 : Int32).toInt) = 8 := (by decide); rw [hc])
      refine lv_lshl (v := ((x1) <<< (((zi38 : Int32)).toInt64 &&& 63))) hx hb dX12_isLess_45 rfl ?_
      refine tw_topl (fun zl39 ezl39 => ?_)
      refine lv_lstore (lv' := [(6, .long zl39), (4, .long zl30), (0, .long x0), (2, .long x1)]) hx hb dX12_isLess_46 hl (by decide) rfl (fun ls hl => ?_)
      have hLB : zl39.toInt = lj_i x1.toInt := lj_val (by rw [← lj_u_of]; exact hpoxc36_0) (by omega) (by omega) ezl39
      refine lv_lload hx hb dX12_isLess_48 (lv_at hl 1 rfl) ?_
      refine lv_lload hx hb dX12_isLess_50 (lv_at hl 0 rfl) ?_
      refine W.lcmp hx hb dX12_isLess_52 ?_
      have hzi40 := ia_lc zl30 zl39
      generalize lg_cmp zl30 zl39 = zi40 at hzi40 ⊢
      refine lv_if_ge (tgt := 60) hx hb dX12_isLess_53 (by decide) (fun hc41 => ?_) (fun hc41 => ?_)
      · have hf42 : 0 ≤ zi40.toInt := by have z := (fa_le _ _).mp hc41; have : ((0 : Int32).toInt) = 0 := (by decide); omega
        refine lv_iconst (v := 0) hx hb dX12_isLess_60 (by decide) ?_
        exact tw_zret hx hb hr hlocks (by decide) TH hS hex ⟨⟨_, rfl, (show 0 ≤ Int32.toInt 0 from by have : ((0 : Int32).toInt) = 0 := (by decide); omega), (show Int32.toInt 0 ≤ 1 from by have : ((0 : Int32).toInt) = 0 := (by decide); omega), (by have : ((0 : Int32).toInt) = 0 := (by decide); omega)⟩, rfl, rfl, rfl⟩ (Nat.le_of_ble_eq_true rfl) (Nat.le_of_ble_eq_true rfl) dX12_isLess_61
      · have hf43 : ¬ (0 ≤ zi40.toInt) := fun q => hc41 ((fa_le _ _).mpr (by have : ((0 : Int32).toInt) = 0 := (by decide); omega))
        refine lv_iconst (v := 1) hx hb dX12_isLess_56 (by decide) ?_
        refine lv_goto (tgt := 61) hx hb dX12_isLess_57 (by decide) ?_
        exact tw_zret hx hb hr hlocks (by decide) TH hS hex ⟨⟨_, rfl, (show 0 ≤ Int32.toInt 1 from by have : ((1 : Int32).toInt) = 1 := (by decide); omega), (show Int32.toInt 1 ≤ 1 from by have : ((1 : Int32).toInt) = 1 := (by decide); omega), (by have : ((1 : Int32).toInt) = 1 := (by decide); omega)⟩, rfl, rfl, rfl⟩ (Nat.le_of_ble_eq_true rfl) (Nat.le_of_ble_eq_true rfl) dX12_isLess_61
    · have hf44 : zi32.toInt = 0 := by have z := (fa_eq _ _).mp hc33; have : ((0 : Int32).toInt) = 0 := (by decide); omega
      refine lv_lconst (v := 0) hx hb dX12_isLess_30 (by decide) ?_
      refine tw_topl (fun zl45 ezl45 => ?_)
      have hzl45 : zl45.toInt = 0 := by rw [ezl45]; decide
      refine lv_goto (tgt := 46) hx hb dX12_isLess_31 (by decide) ?_
      refine lv_lstore (lv' := [(6, .long zl45), (4, .long zl30), (0, .long x0), (2, .long x1)]) hx hb dX12_isLess_46 hl (by decide) rfl (fun ls hl => ?_)
      have hLB : zl45.toInt = lj_i x1.toInt := (by rw [lj_zero (by omega)]; exact hzl45)
      refine lv_lload hx hb dX12_isLess_48 (lv_at hl 1 rfl) ?_
      refine lv_lload hx hb dX12_isLess_50 (lv_at hl 0 rfl) ?_
      refine W.lcmp hx hb dX12_isLess_52 ?_
      have hzi46 := ia_lc zl30 zl45
      generalize lg_cmp zl30 zl45 = zi46 at hzi46 ⊢
      refine lv_if_ge (tgt := 60) hx hb dX12_isLess_53 (by decide) (fun hc47 => ?_) (fun hc47 => ?_)
      · have hf48 : 0 ≤ zi46.toInt := by have z := (fa_le _ _).mp hc47; have : ((0 : Int32).toInt) = 0 := (by decide); omega
        refine lv_iconst (v := 0) hx hb dX12_isLess_60 (by decide) ?_
        exact tw_zret hx hb hr hlocks (by decide) TH hS hex ⟨⟨_, rfl, (show 0 ≤ Int32.toInt 0 from by have : ((0 : Int32).toInt) = 0 := (by decide); omega), (show Int32.toInt 0 ≤ 1 from by have : ((0 : Int32).toInt) = 0 := (by decide); omega), (by have : ((0 : Int32).toInt) = 0 := (by decide); omega)⟩, rfl, rfl, rfl⟩ (Nat.le_of_ble_eq_true rfl) (Nat.le_of_ble_eq_true rfl) dX12_isLess_61
      · have hf49 : ¬ (0 ≤ zi46.toInt) := fun q => hc47 ((fa_le _ _).mpr (by have : ((0 : Int32).toInt) = 0 := (by decide); omega))
        refine lv_iconst (v := 1) hx hb dX12_isLess_56 (by decide) ?_
        refine lv_goto (tgt := 61) hx hb dX12_isLess_57 (by decide) ?_
        exact tw_zret hx hb hr hlocks (by decide) TH hS hex ⟨⟨_, rfl, (show 0 ≤ Int32.toInt 1 from by have : ((1 : Int32).toInt) = 1 := (by decide); omega), (show Int32.toInt 1 ≤ 1 from by have : ((1 : Int32).toInt) = 1 := (by decide); omega), (by have : ((1 : Int32).toInt) = 1 := (by decide); omega)⟩, rfl, rfl, rfl⟩ (Nat.le_of_ble_eq_true rfl) (Nat.le_of_ble_eq_true rfl) dX12_isLess_61
set_option maxHeartbeats 4000000 in
set_option maxRecDepth 100000 in
theorem tX12_kindOf_vT (l : Launch) (D : va_G) (cs : Nat → ClassId) {kp : Nat → Nat} {L : List Nat} {E : Nat → va_E} (a0 : Nat) (x1 : Int32) (x2 : Int32) (hm0 : a0 ∈ L) (hk0 : kp a0 = 12) (hp1a : 15 ≤ x1.toInt) (hp1b : x1.toInt ≤ 15) (hp2a : 0 ≤ x2.toInt) (hp2b : x2.toInt ≤ 23) (sz : Nat) : Met l yX12_kindOf (.code yX12_kindOf cX12_kindOf 3 (some .int) :: cx_big) { frames := 0, cells := 0, slots := 0, locals := 0 } (tw_P D cs kp L E [.ref a0, .int x1, .int x2] sz) (tw_Q D cs kp L (fun v kq Lq Eq => (∃ x : Int32, v = some (.int x) ∧ 0 ≤ x.toInt ∧ x.toInt ≤ 9 ∧ (x.toInt = tw_el E a0 22 (x2.toInt).toNat)) ∧ kp = kq ∧ L = Lq ∧ E = Eq) (va_A (va_pl L E) sz)) 0 0 (va_A (va_pl L E) sz) := by
  refine tw_ofW (by decide) (Nat.le_of_ble_eq_true rfl) ?_
  intro p e s m below meth c A ls hx hb hr hml hB hown hlocks hK hN hA TH hS hl
  have hown : s.vm.findClass "TreeMergeModel" = some m.cls := hown
  have hl : lv_has ls 3 [(0, .ref a0), (1, .int x1), (2, .int x2)] := hl
  obtain ⟨kp0, ekp⟩ : ∃ z, z = kp := ⟨_, rfl⟩
  obtain ⟨L0, eL⟩ : ∃ z, z = L := ⟨_, rfl⟩
  rw [show tw_Q D cs kp L = tw_Q D cs kp0 L0 by rw [ekp, eL]]
  have hex : ∀ a : Nat, a ∈ L0 → a ∈ L ∧ kp a = kp0 a := fun a h => ⟨by rw [← eL]; exact h, by rw [ekp]⟩
  refine lv_iload_n hx hb dX12_kindOf_0 rfl (lv_at hl 1 rfl) ?_
  refine lv_bipush (v := 15) hx hb dX12_kindOf_1 (by decide) ?_
  refine lv_icmp_ne (tgt := 15) hx hb dX12_kindOf_3 (by decide) (fun hc1 => ?_) (fun hc1 => ?_)
  · have hf2 : ¬ (x1.toInt = 15) := fun q => hc1 ((fa_eq _ _).mpr (by have : ((15 : Int32).toInt) = 15 := (by decide); omega))
    exfalso; omega
  · have hf3 : x1.toInt = 15 := by have z := (fa_eq _ _).mp hc1; have : ((15 : Int32).toInt) = 15 := (by decide); omega
    refine lv_aload_n hx hb dX12_kindOf_6 rfl (lv_at hl 0 rfl) ?_
    refine tw_get (ci := 12) (C := RX12) (T := TX12) (N := 64) hx hb hB cx_inX12 hown hK TH hm0 hk0 rfl ⟨by decide, rfl⟩ 22 (by decide) cw_1215 (fun _ h9 => h9) dX12_kindOf_7 (fun hv => ?_)
    obtain ⟨xr4, hxr4, hmxr4, hkxr4⟩ : ∃ a : Nat, tw_fv E a0 22 = .ref a ∧ a ∈ L ∧ kp a = 332 := hv
    rw [hxr4]
    refine lv_iload_n hx hb dX12_kindOf_10 rfl (lv_at hl 2 rfl) ?_
    refine tw_iald (k := 332) (t0 := 0) (n := 24) (lo := 0) (hi := 9) hx hb hK TH hmxr4 hkxr4 (by decide) rfl rfl (i := x2) (vp_in_iff.mpr ⟨by  omega, by  omega⟩) dX12_kindOf_11 (fun hxe5a hxe5b => ?_)
    obtain ⟨xe5, exe5⟩ : ∃ z : Int32, tw_iv E xr4 (Int32.toNatClampNeg x2) = z := ⟨_, rfl⟩
    rw [exe5] at hxe5a hxe5b ⊢
    refine lv_goto (tgt := 21) hx hb dX12_kindOf_12 (by decide) ?_
    exact tw_iret hx hb hr hlocks TH hS hex ⟨⟨_, rfl, (show 0 ≤ Int32.toInt xe5 from by  omega), (show Int32.toInt xe5 ≤ 9 from by  omega), (by  have rf_xe5 : tw_el E a0 22 (x2.toInt).toNat = xe5.toInt := (by rw [tw_el_of hxr4]; exact congrArg Int32.toInt exe5); rw [rf_xe5])⟩, rfl, rfl, rfl⟩ (Nat.le_of_ble_eq_true rfl) (Nat.le_of_ble_eq_true rfl) dX12_kindOf_21
set_option maxHeartbeats 4000000 in
set_option maxRecDepth 100000 in
theorem tX12_isAhead_vT (l : Launch) (D : va_G) (cs : Nat → ClassId) {kp : Nat → Nat} {L : List Nat} {E : Nat → va_E} (a0 : Nat) (x1 : Int32) (x2 : Int32) (x3 : Int32) (hm0 : a0 ∈ L) (hk0 : kp a0 = 12) (hp1a : 15 ≤ x1.toInt) (hp1b : x1.toInt ≤ 15) (hp2a : 0 ≤ x2.toInt) (hp2b : x2.toInt ≤ 23) (hp3a : 0 ≤ x3.toInt) (hp3b : x3.toInt ≤ 23) (sz : Nat) : Met l yX12_isAhead (.code yX12_isAhead cX12_isAhead 4 (some .boolean) :: cx_big) { frames := 2, cells := 0, slots := 0, locals := 51 } (tw_P D cs kp L E [.ref a0, .int x1, .int x2, .int x3] sz) (tw_Q D cs kp L (fun v kq Lq Eq => (∃ x : Int32, v = some (.int x) ∧ 0 ≤ x.toInt ∧ x.toInt ≤ 1 ∧ (x.toInt ≠ 0 ↔ ah (tw_el E a0 22) (rw_w E a0 15) x2.toInt x3.toInt)) ∧ kp = kq ∧ L = Lq ∧ E = Eq) (va_A (va_pl L E) sz)) 0 0 (va_A (va_pl L E) sz) := by
  refine tw_ofW (by decide) (Nat.le_of_ble_eq_true rfl) ?_
  intro p e s m below meth c A ls hx hb hr hml hB hown hlocks hK hN hA TH hS hl
  have hown : s.vm.findClass "TreeMergeModel" = some m.cls := hown
  have hl : lv_has ls 4 [(0, .ref a0), (1, .int x1), (2, .int x2), (3, .int x3)] := hl
  obtain ⟨kp0, ekp⟩ : ∃ z, z = kp := ⟨_, rfl⟩
  obtain ⟨L0, eL⟩ : ∃ z, z = L := ⟨_, rfl⟩
  rw [show tw_Q D cs kp L = tw_Q D cs kp0 L0 by rw [ekp, eL]]
  have hex : ∀ a : Nat, a ∈ L0 → a ∈ L ∧ kp a = kp0 a := fun a h => ⟨by rw [← eL]; exact h, by rw [ekp]⟩
  refine lv_aload_n hx hb dX12_isAhead_0 rfl (lv_at hl 0 rfl) ?_
  refine lv_iload_n hx hb dX12_isAhead_1 rfl (lv_at hl 1 rfl) ?_
  refine lv_iload_n hx hb dX12_isAhead_2 rfl (lv_at hl 2 rfl) ?_
  refine tw_Vc (o := a0) (ci := 12) (n := 2) (post := (fun v kq Lq Eq => (∃ x : Int32, v = some (.int x) ∧ 0 ≤ x.toInt ∧ x.toInt ≤ 9 ∧ (x.toInt = tw_el E a0 22 (x2.toInt).toNat)) ∧ kp = kq ∧ L = Lq ∧ E = Eq)) (As := [.int x1, .int x2]) (rest := []) ⟨hx, hb, hml, hown, hB⟩ (fun sz => tX12_kindOf_vT l D cs a0 x1 x2 hm0 hk0 (by omega) (by omega) (by omega) (by omega) sz) cg_12_301_X12_kindOf rfl rfl (by decide +kernel) ⟨Nat.le_of_ble_eq_true rfl, Nat.le_of_ble_eq_true rfl⟩ hK hN TH hS hA rfl hm0 hk0 (by decide) rfl hl.1 rfl (Nat.le_of_ble_eq_true rfl) dX12_isAhead_3 ⟨Nat.le_of_ble_eq_true rfl, Nat.le_of_ble_eq_true rfl⟩ (fun v1 kp1 L1 E1 H locs hq1 hx1 TH hS => ?_)
  obtain ⟨⟨xc2, rfl, hxc2a, hxc2b, hpoxc2_0⟩, rfl, rfl, rfl⟩ := hq1
  refine W.eq (g2 := F0 m 6 ls [.int xc2]) rfl ?_
  refine lv_aload_n hx hb dX12_isAhead_6 rfl (lv_at hl 0 rfl) ?_
  refine lv_iload_n hx hb dX12_isAhead_7 rfl (lv_at hl 1 rfl) ?_
  refine lv_iload_n hx hb dX12_isAhead_8 rfl (lv_at hl 3 rfl) ?_
  refine tw_Vc (o := a0) (ci := 12) (n := 2) (post := (fun v kq Lq Eq => (∃ x : Int32, v = some (.int x) ∧ 0 ≤ x.toInt ∧ x.toInt ≤ 9 ∧ (x.toInt = tw_el E a0 22 (x3.toInt).toNat)) ∧ kp = kq ∧ L = Lq ∧ E = Eq)) (As := [.int x1, .int x3]) (rest := [.int xc2]) ⟨hx, hb, hml, hown, hB⟩ (fun sz => tX12_kindOf_vT l D cs a0 x1 x3 hm0 hk0 (by omega) (by omega) (by omega) (by omega) sz) cg_12_301_X12_kindOf rfl rfl (by decide +kernel) ⟨Nat.le_of_ble_eq_true rfl, Nat.le_of_ble_eq_true rfl⟩ hK hN TH hS hA rfl hm0 hk0 (by decide) rfl hl.1 rfl (Nat.le_of_ble_eq_true rfl) dX12_isAhead_9 ⟨Nat.le_of_ble_eq_true rfl, Nat.le_of_ble_eq_true rfl⟩ (fun v3 kp3 L3 E3 H locs hq3 hx3 TH hS => ?_)
  obtain ⟨⟨xc4, rfl, hxc4a, hxc4b, hpoxc4_0⟩, rfl, rfl, rfl⟩ := hq3
  refine W.eq (g2 := F0 m 12 ls [.int xc4, .int xc2]) rfl ?_
  refine lv_icmp_eq (tgt := 36) hx hb dX12_isAhead_12 (by decide) (fun hc5 => ?_) (fun hc5 => ?_)
  · have hf6 : xc2.toInt = xc4.toInt := by have z := (fa_eq _ _).mp hc5;  omega
    refine lv_aload_n hx hb dX12_isAhead_36 rfl (lv_at hl 0 rfl) ?_
    refine tw_get (ci := 12) (C := RX12) (T := TX12) (N := 64) hx hb hB cx_inX12 hown hK TH hm0 hk0 rfl ⟨by decide, rfl⟩ 17 (by decide) cw_1210 (fun _ h9 => h9) dX12_isAhead_37 (fun hv => ?_)
    obtain ⟨xr7, hxr7, hmxr7, hkxr7⟩ : ∃ a : Nat, tw_fv E a0 17 = .ref a ∧ a ∈ L ∧ kp a = 317 := hv
    rw [hxr7]
    refine lv_iload_n hx hb dX12_isAhead_40 rfl (lv_at hl 1 rfl) ?_
    refine tw_aald (k := 317) (t0 := 6) (n := 16) (lo := 327) (hi := 0) (ty := .long) hx hb hK TH hmxr7 hkxr7 (by decide) rfl rfl (i := x1) (vp_in_iff.mpr ⟨by  omega, by  omega⟩) dX12_isAhead_41 (fun xr8 exr8 hmxr8 hkxr8 => ?_)
    have hkxr8 : kp xr8 = 327 := hkxr8
    refine lv_iload_n hx hb dX12_isAhead_42 rfl (lv_at hl 2 rfl) ?_
    refine tw_lald2 (k := 327) (n := 150) (lo := 0) (hi := 0) hx hb hK TH hmxr8 hkxr8 (by decide) rfl (i := x2) (vp_in_iff.mpr ⟨by  omega, by  omega⟩) dX12_isAhead_43 (fun xl9 exl9 => ?_)
    refine lv_aload_n hx hb dX12_isAhead_44 rfl (lv_at hl 0 rfl) ?_
    refine tw_get (ci := 12) (C := RX12) (T := TX12) (N := 64) hx hb hB cx_inX12 hown hK TH hm0 hk0 rfl ⟨by decide, rfl⟩ 17 (by decide) cw_1210 (fun _ h9 => h9) dX12_isAhead_45 (fun hv => ?_)
    rw [hxr7]
    refine lv_iload_n hx hb dX12_isAhead_48 rfl (lv_at hl 1 rfl) ?_
    refine tw_aald (k := 317) (t0 := 6) (n := 16) (lo := 327) (hi := 0) (ty := .long) hx hb hK TH hmxr7 hkxr7 (by decide) rfl rfl (i := x1) (vp_in_iff.mpr ⟨by  omega, by  omega⟩) dX12_isAhead_49 (fun xr10 exr10 hmxr10 hkxr10 => ?_)
    have ezxr10 : xr8 = xr10 := exr8.symm.trans exr10
    subst ezxr10
    refine lv_iload_n hx hb dX12_isAhead_50 rfl (lv_at hl 3 rfl) ?_
    refine tw_lald2 (k := 327) (n := 150) (lo := 0) (hi := 0) hx hb hK TH hmxr8 hkxr8 (by decide) rfl (i := x3) (vp_in_iff.mpr ⟨by  omega, by  omega⟩) dX12_isAhead_51 (fun xl11 exl11 => ?_)
    refine W.lcmp hx hb dX12_isAhead_52 ?_
    have hzi12 := ia_lc xl9 xl11
    generalize lg_cmp xl9 xl11 = zi12 at hzi12 ⊢
    refine lv_if_eq (tgt := 76) hx hb dX12_isAhead_53 (by decide) (fun hc13 => ?_) (fun hc13 => ?_)
    · have hf14 : zi12.toInt = 0 := by have z := (fa_eq _ _).mp hc13; have : ((0 : Int32).toInt) = 0 := (by decide); omega
      refine lv_iload_n hx hb dX12_isAhead_76 rfl (lv_at hl 2 rfl) ?_
      refine lv_iload_n hx hb dX12_isAhead_77 rfl (lv_at hl 3 rfl) ?_
      refine lv_icmp_ge (tgt := 85) hx hb dX12_isAhead_78 (by decide) (fun hc15 => ?_) (fun hc15 => ?_)
      · have hf16 : x3.toInt ≤ x2.toInt := by have z := (fa_le _ _).mp hc15;  omega
        refine lv_iconst (v := 0) hx hb dX12_isAhead_85 (by decide) ?_
        exact tw_zret hx hb hr hlocks (by decide) TH hS hex ⟨⟨_, rfl, (show 0 ≤ Int32.toInt 0 from by have : ((0 : Int32).toInt) = 0 := (by decide); omega), (show Int32.toInt 0 ≤ 1 from by have : ((0 : Int32).toInt) = 0 := (by decide); omega), (by have : ((0 : Int32).toInt) = 0 := (by decide); have k0 := hpoxc2_0; have k1 := hpoxc4_0; have rf_xl9 : rw_w E a0 (x1.toInt) (x2.toInt).toNat = xl9.toInt := rw_w_of (m := a0) (i := x1) (c := x2) hxr7 exr8 exl9; have rf_xl11 : rw_w E a0 (x1.toInt) (x3.toInt).toNat = xl11.toInt := rw_w_of (m := a0) (i := x1) (c := x3) hxr7 exr8 exl11; unfold ah; have ex15 : x1.toInt = 15 := (by omega); (try rw [ex15] at rf_xl9); (try rw [ex15] at rf_xl11); omega)⟩, rfl, rfl, rfl⟩ (Nat.le_of_ble_eq_true rfl) (Nat.le_of_ble_eq_true rfl) dX12_isAhead_86
      · have hf17 : ¬ (x3.toInt ≤ x2.toInt) := fun q => hc15 ((fa_le _ _).mpr (by  omega))
        refine lv_iconst (v := 1) hx hb dX12_isAhead_81 (by decide) ?_
        refine lv_goto (tgt := 86) hx hb dX12_isAhead_82 (by decide) ?_
        exact tw_zret hx hb hr hlocks (by decide) TH hS hex ⟨⟨_, rfl, (show 0 ≤ Int32.toInt 1 from by have : ((1 : Int32).toInt) = 1 := (by decide); omega), (show Int32.toInt 1 ≤ 1 from by have : ((1 : Int32).toInt) = 1 := (by decide); omega), (by have : ((1 : Int32).toInt) = 1 := (by decide); have k0 := hpoxc2_0; have k1 := hpoxc4_0; have rf_xl9 : rw_w E a0 (x1.toInt) (x2.toInt).toNat = xl9.toInt := rw_w_of (m := a0) (i := x1) (c := x2) hxr7 exr8 exl9; have rf_xl11 : rw_w E a0 (x1.toInt) (x3.toInt).toNat = xl11.toInt := rw_w_of (m := a0) (i := x1) (c := x3) hxr7 exr8 exl11; unfold ah; have ex15 : x1.toInt = 15 := (by omega); (try rw [ex15] at rf_xl9); (try rw [ex15] at rf_xl11); omega)⟩, rfl, rfl, rfl⟩ (Nat.le_of_ble_eq_true rfl) (Nat.le_of_ble_eq_true rfl) dX12_isAhead_86
    · have hf18 : ¬ (zi12.toInt = 0) := fun q => hc13 ((fa_eq _ _).mpr (by have : ((0 : Int32).toInt) = 0 := (by decide); omega))
      refine lv_aload_n hx hb dX12_isAhead_56 rfl (lv_at hl 0 rfl) ?_
      refine tw_get (ci := 12) (C := RX12) (T := TX12) (N := 64) hx hb hB cx_inX12 hown hK TH hm0 hk0 rfl ⟨by decide, rfl⟩ 17 (by decide) cw_1210 (fun _ h9 => h9) dX12_isAhead_57 (fun hv => ?_)
      rw [hxr7]
      refine lv_iload_n hx hb dX12_isAhead_60 rfl (lv_at hl 1 rfl) ?_
      refine tw_aald (k := 317) (t0 := 6) (n := 16) (lo := 327) (hi := 0) (ty := .long) hx hb hK TH hmxr7 hkxr7 (by decide) rfl rfl (i := x1) (vp_in_iff.mpr ⟨by  omega, by  omega⟩) dX12_isAhead_61 (fun xr19 exr19 hmxr19 hkxr19 => ?_)
      have ezxr19 : xr8 = xr19 := exr8.symm.trans exr19
      subst ezxr19
      refine lv_iload_n hx hb dX12_isAhead_62 rfl (lv_at hl 2 rfl) ?_
      refine tw_lald2 (k := 327) (n := 150) (lo := 0) (hi := 0) hx hb hK TH hmxr8 hkxr8 (by decide) rfl (i := x2) (vp_in_iff.mpr ⟨by  omega, by  omega⟩) dX12_isAhead_63 (fun xl20 exl20 => ?_)
      refine lv_aload_n hx hb dX12_isAhead_64 rfl (lv_at hl 0 rfl) ?_
      refine tw_get (ci := 12) (C := RX12) (T := TX12) (N := 64) hx hb hB cx_inX12 hown hK TH hm0 hk0 rfl ⟨by decide, rfl⟩ 17 (by decide) cw_1210 (fun _ h9 => h9) dX12_isAhead_65 (fun hv => ?_)
      rw [hxr7]
      refine lv_iload_n hx hb dX12_isAhead_68 rfl (lv_at hl 1 rfl) ?_
      refine tw_aald (k := 317) (t0 := 6) (n := 16) (lo := 327) (hi := 0) (ty := .long) hx hb hK TH hmxr7 hkxr7 (by decide) rfl rfl (i := x1) (vp_in_iff.mpr ⟨by  omega, by  omega⟩) dX12_isAhead_69 (fun xr21 exr21 hmxr21 hkxr21 => ?_)
      have ezxr21 : xr8 = xr21 := exr8.symm.trans exr21
      subst ezxr21
      refine lv_iload_n hx hb dX12_isAhead_70 rfl (lv_at hl 3 rfl) ?_
      refine tw_lald2 (k := 327) (n := 150) (lo := 0) (hi := 0) hx hb hK TH hmxr8 hkxr8 (by decide) rfl (i := x3) (vp_in_iff.mpr ⟨by  omega, by  omega⟩) dX12_isAhead_71 (fun xl22 exl22 => ?_)
      refine tw_Sc (n := 2) (post := (fun v kq Lq Eq => (∃ x : Int32, v = some (.int x) ∧ 0 ≤ x.toInt ∧ x.toInt ≤ 1 ∧ (x.toInt ≠ 0 ↔ lj_i xl20.toInt < lj_i xl22.toInt)) ∧ kp = kq ∧ L = Lq ∧ E = Eq)) (As := [.long xl20, .long xl22]) (rest := []) ⟨hx, hb, hml, hown, hB⟩ (fun sz => tX12_isLess_vE l D cs xl20 xl22  sz) cg_12_304_X12_isLess rfl rfl (by decide +kernel) ⟨Nat.le_of_ble_eq_true rfl, Nat.le_of_ble_eq_true rfl⟩ hK hN TH hS hA rfl hl.1 rfl (Nat.le_of_ble_eq_true rfl) dX12_isAhead_72 ⟨Nat.le_of_ble_eq_true rfl, Nat.le_of_ble_eq_true rfl⟩ (fun v23 kp23 L23 E23 H locs hq23 hx23 TH hS => ?_)
      obtain ⟨⟨xc24, rfl, hxc24a, hxc24b, hpoxc24_0⟩, rfl, rfl, rfl⟩ := hq23
      refine W.eq (g2 := F0 m 75 ls [.int xc24]) rfl ?_
      exact tw_zret hx hb hr hlocks (ia_bool (by omega) (by omega)) TH hS hex ⟨⟨_, rfl, (show 0 ≤ Int32.toInt xc24 from by  omega), (show Int32.toInt xc24 ≤ 1 from by  omega), (by  have k0 := hpoxc2_0; have k1 := hpoxc4_0; have rf_xl9 : rw_w E a0 (x1.toInt) (x2.toInt).toNat = xl9.toInt := rw_w_of (m := a0) (i := x1) (c := x2) hxr7 exr8 exl9; have rf_xl11 : rw_w E a0 (x1.toInt) (x3.toInt).toNat = xl11.toInt := rw_w_of (m := a0) (i := x1) (c := x3) hxr7 exr8 exl11; have rf_xl20 : rw_w E a0 (x1.toInt) (x2.toInt).toNat = xl20.toInt := rw_w_of (m := a0) (i := x1) (c := x2) hxr7 exr8 exl20; have rf_xl22 : rw_w E a0 (x1.toInt) (x3.toInt).toNat = xl22.toInt := rw_w_of (m := a0) (i := x1) (c := x3) hxr7 exr8 exl22; unfold ah; have ex15 : x1.toInt = 15 := (by omega); (try rw [ex15] at rf_xl9); (try rw [ex15] at rf_xl11); (try rw [ex15] at rf_xl20); (try rw [ex15] at rf_xl22); have e13 : xl9.toInt = xl20.toInt := (rf_xl9).symm.trans rf_xl20; have e24 : xl11.toInt = xl22.toInt := (rf_xl11).symm.trans rf_xl22; have hl := hpoxc24_0; rw [← rf_xl20, ← rf_xl22] at hl; omega)⟩, rfl, rfl, rfl⟩ (Nat.le_of_ble_eq_true rfl) (Nat.le_of_ble_eq_true rfl) dX12_isAhead_75
  · have hf25 : ¬ (xc2.toInt = xc4.toInt) := fun q => hc5 ((fa_eq _ _).mpr (by  omega))
    refine lv_aload_n hx hb dX12_isAhead_15 rfl (lv_at hl 0 rfl) ?_
    refine lv_iload_n hx hb dX12_isAhead_16 rfl (lv_at hl 1 rfl) ?_
    refine lv_iload_n hx hb dX12_isAhead_17 rfl (lv_at hl 2 rfl) ?_
    refine tw_Vc (o := a0) (ci := 12) (n := 2) (post := (fun v kq Lq Eq => (∃ x : Int32, v = some (.int x) ∧ 0 ≤ x.toInt ∧ x.toInt ≤ 9 ∧ (x.toInt = tw_el E a0 22 (x2.toInt).toNat)) ∧ kp = kq ∧ L = Lq ∧ E = Eq)) (As := [.int x1, .int x2]) (rest := []) ⟨hx, hb, hml, hown, hB⟩ (fun sz => tX12_kindOf_vT l D cs a0 x1 x2 hm0 hk0 (by omega) (by omega) (by omega) (by omega) sz) cg_12_301_X12_kindOf rfl rfl (by decide +kernel) ⟨Nat.le_of_ble_eq_true rfl, Nat.le_of_ble_eq_true rfl⟩ hK hN TH hS hA rfl hm0 hk0 (by decide) rfl hl.1 rfl (Nat.le_of_ble_eq_true rfl) dX12_isAhead_18 ⟨Nat.le_of_ble_eq_true rfl, Nat.le_of_ble_eq_true rfl⟩ (fun v26 kp26 L26 E26 H locs hq26 hx26 TH hS => ?_)
    obtain ⟨⟨xc27, rfl, hxc27a, hxc27b, hpoxc27_0⟩, rfl, rfl, rfl⟩ := hq26
    refine W.eq (g2 := F0 m 21 ls [.int xc27]) rfl ?_
    refine lv_aload_n hx hb dX12_isAhead_21 rfl (lv_at hl 0 rfl) ?_
    refine lv_iload_n hx hb dX12_isAhead_22 rfl (lv_at hl 1 rfl) ?_
    refine lv_iload_n hx hb dX12_isAhead_23 rfl (lv_at hl 3 rfl) ?_
    refine tw_Vc (o := a0) (ci := 12) (n := 2) (post := (fun v kq Lq Eq => (∃ x : Int32, v = some (.int x) ∧ 0 ≤ x.toInt ∧ x.toInt ≤ 9 ∧ (x.toInt = tw_el E a0 22 (x3.toInt).toNat)) ∧ kp = kq ∧ L = Lq ∧ E = Eq)) (As := [.int x1, .int x3]) (rest := [.int xc27]) ⟨hx, hb, hml, hown, hB⟩ (fun sz => tX12_kindOf_vT l D cs a0 x1 x3 hm0 hk0 (by omega) (by omega) (by omega) (by omega) sz) cg_12_301_X12_kindOf rfl rfl (by decide +kernel) ⟨Nat.le_of_ble_eq_true rfl, Nat.le_of_ble_eq_true rfl⟩ hK hN TH hS hA rfl hm0 hk0 (by decide) rfl hl.1 rfl (Nat.le_of_ble_eq_true rfl) dX12_isAhead_24 ⟨Nat.le_of_ble_eq_true rfl, Nat.le_of_ble_eq_true rfl⟩ (fun v28 kp28 L28 E28 H locs hq28 hx28 TH hS => ?_)
    obtain ⟨⟨xc29, rfl, hxc29a, hxc29b, hpoxc29_0⟩, rfl, rfl, rfl⟩ := hq28
    refine W.eq (g2 := F0 m 27 ls [.int xc29, .int xc27]) rfl ?_
    refine lv_icmp_ge (tgt := 34) hx hb dX12_isAhead_27 (by decide) (fun hc30 => ?_) (fun hc30 => ?_)
    · have hf31 : xc29.toInt ≤ xc27.toInt := by have z := (fa_le _ _).mp hc30;  omega
      refine lv_iconst (v := 0) hx hb dX12_isAhead_34 (by decide) ?_
      exact tw_zret hx hb hr hlocks (by decide) TH hS hex ⟨⟨_, rfl, (show 0 ≤ Int32.toInt 0 from by have : ((0 : Int32).toInt) = 0 := (by decide); omega), (show Int32.toInt 0 ≤ 1 from by have : ((0 : Int32).toInt) = 0 := (by decide); omega), (by have : ((0 : Int32).toInt) = 0 := (by decide); have k0 := hpoxc2_0; have k1 := hpoxc4_0; have k2 := hpoxc27_0; have k3 := hpoxc29_0; unfold ah; have ex15 : x1.toInt = 15 := (by omega); omega)⟩, rfl, rfl, rfl⟩ (Nat.le_of_ble_eq_true rfl) (Nat.le_of_ble_eq_true rfl) dX12_isAhead_35
    · have hf32 : ¬ (xc29.toInt ≤ xc27.toInt) := fun q => hc30 ((fa_le _ _).mpr (by  omega))
      refine lv_iconst (v := 1) hx hb dX12_isAhead_30 (by decide) ?_
      refine lv_goto (tgt := 35) hx hb dX12_isAhead_31 (by decide) ?_
      exact tw_zret hx hb hr hlocks (by decide) TH hS hex ⟨⟨_, rfl, (show 0 ≤ Int32.toInt 1 from by have : ((1 : Int32).toInt) = 1 := (by decide); omega), (show Int32.toInt 1 ≤ 1 from by have : ((1 : Int32).toInt) = 1 := (by decide); omega), (by have : ((1 : Int32).toInt) = 1 := (by decide); have k0 := hpoxc2_0; have k1 := hpoxc4_0; have k2 := hpoxc27_0; have k3 := hpoxc29_0; unfold ah; have ex15 : x1.toInt = 15 := (by omega); omega)⟩, rfl, rfl, rfl⟩ (Nat.le_of_ble_eq_true rfl) (Nat.le_of_ble_eq_true rfl) dX12_isAhead_35
set_option maxHeartbeats 4000000 in
set_option maxRecDepth 100000 in
theorem tX12_orders_vT (l : Launch) (D : va_G) (cs : Nat → ClassId) {kp : Nat → Nat} {L : List Nat} {E : Nat → va_E} (a0 : Nat) (x1 : Int32) (fv0_28 : Int32) (hm0 : a0 ∈ L) (hk0 : kp a0 = 12) (hp1a : 15 ≤ x1.toInt) (hp1b : x1.toInt ≤ 15) (hfv0_28 : tw_fv E a0 28 = .int fv0_28) (hg0 : th_ok E a0 (fv0_28.toInt)) (hg1 : tp_ok E a0 (fv0_28.toInt)) (sz : Nat) : Met l yX12_orders (.code yX12_orders cX12_orders 5 none :: cx_big) { frames := 3, cells := 0, slots := 0, locals := 74 } (tw_P D cs kp L E [.ref a0, .int x1] sz) (tw_Q D cs kp L (fun v kq Lq Eq => v = none ∧ kp = kq ∧ L = Lq ∧ tw_fr kp L [] [329] E Eq ∧ (oq_ok Eq a0 E 150)) (va_A (va_pl L E) sz)) 0 0 (va_A (va_pl L E) sz) := by
  refine tw_ofW (by decide) (Nat.le_of_ble_eq_true rfl) ?_
  intro p e s m below meth c A ls hx hb hr hml hB hown hlocks hK hN hA TH hS hl
  have hown : s.vm.findClass "TreeMergeModel" = some m.cls := hown
  have hl : lv_has ls 5 [(0, .ref a0), (1, .int x1)] := hl
  obtain ⟨kp0, ekp⟩ : ∃ z, z = kp := ⟨_, rfl⟩
  obtain ⟨L0, eL⟩ : ∃ z, z = L := ⟨_, rfl⟩
  rw [show tw_Q D cs kp L = tw_Q D cs kp0 L0 by rw [ekp, eL]]
  have hex : ∀ a : Nat, a ∈ L0 → a ∈ L ∧ kp a = kp0 a := fun a h => ⟨by rw [← eL]; exact h, by rw [ekp]⟩
  have hF : tw_fr kp L [] [329] E E := tw_fr.rf
  obtain ⟨qfv0_28, hqfv0_28, hqfv0_28a, hqfv0_28b⟩ := tw_rd TH hm0 hk0 (by decide) (by decide) (k := 28) rfl
  have eqfv0_28 : qfv0_28 = fv0_28 := by have q := hqfv0_28.symm.trans hfv0_28; injection q
  rw [eqfv0_28] at hqfv0_28a hqfv0_28b
  have hoq0 : oq_ok E a0 E (0) := oq_zero rfl
  have hth := hg0
  have htp := hg1
  have hth1 := hth.1
  refine lv_iconst (v := 0) hx hb dX12_orders_0 (by decide) ?_
  refine lv_istore_n (lv' := [(2, .int 0), (0, .ref a0), (1, .int x1)]) hx hb dX12_orders_1 rfl hl (by decide) rfl (fun ls hl => ?_)
  have hJ2 : ∀ (n2 : Nat) (y2_2 : Int32) (Eg2 : Nat → va_E) (H : Heap) (locs : List Loc) (ls : Array Slot), 0 ≤ y2_2.toInt → y2_2.toInt ≤ 150 → 150 - y2_2.toInt ≤ (n2 : Int) → tw_fr kp L [] [329] E Eg2 → oq_ok Eg2 a0 E (y2_2.toInt) → tw_H D cs kp L Eg2 A H → va_S A s.heap H locs → lv_has ls 5 [(2, .int y2_2), (0, .ref a0), (1, .int x1)] → W p l e { frames := 3, cells := 0, slots := 0, locals := 74 } s m [.ref a0, .int x1].toArray below meth c H locs 0 0 (MQ below (tw_Q D cs kp0 L0 (fun v kq Lq Eq => v = none ∧ kp = kq ∧ L = Lq ∧ tw_fr kp L [] [329] E Eq ∧ (oq_ok Eq a0 E 150)) A) [.ref a0, .int x1].toArray s 0 0 A) (F0 m 2 ls []) := by
    intro n2
    induction n2 using Nat.strongRecOn with
    | _ n2 ih2 =>
      intro y2_2 Eg2 H locs ls hy2_2a hy2_2b hmeas2 hG2 hcg2_0 TH hS hl
      have hF := hF.tr hG2 (fun _ h => ⟨h, rfl⟩) (by decide) (by decide)
      have hmf1 : tw_fv Eg2 a0 28 = .int fv0_28 := (hG2.1 a0 28 hm0 (by rw [hk0]; decide)).trans hfv0_28
      refine lv_iload_n hx hb dX12_orders_2 rfl (lv_at hl 0 rfl) ?_
      refine lv_sipush (v := 150) hx hb dX12_orders_3 (by decide) ?_
      refine lv_icmp_ge (tgt := 148) hx hb dX12_orders_6 (by decide) (fun hc2 => ?_) (fun hc2 => ?_)
      · have hf3 : 150 ≤ y2_2.toInt := by have z := (fa_le _ _).mp hc2; have : ((150 : Int32).toInt) = 150 := (by decide); omega
        exact tw_vret hx hb hr hlocks TH hS hex ⟨rfl, rfl, rfl, hF, (by  exact oq_ok_cast (by omega) hcg2_0)⟩ (Nat.le_of_ble_eq_true rfl) (Nat.le_of_ble_eq_true rfl) dX12_orders_148
      · have hf4 : ¬ (150 ≤ y2_2.toInt) := fun q => hc2 ((fa_le _ _).mpr (by have : ((150 : Int32).toInt) = 150 := (by decide); omega))
        refine lv_aload_n hx hb dX12_orders_9 rfl (lv_at hl 1 rfl) ?_
        refine tw_get (ci := 12) (C := RX12) (T := TX12) (N := 64) hx hb hB cx_inX12 hown hK TH hm0 hk0 rfl ⟨by decide, rfl⟩ 16 (by decide) cw_1209 (fun _ h9 => h9) dX12_orders_10 (fun hv => ?_)
        obtain ⟨xr5, hxr5, hmxr5, hkxr5⟩ : ∃ a : Nat, tw_fv Eg2 a0 16 = .ref a ∧ a ∈ L ∧ kp a = 316 := hv
        rw [hxr5]
        refine lv_iload_n hx hb dX12_orders_13 rfl (lv_at hl 2 rfl) ?_
        refine tw_aald (k := 316) (t0 := 5) (n := 16) (lo := 326) (hi := 0) (ty := .boolean) hx hb hK TH hmxr5 hkxr5 (by decide) rfl rfl (i := x1) (vp_in_iff.mpr ⟨by  omega, by  omega⟩) dX12_orders_14 (fun xr6 exr6 hmxr6 hkxr6 => ?_)
        have hkxr6 : kp xr6 = 326 := hkxr6
        refine lv_iload_n hx hb dX12_orders_15 rfl (lv_at hl 0 rfl) ?_
        refine tw_zald (k := 326) (t0 := 3) (n := 150) (lo := 0) (hi := 1) hx hb hK TH hmxr6 hkxr6 (by decide) rfl rfl (i := y2_2) (vp_in_iff.mpr ⟨by  omega, by  omega⟩) dX12_orders_16 (fun hxe7a hxe7b => ?_)
        obtain ⟨xe7, exe7⟩ : ∃ z : Int32, tw_iv Eg2 xr6 (Int32.toNatClampNeg y2_2) = z := ⟨_, rfl⟩
        rw [exe7] at hxe7a hxe7b ⊢
        refine lv_if_eq (tgt := 142) hx hb dX12_orders_17 (by decide) (fun hc8 => ?_) (fun hc8 => ?_)
        · have hf9 : xe7.toInt = 0 := by have z := (fa_eq _ _).mp hc8; have : ((0 : Int32).toInt) = 0 := (by decide); omega
          have rf_xe7 : rw_h Eg2 a0 (x1.toInt) (y2_2.toInt).toNat = xe7.toInt := rw_h_of (m := a0) (i := x1) (c := y2_2) hxr5 exr6 exe7
          have fh := rw_h_fr TH hF hm0 hk0 (by decide) (by decide) (by decide) (i := 15) (by decide)
          have fp := rw_p_fr TH hF hm0 hk0 (by decide) (by decide) (by decide) (i := 15) (by decide)
          have fw := rw_w_fr TH hF hm0 hk0 (by decide) (by decide) (by decide) (i := 15) (by decide)
          have fk := el_fr TH hF hm0 hk0 (k := 22) (by decide) rfl (by decide) (by decide) (by decide)
          have fs := el_fr TH hF hm0 hk0 (k := 33) (by decide) rfl (by decide) (by decide) (by decide)
          have ex15 : x1.toInt = 15 := (by omega)
          (try rw [ex15] at rf_xe7)
          (try rw [fh] at rf_xe7)
          (try rw [fp] at rf_xe7)
          have hoq142 : oq_ok Eg2 a0 E (y2_2.toInt + 1) := oq_skip hcg2_0 (by omega) rfl (fun z => (by have z2 := z.1; rw [rf_xe7] at z2; omega))
          obtain ⟨zi10, ezi10⟩ : ∃ z : Int32, z = y2_2 + Int32.ofInt 1 := ⟨_, rfl⟩
          have hzi10 : zi10.toInt = y2_2.toInt + 1 := by rw [ezi10]; have : ((Int32.ofInt 1).toInt) = 1 := (by decide);  exact (ia_add (by omega) (by omega)).trans (by omega)
          refine lv_iinc (v := zi10) (lv' := [(2, .int zi10), (0, .ref a0), (1, .int x1)]) hx hb dX12_orders_142 hl (k := 0) rfl ezi10.symm (by decide) rfl (fun ls hl => ?_)
          refine lv_goto (tgt := 2) hx hb dX12_orders_145 (by decide) ?_
          exact ih2 (n2 - 1) (by   omega) zi10 _ _ _ ls (by omega) (by omega) (by   omega) hG2 (oq_ok_cast (by  omega) hoq142) TH hS (lv_sub hl [0, 1, 2] rfl)
        · have hf11 : ¬ (xe7.toInt = 0) := fun q => hc8 ((fa_eq _ _).mpr (by have : ((0 : Int32).toInt) = 0 := (by decide); omega))
          refine lv_aload_n hx hb dX12_orders_20 rfl (lv_at hl 1 rfl) ?_
          refine tw_get (ci := 12) (C := RX12) (T := TX12) (N := 64) hx hb hB cx_inX12 hown hK TH hm0 hk0 rfl ⟨by decide, rfl⟩ 18 (by decide) cw_1211 (fun _ h9 => h9) dX12_orders_21 (fun hv => ?_)
          obtain ⟨xr12, hxr12, hmxr12, hkxr12⟩ : ∃ a : Nat, tw_fv Eg2 a0 18 = .ref a ∧ a ∈ L ∧ kp a = 318 := hv
          rw [hxr12]
          refine lv_iload_n hx hb dX12_orders_24 rfl (lv_at hl 2 rfl) ?_
          refine tw_aald (k := 318) (t0 := 4) (n := 16) (lo := 328) (hi := 0) (ty := .int) hx hb hK TH hmxr12 hkxr12 (by decide) rfl rfl (i := x1) (vp_in_iff.mpr ⟨by  omega, by  omega⟩) dX12_orders_25 (fun xr13 exr13 hmxr13 hkxr13 => ?_)
          have hkxr13 : kp xr13 = 328 := hkxr13
          refine lv_iload_n hx hb dX12_orders_26 rfl (lv_at hl 0 rfl) ?_
          refine tw_iald (k := 328) (t0 := 0) (n := 150) (lo := (-1)) (hi := 149) hx hb hK TH hmxr13 hkxr13 (by decide) rfl rfl (i := y2_2) (vp_in_iff.mpr ⟨by  omega, by  omega⟩) dX12_orders_27 (fun hxe14a hxe14b => ?_)
          obtain ⟨xe14, exe14⟩ : ∃ z : Int32, tw_iv Eg2 xr13 (Int32.toNatClampNeg y2_2) = z := ⟨_, rfl⟩
          rw [exe14] at hxe14a hxe14b ⊢
          refine lv_iconst (v := (-1)) hx hb dX12_orders_28 (by decide) ?_
          refine lv_icmp_eq (tgt := 142) hx hb dX12_orders_29 (by decide) (fun hc15 => ?_) (fun hc15 => ?_)
          · have hf16 : xe14.toInt = (-1) := by have z := (fa_eq _ _).mp hc15; have : (((-1) : Int32).toInt) = (-1) := (by decide); omega
            have rf_xe7 : rw_h Eg2 a0 (x1.toInt) (y2_2.toInt).toNat = xe7.toInt := rw_h_of (m := a0) (i := x1) (c := y2_2) hxr5 exr6 exe7
            have rf_xe14 : rw_p Eg2 a0 (x1.toInt) (y2_2.toInt).toNat = xe14.toInt := rw_p_of (m := a0) (i := x1) (c := y2_2) hxr12 exr13 exe14
            have fh := rw_h_fr TH hF hm0 hk0 (by decide) (by decide) (by decide) (i := 15) (by decide)
            have fp := rw_p_fr TH hF hm0 hk0 (by decide) (by decide) (by decide) (i := 15) (by decide)
            have fw := rw_w_fr TH hF hm0 hk0 (by decide) (by decide) (by decide) (i := 15) (by decide)
            have fk := el_fr TH hF hm0 hk0 (k := 22) (by decide) rfl (by decide) (by decide) (by decide)
            have fs := el_fr TH hF hm0 hk0 (k := 33) (by decide) rfl (by decide) (by decide) (by decide)
            have ex15 : x1.toInt = 15 := (by omega)
            (try rw [ex15] at rf_xe7)
            (try rw [ex15] at rf_xe14)
            (try rw [fh] at rf_xe7)
            (try rw [fh] at rf_xe14)
            (try rw [fp] at rf_xe7)
            (try rw [fp] at rf_xe14)
            have hoq142 : oq_ok Eg2 a0 E (y2_2.toInt + 1) := oq_skip hcg2_0 (by omega) rfl (fun z => (by have z2 := z.2.1; rw [rf_xe14] at z2; omega))
            obtain ⟨zi17, ezi17⟩ : ∃ z : Int32, z = y2_2 + Int32.ofInt 1 := ⟨_, rfl⟩
            have hzi17 : zi17.toInt = y2_2.toInt + 1 := by rw [ezi17]; have : ((Int32.ofInt 1).toInt) = 1 := (by decide);  exact (ia_add (by omega) (by omega)).trans (by omega)
            refine lv_iinc (v := zi17) (lv' := [(2, .int zi17), (0, .ref a0), (1, .int x1)]) hx hb dX12_orders_142 hl (k := 0) rfl ezi17.symm (by decide) rfl (fun ls hl => ?_)
            refine lv_goto (tgt := 2) hx hb dX12_orders_145 (by decide) ?_
            exact ih2 (n2 - 1) (by   omega) zi17 _ _ _ ls (by omega) (by omega) (by   omega) hG2 (oq_ok_cast (by  omega) hoq142) TH hS (lv_sub hl [0, 1, 2] rfl)
          · have hf18 : ¬ (xe14.toInt = (-1)) := fun q => hc15 ((fa_eq _ _).mpr (by have : (((-1) : Int32).toInt) = (-1) := (by decide); omega))
            refine lv_aload_n hx hb dX12_orders_32 rfl (lv_at hl 1 rfl) ?_
            refine tw_get (ci := 12) (C := RX12) (T := TX12) (N := 64) hx hb hB cx_inX12 hown hK TH hm0 hk0 rfl ⟨by decide, rfl⟩ 33 (by decide) cw_1226 (fun _ h9 => h9) dX12_orders_33 (fun hv => ?_)
            obtain ⟨xr19, hxr19, hmxr19, hkxr19⟩ : ∃ a : Nat, tw_fv Eg2 a0 33 = .ref a ∧ a ∈ L ∧ kp a = 339 := hv
            rw [hxr19]
            refine lv_aload_n hx hb dX12_orders_36 rfl (lv_at hl 1 rfl) ?_
            refine lv_iload_n hx hb dX12_orders_37 rfl (lv_at hl 2 rfl) ?_
            refine lv_aload_n hx hb dX12_orders_38 rfl (lv_at hl 1 rfl) ?_
            refine tw_get (ci := 12) (C := RX12) (T := TX12) (N := 64) hx hb hB cx_inX12 hown hK TH hm0 hk0 rfl ⟨by decide, rfl⟩ 18 (by decide) cw_1211 (fun _ h9 => h9) dX12_orders_39 (fun hv => ?_)
            rw [hxr12]
            refine lv_iload_n hx hb dX12_orders_42 rfl (lv_at hl 2 rfl) ?_
            refine tw_aald (k := 318) (t0 := 4) (n := 16) (lo := 328) (hi := 0) (ty := .int) hx hb hK TH hmxr12 hkxr12 (by decide) rfl rfl (i := x1) (vp_in_iff.mpr ⟨by  omega, by  omega⟩) dX12_orders_43 (fun xr20 exr20 hmxr20 hkxr20 => ?_)
            have ezxr20 : xr13 = xr20 := exr13.symm.trans exr20
            subst ezxr20
            refine lv_iload_n hx hb dX12_orders_44 rfl (lv_at hl 0 rfl) ?_
            refine tw_iald (k := 328) (t0 := 0) (n := 150) (lo := (-1)) (hi := 149) hx hb hK TH hmxr13 hkxr13 (by decide) rfl rfl (i := y2_2) (vp_in_iff.mpr ⟨by  omega, by  omega⟩) dX12_orders_45 (fun hxe21a hxe21b => ?_)
            rw [exe14]
            have rf_xe7 : rw_h Eg2 a0 (x1.toInt) (y2_2.toInt).toNat = xe7.toInt := rw_h_of (m := a0) (i := x1) (c := y2_2) hxr5 exr6 exe7
            have rf_xe14 : rw_p Eg2 a0 (x1.toInt) (y2_2.toInt).toNat = xe14.toInt := rw_p_of (m := a0) (i := x1) (c := y2_2) hxr12 exr13 exe14
            have fh := rw_h_fr TH hF hm0 hk0 (by decide) (by decide) (by decide) (i := 15) (by decide)
            have fp := rw_p_fr TH hF hm0 hk0 (by decide) (by decide) (by decide) (i := 15) (by decide)
            have fw := rw_w_fr TH hF hm0 hk0 (by decide) (by decide) (by decide) (i := 15) (by decide)
            have fk := el_fr TH hF hm0 hk0 (k := 22) (by decide) rfl (by decide) (by decide) (by decide)
            have fs := el_fr TH hF hm0 hk0 (k := 33) (by decide) rfl (by decide) (by decide) (by decide)
            have ex15 : x1.toInt = 15 := (by omega)
            (try rw [ex15] at rf_xe7)
            (try rw [ex15] at rf_xe14)
            (try rw [fh] at rf_xe7)
            (try rw [fh] at rf_xe14)
            (try rw [fp] at rf_xe7)
            (try rw [fp] at rf_xe14)
            have hn46 := (hth.2 (y2_2.toInt).toNat (by omega)).mp (by rw [rf_xe7]; omega)
            have hp46 := htp (y2_2.toInt).toNat hn46
            rw [rf_xe14] at hp46
            refine tw_Vc (o := a0) (ci := 12) (n := 2) (post := (fun v kq Lq Eq => (∃ x : Int32, v = some (.int x) ∧ 0 ≤ x.toInt ∧ x.toInt ≤ 9 ∧ (x.toInt = tw_el Eg2 a0 22 (xe14.toInt).toNat)) ∧ kp = kq ∧ L = Lq ∧ Eg2 = Eq)) (As := [.int x1, .int xe14]) (rest := [.ref xr19]) ⟨hx, hb, hml, hown, hB⟩ (fun sz => tX12_kindOf_vT l D cs a0 x1 xe14 hm0 hk0 (by omega) (by omega) (by omega) (by omega) sz) cg_12_301_X12_kindOf rfl rfl (by decide +kernel) ⟨Nat.le_of_ble_eq_true rfl, Nat.le_of_ble_eq_true rfl⟩ hK hN TH hS hA rfl hm0 hk0 (by decide) rfl hl.1 rfl (Nat.le_of_ble_eq_true rfl) dX12_orders_46 ⟨Nat.le_of_ble_eq_true rfl, Nat.le_of_ble_eq_true rfl⟩ (fun v22 kp22 L22 E22 H locs hq22 hx22 TH hS => ?_)
            obtain ⟨⟨xc23, rfl, hxc23a, hxc23b, hpoxc23_0⟩, rfl, rfl, rfl⟩ := hq22
            refine W.eq (g2 := F0 m 49 ls [.int xc23, .ref xr19]) rfl ?_
            refine tw_iald (k := 339) (t0 := 0) (n := 10) (lo := 0) (hi := 2) hx hb hK TH hmxr19 hkxr19 (by decide) rfl rfl (i := xc23) (vp_in_iff.mpr ⟨by  omega, by  omega⟩) dX12_orders_49 (fun hxe24a hxe24b => ?_)
            obtain ⟨xe24, exe24⟩ : ∃ z : Int32, tw_iv Eg2 xr19 (Int32.toNatClampNeg xc23) = z := ⟨_, rfl⟩
            rw [exe24] at hxe24a hxe24b ⊢
            have hk50 := hpoxc23_0
            rw [fk] at hk50
            have hs50 : tw_el E a0 33 (xc23.toInt).toNat = xe24.toInt := (by rw [← fs, tw_el_of hxr19]; exact congrArg Int32.toInt exe24)
            refine lv_iconst (v := 1) hx hb dX12_orders_50 (by decide) ?_
            refine lv_icmp_eq (tgt := 57) hx hb dX12_orders_51 (by decide) (fun hc25 => ?_) (fun hc25 => ?_)
            · have hf26 : xe24.toInt = 1 := by have z := (fa_eq _ _).mp hc25; have : ((1 : Int32).toInt) = 1 := (by decide); omega
              have hst : st_p E a0 (y2_2.toInt).toNat := (by unfold st_p; rw [rf_xe14, ← hk50, hs50]; omega)
              refine lv_iconst (v := 0) hx hb dX12_orders_57 (by decide) ?_
              refine lv_istore_n (lv' := [(3, .int 0), (2, .int y2_2), (0, .ref a0), (1, .int x1)]) hx hb dX12_orders_58 rfl hl (by decide) rfl (fun ls hl => ?_)
              refine lv_iconst (v := 0) hx hb dX12_orders_59 (by decide) ?_
              refine lv_istore (lv' := [(4, .int 0), (3, .int 0), (2, .int y2_2), (0, .ref a0), (1, .int x1)]) hx hb dX12_orders_60 hl (by decide) rfl (fun ls hl => ?_)
              have hJ62 : ∀ (n62 : Nat) (y62_4 : Int32) (y62_3 : Int32) (H : Heap) (locs : List Loc) (ls : Array Slot), 0 ≤ y62_4.toInt → y62_4.toInt ≤ 150 → (0 ≤ y62_3.toInt) → (y62_3.toInt ≤ y62_4.toInt) → (y62_3.toInt = (rt_cnt (rk_b (rw_h E a0 15) (rw_p E a0 15) (tw_el E a0 22) (rw_w E a0 15) (y2_2.toInt)) (y62_4.toInt).toNat : Int)) → 150 - y62_4.toInt ≤ (n62 : Int) → tw_H D cs kp L Eg2 A H → va_S A s.heap H locs → lv_has ls 5 [(4, .int y62_4), (3, .int y62_3), (2, .int y2_2), (0, .ref a0), (1, .int x1)] → W p l e { frames := 3, cells := 0, slots := 0, locals := 74 } s m [.ref a0, .int x1].toArray below meth c H locs 0 0 (MQ below (tw_Q D cs kp0 L0 (fun v kq Lq Eq => v = none ∧ kp = kq ∧ L = Lq ∧ tw_fr kp L [] [329] E Eq ∧ (oq_ok Eq a0 E 150)) A) [.ref a0, .int x1].toArray s 0 0 A) (F0 m 62 ls []) := by
                intro n62
                induction n62 using Nat.strongRecOn with
                | _ n62 ih62 =>
                  intro y62_4 y62_3 H locs ls hy62_4a hy62_4b hin62_0 hin62_1 hin62_2 hmeas62 TH hS hl
                  refine lv_iload hx hb dX12_orders_62 (lv_at hl 0 rfl) ?_
                  refine lv_sipush (v := 150) hx hb dX12_orders_64 (by decide) ?_
                  refine lv_icmp_ge (tgt := 133) hx hb dX12_orders_67 (by decide) (fun hc27 => ?_) (fun hc27 => ?_)
                  · have hf28 : 150 ≤ y62_4.toInt := by have z := (fa_le _ _).mp hc27; have : ((150 : Int32).toInt) = 150 := (by decide); omega
                    refine lv_aload_n hx hb dX12_orders_133 rfl (lv_at hl 3 rfl) ?_
                    refine tw_get (ci := 12) (C := RX12) (T := TX12) (N := 64) hx hb hB cx_inX12 hown hK TH hm0 hk0 rfl ⟨by decide, rfl⟩ 19 (by decide) cw_1212 (fun _ h9 => h9) dX12_orders_134 (fun hv => ?_)
                    obtain ⟨xr29, hxr29, hmxr29, hkxr29⟩ : ∃ a : Nat, tw_fv Eg2 a0 19 = .ref a ∧ a ∈ L ∧ kp a = 319 := hv
                    rw [hxr29]
                    refine lv_iload_n hx hb dX12_orders_137 rfl (lv_at hl 4 rfl) ?_
                    refine tw_aald (k := 319) (t0 := 4) (n := 16) (lo := 329) (hi := 0) (ty := .int) hx hb hK TH hmxr29 hkxr29 (by decide) rfl rfl (i := x1) (vp_in_iff.mpr ⟨by  omega, by  omega⟩) dX12_orders_138 (fun xr30 exr30 hmxr30 hkxr30 => ?_)
                    have hkxr30 : kp xr30 = 329 := hkxr30
                    refine lv_iload_n hx hb dX12_orders_139 rfl (lv_at hl 2 rfl) ?_
                    refine lv_iload_n hx hb dX12_orders_140 rfl (lv_at hl 1 rfl) ?_
                    refine tw_iast (k := 329) (n := 150) (lo := (-2147483648)) (hi := 2147483647) hx hb hK TH hS hmxr30 hkxr30 (by decide) rfl (i := y2_2) (x := y62_3) (vp_in_iff.mpr ⟨by  omega, by  omega⟩) (ia_lo _) (ia_hi _) dX12_orders_141 (fun H locs E31 TH hS hp32 hp33 hp34 => ?_)
                    have hst35 : tw_fr kp L [] [329] Eg2 E31 := tw_fr.ast tw_fr.rf (fun _ => hkxr30) hp32 hp33 (by decide)
                    have hF := hF.tr hst35 (fun _ h => ⟨h, rfl⟩) (by decide) (by decide)
                    have hG2 := hG2.tr hst35 (fun _ h => ⟨h, rfl⟩) (by decide) (by decide)
                    have hmf36 : tw_fv E31 a0 28 = .int fv0_28 := (hst35.1 a0 28 hm0 (by rw [hk0]; decide)).trans hmf1
                    have hmf37 : tw_fv E31 a0 16 = .ref xr5 := (hst35.1 a0 16 hm0 (by rw [hk0]; decide)).trans hxr5
                    have hmf38 : tw_fv E31 a0 18 = .ref xr12 := (hst35.1 a0 18 hm0 (by rw [hk0]; decide)).trans hxr12
                    have hmf39 : tw_fv E31 a0 33 = .ref xr19 := (hst35.1 a0 33 hm0 (by rw [hk0]; decide)).trans hxr19
                    have hmf40 : tw_fv E31 a0 19 = .ref xr29 := (hst35.1 a0 19 hm0 (by rw [hk0]; decide)).trans hxr29
                    have hcg2_0_o := hcg2_0
                    have hcg2_0 : oq_ok E31 a0 E (y2_2.toInt + 1) := oq_set hcg2_0_o (by omega) rfl hst (v := y62_3.toInt) (by have h150 : (y62_4.toInt).toNat = 150 := (by omega); have w := hin62_2; rw [h150] at w; exact w) (by have ex15 : x1.toInt = 15 := (by omega); have q := rw_q_st (m := a0) (i := x1) (c := y2_2) hxr29 exr30 hkxr29 hkxr30 hp32 hp33 hp34; rw [ex15] at q; exact q)
                    have hdone := trivial
                    obtain ⟨zi41, ezi41⟩ : ∃ z : Int32, z = y2_2 + Int32.ofInt 1 := ⟨_, rfl⟩
                    have hzi41 : zi41.toInt = y2_2.toInt + 1 := by rw [ezi41]; have : ((Int32.ofInt 1).toInt) = 1 := (by decide);  exact (ia_add (by omega) (by omega)).trans (by omega)
                    refine lv_iinc (v := zi41) (lv' := [(2, .int zi41), (4, .int y62_4), (3, .int y62_3), (0, .ref a0), (1, .int x1)]) hx hb dX12_orders_142 hl (k := 2) rfl ezi41.symm (by decide) rfl (fun ls hl => ?_)
                    refine lv_goto (tgt := 2) hx hb dX12_orders_145 (by decide) ?_
                    exact ih2 (n2 - 1) (by   omega) zi41 _ _ _ ls (by omega) (by omega) (by   omega) hG2 (oq_ok_cast (by  omega) hcg2_0) TH hS (lv_sub hl [0, 3, 4] rfl)
                  · have hf42 : ¬ (150 ≤ y62_4.toInt) := fun q => hc27 ((fa_le _ _).mpr (by have : ((150 : Int32).toInt) = 150 := (by decide); omega))
                    refine lv_iload_n hx hb dX12_orders_70 rfl (lv_at hl 1 rfl) ?_
                    refine lv_aload_n hx hb dX12_orders_71 rfl (lv_at hl 3 rfl) ?_
                    refine tw_get (ci := 12) (C := RX12) (T := TX12) (N := 64) hx hb hB cx_inX12 hown hK TH hm0 hk0 rfl ⟨by decide, rfl⟩ 16 (by decide) cw_1209 (fun _ h9 => h9) dX12_orders_72 (fun hv => ?_)
                    rw [hxr5]
                    refine lv_iload_n hx hb dX12_orders_75 rfl (lv_at hl 4 rfl) ?_
                    refine tw_aald (k := 316) (t0 := 5) (n := 16) (lo := 326) (hi := 0) (ty := .boolean) hx hb hK TH hmxr5 hkxr5 (by decide) rfl rfl (i := x1) (vp_in_iff.mpr ⟨by  omega, by  omega⟩) dX12_orders_76 (fun xr43 exr43 hmxr43 hkxr43 => ?_)
                    have ezxr43 : xr6 = xr43 := exr6.symm.trans exr43
                    subst ezxr43
                    refine lv_iload hx hb dX12_orders_77 (lv_at hl 0 rfl) ?_
                    refine tw_zald (k := 326) (t0 := 3) (n := 150) (lo := 0) (hi := 1) hx hb hK TH hmxr6 hkxr6 (by decide) rfl rfl (i := y62_4) (vp_in_iff.mpr ⟨by  omega, by  omega⟩) dX12_orders_79 (fun hxe44a hxe44b => ?_)
                    obtain ⟨xe44, exe44⟩ : ∃ z : Int32, tw_iv Eg2 xr6 (Int32.toNatClampNeg y62_4) = z := ⟨_, rfl⟩
                    rw [exe44] at hxe44a hxe44b ⊢
                    refine lv_if_eq (tgt := 124) hx hb dX12_orders_80 (by decide) (fun hc45 => ?_) (fun hc45 => ?_)
                    · have hf46 : xe44.toInt = 0 := by have z := (fa_eq _ _).mp hc45; have : ((0 : Int32).toInt) = 0 := (by decide); omega
                      refine lv_iconst (v := 0) hx hb dX12_orders_124 (by decide) ?_
                      refine lv_iadd hx hb dX12_orders_125 ?_
                      refine lv_topi (fun zi47 ezi47 => ?_)
                      have hzi47 : zi47.toInt = y62_3.toInt + 0 := by rw [ezi47]; have : ((0 : Int32).toInt) = 0 := (by decide); have := ia_lo y62_3; have := ia_hi y62_3; exact (ia_add (by omega) (by omega)).trans (by omega)
                      refine lv_istore_n (lv' := [(3, .int zi47), (4, .int y62_4), (2, .int y2_2), (0, .ref a0), (1, .int x1)]) hx hb dX12_orders_126 rfl hl (by decide) rfl (fun ls hl => ?_)
                      obtain ⟨zi48, ezi48⟩ : ∃ z : Int32, z = y62_4 + Int32.ofInt 1 := ⟨_, rfl⟩
                      have hzi48 : zi48.toInt = y62_4.toInt + 1 := by rw [ezi48]; have : ((Int32.ofInt 1).toInt) = 1 := (by decide);  exact (ia_add (by omega) (by omega)).trans (by omega)
                      refine lv_iinc (v := zi48) (lv' := [(4, .int zi48), (3, .int zi47), (2, .int y2_2), (0, .ref a0), (1, .int x1)]) hx hb dX12_orders_127 hl (k := 1) rfl ezi48.symm (by decide) rfl (fun ls hl => ?_)
                      refine lv_goto (tgt := 62) hx hb dX12_orders_130 (by decide) ?_
                      exact ih62 (n62 - 1) (by   omega) zi48 zi47 _ _ ls (by omega) (by omega) (by  omega) (by  omega) (by  have rf_xe7 : rw_h Eg2 a0 (x1.toInt) (y2_2.toInt).toNat = xe7.toInt := rw_h_of (m := a0) (i := x1) (c := y2_2) hxr5 exr6 exe7; have rf_xe14 : rw_p Eg2 a0 (x1.toInt) (y2_2.toInt).toNat = xe14.toInt := rw_p_of (m := a0) (i := x1) (c := y2_2) hxr12 exr13 exe14; have rf_xe44 : rw_h Eg2 a0 (x1.toInt) (y62_4.toInt).toNat = xe44.toInt := rw_h_of (m := a0) (i := x1) (c := y62_4) hxr5 exr6 exe44; have fh := rw_h_fr TH hF hm0 hk0 (by decide) (by decide) (by decide) (i := 15) (by decide); have fp := rw_p_fr TH hF hm0 hk0 (by decide) (by decide) (by decide) (i := 15) (by decide); have fw := rw_w_fr TH hF hm0 hk0 (by decide) (by decide) (by decide) (i := 15) (by decide); have fk := el_fr TH hF hm0 hk0 (k := 22) (by decide) rfl (by decide) (by decide) (by decide); have fs := el_fr TH hF hm0 hk0 (k := 33) (by decide) rfl (by decide) (by decide) (by decide); have ex15 : x1.toInt = 15 := (by omega); (try rw [ex15] at rf_xe7); (try rw [ex15] at rf_xe14); (try rw [ex15] at rf_xe44); (try rw [fh] at rf_xe7); (try rw [fh] at rf_xe14); (try rw [fh] at rf_xe44); (try rw [fp] at rf_xe7); (try rw [fp] at rf_xe14); (try rw [fp] at rf_xe44); have ec : (((y62_4.toInt).toNat : Nat) : Int) = y62_4.toInt := (by omega); refine rk_push (show (zi48.toInt).toNat = (y62_4.toInt).toNat + 1 by omega) hin62_2 ?_; rw [ec]; refine Or.inr ⟨fun y => ?_, by omega⟩; have y1 := y.1; have y2 := y.2.1; rw [rf_xe44] at y1; omega) (by   omega) TH hS (lv_sub hl [0, 1, 2, 3, 4] rfl)
                    · have hf49 : ¬ (xe44.toInt = 0) := fun q => hc45 ((fa_eq _ _).mpr (by have : ((0 : Int32).toInt) = 0 := (by decide); omega))
                      refine lv_iload hx hb dX12_orders_83 (lv_at hl 0 rfl) ?_
                      refine lv_iload_n hx hb dX12_orders_85 rfl (lv_at hl 2 rfl) ?_
                      refine lv_icmp_eq (tgt := 124) hx hb dX12_orders_86 (by decide) (fun hc50 => ?_) (fun hc50 => ?_)
                      · have hf51 : y62_4.toInt = y2_2.toInt := by have z := (fa_eq _ _).mp hc50;  omega
                        refine lv_iconst (v := 0) hx hb dX12_orders_124 (by decide) ?_
                        refine lv_iadd hx hb dX12_orders_125 ?_
                        refine lv_topi (fun zi52 ezi52 => ?_)
                        have hzi52 : zi52.toInt = y62_3.toInt + 0 := by rw [ezi52]; have : ((0 : Int32).toInt) = 0 := (by decide); have := ia_lo y62_3; have := ia_hi y62_3; exact (ia_add (by omega) (by omega)).trans (by omega)
                        refine lv_istore_n (lv' := [(3, .int zi52), (4, .int y62_4), (2, .int y2_2), (0, .ref a0), (1, .int x1)]) hx hb dX12_orders_126 rfl hl (by decide) rfl (fun ls hl => ?_)
                        obtain ⟨zi53, ezi53⟩ : ∃ z : Int32, z = y62_4 + Int32.ofInt 1 := ⟨_, rfl⟩
                        have hzi53 : zi53.toInt = y62_4.toInt + 1 := by rw [ezi53]; have : ((Int32.ofInt 1).toInt) = 1 := (by decide);  exact (ia_add (by omega) (by omega)).trans (by omega)
                        refine lv_iinc (v := zi53) (lv' := [(4, .int zi53), (3, .int zi52), (2, .int y2_2), (0, .ref a0), (1, .int x1)]) hx hb dX12_orders_127 hl (k := 1) rfl ezi53.symm (by decide) rfl (fun ls hl => ?_)
                        refine lv_goto (tgt := 62) hx hb dX12_orders_130 (by decide) ?_
                        exact ih62 (n62 - 1) (by   omega) zi53 zi52 _ _ ls (by omega) (by omega) (by  omega) (by  omega) (by  have rf_xe7 : rw_h Eg2 a0 (x1.toInt) (y2_2.toInt).toNat = xe7.toInt := rw_h_of (m := a0) (i := x1) (c := y2_2) hxr5 exr6 exe7; have rf_xe14 : rw_p Eg2 a0 (x1.toInt) (y2_2.toInt).toNat = xe14.toInt := rw_p_of (m := a0) (i := x1) (c := y2_2) hxr12 exr13 exe14; have rf_xe44 : rw_h Eg2 a0 (x1.toInt) (y62_4.toInt).toNat = xe44.toInt := rw_h_of (m := a0) (i := x1) (c := y62_4) hxr5 exr6 exe44; have fh := rw_h_fr TH hF hm0 hk0 (by decide) (by decide) (by decide) (i := 15) (by decide); have fp := rw_p_fr TH hF hm0 hk0 (by decide) (by decide) (by decide) (i := 15) (by decide); have fw := rw_w_fr TH hF hm0 hk0 (by decide) (by decide) (by decide) (i := 15) (by decide); have fk := el_fr TH hF hm0 hk0 (k := 22) (by decide) rfl (by decide) (by decide) (by decide); have fs := el_fr TH hF hm0 hk0 (k := 33) (by decide) rfl (by decide) (by decide) (by decide); have ex15 : x1.toInt = 15 := (by omega); (try rw [ex15] at rf_xe7); (try rw [ex15] at rf_xe14); (try rw [ex15] at rf_xe44); (try rw [fh] at rf_xe7); (try rw [fh] at rf_xe14); (try rw [fh] at rf_xe44); (try rw [fp] at rf_xe7); (try rw [fp] at rf_xe14); (try rw [fp] at rf_xe44); have ec : (((y62_4.toInt).toNat : Nat) : Int) = y62_4.toInt := (by omega); refine rk_push (show (zi53.toInt).toNat = (y62_4.toInt).toNat + 1 by omega) hin62_2 ?_; rw [ec]; refine Or.inr ⟨fun y => ?_, by omega⟩; have y1 := y.1; have y2 := y.2.1; rw [rf_xe44] at y1; omega) (by   omega) TH hS (lv_sub hl [0, 1, 2, 3, 4] rfl)
                      · have hf54 : ¬ (y62_4.toInt = y2_2.toInt) := fun q => hc50 ((fa_eq _ _).mpr (by  omega))
                        refine lv_aload_n hx hb dX12_orders_89 rfl (lv_at hl 3 rfl) ?_
                        refine tw_get (ci := 12) (C := RX12) (T := TX12) (N := 64) hx hb hB cx_inX12 hown hK TH hm0 hk0 rfl ⟨by decide, rfl⟩ 18 (by decide) cw_1211 (fun _ h9 => h9) dX12_orders_90 (fun hv => ?_)
                        rw [hxr12]
                        refine lv_iload_n hx hb dX12_orders_93 rfl (lv_at hl 4 rfl) ?_
                        refine tw_aald (k := 318) (t0 := 4) (n := 16) (lo := 328) (hi := 0) (ty := .int) hx hb hK TH hmxr12 hkxr12 (by decide) rfl rfl (i := x1) (vp_in_iff.mpr ⟨by  omega, by  omega⟩) dX12_orders_94 (fun xr55 exr55 hmxr55 hkxr55 => ?_)
                        have ezxr55 : xr13 = xr55 := exr13.symm.trans exr55
                        subst ezxr55
                        refine lv_iload hx hb dX12_orders_95 (lv_at hl 0 rfl) ?_
                        refine tw_iald (k := 328) (t0 := 0) (n := 150) (lo := (-1)) (hi := 149) hx hb hK TH hmxr13 hkxr13 (by decide) rfl rfl (i := y62_4) (vp_in_iff.mpr ⟨by  omega, by  omega⟩) dX12_orders_97 (fun hxe56a hxe56b => ?_)
                        obtain ⟨xe56, exe56⟩ : ∃ z : Int32, tw_iv Eg2 xr13 (Int32.toNatClampNeg y62_4) = z := ⟨_, rfl⟩
                        rw [exe56] at hxe56a hxe56b ⊢
                        refine lv_aload_n hx hb dX12_orders_98 rfl (lv_at hl 3 rfl) ?_
                        refine tw_get (ci := 12) (C := RX12) (T := TX12) (N := 64) hx hb hB cx_inX12 hown hK TH hm0 hk0 rfl ⟨by decide, rfl⟩ 18 (by decide) cw_1211 (fun _ h9 => h9) dX12_orders_99 (fun hv => ?_)
                        rw [hxr12]
                        refine lv_iload_n hx hb dX12_orders_102 rfl (lv_at hl 4 rfl) ?_
                        refine tw_aald (k := 318) (t0 := 4) (n := 16) (lo := 328) (hi := 0) (ty := .int) hx hb hK TH hmxr12 hkxr12 (by decide) rfl rfl (i := x1) (vp_in_iff.mpr ⟨by  omega, by  omega⟩) dX12_orders_103 (fun xr57 exr57 hmxr57 hkxr57 => ?_)
                        have ezxr57 : xr13 = xr57 := exr13.symm.trans exr57
                        subst ezxr57
                        refine lv_iload_n hx hb dX12_orders_104 rfl (lv_at hl 2 rfl) ?_
                        refine tw_iald (k := 328) (t0 := 0) (n := 150) (lo := (-1)) (hi := 149) hx hb hK TH hmxr13 hkxr13 (by decide) rfl rfl (i := y2_2) (vp_in_iff.mpr ⟨by  omega, by  omega⟩) dX12_orders_105 (fun hxe58a hxe58b => ?_)
                        rw [exe14]
                        refine lv_icmp_ne (tgt := 124) hx hb dX12_orders_106 (by decide) (fun hc59 => ?_) (fun hc59 => ?_)
                        · have hf60 : ¬ (xe56.toInt = xe14.toInt) := fun q => hc59 ((fa_eq _ _).mpr (by  omega))
                          refine lv_iconst (v := 0) hx hb dX12_orders_124 (by decide) ?_
                          refine lv_iadd hx hb dX12_orders_125 ?_
                          refine lv_topi (fun zi61 ezi61 => ?_)
                          have hzi61 : zi61.toInt = y62_3.toInt + 0 := by rw [ezi61]; have : ((0 : Int32).toInt) = 0 := (by decide); have := ia_lo y62_3; have := ia_hi y62_3; exact (ia_add (by omega) (by omega)).trans (by omega)
                          refine lv_istore_n (lv' := [(3, .int zi61), (4, .int y62_4), (2, .int y2_2), (0, .ref a0), (1, .int x1)]) hx hb dX12_orders_126 rfl hl (by decide) rfl (fun ls hl => ?_)
                          obtain ⟨zi62, ezi62⟩ : ∃ z : Int32, z = y62_4 + Int32.ofInt 1 := ⟨_, rfl⟩
                          have hzi62 : zi62.toInt = y62_4.toInt + 1 := by rw [ezi62]; have : ((Int32.ofInt 1).toInt) = 1 := (by decide);  exact (ia_add (by omega) (by omega)).trans (by omega)
                          refine lv_iinc (v := zi62) (lv' := [(4, .int zi62), (3, .int zi61), (2, .int y2_2), (0, .ref a0), (1, .int x1)]) hx hb dX12_orders_127 hl (k := 1) rfl ezi62.symm (by decide) rfl (fun ls hl => ?_)
                          refine lv_goto (tgt := 62) hx hb dX12_orders_130 (by decide) ?_
                          exact ih62 (n62 - 1) (by   omega) zi62 zi61 _ _ ls (by omega) (by omega) (by  omega) (by  omega) (by  have rf_xe7 : rw_h Eg2 a0 (x1.toInt) (y2_2.toInt).toNat = xe7.toInt := rw_h_of (m := a0) (i := x1) (c := y2_2) hxr5 exr6 exe7; have rf_xe14 : rw_p Eg2 a0 (x1.toInt) (y2_2.toInt).toNat = xe14.toInt := rw_p_of (m := a0) (i := x1) (c := y2_2) hxr12 exr13 exe14; have rf_xe44 : rw_h Eg2 a0 (x1.toInt) (y62_4.toInt).toNat = xe44.toInt := rw_h_of (m := a0) (i := x1) (c := y62_4) hxr5 exr6 exe44; have rf_xe56 : rw_p Eg2 a0 (x1.toInt) (y62_4.toInt).toNat = xe56.toInt := rw_p_of (m := a0) (i := x1) (c := y62_4) hxr12 exr13 exe56; have fh := rw_h_fr TH hF hm0 hk0 (by decide) (by decide) (by decide) (i := 15) (by decide); have fp := rw_p_fr TH hF hm0 hk0 (by decide) (by decide) (by decide) (i := 15) (by decide); have fw := rw_w_fr TH hF hm0 hk0 (by decide) (by decide) (by decide) (i := 15) (by decide); have fk := el_fr TH hF hm0 hk0 (k := 22) (by decide) rfl (by decide) (by decide) (by decide); have fs := el_fr TH hF hm0 hk0 (k := 33) (by decide) rfl (by decide) (by decide) (by decide); have ex15 : x1.toInt = 15 := (by omega); (try rw [ex15] at rf_xe7); (try rw [ex15] at rf_xe14); (try rw [ex15] at rf_xe44); (try rw [ex15] at rf_xe56); (try rw [fh] at rf_xe7); (try rw [fh] at rf_xe14); (try rw [fh] at rf_xe44); (try rw [fh] at rf_xe56); (try rw [fp] at rf_xe7); (try rw [fp] at rf_xe14); (try rw [fp] at rf_xe44); (try rw [fp] at rf_xe56); have ec : (((y62_4.toInt).toNat : Nat) : Int) = y62_4.toInt := (by omega); refine rk_push (show (zi62.toInt).toNat = (y62_4.toInt).toNat + 1 by omega) hin62_2 ?_; rw [ec]; refine Or.inr ⟨fun y => ?_, by omega⟩; have y2 := y.2.2.1; rw [rf_xe56, rf_xe14] at y2; omega) (by   omega) TH hS (lv_sub hl [0, 1, 2, 3, 4] rfl)
                        · have hf63 : xe56.toInt = xe14.toInt := by have z := (fa_eq _ _).mp hc59;  omega
                          refine lv_aload_n hx hb dX12_orders_109 rfl (lv_at hl 3 rfl) ?_
                          refine lv_iload_n hx hb dX12_orders_110 rfl (lv_at hl 4 rfl) ?_
                          refine lv_iload hx hb dX12_orders_111 (lv_at hl 0 rfl) ?_
                          refine lv_iload_n hx hb dX12_orders_113 rfl (lv_at hl 2 rfl) ?_
                          have rf_xe7 : rw_h Eg2 a0 (x1.toInt) (y2_2.toInt).toNat = xe7.toInt := rw_h_of (m := a0) (i := x1) (c := y2_2) hxr5 exr6 exe7
                          have rf_xe14 : rw_p Eg2 a0 (x1.toInt) (y2_2.toInt).toNat = xe14.toInt := rw_p_of (m := a0) (i := x1) (c := y2_2) hxr12 exr13 exe14
                          have rf_xe44 : rw_h Eg2 a0 (x1.toInt) (y62_4.toInt).toNat = xe44.toInt := rw_h_of (m := a0) (i := x1) (c := y62_4) hxr5 exr6 exe44
                          have rf_xe56 : rw_p Eg2 a0 (x1.toInt) (y62_4.toInt).toNat = xe56.toInt := rw_p_of (m := a0) (i := x1) (c := y62_4) hxr12 exr13 exe56
                          have fh := rw_h_fr TH hF hm0 hk0 (by decide) (by decide) (by decide) (i := 15) (by decide)
                          have fp := rw_p_fr TH hF hm0 hk0 (by decide) (by decide) (by decide) (i := 15) (by decide)
                          have fw := rw_w_fr TH hF hm0 hk0 (by decide) (by decide) (by decide) (i := 15) (by decide)
                          have fk := el_fr TH hF hm0 hk0 (k := 22) (by decide) rfl (by decide) (by decide) (by decide)
                          have fs := el_fr TH hF hm0 hk0 (k := 33) (by decide) rfl (by decide) (by decide) (by decide)
                          have ex15 : x1.toInt = 15 := (by omega)
                          (try rw [ex15] at rf_xe7)
                          (try rw [ex15] at rf_xe14)
                          (try rw [ex15] at rf_xe44)
                          (try rw [ex15] at rf_xe56)
                          (try rw [fh] at rf_xe7)
                          (try rw [fh] at rf_xe14)
                          (try rw [fh] at rf_xe44)
                          (try rw [fh] at rf_xe56)
                          (try rw [fp] at rf_xe7)
                          (try rw [fp] at rf_xe14)
                          (try rw [fp] at rf_xe44)
                          (try rw [fp] at rf_xe56)
                          have hc114 := (hth.2 (y62_4.toInt).toNat (by omega)).mp (by rw [rf_xe44]; omega)
                          refine tw_Vc (o := a0) (ci := 12) (n := 3) (post := (fun v kq Lq Eq => (∃ x : Int32, v = some (.int x) ∧ 0 ≤ x.toInt ∧ x.toInt ≤ 1 ∧ (x.toInt ≠ 0 ↔ ah (tw_el Eg2 a0 22) (rw_w Eg2 a0 15) y62_4.toInt y2_2.toInt)) ∧ kp = kq ∧ L = Lq ∧ Eg2 = Eq)) (As := [.int x1, .int y62_4, .int y2_2]) (rest := [.int y62_3]) ⟨hx, hb, hml, hown, hB⟩ (fun sz => tX12_isAhead_vT l D cs a0 x1 y62_4 y2_2 hm0 hk0 (by omega) (by omega) (by omega) (by omega) (by omega) (by omega) sz) cg_12_308_X12_isAhead rfl rfl (by decide +kernel) ⟨Nat.le_of_ble_eq_true rfl, Nat.le_of_ble_eq_true rfl⟩ hK hN TH hS hA rfl hm0 hk0 (by decide) rfl hl.1 rfl (Nat.le_of_ble_eq_true rfl) dX12_orders_114 ⟨Nat.le_of_ble_eq_true rfl, Nat.le_of_ble_eq_true rfl⟩ (fun v64 kp64 L64 E64 H locs hq64 hx64 TH hS => ?_)
                          obtain ⟨⟨xc65, rfl, hxc65a, hxc65b, hpoxc65_0⟩, rfl, rfl, rfl⟩ := hq64
                          refine W.eq (g2 := F0 m 117 ls [.int xc65, .int y62_3]) rfl ?_
                          refine lv_if_eq (tgt := 124) hx hb dX12_orders_117 (by decide) (fun hc66 => ?_) (fun hc66 => ?_)
                          · have hf67 : xc65.toInt = 0 := by have z := (fa_eq _ _).mp hc66; have : ((0 : Int32).toInt) = 0 := (by decide); omega
                            refine lv_iconst (v := 0) hx hb dX12_orders_124 (by decide) ?_
                            refine lv_iadd hx hb dX12_orders_125 ?_
                            refine lv_topi (fun zi68 ezi68 => ?_)
                            have hzi68 : zi68.toInt = y62_3.toInt + 0 := by rw [ezi68]; have : ((0 : Int32).toInt) = 0 := (by decide); have := ia_lo y62_3; have := ia_hi y62_3; exact (ia_add (by omega) (by omega)).trans (by omega)
                            refine lv_istore_n (lv' := [(3, .int zi68), (4, .int y62_4), (2, .int y2_2), (0, .ref a0), (1, .int x1)]) hx hb dX12_orders_126 rfl hl (by decide) rfl (fun ls hl => ?_)
                            obtain ⟨zi69, ezi69⟩ : ∃ z : Int32, z = y62_4 + Int32.ofInt 1 := ⟨_, rfl⟩
                            have hzi69 : zi69.toInt = y62_4.toInt + 1 := by rw [ezi69]; have : ((Int32.ofInt 1).toInt) = 1 := (by decide);  exact (ia_add (by omega) (by omega)).trans (by omega)
                            refine lv_iinc (v := zi69) (lv' := [(4, .int zi69), (3, .int zi68), (2, .int y2_2), (0, .ref a0), (1, .int x1)]) hx hb dX12_orders_127 hl (k := 1) rfl ezi69.symm (by decide) rfl (fun ls hl => ?_)
                            refine lv_goto (tgt := 62) hx hb dX12_orders_130 (by decide) ?_
                            exact ih62 (n62 - 1) (by   omega) zi69 zi68 _ _ ls (by omega) (by omega) (by  omega) (by  omega) (by  have rf_xe7 : rw_h Eg2 a0 (x1.toInt) (y2_2.toInt).toNat = xe7.toInt := rw_h_of (m := a0) (i := x1) (c := y2_2) hxr5 exr6 exe7; have rf_xe14 : rw_p Eg2 a0 (x1.toInt) (y2_2.toInt).toNat = xe14.toInt := rw_p_of (m := a0) (i := x1) (c := y2_2) hxr12 exr13 exe14; have rf_xe44 : rw_h Eg2 a0 (x1.toInt) (y62_4.toInt).toNat = xe44.toInt := rw_h_of (m := a0) (i := x1) (c := y62_4) hxr5 exr6 exe44; have rf_xe56 : rw_p Eg2 a0 (x1.toInt) (y62_4.toInt).toNat = xe56.toInt := rw_p_of (m := a0) (i := x1) (c := y62_4) hxr12 exr13 exe56; have fh := rw_h_fr TH hF hm0 hk0 (by decide) (by decide) (by decide) (i := 15) (by decide); have fp := rw_p_fr TH hF hm0 hk0 (by decide) (by decide) (by decide) (i := 15) (by decide); have fw := rw_w_fr TH hF hm0 hk0 (by decide) (by decide) (by decide) (i := 15) (by decide); have fk := el_fr TH hF hm0 hk0 (k := 22) (by decide) rfl (by decide) (by decide) (by decide); have fs := el_fr TH hF hm0 hk0 (k := 33) (by decide) rfl (by decide) (by decide) (by decide); have ex15 : x1.toInt = 15 := (by omega); (try rw [ex15] at rf_xe7); (try rw [ex15] at rf_xe14); (try rw [ex15] at rf_xe44); (try rw [ex15] at rf_xe56); (try rw [fh] at rf_xe7); (try rw [fh] at rf_xe14); (try rw [fh] at rf_xe44); (try rw [fh] at rf_xe56); (try rw [fp] at rf_xe7); (try rw [fp] at rf_xe14); (try rw [fp] at rf_xe44); (try rw [fp] at rf_xe56); have ec : (((y62_4.toInt).toNat : Nat) : Int) = y62_4.toInt := (by omega); refine rk_push (show (zi69.toInt).toNat = (y62_4.toInt).toNat + 1 by omega) hin62_2 ?_; rw [ec]; have hia := hpoxc65_0; rw [fk, fw] at hia; (by_cases ha : ah (tw_el E a0 22) (rw_w E a0 15) (y62_4.toInt) (y2_2.toInt); (refine Or.inl ⟨⟨by rw [rf_xe44]; omega, by omega, by rw [rf_xe56, rf_xe14]; omega, ha⟩, ?_⟩; (have w := hia.2 ha; omega)); (refine Or.inr ⟨fun y => ha y.2.2.2, ?_⟩; (by_cases w : xc65.toInt = 0; omega; exact absurd (hia.1 w) ha)))) (by   omega) TH hS (lv_sub hl [0, 1, 2, 3, 4] rfl)
                          · have hf70 : ¬ (xc65.toInt = 0) := fun q => hc66 ((fa_eq _ _).mpr (by have : ((0 : Int32).toInt) = 0 := (by decide); omega))
                            refine lv_iconst (v := 1) hx hb dX12_orders_120 (by decide) ?_
                            refine lv_goto (tgt := 125) hx hb dX12_orders_121 (by decide) ?_
                            refine lv_iadd hx hb dX12_orders_125 ?_
                            refine lv_topi (fun zi71 ezi71 => ?_)
                            have hzi71 : zi71.toInt = y62_3.toInt + 1 := by rw [ezi71]; have : ((1 : Int32).toInt) = 1 := (by decide); have := ia_lo y62_3; have := ia_hi y62_3; exact (ia_add (by omega) (by omega)).trans (by omega)
                            refine lv_istore_n (lv' := [(3, .int zi71), (4, .int y62_4), (2, .int y2_2), (0, .ref a0), (1, .int x1)]) hx hb dX12_orders_126 rfl hl (by decide) rfl (fun ls hl => ?_)
                            obtain ⟨zi72, ezi72⟩ : ∃ z : Int32, z = y62_4 + Int32.ofInt 1 := ⟨_, rfl⟩
                            have hzi72 : zi72.toInt = y62_4.toInt + 1 := by rw [ezi72]; have : ((Int32.ofInt 1).toInt) = 1 := (by decide);  exact (ia_add (by omega) (by omega)).trans (by omega)
                            refine lv_iinc (v := zi72) (lv' := [(4, .int zi72), (3, .int zi71), (2, .int y2_2), (0, .ref a0), (1, .int x1)]) hx hb dX12_orders_127 hl (k := 1) rfl ezi72.symm (by decide) rfl (fun ls hl => ?_)
                            refine lv_goto (tgt := 62) hx hb dX12_orders_130 (by decide) ?_
                            exact ih62 (n62 - 1) (by   omega) zi72 zi71 _ _ ls (by omega) (by omega) (by  omega) (by  omega) (by  have rf_xe7 : rw_h Eg2 a0 (x1.toInt) (y2_2.toInt).toNat = xe7.toInt := rw_h_of (m := a0) (i := x1) (c := y2_2) hxr5 exr6 exe7; have rf_xe14 : rw_p Eg2 a0 (x1.toInt) (y2_2.toInt).toNat = xe14.toInt := rw_p_of (m := a0) (i := x1) (c := y2_2) hxr12 exr13 exe14; have rf_xe44 : rw_h Eg2 a0 (x1.toInt) (y62_4.toInt).toNat = xe44.toInt := rw_h_of (m := a0) (i := x1) (c := y62_4) hxr5 exr6 exe44; have rf_xe56 : rw_p Eg2 a0 (x1.toInt) (y62_4.toInt).toNat = xe56.toInt := rw_p_of (m := a0) (i := x1) (c := y62_4) hxr12 exr13 exe56; have fh := rw_h_fr TH hF hm0 hk0 (by decide) (by decide) (by decide) (i := 15) (by decide); have fp := rw_p_fr TH hF hm0 hk0 (by decide) (by decide) (by decide) (i := 15) (by decide); have fw := rw_w_fr TH hF hm0 hk0 (by decide) (by decide) (by decide) (i := 15) (by decide); have fk := el_fr TH hF hm0 hk0 (k := 22) (by decide) rfl (by decide) (by decide) (by decide); have fs := el_fr TH hF hm0 hk0 (k := 33) (by decide) rfl (by decide) (by decide) (by decide); have ex15 : x1.toInt = 15 := (by omega); (try rw [ex15] at rf_xe7); (try rw [ex15] at rf_xe14); (try rw [ex15] at rf_xe44); (try rw [ex15] at rf_xe56); (try rw [fh] at rf_xe7); (try rw [fh] at rf_xe14); (try rw [fh] at rf_xe44); (try rw [fh] at rf_xe56); (try rw [fp] at rf_xe7); (try rw [fp] at rf_xe14); (try rw [fp] at rf_xe44); (try rw [fp] at rf_xe56); have ec : (((y62_4.toInt).toNat : Nat) : Int) = y62_4.toInt := (by omega); refine rk_push (show (zi72.toInt).toNat = (y62_4.toInt).toNat + 1 by omega) hin62_2 ?_; rw [ec]; have hia := hpoxc65_0; rw [fk, fw] at hia; (by_cases ha : ah (tw_el E a0 22) (rw_w E a0 15) (y62_4.toInt) (y2_2.toInt); (refine Or.inl ⟨⟨by rw [rf_xe44]; omega, by omega, by rw [rf_xe56, rf_xe14]; omega, ha⟩, ?_⟩; (have w := hia.2 ha; omega)); (refine Or.inr ⟨fun y => ha y.2.2.2, ?_⟩; (by_cases w : xc65.toInt = 0; omega; exact absurd (hia.1 w) ha)))) (by   omega) TH hS (lv_sub hl [0, 1, 2, 3, 4] rfl)
              exact hJ62 151 (0 : Int32) (0 : Int32) _ _ ls (by have : ((0 : Int32).toInt) = 0 := (by decide); omega) (by have : ((0 : Int32).toInt) = 0 := (by decide); omega) (by have : ((0 : Int32).toInt) = 0 := (by decide); omega) (by have : ((0 : Int32).toInt) = 0 := (by decide); omega) (by have : ((0 : Int32).toInt) = 0 := (by decide); show _ = ((0 : Nat) : Int); omega) (by have : ((0 : Int32).toInt) = 0 := (by decide);  omega) TH hS (lv_sub hl [0, 1, 2, 3, 4] rfl)
            · have hf73 : ¬ (xe24.toInt = 1) := fun q => hc25 ((fa_eq _ _).mpr (by have : ((1 : Int32).toInt) = 1 := (by decide); omega))
              refine lv_goto (tgt := 142) hx hb dX12_orders_54 (by decide) ?_
              have rf_xe7 : rw_h Eg2 a0 (x1.toInt) (y2_2.toInt).toNat = xe7.toInt := rw_h_of (m := a0) (i := x1) (c := y2_2) hxr5 exr6 exe7
              have rf_xe14 : rw_p Eg2 a0 (x1.toInt) (y2_2.toInt).toNat = xe14.toInt := rw_p_of (m := a0) (i := x1) (c := y2_2) hxr12 exr13 exe14
              have fh := rw_h_fr TH hF hm0 hk0 (by decide) (by decide) (by decide) (i := 15) (by decide)
              have fp := rw_p_fr TH hF hm0 hk0 (by decide) (by decide) (by decide) (i := 15) (by decide)
              have fw := rw_w_fr TH hF hm0 hk0 (by decide) (by decide) (by decide) (i := 15) (by decide)
              have fk := el_fr TH hF hm0 hk0 (k := 22) (by decide) rfl (by decide) (by decide) (by decide)
              have fs := el_fr TH hF hm0 hk0 (k := 33) (by decide) rfl (by decide) (by decide) (by decide)
              have ex15 : x1.toInt = 15 := (by omega)
              (try rw [ex15] at rf_xe7)
              (try rw [ex15] at rf_xe14)
              (try rw [fh] at rf_xe7)
              (try rw [fh] at rf_xe14)
              (try rw [fp] at rf_xe7)
              (try rw [fp] at rf_xe14)
              have hoq142 : oq_ok Eg2 a0 E (y2_2.toInt + 1) := oq_skip hcg2_0 (by omega) rfl (fun z => (by have z2 := z.2.2; rw [rf_xe14, ← hk50, hs50] at z2; omega))
              obtain ⟨zi74, ezi74⟩ : ∃ z : Int32, z = y2_2 + Int32.ofInt 1 := ⟨_, rfl⟩
              have hzi74 : zi74.toInt = y2_2.toInt + 1 := by rw [ezi74]; have : ((Int32.ofInt 1).toInt) = 1 := (by decide);  exact (ia_add (by omega) (by omega)).trans (by omega)
              refine lv_iinc (v := zi74) (lv' := [(2, .int zi74), (0, .ref a0), (1, .int x1)]) hx hb dX12_orders_142 hl (k := 0) rfl ezi74.symm (by decide) rfl (fun ls hl => ?_)
              refine lv_goto (tgt := 2) hx hb dX12_orders_145 (by decide) ?_
              exact ih2 (n2 - 1) (by   omega) zi74 _ _ _ ls (by omega) (by omega) (by   omega) hG2 (oq_ok_cast (by  omega) hoq142) TH hS (lv_sub hl [0, 1, 2] rfl)
  exact hJ2 151 (0 : Int32) _ _ _ ls (by have : ((0 : Int32).toInt) = 0 := (by decide); omega) (by have : ((0 : Int32).toInt) = 0 := (by decide); omega) (by have : ((0 : Int32).toInt) = 0 := (by decide);  omega) tw_fr.rf (oq_ok_cast (by have : ((0 : Int32).toInt) = 0 := (by decide); omega) hoq0) TH hS (lv_sub hl [0, 1, 2] rfl)
