theorem cg_12_254_X12_kindAt : GoodIn cx_big (wsV "TreeMergeModel" 254 "TreeMergeModel" yX12_kindAt (.code yX12_kindAt cX12_kindAt 5 (some .int) :: cx_big)) := cx_gV cw_1425 cw_1427 cp_63 cw_13 cw_1428
theorem cg_12_261_X12_isCut : GoodIn cx_big (wsV "TreeMergeModel" 261 "TreeMergeModel" yX12_isCut (.code yX12_isCut cX12_isCut 2 (some .boolean) :: cx_big)) := cx_gV cw_1437 cw_1439 cp_66 cw_13 cw_1440
theorem cg_12_237_X12_passes : GoodIn cx_big (wsV "TreeMergeModel" 237 "TreeMergeModel" yX12_passes (.code yX12_passes cX12_passes 2 (some .boolean) :: cx_big)) := cx_gV cw_1453 cw_1455 cp_70 cw_13 cw_1456
theorem cg_12_268_X12_readsNode : GoodIn cx_big (wsV "TreeMergeModel" 268 "TreeMergeModel" yX12_readsNode (.code yX12_readsNode cX12_readsNode 6 (some .boolean) :: cx_big)) := cx_gV cw_1421 cw_1423 cp_62 cw_13 cw_1424
theorem cg_12_264_X12_wordHere : GoodIn cx_big (wsV "TreeMergeModel" 264 "TreeMergeModel" yX12_wordHere (.code yX12_wordHere cX12_wordHere 4 (some .long) :: cx_big)) := cx_gV cw_1449 cw_1451 cp_69 cw_13 cw_1452
set_option maxHeartbeats 4000000 in
set_option maxRecDepth 100000 in
theorem tX12_kindAt (l : Launch) (D : va_G) (cs : Nat → ClassId) {kp : Nat → Nat} {L : List Nat} {E : Nat → va_E} (a0 : Nat) (x1 : Int32) (fv0_2 : Int32) (hm0 : a0 ∈ L) (hk0 : kp a0 = 12) (hp1a : 0 ≤ x1.toInt) (hp1b : x1.toInt ≤ 500) (hfv0_2 : tw_fv E a0 2 = .int fv0_2) (hpre0 : fv0_2.toInt + x1.toInt ≤ 500) (hg0 : kg_ok E a0) (sz : Nat) : Met l yX12_kindAt (.code yX12_kindAt cX12_kindAt 5 (some .int) :: cx_big) { frames := 0, cells := 0, slots := 0, locals := 0 } (tw_P D cs kp L E [.ref a0, .int x1] sz) (tw_Q D cs kp L (fun v kq Lq Eq => (∃ x : Int32, v = some (.int x) ∧ (-1) ≤ x.toInt ∧ x.toInt ≤ 9) ∧ kp = kq ∧ L = Lq ∧ E = Eq) (va_A (va_pl L E) sz)) 0 0 (va_A (va_pl L E) sz) := by
  refine tw_ofW (by decide) (Nat.le_of_ble_eq_true rfl) ?_
  intro p e s m below meth c A ls hx hb hr hml hB hown hlocks hK hN hA TH hS hl
  have hown : s.vm.findClass "TreeMergeModel" = some m.cls := hown
  have hl : lv_has ls 5 [(0, .ref a0), (1, .int x1)] := hl
  obtain ⟨kp0, ekp⟩ : ∃ z, z = kp := ⟨_, rfl⟩
  obtain ⟨L0, eL⟩ : ∃ z, z = L := ⟨_, rfl⟩
  rw [show tw_Q D cs kp L = tw_Q D cs kp0 L0 by rw [ekp, eL]]
  have hex : ∀ a : Nat, a ∈ L0 → a ∈ L ∧ kp a = kp0 a := fun a h => ⟨by rw [← eL]; exact h, by rw [ekp]⟩
  obtain ⟨qfv0_2, hqfv0_2, hqfv0_2a, hqfv0_2b⟩ := tw_rd TH hm0 hk0 (by decide) (by decide) (k := 2) rfl
  have eqfv0_2 : qfv0_2 = fv0_2 := by have q := hqfv0_2.symm.trans hfv0_2; injection q
  rw [eqfv0_2] at hqfv0_2a hqfv0_2b
  refine lv_iconst (v := 0) hx hb dX12_kindAt_0 (by decide) ?_
  refine lv_istore_n (lv' := [(2, .int 0), (0, .ref a0), (1, .int x1)]) hx hb dX12_kindAt_1 rfl hl (by decide) rfl (fun ls hl => ?_)
  have hJ2 : ∀ (n2 : Nat) (y2_2 : Int32) (H : Heap) (locs : List Loc) (ls : Array Slot), 0 ≤ y2_2.toInt → y2_2.toInt ≤ 10 → 10 - y2_2.toInt ≤ (n2 : Int) → tw_H D cs kp L E A H → va_S A s.heap H locs → lv_has ls 5 [(2, .int y2_2), (0, .ref a0), (1, .int x1)] → W p l e { frames := 0, cells := 0, slots := 0, locals := 0 } s m [.ref a0, .int x1].toArray below meth c H locs 0 0 (MQ below (tw_Q D cs kp0 L0 (fun v kq Lq Eq => (∃ x : Int32, v = some (.int x) ∧ (-1) ≤ x.toInt ∧ x.toInt ≤ 9) ∧ kp = kq ∧ L = Lq ∧ E = Eq) A) [.ref a0, .int x1].toArray s 0 0 A) (F0 m 2 ls []) := by
    intro n2
    induction n2 using Nat.strongRecOn with
    | _ n2 ih2 =>
      intro y2_2 H locs ls hy2_2a hy2_2b hmeas2 TH hS hl
      refine lv_iload_n hx hb dX12_kindAt_2 rfl (lv_at hl 0 rfl) ?_
      refine lv_aload_n hx hb dX12_kindAt_3 rfl (lv_at hl 1 rfl) ?_
      refine tw_get (ci := 12) (C := RX12) (T := TX12) (N := 64) hx hb hB cx_inX12 hown hK TH hm0 hk0 rfl ⟨by decide, rfl⟩ 14 (by decide) cw_1207 (fun _ h9 => h9) dX12_kindAt_4 (fun hv => ?_)
      obtain ⟨xi1, hxi1, hxi1a, hxi1b⟩ : ∃ x : Int32, tw_fv E a0 14 = .int x ∧ 0 ≤ x.toInt ∧ x.toInt ≤ 10 := hv
      rw [hxi1]
      refine lv_icmp_ge (tgt := 91) hx hb dX12_kindAt_7 (by decide) (fun hc2 => ?_) (fun hc2 => ?_)
      · have hf3 : xi1.toInt ≤ y2_2.toInt := by have z := (fa_le _ _).mp hc2;  omega
        refine lv_iconst (v := (-1)) hx hb dX12_kindAt_91 (by decide) ?_
        exact tw_iret hx hb hr hlocks TH hS hex ⟨⟨_, rfl, (show (-1) ≤ Int32.toInt (-1) from by have : (((-1) : Int32).toInt) = (-1) := (by decide); omega), (show Int32.toInt (-1) ≤ 9 from by have : (((-1) : Int32).toInt) = (-1) := (by decide); omega)⟩, rfl, rfl, rfl⟩ (Nat.le_of_ble_eq_true rfl) (Nat.le_of_ble_eq_true rfl) dX12_kindAt_92
      · have hf4 : ¬ (xi1.toInt ≤ y2_2.toInt) := fun q => hc2 ((fa_le _ _).mpr (by  omega))
        refine lv_aload_n hx hb dX12_kindAt_10 rfl (lv_at hl 1 rfl) ?_
        refine tw_get (ci := 12) (C := RX12) (T := TX12) (N := 64) hx hb hB cx_inX12 hown hK TH hm0 hk0 rfl ⟨by decide, rfl⟩ 32 (by decide) cw_1225 (fun _ h9 => h9) dX12_kindAt_11 (fun hv => ?_)
        obtain ⟨xr5, hxr5, hmxr5, hkxr5⟩ : ∃ a : Nat, tw_fv E a0 32 = .ref a ∧ a ∈ L ∧ kp a = 338 := hv
        rw [hxr5]
        refine lv_iload_n hx hb dX12_kindAt_14 rfl (lv_at hl 0 rfl) ?_
        refine tw_iald (k := 338) (t0 := 0) (n := 10) (lo := 0) (hi := 500) hx hb hK TH hmxr5 hkxr5 (by decide) rfl rfl (i := y2_2) (vp_in_iff.mpr ⟨by  omega, by  omega⟩) dX12_kindAt_15 (fun hxe6a hxe6b => ?_)
        obtain ⟨xe6, exe6⟩ : ∃ z : Int32, tw_iv E xr5 (Int32.toNatClampNeg y2_2) = z := ⟨_, rfl⟩
        rw [exe6] at hxe6a hxe6b ⊢
        refine lv_iload_n hx hb dX12_kindAt_16 rfl (lv_at hl 2 rfl) ?_
        have hJ85 : ∀  (H : Heap) (locs : List Loc) (ls : Array Slot), tw_H D cs kp L E A H → va_S A s.heap H locs → lv_has ls 5 [(2, .int y2_2), (0, .ref a0), (1, .int x1)] → W p l e { frames := 0, cells := 0, slots := 0, locals := 0 } s m [.ref a0, .int x1].toArray below meth c H locs 0 0 (MQ below (tw_Q D cs kp0 L0 (fun v kq Lq Eq => (∃ x : Int32, v = some (.int x) ∧ (-1) ≤ x.toInt ∧ x.toInt ≤ 9) ∧ kp = kq ∧ L = Lq ∧ E = Eq) A) [.ref a0, .int x1].toArray s 0 0 A) (F0 m 85 ls []) := by
          intro H locs ls TH hS hl
          obtain ⟨zi7, ezi7⟩ : ∃ z : Int32, z = y2_2 + Int32.ofInt 1 := ⟨_, rfl⟩
          have hzi7 : zi7.toInt = y2_2.toInt + 1 := by rw [ezi7]; have : ((Int32.ofInt 1).toInt) = 1 := (by decide);  exact (ia_add (by omega) (by omega)).trans (by omega)
          refine lv_iinc (v := zi7) (lv' := [(2, .int zi7), (0, .ref a0), (1, .int x1)]) hx hb dX12_kindAt_85 hl (k := 0) rfl ezi7.symm (by decide) rfl (fun ls hl => ?_)
          refine lv_goto (tgt := 2) hx hb dX12_kindAt_88 (by decide) ?_
          exact ih2 (n2 - 1) (by   omega) zi7 _ _ ls (by omega) (by omega) (by   omega) TH hS (lv_sub hl [0, 1, 2] rfl)
        refine lv_icmp_eq (tgt := 23) hx hb dX12_kindAt_17 (by decide) (fun hc8 => ?_) (fun hc8 => ?_)
        · have hf9 : xe6.toInt = x1.toInt := by have z := (fa_eq _ _).mp hc8;  omega
          refine lv_iconst (v := 1) hx hb dX12_kindAt_23 (by decide) ?_
          refine lv_istore_n (lv' := [(3, .int 1), (2, .int y2_2), (0, .ref a0), (1, .int x1)]) hx hb dX12_kindAt_24 rfl hl (by decide) rfl (fun ls hl => ?_)
          refine lv_iconst (v := 0) hx hb dX12_kindAt_25 (by decide) ?_
          refine lv_istore (lv' := [(4, .int 0), (3, .int 1), (2, .int y2_2), (0, .ref a0), (1, .int x1)]) hx hb dX12_kindAt_26 hl (by decide) rfl (fun ls hl => ?_)
          have hJ28 : ∀ (n28 : Nat) (y28_4 : Int32) (y28_3 : Int32) (H : Heap) (locs : List Loc) (ls : Array Slot), 0 ≤ y28_4.toInt → y28_4.toInt ≤ 500 → 0 ≤ y28_3.toInt → y28_3.toInt ≤ 1 → (0 ≤ y28_4.toInt) → (y28_4.toInt ≤ x1.toInt) → 500 - y28_4.toInt ≤ (n28 : Int) → tw_H D cs kp L E A H → va_S A s.heap H locs → lv_has ls 5 [(4, .int y28_4), (3, .int y28_3), (2, .int y2_2), (0, .ref a0), (1, .int x1)] → W p l e { frames := 0, cells := 0, slots := 0, locals := 0 } s m [.ref a0, .int x1].toArray below meth c H locs 0 0 (MQ below (tw_Q D cs kp0 L0 (fun v kq Lq Eq => (∃ x : Int32, v = some (.int x) ∧ (-1) ≤ x.toInt ∧ x.toInt ≤ 9) ∧ kp = kq ∧ L = Lq ∧ E = Eq) A) [.ref a0, .int x1].toArray s 0 0 A) (F0 m 28 ls []) := by
            intro n28
            induction n28 using Nat.strongRecOn with
            | _ n28 ih28 =>
              intro y28_4 y28_3 H locs ls hy28_4a hy28_4b hy28_3a hy28_3b hin28_0 hin28_1 hmeas28 TH hS hl
              refine lv_iload hx hb dX12_kindAt_28 (lv_at hl 0 rfl) ?_
              refine lv_iload_n hx hb dX12_kindAt_30 rfl (lv_at hl 4 rfl) ?_
              have hJ79 : ∀  (H : Heap) (locs : List Loc) (ls : Array Slot), tw_H D cs kp L E A H → va_S A s.heap H locs → lv_has ls 5 [(3, .int y28_3), (2, .int y2_2), (0, .ref a0), (1, .int x1)] → W p l e { frames := 0, cells := 0, slots := 0, locals := 0 } s m [.ref a0, .int x1].toArray below meth c H locs 0 0 (MQ below (tw_Q D cs kp0 L0 (fun v kq Lq Eq => (∃ x : Int32, v = some (.int x) ∧ (-1) ≤ x.toInt ∧ x.toInt ≤ 9) ∧ kp = kq ∧ L = Lq ∧ E = Eq) A) [.ref a0, .int x1].toArray s 0 0 A) (F0 m 79 ls []) := by
                intro H locs ls TH hS hl
                refine lv_iload_n hx hb dX12_kindAt_79 rfl (lv_at hl 0 rfl) ?_
                refine lv_if_eq (tgt := 85) hx hb dX12_kindAt_80 (by decide) (fun hc10 => ?_) (fun hc10 => ?_)
                · have hf11 : y28_3.toInt = 0 := by have z := (fa_eq _ _).mp hc10; have : ((0 : Int32).toInt) = 0 := (by decide); omega
                  exact hJ85  _ _ ls  TH hS (lv_sub hl [1, 2, 3] rfl)
                · have hf12 : ¬ (y28_3.toInt = 0) := fun q => hc10 ((fa_eq _ _).mpr (by have : ((0 : Int32).toInt) = 0 := (by decide); omega))
                  refine lv_iload_n hx hb dX12_kindAt_83 rfl (lv_at hl 1 rfl) ?_
                  exact tw_iret hx hb hr hlocks TH hS hex ⟨⟨_, rfl, (show (-1) ≤ Int32.toInt y2_2 from by  omega), (show Int32.toInt y2_2 ≤ 9 from by  omega)⟩, rfl, rfl, rfl⟩ (Nat.le_of_ble_eq_true rfl) (Nat.le_of_ble_eq_true rfl) dX12_kindAt_84
              refine lv_icmp_ge (tgt := 79) hx hb dX12_kindAt_31 (by decide) (fun hc13 => ?_) (fun hc13 => ?_)
              · have hf14 : x1.toInt ≤ y28_4.toInt := by have z := (fa_le _ _).mp hc13;  omega
                exact hJ79  _ _ ls  TH hS (lv_sub hl [1, 2, 3, 4] rfl)
              · have hf15 : ¬ (x1.toInt ≤ y28_4.toInt) := fun q => hc13 ((fa_le _ _).mpr (by  omega))
                refine lv_iload_n hx hb dX12_kindAt_34 rfl (lv_at hl 1 rfl) ?_
                refine lv_if_eq (tgt := 79) hx hb dX12_kindAt_35 (by decide) (fun hc16 => ?_) (fun hc16 => ?_)
                · have hf17 : y28_3.toInt = 0 := by have z := (fa_eq _ _).mp hc16; have : ((0 : Int32).toInt) = 0 := (by decide); omega
                  exact hJ79  _ _ ls  TH hS (lv_sub hl [1, 2, 3, 4] rfl)
                · have hf18 : ¬ (y28_3.toInt = 0) := fun q => hc16 ((fa_eq _ _).mpr (by have : ((0 : Int32).toInt) = 0 := (by decide); omega))
                  refine lv_aload_n hx hb dX12_kindAt_38 rfl (lv_at hl 3 rfl) ?_
                  refine tw_get (ci := 12) (C := RX12) (T := TX12) (N := 64) hx hb hB cx_inX12 hown hK TH hm0 hk0 rfl ⟨by decide, rfl⟩ 30 (by decide) cw_1223 (fun _ h9 => h9) dX12_kindAt_39 (fun hv => ?_)
                  obtain ⟨xr19, hxr19, hmxr19, hkxr19⟩ : ∃ a : Nat, tw_fv E a0 30 = .ref a ∧ a ∈ L ∧ kp a = 336 := hv
                  rw [hxr19]
                  refine lv_aload_n hx hb dX12_kindAt_42 rfl (lv_at hl 3 rfl) ?_
                  refine tw_get (ci := 12) (C := RX12) (T := TX12) (N := 64) hx hb hB cx_inX12 hown hK TH hm0 hk0 rfl ⟨by decide, rfl⟩ 31 (by decide) cw_1224 (fun _ h9 => h9) dX12_kindAt_43 (fun hv => ?_)
                  obtain ⟨xr20, hxr20, hmxr20, hkxr20⟩ : ∃ a : Nat, tw_fv E a0 31 = .ref a ∧ a ∈ L ∧ kp a = 337 := hv
                  rw [hxr20]
                  refine lv_iload_n hx hb dX12_kindAt_46 rfl (lv_at hl 2 rfl) ?_
                  refine tw_iald (k := 337) (t0 := 0) (n := 10) (lo := 0) (hi := 500) hx hb hK TH hmxr20 hkxr20 (by decide) rfl rfl (i := y2_2) (vp_in_iff.mpr ⟨by  omega, by  omega⟩) dX12_kindAt_47 (fun hxe21a hxe21b => ?_)
                  obtain ⟨xe21, exe21⟩ : ∃ z : Int32, tw_iv E xr20 (Int32.toNatClampNeg y2_2) = z := ⟨_, rfl⟩
                  rw [exe21] at hxe21a hxe21b ⊢
                  refine lv_iload hx hb dX12_kindAt_48 (lv_at hl 0 rfl) ?_
                  refine lv_iadd hx hb dX12_kindAt_50 ?_
                  refine lv_topi (fun zi22 ezi22 => ?_)
                  have hzi22 : zi22.toInt = xe21.toInt + y28_4.toInt := by rw [ezi22];  have := ia_lo xe21; have := ia_hi xe21; have := ia_lo y28_4; have := ia_hi y28_4; exact (ia_add (by omega) (by omega)).trans (by omega)
                  have rf_xe6 : tw_el E a0 32 (y2_2.toInt).toNat = xe6.toInt := (by rw [tw_el_of hxr5]; exact congrArg Int32.toInt exe6)
                  have rf_xe21 : tw_el E a0 31 (y2_2.toInt).toNat = xe21.toInt := (by rw [tw_el_of hxr20]; exact congrArg Int32.toInt exe21)
                  have hkg := hg0 (y2_2.toInt).toNat (by omega)
                  rw [rf_xe21, rf_xe6] at hkg
                  refine tw_bald (k := 336) (t0 := 2) (n := 500) (lo := (-128)) (hi := 127) hx hb hK TH hmxr19 hkxr19 (by decide) rfl rfl (i := zi22) (vp_in_iff.mpr ⟨by  omega, by  omega⟩) dX12_kindAt_51 (fun hxe23a hxe23b => ?_)
                  obtain ⟨xe23, exe23⟩ : ∃ z : Int32, tw_iv E xr19 (Int32.toNatClampNeg zi22) = z := ⟨_, rfl⟩
                  rw [exe23] at hxe23a hxe23b ⊢
                  refine lv_aload_n hx hb dX12_kindAt_52 rfl (lv_at hl 3 rfl) ?_
                  refine tw_get (ci := 12) (C := RX12) (T := TX12) (N := 64) hx hb hB cx_inX12 hown hK TH hm0 hk0 rfl ⟨by decide, rfl⟩ 0 (by decide) cw_1193 (fun _ h9 => h9) dX12_kindAt_53 (fun hv => ?_)
                  obtain ⟨xr24, hxr24, hmxr24, hkxr24⟩ : ∃ a : Nat, tw_fv E a0 0 = .ref a ∧ a ∈ L ∧ kp a = 300 := hv
                  rw [hxr24]
                  refine lv_aload_n hx hb dX12_kindAt_56 rfl (lv_at hl 3 rfl) ?_
                  refine tw_get (ci := 12) (C := RX12) (T := TX12) (N := 64) hx hb hB cx_inX12 hown hK TH hm0 hk0 rfl ⟨by decide, rfl⟩ 2 (by decide) cw_1195 (fun _ h9 => h9) dX12_kindAt_57 (fun hv => ?_)
                  rw [hfv0_2]
                  refine lv_iload hx hb dX12_kindAt_60 (lv_at hl 0 rfl) ?_
                  refine lv_iadd hx hb dX12_kindAt_62 ?_
                  refine lv_topi (fun zi25 ezi25 => ?_)
                  have hzi25 : zi25.toInt = fv0_2.toInt + y28_4.toInt := by rw [ezi25];  have := ia_lo fv0_2; have := ia_hi fv0_2; have := ia_lo y28_4; have := ia_hi y28_4; exact (ia_add (by omega) (by omega)).trans (by omega)
                  refine tw_bald (k := 300) (t0 := 2) (n := 500) (lo := (-128)) (hi := 127) hx hb hK TH hmxr24 hkxr24 (by decide) rfl rfl (i := zi25) (vp_in_iff.mpr ⟨by  omega, by  omega⟩) dX12_kindAt_63 (fun hxe26a hxe26b => ?_)
                  obtain ⟨xe26, exe26⟩ : ∃ z : Int32, tw_iv E xr24 (Int32.toNatClampNeg zi25) = z := ⟨_, rfl⟩
                  rw [exe26] at hxe26a hxe26b ⊢
                  refine lv_icmp_ne (tgt := 71) hx hb dX12_kindAt_64 (by decide) (fun hc27 => ?_) (fun hc27 => ?_)
                  · have hf28 : ¬ (xe23.toInt = xe26.toInt) := fun q => hc27 ((fa_eq _ _).mpr (by  omega))
                    refine lv_iconst (v := 0) hx hb dX12_kindAt_71 (by decide) ?_
                    refine lv_istore_n (lv' := [(3, .int 0), (4, .int y28_4), (2, .int y2_2), (0, .ref a0), (1, .int x1)]) hx hb dX12_kindAt_72 rfl hl (by decide) rfl (fun ls hl => ?_)
                    obtain ⟨zi29, ezi29⟩ : ∃ z : Int32, z = y28_4 + Int32.ofInt 1 := ⟨_, rfl⟩
                    have hzi29 : zi29.toInt = y28_4.toInt + 1 := by rw [ezi29]; have : ((Int32.ofInt 1).toInt) = 1 := (by decide);  exact (ia_add (by omega) (by omega)).trans (by omega)
                    refine lv_iinc (v := zi29) (lv' := [(4, .int zi29), (3, .int 0), (2, .int y2_2), (0, .ref a0), (1, .int x1)]) hx hb dX12_kindAt_73 hl (k := 1) rfl ezi29.symm (by decide) rfl (fun ls hl => ?_)
                    refine lv_goto (tgt := 28) hx hb dX12_kindAt_76 (by decide) ?_
                    exact ih28 (n28 - 1) (by have : ((0 : Int32).toInt) = 0 := (by decide);  omega) zi29 (0 : Int32) _ _ ls (by omega) (by omega) (by have : ((0 : Int32).toInt) = 0 := (by decide); omega) (by have : ((0 : Int32).toInt) = 0 := (by decide); omega) (by have : ((0 : Int32).toInt) = 0 := (by decide); omega) (by have : ((0 : Int32).toInt) = 0 := (by decide); omega) (by have : ((0 : Int32).toInt) = 0 := (by decide);  omega) TH hS (lv_sub hl [0, 1, 2, 3, 4] rfl)
                  · have hf30 : xe23.toInt = xe26.toInt := by have z := (fa_eq _ _).mp hc27;  omega
                    refine lv_iconst (v := 1) hx hb dX12_kindAt_67 (by decide) ?_
                    refine lv_goto (tgt := 72) hx hb dX12_kindAt_68 (by decide) ?_
                    refine lv_istore_n (lv' := [(3, .int 1), (4, .int y28_4), (2, .int y2_2), (0, .ref a0), (1, .int x1)]) hx hb dX12_kindAt_72 rfl hl (by decide) rfl (fun ls hl => ?_)
                    obtain ⟨zi31, ezi31⟩ : ∃ z : Int32, z = y28_4 + Int32.ofInt 1 := ⟨_, rfl⟩
                    have hzi31 : zi31.toInt = y28_4.toInt + 1 := by rw [ezi31]; have : ((Int32.ofInt 1).toInt) = 1 := (by decide);  exact (ia_add (by omega) (by omega)).trans (by omega)
                    refine lv_iinc (v := zi31) (lv' := [(4, .int zi31), (3, .int 1), (2, .int y2_2), (0, .ref a0), (1, .int x1)]) hx hb dX12_kindAt_73 hl (k := 1) rfl ezi31.symm (by decide) rfl (fun ls hl => ?_)
                    refine lv_goto (tgt := 28) hx hb dX12_kindAt_76 (by decide) ?_
                    exact ih28 (n28 - 1) (by have : ((1 : Int32).toInt) = 1 := (by decide);  omega) zi31 (1 : Int32) _ _ ls (by omega) (by omega) (by have : ((1 : Int32).toInt) = 1 := (by decide); omega) (by have : ((1 : Int32).toInt) = 1 := (by decide); omega) (by have : ((1 : Int32).toInt) = 1 := (by decide); omega) (by have : ((1 : Int32).toInt) = 1 := (by decide); omega) (by have : ((1 : Int32).toInt) = 1 := (by decide);  omega) TH hS (lv_sub hl [0, 1, 2, 3, 4] rfl)
          exact hJ28 501 (0 : Int32) (1 : Int32) _ _ ls (by have : ((0 : Int32).toInt) = 0 := (by decide); omega) (by have : ((0 : Int32).toInt) = 0 := (by decide); omega) (by have : ((1 : Int32).toInt) = 1 := (by decide); omega) (by have : ((1 : Int32).toInt) = 1 := (by decide); omega) (by have : ((0 : Int32).toInt) = 0 := (by decide); have : ((1 : Int32).toInt) = 1 := (by decide); omega) (by have : ((0 : Int32).toInt) = 0 := (by decide); have : ((1 : Int32).toInt) = 1 := (by decide); omega) (by have : ((0 : Int32).toInt) = 0 := (by decide); have : ((1 : Int32).toInt) = 1 := (by decide);  omega) TH hS (lv_sub hl [0, 1, 2, 3, 4] rfl)
        · have hf32 : ¬ (xe6.toInt = x1.toInt) := fun q => hc8 ((fa_eq _ _).mpr (by  omega))
          refine lv_goto (tgt := 85) hx hb dX12_kindAt_20 (by decide) ?_
          exact hJ85  _ _ ls  TH hS (lv_sub hl [0, 1, 2] rfl)
  exact hJ2 11 (0 : Int32) _ _ ls (by have : ((0 : Int32).toInt) = 0 := (by decide); omega) (by have : ((0 : Int32).toInt) = 0 := (by decide); omega) (by have : ((0 : Int32).toInt) = 0 := (by decide);  omega) TH hS (lv_sub hl [0, 1, 2] rfl)
set_option maxHeartbeats 4000000 in
set_option maxRecDepth 100000 in
theorem tX12_wordHere (l : Launch) (D : va_G) (cs : Nat → ClassId) {kp : Nat → Nat} {L : List Nat} {E : Nat → va_E} (a0 : Nat) (fv0_1 : Int32) (fv0_2 : Int32) (fv0_3 : Int32) (hm0 : a0 ∈ L) (hk0 : kp a0 = 12) (hfv0_1 : tw_fv E a0 1 = .int fv0_1) (hfv0_2 : tw_fv E a0 2 = .int fv0_2) (hfv0_3 : tw_fv E a0 3 = .int fv0_3) (hpre0 : lx_wd (tw_el E a0 0) fv0_1.toInt fv0_2.toInt fv0_3.toInt) (sz : Nat) : Met l yX12_wordHere (.code yX12_wordHere cX12_wordHere 4 (some .long) :: cx_big) { frames := 0, cells := 0, slots := 0, locals := 0 } (tw_P D cs kp L E [.ref a0] sz) (tw_Q D cs kp L (fun v kq Lq Eq => (∃ x : Int64, v = some (.long x) ∧ (gw_ok x.toInt)) ∧ kp = kq ∧ L = Lq ∧ E = Eq) (va_A (va_pl L E) sz)) 0 0 (va_A (va_pl L E) sz) := by
  refine tw_ofW (by decide) (Nat.le_of_ble_eq_true rfl) ?_
  intro p e s m below meth c A ls hx hb hr hml hB hown hlocks hK hN hA TH hS hl
  have hown : s.vm.findClass "TreeMergeModel" = some m.cls := hown
  have hl : lv_has ls 4 [(0, .ref a0)] := hl
  obtain ⟨kp0, ekp⟩ : ∃ z, z = kp := ⟨_, rfl⟩
  obtain ⟨L0, eL⟩ : ∃ z, z = L := ⟨_, rfl⟩
  rw [show tw_Q D cs kp L = tw_Q D cs kp0 L0 by rw [ekp, eL]]
  have hex : ∀ a : Nat, a ∈ L0 → a ∈ L ∧ kp a = kp0 a := fun a h => ⟨by rw [← eL]; exact h, by rw [ekp]⟩
  obtain ⟨qfv0_1, hqfv0_1, hqfv0_1a, hqfv0_1b⟩ := tw_rd TH hm0 hk0 (by decide) (by decide) (k := 1) rfl
  have eqfv0_1 : qfv0_1 = fv0_1 := by have q := hqfv0_1.symm.trans hfv0_1; injection q
  rw [eqfv0_1] at hqfv0_1a hqfv0_1b
  obtain ⟨qfv0_2, hqfv0_2, hqfv0_2a, hqfv0_2b⟩ := tw_rd TH hm0 hk0 (by decide) (by decide) (k := 2) rfl
  have eqfv0_2 : qfv0_2 = fv0_2 := by have q := hqfv0_2.symm.trans hfv0_2; injection q
  rw [eqfv0_2] at hqfv0_2a hqfv0_2b
  obtain ⟨qfv0_3, hqfv0_3, hqfv0_3a, hqfv0_3b⟩ := tw_rd TH hm0 hk0 (by decide) (by decide) (k := 3) rfl
  have eqfv0_3 : qfv0_3 = fv0_3 := by have q := hqfv0_3.symm.trans hfv0_3; injection q
  rw [eqfv0_3] at hqfv0_3a hqfv0_3b
  have hw1 := hpre0.1
  have hw2 := hpre0.2.1
  have hw3 := hpre0.2.2.1
  refine lv_lconst (v := 0) hx hb dX12_wordHere_0 (by decide) ?_
  refine tw_topl (fun zl1 ezl1 => ?_)
  have hzl1 : zl1.toInt = 0 := by rw [ezl1]; decide
  refine lv_lstore_n (lv' := [(1, .long zl1), (0, .ref a0)]) hx hb dX12_wordHere_1 rfl hl (by decide) rfl (fun ls hl => ?_)
  refine lv_aload_n hx hb dX12_wordHere_2 rfl (lv_at hl 1 rfl) ?_
  refine tw_get (ci := 12) (C := RX12) (T := TX12) (N := 64) hx hb hB cx_inX12 hown hK TH hm0 hk0 rfl ⟨by decide, rfl⟩ 2 (by decide) cw_1195 (fun _ h9 => h9) dX12_wordHere_3 (fun hv => ?_)
  rw [hfv0_2]
  refine lv_iconst (v := 1) hx hb dX12_wordHere_6 (by decide) ?_
  refine lv_iadd hx hb dX12_wordHere_7 ?_
  refine lv_topi (fun zi2 ezi2 => ?_)
  have hzi2 : zi2.toInt = fv0_2.toInt + 1 := by rw [ezi2]; have : ((1 : Int32).toInt) = 1 := (by decide); have := ia_lo fv0_2; have := ia_hi fv0_2; exact (ia_add (by omega) (by omega)).trans (by omega)
  refine lv_istore_n (lv' := [(3, .int zi2), (1, .long zl1), (0, .ref a0)]) hx hb dX12_wordHere_8 rfl hl (by decide) rfl (fun ls hl => ?_)
  have hJ9 : ∀ (n9 : Nat) (y9_3 : Int32) (y9_1 : Int64) (H : Heap) (locs : List Loc) (ls : Array Slot), 1 ≤ y9_3.toInt → y9_3.toInt ≤ 501 → ((y9_3.toInt = fv0_2.toInt + 1 ∧ y9_1.toInt = 0) ∨ y9_1.toInt % 256 ≠ 0) → (fv0_2.toInt + 1 ≤ y9_3.toInt) → 501 - y9_3.toInt ≤ (n9 : Int) → tw_H D cs kp L E A H → va_S A s.heap H locs → lv_has ls 4 [(3, .int y9_3), (1, .long y9_1), (0, .ref a0)] → W p l e { frames := 0, cells := 0, slots := 0, locals := 0 } s m [.ref a0].toArray below meth c H locs 0 0 (MQ below (tw_Q D cs kp0 L0 (fun v kq Lq Eq => (∃ x : Int64, v = some (.long x) ∧ (gw_ok x.toInt)) ∧ kp = kq ∧ L = Lq ∧ E = Eq) A) [.ref a0].toArray s 0 0 A) (F0 m 9 ls []) := by
    intro n9
    induction n9 using Nat.strongRecOn with
    | _ n9 ih9 =>
      intro y9_3 y9_1 H locs ls hy9_3a hy9_3b hin9_0 hin9_1 hmeas9 TH hS hl
      refine lv_iload_n hx hb dX12_wordHere_9 rfl (lv_at hl 0 rfl) ?_
      refine lv_aload_n hx hb dX12_wordHere_10 rfl (lv_at hl 2 rfl) ?_
      refine tw_get (ci := 12) (C := RX12) (T := TX12) (N := 64) hx hb hB cx_inX12 hown hK TH hm0 hk0 rfl ⟨by decide, rfl⟩ 3 (by decide) cw_1196 (fun _ h9 => h9) dX12_wordHere_11 (fun hv => ?_)
      rw [hfv0_3]
      refine lv_iconst (v := 1) hx hb dX12_wordHere_14 (by decide) ?_
      refine lv_isub hx hb dX12_wordHere_15 ?_
      refine lv_topi (fun zi3 ezi3 => ?_)
      have hzi3 : zi3.toInt = fv0_3.toInt - 1 := by rw [ezi3]; have : ((1 : Int32).toInt) = 1 := (by decide); have := ia_lo fv0_3; have := ia_hi fv0_3; exact (ia_sub (by omega) (by omega)).trans (by omega)
      refine lv_icmp_ge (tgt := 38) hx hb dX12_wordHere_16 (by decide) (fun hc4 => ?_) (fun hc4 => ?_)
      · have hf5 : zi3.toInt ≤ y9_3.toInt := by have z := (fa_le _ _).mp hc4;  omega
        refine lv_lload_n hx hb dX12_wordHere_38 rfl (lv_at hl 1 rfl) ?_
        exact tw_lret hx hb hr hlocks TH hS hex ⟨⟨_, rfl, (by  rcases hin9_0 with z | z; exact Or.inl z.2; exact Or.inr z)⟩, rfl, rfl, rfl⟩ (Nat.le_of_ble_eq_true rfl) (Nat.le_of_ble_eq_true rfl) dX12_wordHere_39
      · have hf6 : ¬ (zi3.toInt ≤ y9_3.toInt) := fun q => hc4 ((fa_le _ _).mpr (by  omega))
        refine lv_lload_n hx hb dX12_wordHere_19 rfl (lv_at hl 1 rfl) ?_
        refine lv_bipush (v := 8) hx hb dX12_wordHere_20 (by decide) ?_
        refine lv_lshl (v := ((y9_1) <<< (((8 : Int32)).toInt64 &&& 63))) hx hb dX12_wordHere_22 rfl ?_
        refine tw_topl (fun zl7 ezl7 => ?_)
        refine lv_aload_n hx hb dX12_wordHere_23 rfl (lv_at hl 2 rfl) ?_
        refine tw_get (ci := 12) (C := RX12) (T := TX12) (N := 64) hx hb hB cx_inX12 hown hK TH hm0 hk0 rfl ⟨by decide, rfl⟩ 0 (by decide) cw_1193 (fun _ h9 => h9) dX12_wordHere_24 (fun hv => ?_)
        obtain ⟨xr8, hxr8, hmxr8, hkxr8⟩ : ∃ a : Nat, tw_fv E a0 0 = .ref a ∧ a ∈ L ∧ kp a = 300 := hv
        rw [hxr8]
        refine lv_iload_n hx hb dX12_wordHere_27 rfl (lv_at hl 0 rfl) ?_
        refine tw_bald (k := 300) (t0 := 2) (n := 500) (lo := (-128)) (hi := 127) hx hb hK TH hmxr8 hkxr8 (by decide) rfl rfl (i := y9_3) (vp_in_iff.mpr ⟨by  omega, by  omega⟩) dX12_wordHere_28 (fun hxe9a hxe9b => ?_)
        obtain ⟨xe9, exe9⟩ : ∃ z : Int32, tw_iv E xr8 (Int32.toNatClampNeg y9_3) = z := ⟨_, rfl⟩
        rw [exe9] at hxe9a hxe9b ⊢
        have ht28 : tw_el E a0 0 (y9_3.toInt).toNat = xe9.toInt := (by rw [tw_el_of hxr8]; exact congrArg Int32.toInt exe9)
        refine lv_i2l (v := (xe9).toInt64) hx hb dX12_wordHere_29 rfl ?_
        refine tw_topl (fun zl10 ezl10 => ?_)
        have hzl10 : zl10.toInt = xe9.toInt := by rw [ezl10];  exact (Int32.toInt_toInt64 _)
        have whs := ezl7
        refine lv_lor hx hb dX12_wordHere_30 ?_
        refine tw_topl (fun zl11 ezl11 => ?_)
        refine lv_lstore_n (lv' := [(1, .long zl11), (3, .int y9_3), (0, .ref a0)]) hx hb dX12_wordHere_31 rfl hl (by decide) rfl (fun ls hl => ?_)
        obtain ⟨zi12, ezi12⟩ : ∃ z : Int32, z = y9_3 + Int32.ofInt 1 := ⟨_, rfl⟩
        have hzi12 : zi12.toInt = y9_3.toInt + 1 := by rw [ezi12]; have : ((Int32.ofInt 1).toInt) = 1 := (by decide);  exact (ia_add (by omega) (by omega)).trans (by omega)
        refine lv_iinc (v := zi12) (lv' := [(3, .int zi12), (1, .long zl11), (0, .ref a0)]) hx hb dX12_wordHere_32 hl (k := 1) rfl ezi12.symm (by decide) rfl (fun ls hl => ?_)
        refine lv_goto (tgt := 9) hx hb dX12_wordHere_35 (by decide) ?_
        exact ih9 (n9 - 1) (by   omega) zi12 zl11 _ _ ls (by omega) (by omega) (by  refine Or.inr ?_; have hb := hpre0.2.2.2.2 (y9_3.toInt).toNat (by omega) (by omega); rw [ht28] at hb; unfold lx_ow at hb; exact gw_or whs ezl11 (by omega) (by omega)) (by  omega) (by   omega) TH hS (lv_sub hl [0, 1, 2] rfl)
  exact hJ9 502 zi2 zl1 _ _ ls (by omega) (by omega) (by  exact Or.inl ⟨by omega, by omega⟩) (by  omega) (by   omega) TH hS (lv_sub hl [0, 1, 2] rfl)
set_option maxHeartbeats 4000000 in
set_option maxRecDepth 100000 in
theorem tX12_isCut_vL (l : Launch) (D : va_G) (cs : Nat → ClassId) {kp : Nat → Nat} {L : List Nat} {E : Nat → va_E} (a0 : Nat) (hm0 : a0 ∈ L) (hk0 : kp a0 = 12) (sz : Nat) : Met l yX12_isCut (.code yX12_isCut cX12_isCut 2 (some .boolean) :: cx_big) { frames := 2, cells := 0, slots := 0, locals := 41 } (tw_P D cs kp L E [.ref a0] sz) (tw_Q D cs kp L (fun v kq Lq Eq => (∃ x : Int32, v = some (.int x) ∧ 0 ≤ x.toInt ∧ x.toInt ≤ 1) ∧ kp = kq ∧ L = Lq ∧ E = Eq) (va_A (va_pl L E) sz)) 0 0 (va_A (va_pl L E) sz) := by
  refine tw_ofW (by decide) (Nat.le_of_ble_eq_true rfl) ?_
  intro p e s m below meth c A ls hx hb hr hml hB hown hlocks hK hN hA TH hS hl
  have hown : s.vm.findClass "TreeMergeModel" = some m.cls := hown
  have hl : lv_has ls 2 [(0, .ref a0)] := hl
  obtain ⟨kp0, ekp⟩ : ∃ z, z = kp := ⟨_, rfl⟩
  obtain ⟨L0, eL⟩ : ∃ z, z = L := ⟨_, rfl⟩
  rw [show tw_Q D cs kp L = tw_Q D cs kp0 L0 by rw [ekp, eL]]
  have hex : ∀ a : Nat, a ∈ L0 → a ∈ L ∧ kp a = kp0 a := fun a h => ⟨by rw [← eL]; exact h, by rw [ekp]⟩
  refine lv_aload_n hx hb dX12_isCut_0 rfl (lv_at hl 0 rfl) ?_
  refine lv_bipush (v := 123) hx hb dX12_isCut_1 (by decide) ?_
  obtain ⟨xi1, hxi1, hxi1a, hxi1b⟩ := tw_rd TH hm0 hk0 (by decide) (by decide) (k := 2) rfl
  obtain ⟨xi2, hxi2, hxi2a, hxi2b⟩ := tw_rd TH hm0 hk0 (by decide) (by decide) (k := 1) rfl
  refine tw_Vc (o := a0) (ci := 12) (n := 1) (post := (fun v kq Lq Eq => (∃ x : Int32, v = some (.int x) ∧ 0 ≤ x.toInt ∧ x.toInt ≤ 1 ∧ (x.toInt ≠ 0 ↔ (xi1.toInt < xi2.toInt ∧ tw_el E a0 0 (xi1.toInt).toNat = (123 : Int32).toInt))) ∧ kp = kq ∧ L = Lq ∧ E = Eq)) (As := [.int 123]) (rest := []) ⟨hx, hb, hml, hown, hB⟩ (fun sz => tX12_isSign_vL l D cs a0 (123 : Int32) xi1 xi2 hm0 hk0 hxi1 hxi2 sz) cg_12_221_X12_isSign rfl rfl (by decide +kernel) ⟨Nat.le_of_ble_eq_true rfl, Nat.le_of_ble_eq_true rfl⟩ hK hN TH hS hA rfl hm0 hk0 (by decide) rfl hl.1 rfl (Nat.le_of_ble_eq_true rfl) dX12_isCut_3 ⟨Nat.le_of_ble_eq_true rfl, Nat.le_of_ble_eq_true rfl⟩ (fun v3 kp3 L3 E3 H locs hq3 hx3 TH hS => ?_)
  obtain ⟨⟨xc4, rfl, hxc4a, hxc4b, hpoxc4_0⟩, rfl, rfl, rfl⟩ := hq3
  refine W.eq (g2 := F0 m 6 ls [.int xc4]) rfl ?_
  refine lv_if_eq (tgt := 16) hx hb dX12_isCut_6 (by decide) (fun hc5 => ?_) (fun hc5 => ?_)
  · have hf6 : xc4.toInt = 0 := by have z := (fa_eq _ _).mp hc5; have : ((0 : Int32).toInt) = 0 := (by decide); omega
    refine lv_iconst (v := 0) hx hb dX12_isCut_16 (by decide) ?_
    exact tw_zret hx hb hr hlocks (by decide) TH hS hex ⟨⟨_, rfl, (show 0 ≤ Int32.toInt 0 from by have : ((0 : Int32).toInt) = 0 := (by decide); omega), (show Int32.toInt 0 ≤ 1 from by have : ((0 : Int32).toInt) = 0 := (by decide); omega)⟩, rfl, rfl, rfl⟩ (Nat.le_of_ble_eq_true rfl) (Nat.le_of_ble_eq_true rfl) dX12_isCut_17
  · have hf7 : ¬ (xc4.toInt = 0) := fun q => hc5 ((fa_eq _ _).mpr (by have : ((0 : Int32).toInt) = 0 := (by decide); omega))
    refine lv_aload_n hx hb dX12_isCut_9 rfl (lv_at hl 0 rfl) ?_
    obtain ⟨xi8, hxi8, hxi8a, hxi8b⟩ := tw_rd TH hm0 hk0 (by decide) (by decide) (k := 3) rfl
    refine tw_Vc (o := a0) (ci := 12) (n := 0) (post := (fun v kq Lq Eq => (∃ x : Int32, v = some (.int x) ∧ 0 ≤ x.toInt ∧ x.toInt ≤ 1 ∧ (x.toInt ≠ 0 ↔ ((xi1.toInt < xi2.toInt ∧ tw_el E a0 0 (xi1.toInt).toNat = 123) ∧ xi1.toInt + 1 < xi8.toInt))) ∧ kp = kq ∧ L = Lq ∧ E = Eq)) (As := []) (rest := []) ⟨hx, hb, hml, hown, hB⟩ (fun sz => tX12_isWord_vL l D cs a0 xi1 xi2 xi8 hm0 hk0 hxi1 hxi2 hxi8 sz) cg_12_224_X12_isWord rfl rfl (by decide +kernel) ⟨Nat.le_of_ble_eq_true rfl, Nat.le_of_ble_eq_true rfl⟩ hK hN TH hS hA rfl hm0 hk0 (by decide) rfl hl.1 rfl (Nat.le_of_ble_eq_true rfl) dX12_isCut_10 ⟨Nat.le_of_ble_eq_true rfl, Nat.le_of_ble_eq_true rfl⟩ (fun v9 kp9 L9 E9 H locs hq9 hx9 TH hS => ?_)
    obtain ⟨⟨xc10, rfl, hxc10a, hxc10b, hpoxc10_0⟩, rfl, rfl, rfl⟩ := hq9
    refine W.eq (g2 := F0 m 13 ls [.int xc10]) rfl ?_
    refine lv_if_eq (tgt := 18) hx hb dX12_isCut_13 (by decide) (fun hc11 => ?_) (fun hc11 => ?_)
    · have hf12 : xc10.toInt = 0 := by have z := (fa_eq _ _).mp hc11; have : ((0 : Int32).toInt) = 0 := (by decide); omega
      refine lv_aload_n hx hb dX12_isCut_18 rfl (lv_at hl 0 rfl) ?_
      refine tw_get (ci := 12) (C := RX12) (T := TX12) (N := 64) hx hb hB cx_inX12 hown hK TH hm0 hk0 rfl ⟨by decide, rfl⟩ 2 (by decide) cw_1195 (fun _ h9 => h9) dX12_isCut_19 (fun hv => ?_)
      rw [hxi1]
      refine lv_iconst (v := 1) hx hb dX12_isCut_22 (by decide) ?_
      refine lv_iadd hx hb dX12_isCut_23 ?_
      refine lv_topi (fun zi13 ezi13 => ?_)
      have hzi13 : zi13.toInt = xi1.toInt + 1 := by rw [ezi13]; have : ((1 : Int32).toInt) = 1 := (by decide); have := ia_lo xi1; have := ia_hi xi1; exact (ia_add (by omega) (by omega)).trans (by omega)
      refine lv_istore_n (lv' := [(1, .int zi13), (0, .ref a0)]) hx hb dX12_isCut_24 rfl hl (by decide) rfl (fun ls hl => ?_)
      have hJ25 : ∀ (n25 : Nat) (y25_1 : Int32) (H : Heap) (locs : List Loc) (ls : Array Slot), 1 ≤ y25_1.toInt → y25_1.toInt ≤ 501 → 501 - y25_1.toInt ≤ (n25 : Int) → tw_H D cs kp L E A H → va_S A s.heap H locs → lv_has ls 2 [(1, .int y25_1), (0, .ref a0)] → W p l e { frames := 2, cells := 0, slots := 0, locals := 41 } s m [.ref a0].toArray below meth c H locs 0 0 (MQ below (tw_Q D cs kp0 L0 (fun v kq Lq Eq => (∃ x : Int32, v = some (.int x) ∧ 0 ≤ x.toInt ∧ x.toInt ≤ 1) ∧ kp = kq ∧ L = Lq ∧ E = Eq) A) [.ref a0].toArray s 0 0 A) (F0 m 25 ls []) := by
        intro n25
        induction n25 using Nat.strongRecOn with
        | _ n25 ih25 =>
          intro y25_1 H locs ls hy25_1a hy25_1b hmeas25 TH hS hl
          refine lv_iload_n hx hb dX12_isCut_25 rfl (lv_at hl 0 rfl) ?_
          refine lv_aload_n hx hb dX12_isCut_26 rfl (lv_at hl 1 rfl) ?_
          refine tw_get (ci := 12) (C := RX12) (T := TX12) (N := 64) hx hb hB cx_inX12 hown hK TH hm0 hk0 rfl ⟨by decide, rfl⟩ 1 (by decide) cw_1194 (fun _ h9 => h9) dX12_isCut_27 (fun hv => ?_)
          rw [hxi2]
          have hJ51 : ∀  (H : Heap) (locs : List Loc) (ls : Array Slot), tw_H D cs kp L E A H → va_S A s.heap H locs → lv_has ls 2 [(1, .int y25_1), (0, .ref a0)] → W p l e { frames := 2, cells := 0, slots := 0, locals := 41 } s m [.ref a0].toArray below meth c H locs 0 0 (MQ below (tw_Q D cs kp0 L0 (fun v kq Lq Eq => (∃ x : Int32, v = some (.int x) ∧ 0 ≤ x.toInt ∧ x.toInt ≤ 1) ∧ kp = kq ∧ L = Lq ∧ E = Eq) A) [.ref a0].toArray s 0 0 A) (F0 m 51 ls []) := by
            intro H locs ls TH hS hl
            refine lv_iload_n hx hb dX12_isCut_51 rfl (lv_at hl 0 rfl) ?_
            refine lv_aload_n hx hb dX12_isCut_52 rfl (lv_at hl 1 rfl) ?_
            refine tw_get (ci := 12) (C := RX12) (T := TX12) (N := 64) hx hb hB cx_inX12 hown hK TH hm0 hk0 rfl ⟨by decide, rfl⟩ 1 (by decide) cw_1194 (fun _ h9 => h9) dX12_isCut_53 (fun hv => ?_)
            rw [hxi2]
            refine lv_icmp_ne (tgt := 74) hx hb dX12_isCut_56 (by decide) (fun hc14 => ?_) (fun hc14 => ?_)
            · have hf15 : ¬ (y25_1.toInt = xi2.toInt) := fun q => hc14 ((fa_eq _ _).mpr (by  omega))
              refine lv_iconst (v := 0) hx hb dX12_isCut_74 (by decide) ?_
              exact tw_zret hx hb hr hlocks (by decide) TH hS hex ⟨⟨_, rfl, (show 0 ≤ Int32.toInt 0 from by have : ((0 : Int32).toInt) = 0 := (by decide); omega), (show Int32.toInt 0 ≤ 1 from by have : ((0 : Int32).toInt) = 0 := (by decide); omega)⟩, rfl, rfl, rfl⟩ (Nat.le_of_ble_eq_true rfl) (Nat.le_of_ble_eq_true rfl) dX12_isCut_75
            · have hf16 : y25_1.toInt = xi2.toInt := by have z := (fa_eq _ _).mp hc14;  omega
              refine lv_iload_n hx hb dX12_isCut_59 rfl (lv_at hl 0 rfl) ?_
              refine lv_aload_n hx hb dX12_isCut_60 rfl (lv_at hl 1 rfl) ?_
              refine tw_get (ci := 12) (C := RX12) (T := TX12) (N := 64) hx hb hB cx_inX12 hown hK TH hm0 hk0 rfl ⟨by decide, rfl⟩ 2 (by decide) cw_1195 (fun _ h9 => h9) dX12_isCut_61 (fun hv => ?_)
              rw [hxi1]
              refine lv_isub hx hb dX12_isCut_64 ?_
              refine lv_topi (fun zi17 ezi17 => ?_)
              have hzi17 : zi17.toInt = y25_1.toInt - xi1.toInt := by rw [ezi17];  have := ia_lo y25_1; have := ia_hi y25_1; have := ia_lo xi1; have := ia_hi xi1; exact (ia_sub (by omega) (by omega)).trans (by omega)
              refine lv_bipush (v := 9) hx hb dX12_isCut_65 (by decide) ?_
              refine lv_icmp_gt (tgt := 74) hx hb dX12_isCut_67 (by decide) (fun hc18 => ?_) (fun hc18 => ?_)
              · have hf19 : 9 < zi17.toInt := by have z := (fa_lt _ _).mp hc18; have : ((9 : Int32).toInt) = 9 := (by decide); omega
                refine lv_iconst (v := 0) hx hb dX12_isCut_74 (by decide) ?_
                exact tw_zret hx hb hr hlocks (by decide) TH hS hex ⟨⟨_, rfl, (show 0 ≤ Int32.toInt 0 from by have : ((0 : Int32).toInt) = 0 := (by decide); omega), (show Int32.toInt 0 ≤ 1 from by have : ((0 : Int32).toInt) = 0 := (by decide); omega)⟩, rfl, rfl, rfl⟩ (Nat.le_of_ble_eq_true rfl) (Nat.le_of_ble_eq_true rfl) dX12_isCut_75
              · have hf20 : ¬ (9 < zi17.toInt) := fun q => hc18 ((fa_lt _ _).mpr (by have : ((9 : Int32).toInt) = 9 := (by decide); omega))
                refine lv_iconst (v := 1) hx hb dX12_isCut_70 (by decide) ?_
                refine lv_goto (tgt := 75) hx hb dX12_isCut_71 (by decide) ?_
                exact tw_zret hx hb hr hlocks (by decide) TH hS hex ⟨⟨_, rfl, (show 0 ≤ Int32.toInt 1 from by have : ((1 : Int32).toInt) = 1 := (by decide); omega), (show Int32.toInt 1 ≤ 1 from by have : ((1 : Int32).toInt) = 1 := (by decide); omega)⟩, rfl, rfl, rfl⟩ (Nat.le_of_ble_eq_true rfl) (Nat.le_of_ble_eq_true rfl) dX12_isCut_75
          refine lv_icmp_ge (tgt := 51) hx hb dX12_isCut_30 (by decide) (fun hc21 => ?_) (fun hc21 => ?_)
          · have hf22 : xi2.toInt ≤ y25_1.toInt := by have z := (fa_le _ _).mp hc21;  omega
            exact hJ51  _ _ ls  TH hS (lv_sub hl [0, 1] rfl)
          · have hf23 : ¬ (xi2.toInt ≤ y25_1.toInt) := fun q => hc21 ((fa_le _ _).mpr (by  omega))
            refine lv_aload_n hx hb dX12_isCut_33 rfl (lv_at hl 1 rfl) ?_
            refine tw_get (ci := 12) (C := RX12) (T := TX12) (N := 64) hx hb hB cx_inX12 hown hK TH hm0 hk0 rfl ⟨by decide, rfl⟩ 0 (by decide) cw_1193 (fun _ h9 => h9) dX12_isCut_34 (fun hv => ?_)
            obtain ⟨xr24, hxr24, hmxr24, hkxr24⟩ : ∃ a : Nat, tw_fv E a0 0 = .ref a ∧ a ∈ L ∧ kp a = 300 := hv
            rw [hxr24]
            refine lv_iload_n hx hb dX12_isCut_37 rfl (lv_at hl 0 rfl) ?_
            refine tw_bald (k := 300) (t0 := 2) (n := 500) (lo := (-128)) (hi := 127) hx hb hK TH hmxr24 hkxr24 (by decide) rfl rfl (i := y25_1) (vp_in_iff.mpr ⟨by  omega, by  omega⟩) dX12_isCut_38 (fun hxe25a hxe25b => ?_)
            obtain ⟨xe25, exe25⟩ : ∃ z : Int32, tw_iv E xr24 (Int32.toNatClampNeg y25_1) = z := ⟨_, rfl⟩
            rw [exe25] at hxe25a hxe25b ⊢
            refine tw_Sc (n := 1) (post := (fun v kq Lq Eq => (∃ x : Int32, v = some (.int x) ∧ 0 ≤ x.toInt ∧ x.toInt ≤ 1 ∧ (x.toInt ≠ 0 ↔ ((97 ≤ xe25.toInt ∧ xe25.toInt ≤ 122) ∨ (48 ≤ xe25.toInt ∧ xe25.toInt ≤ 57)))) ∧ kp = kq ∧ L = Lq ∧ E = Eq)) (As := [.int xe25]) (rest := []) ⟨hx, hb, hml, hown, hB⟩ (fun sz => tX12_isOfWord_vL l D cs xe25  sz) cg_12_185_X12_isOfWord rfl rfl (by decide +kernel) ⟨Nat.le_of_ble_eq_true rfl, Nat.le_of_ble_eq_true rfl⟩ hK hN TH hS hA rfl hl.1 rfl (Nat.le_of_ble_eq_true rfl) dX12_isCut_39 ⟨Nat.le_of_ble_eq_true rfl, Nat.le_of_ble_eq_true rfl⟩ (fun v26 kp26 L26 E26 H locs hq26 hx26 TH hS => ?_)
            obtain ⟨⟨xc27, rfl, hxc27a, hxc27b, hpoxc27_0⟩, rfl, rfl, rfl⟩ := hq26
            refine W.eq (g2 := F0 m 42 ls [.int xc27]) rfl ?_
            refine lv_if_eq (tgt := 51) hx hb dX12_isCut_42 (by decide) (fun hc28 => ?_) (fun hc28 => ?_)
            · have hf29 : xc27.toInt = 0 := by have z := (fa_eq _ _).mp hc28; have : ((0 : Int32).toInt) = 0 := (by decide); omega
              exact hJ51  _ _ ls  TH hS (lv_sub hl [0, 1] rfl)
            · have hf30 : ¬ (xc27.toInt = 0) := fun q => hc28 ((fa_eq _ _).mpr (by have : ((0 : Int32).toInt) = 0 := (by decide); omega))
              obtain ⟨zi31, ezi31⟩ : ∃ z : Int32, z = y25_1 + Int32.ofInt 1 := ⟨_, rfl⟩
              have hzi31 : zi31.toInt = y25_1.toInt + 1 := by rw [ezi31]; have : ((Int32.ofInt 1).toInt) = 1 := (by decide);  exact (ia_add (by omega) (by omega)).trans (by omega)
              refine lv_iinc (v := zi31) (lv' := [(1, .int zi31), (0, .ref a0)]) hx hb dX12_isCut_45 hl (k := 0) rfl ezi31.symm (by decide) rfl (fun ls hl => ?_)
              refine lv_goto (tgt := 25) hx hb dX12_isCut_48 (by decide) ?_
              exact ih25 (n25 - 1) (by   omega) zi31 _ _ ls (by omega) (by omega) (by   omega) TH hS (lv_sub hl [0, 1] rfl)
      exact hJ25 501 zi13 _ _ ls (by omega) (by omega) (by   omega) TH hS (lv_sub hl [0, 1] rfl)
    · have hf32 : ¬ (xc10.toInt = 0) := fun q => hc11 ((fa_eq _ _).mpr (by have : ((0 : Int32).toInt) = 0 := (by decide); omega))
      refine lv_iconst (v := 0) hx hb dX12_isCut_16 (by decide) ?_
      exact tw_zret hx hb hr hlocks (by decide) TH hS hex ⟨⟨_, rfl, (show 0 ≤ Int32.toInt 0 from by have : ((0 : Int32).toInt) = 0 := (by decide); omega), (show Int32.toInt 0 ≤ 1 from by have : ((0 : Int32).toInt) = 0 := (by decide); omega)⟩, rfl, rfl, rfl⟩ (Nat.le_of_ble_eq_true rfl) (Nat.le_of_ble_eq_true rfl) dX12_isCut_17
set_option maxHeartbeats 4000000 in
set_option maxRecDepth 100000 in
theorem tX12_readsNode (l : Launch) (D : va_G) (cs : Nat → ClassId) (dd : Nat) : ∀ {kp : Nat → Nat} {L : List Nat} {E : Nat → va_E} (a0 : Nat) (x1 : Int32) (x2 : Int32) (fv0_28 : Int32) (fv0_3 : Int32) (fv0_2 : Int32) (hm0 : a0 ∈ L) (hk0 : kp a0 = 12) (hp1a : (-1) ≤ x1.toInt) (hp1b : x1.toInt ≤ 23) (hp2a : 1 ≤ x2.toInt) (hp2b : x2.toInt ≤ 8) (hfv0_28 : tw_fv E a0 28 = .int fv0_28) (hfv0_3 : tw_fv E a0 3 = .int fv0_3) (hfv0_2 : tw_fv E a0 2 = .int fv0_2) (hpre0 : (x1.toInt = -1 ∧ fv0_28.toInt = 0) ∨ (0 ≤ x1.toInt ∧ x1.toInt < fv0_28.toInt)) (hpre1 : 9 - x2.toInt ≤ (dd : Int)) (hpre2 : fv0_3.toInt ≤ 500) (hg0 : tk_at E a0) (hg1 : th_ok E a0 (fv0_28.toInt)) (hg2 : tp_ok E a0 (fv0_28.toInt)) (hg3 : tq_ok E a0 (fv0_28.toInt)) (hg4 : tg_ok E a0 (fv0_28.toInt)) (hg5 : rd_ok E a0) (hg6 : kg_ok E a0) (sz : Nat), Met l yX12_readsNode (.code yX12_readsNode cX12_readsNode 6 (some .boolean) :: cx_big) { frames := dd + 5, cells := 0, slots := 0, locals := 25 * (dd) + 121 } (tw_P D cs kp L E [.ref a0, .int x1, .int x2] sz) (tw_Q D cs kp L (fun v kq Lq Eq => (∃ x : Int32, v = some (.int x) ∧ 0 ≤ x.toInt ∧ x.toInt ≤ 1 ∧ (ot_ok Eq a0 15 E) ∧ (x.toInt = 0 → tw_fi Eq a0 4 ≠ -1) ∧ (x.toInt ≠ 0 → tk_at Eq a0) ∧ (∃ z0 z1 : Int32, tw_fv Eq a0 2 = .int z0 ∧ tw_fv Eq a0 28 = .int z1 ∧ (fv0_2.toInt ≤ z0.toInt ∧ (x.toInt ≠ 0 → fv0_2.toInt < z0.toInt) ∧ fv0_28.toInt ≤ z1.toInt ∧ (x.toInt ≠ 0 → fv0_28.toInt < z1.toInt)) ∧ th_ok Eq a0 (z1.toInt) ∧ tp_ok Eq a0 (z1.toInt) ∧ tq_ok Eq a0 (z1.toInt) ∧ tg_ok Eq a0 (z1.toInt)) ∧ rd_ok Eq a0 ∧ kg_ok Eq a0) ∧ kp = kq ∧ L = Lq ∧ tw_fr kp L [(12, 2), (12, 3), (12, 4), (12, 28)] [326, 327, 328, 329, 332] E Eq) (va_A (va_pl L E) sz)) 0 0 (va_A (va_pl L E) sz) := by
  induction dd with
  | zero =>
    intro kp L E a0 x1 x2 fv0_28 fv0_3 fv0_2 hm0 hk0 hp1a hp1b hp2a hp2b hfv0_28 hfv0_3 hfv0_2 hpre0 hpre1 hpre2 hg0 hg1 hg2 hg3 hg4 hg5 hg6 sz
    exfalso
    omega
  | succ dd ih =>
    intro kp L E a0 x1 x2 fv0_28 fv0_3 fv0_2 hm0 hk0 hp1a hp1b hp2a hp2b hfv0_28 hfv0_3 hfv0_2 hpre0 hpre1 hpre2 hg0 hg1 hg2 hg3 hg4 hg5 hg6 sz
    refine tw_ofW (by decide) (Nat.le_of_ble_eq_true rfl) ?_
    intro p e s m below meth c A ls hx hb hr hml hB hown hlocks hK hN hA TH hS hl
    have hown : s.vm.findClass "TreeMergeModel" = some m.cls := hown
    have hl : lv_has ls 6 [(0, .ref a0), (1, .int x1), (2, .int x2)] := hl
    obtain ⟨kp0, ekp⟩ : ∃ z, z = kp := ⟨_, rfl⟩
    obtain ⟨L0, eL⟩ : ∃ z, z = L := ⟨_, rfl⟩
    rw [show tw_Q D cs kp L = tw_Q D cs kp0 L0 by rw [ekp, eL]]
    have hex : ∀ a : Nat, a ∈ L0 → a ∈ L ∧ kp a = kp0 a := fun a h => ⟨by rw [← eL]; exact h, by rw [ekp]⟩
    have hF : tw_fr kp L [(12, 2), (12, 3), (12, 4), (12, 28)] [326, 327, 328, 329, 332] E E := tw_fr.rf
    obtain ⟨qfv0_28, hqfv0_28, hqfv0_28a, hqfv0_28b⟩ := tw_rd TH hm0 hk0 (by decide) (by decide) (k := 28) rfl
    have eqfv0_28 : qfv0_28 = fv0_28 := by have q := hqfv0_28.symm.trans hfv0_28; injection q
    rw [eqfv0_28] at hqfv0_28a hqfv0_28b
    obtain ⟨qfv0_3, hqfv0_3, hqfv0_3a, hqfv0_3b⟩ := tw_rd TH hm0 hk0 (by decide) (by decide) (k := 3) rfl
    have eqfv0_3 : qfv0_3 = fv0_3 := by have q := hqfv0_3.symm.trans hfv0_3; injection q
    rw [eqfv0_3] at hqfv0_3a hqfv0_3b
    obtain ⟨qfv0_2, hqfv0_2, hqfv0_2a, hqfv0_2b⟩ := tw_rd TH hm0 hk0 (by decide) (by decide) (k := 2) rfl
    have eqfv0_2 : qfv0_2 = fv0_2 := by have q := hqfv0_2.symm.trans hfv0_2; injection q
    rw [eqfv0_2] at hqfv0_2a hqfv0_2b
    obtain ⟨xi1, hxi1, hxi1a, hxi1b⟩ := tw_rd TH hm0 hk0 (by decide) (by decide) (k := 1) rfl
    have hot : ot_ok E a0 15 E := ot_ok_rf
    have hth0 := hg1
    have hth1 := hth0.1
    have htk := hg0
    unfold tk_at at htk
    rw [tw_fi_of hxi1, tw_fi_of hfv0_2, tw_fi_of hfv0_3] at htk
    have htk0 := htk.1
    have htke := lx_TK_end htk.2 htk.1
    have ec40 : ((40 : Int32).toInt) = 40 := (by decide)
    have ec41 : ((41 : Int32).toInt) = 41 := (by decide)
    have ec123 : ((123 : Int32).toInt) = 123 := (by decide)
    refine lv_aload_n hx hb dX12_readsNode_0 rfl (lv_at hl 0 rfl) ?_
    refine tw_get (ci := 12) (C := RX12) (T := TX12) (N := 64) hx hb hB cx_inX12 hown hK TH hm0 hk0 rfl ⟨by decide, rfl⟩ 2 (by decide) cw_1195 (fun _ h9 => h9) dX12_readsNode_1 (fun hv => ?_)
    rw [hfv0_2]
    refine lv_aload_n hx hb dX12_readsNode_4 rfl (lv_at hl 0 rfl) ?_
    refine tw_get (ci := 12) (C := RX12) (T := TX12) (N := 64) hx hb hB cx_inX12 hown hK TH hm0 hk0 rfl ⟨by decide, rfl⟩ 1 (by decide) cw_1194 (fun _ h9 => h9) dX12_readsNode_5 (fun hv => ?_)
    rw [hxi1]
    refine lv_icmp_ge (tgt := 42) hx hb dX12_readsNode_8 (by decide) (fun hc2 => ?_) (fun hc2 => ?_)
    · have hf3 : xi1.toInt ≤ fv0_2.toInt := by have z := (fa_le _ _).mp hc2;  omega
      refine lv_iconst (v := (-1)) hx hb dX12_readsNode_42 (by decide) ?_
      refine lv_istore_n (lv' := [(3, .int (-1)), (0, .ref a0), (1, .int x1), (2, .int x2)]) hx hb dX12_readsNode_43 rfl hl (by decide) rfl (fun ls hl => ?_)
      refine lv_iload_n hx hb dX12_readsNode_44 rfl (lv_at hl 0 rfl) ?_
      refine lv_iconst (v := (-1)) hx hb dX12_readsNode_45 (by decide) ?_
      refine lv_icmp_eq (tgt := 58) hx hb dX12_readsNode_46 (by decide) (fun hc4 => ?_) (fun hc4 => ?_)
      · have hf5 : (-1) = (-1) := by have z := (fa_eq _ _).mp hc4; have : (((-1) : Int32).toInt) = (-1) := (by decide); omega
        refine lv_aload_n hx hb dX12_readsNode_58 rfl (lv_at hl 1 rfl) ?_
        refine tw_Vc (o := a0) (ci := 12) (n := 0) (post := (fun v kq Lq Eq => (∃ x : Int32, v = some (.int x) ∧ 0 ≤ x.toInt ∧ x.toInt ≤ 0 ∧ (∃ z0 : Int32, tw_fv Eq a0 4 = .int z0 ∧ (z0.toInt ≠ -1))) ∧ kp = kq ∧ L = Lq ∧ tw_fr kp L [(12, 4)] [] E Eq)) (As := []) (rest := []) ⟨hx, hb, hml, hown, hB⟩ (fun sz => tX12_fails_vL l D cs a0 hm0 hk0 sz) cg_12_196_X12_fails rfl rfl (by decide +kernel) ⟨(by first | exact Nat.le_of_ble_eq_true rfl | (dsimp only; omega) | omega), (by first | exact Nat.le_of_ble_eq_true rfl | (dsimp only; omega) | omega)⟩ hK hN TH hS hA rfl hm0 hk0 (by decide) rfl hl.1 rfl ((by first | exact Nat.le_of_ble_eq_true rfl | (dsimp only; omega) | omega)) dX12_readsNode_59 ⟨(by first | exact Nat.le_of_ble_eq_true rfl | (dsimp only; omega) | omega), (by first | exact Nat.le_of_ble_eq_true rfl | (dsimp only; omega) | omega)⟩ (fun v6 kp6 L6 E6 H locs hq6 hx6 TH hS => ?_)
        obtain ⟨⟨xc7, rfl, hxc7a, hxc7b, ⟨zfxc7_0_0, hzfxc7_0_0, hzpxc7_0⟩⟩, rfl, rfl, hst6⟩ := hq6
        have hF := hF.tr hst6 (fun _ h => ⟨h, rfl⟩) (by decide) (by decide)
        have hmf8 : tw_fv E6 a0 28 = .int fv0_28 := (hst6.1 a0 28 hm0 (by rw [hk0]; decide)).trans hfv0_28
        have hmf9 : tw_fv E6 a0 3 = .int fv0_3 := (hst6.1 a0 3 hm0 (by rw [hk0]; decide)).trans hfv0_3
        have hmf10 : tw_fv E6 a0 2 = .int fv0_2 := (hst6.1 a0 2 hm0 (by rw [hk0]; decide)).trans hfv0_2
        have hmf11 : tw_fv E6 a0 1 = .int xi1 := (hst6.1 a0 1 hm0 (by rw [hk0]; decide)).trans hxi1
        have hg0 : tk_at E6 a0 := tk_at_fr TH hst6 hm0 hk0 (by decide) (by decide) hg0
        have hg1 : th_ok E6 a0 (fv0_28.toInt) := th_ok_fr TH hst6 hm0 hk0 (by decide) (by decide) hg1
        have hg2 : tp_ok E6 a0 (fv0_28.toInt) := tp_ok_fr TH hst6 hm0 hk0 (by decide) (by decide) hg2
        have hg3 : tq_ok E6 a0 (fv0_28.toInt) := tq_ok_fr TH hst6 hm0 hk0 (by decide) (by decide) hg3
        have hg4 : tg_ok E6 a0 (fv0_28.toInt) := tg_ok_fr TH hst6 hm0 hk0 (by decide) (by decide) hg4
        have hg5 : rd_ok E6 a0 := rd_ok_fr TH hst6 hm0 hk0 (by decide) (by decide) hg5
        have hg6 : kg_ok E6 a0 := kg_ok_fr TH hst6 hm0 hk0 (by decide) (by decide) hg6
        have hot : ot_ok E6 a0 (15) E := ot_ok_fr TH hst6 hm0 hk0 (by decide) (by decide) hot
        obtain ⟨qzfxc7_0_0, hqzfxc7_0_0, hqzfxc7_0_0a, hqzfxc7_0_0b⟩ := tw_rd TH hm0 hk0 (by decide) (by decide) (k := 4) rfl
        have eqzfxc7_0_0 : qzfxc7_0_0 = zfxc7_0_0 := by have q := hqzfxc7_0_0.symm.trans hzfxc7_0_0; injection q
        rw [eqzfxc7_0_0] at hqzfxc7_0_0a hqzfxc7_0_0b
        refine W.eq (g2 := F0 m 62 ls [.int xc7]) rfl ?_
        exact tw_zret hx hb hr hlocks (ia_bool (by omega) (by omega)) TH hS hex ⟨⟨_, rfl, (show 0 ≤ Int32.toInt xc7 from by  omega), (show Int32.toInt xc7 ≤ 1 from by  omega), (by  exact hot), (by  intro _; rw [tw_fi_of hzfxc7_0_0]; omega), (by  intro q; exfalso; omega), ⟨fv0_2, fv0_28, hmf10, hmf8, by  omega, (th_ok_cast (by  omega) hg1), (tp_ok_cast (by  omega) hg2), (tq_ok_cast (by  omega) hg3), (tg_ok_cast (by  omega) hg4)⟩, hg5, hg6⟩, rfl, rfl, hF⟩ ((by first | exact Nat.le_of_ble_eq_true rfl | (dsimp only; omega) | omega)) ((by first | exact Nat.le_of_ble_eq_true rfl | (dsimp only; omega) | omega)) dX12_readsNode_62
      · have hf12 : ¬ ((-1) = (-1)) := fun q => hc4 ((fa_eq _ _).mpr (by have : (((-1) : Int32).toInt) = (-1) := (by decide); omega))
        exfalso; omega
    · have hf13 : ¬ (xi1.toInt ≤ fv0_2.toInt) := fun q => hc2 ((fa_le _ _).mpr (by  omega))
      refine lv_aload_n hx hb dX12_readsNode_11 rfl (lv_at hl 0 rfl) ?_
      refine tw_get (ci := 12) (C := RX12) (T := TX12) (N := 64) hx hb hB cx_inX12 hown hK TH hm0 hk0 rfl ⟨by decide, rfl⟩ 0 (by decide) cw_1193 (fun _ h9 => h9) dX12_readsNode_12 (fun hv => ?_)
      obtain ⟨xr14, hxr14, hmxr14, hkxr14⟩ : ∃ a : Nat, tw_fv E a0 0 = .ref a ∧ a ∈ L ∧ kp a = 300 := hv
      rw [hxr14]
      refine lv_aload_n hx hb dX12_readsNode_15 rfl (lv_at hl 0 rfl) ?_
      refine tw_get (ci := 12) (C := RX12) (T := TX12) (N := 64) hx hb hB cx_inX12 hown hK TH hm0 hk0 rfl ⟨by decide, rfl⟩ 2 (by decide) cw_1195 (fun _ h9 => h9) dX12_readsNode_16 (fun hv => ?_)
      rw [hfv0_2]
      refine tw_bald (k := 300) (t0 := 2) (n := 500) (lo := (-128)) (hi := 127) hx hb hK TH hmxr14 hkxr14 (by decide) rfl rfl (i := fv0_2) (vp_in_iff.mpr ⟨by  omega, by  omega⟩) dX12_readsNode_19 (fun hxe15a hxe15b => ?_)
      obtain ⟨xe15, exe15⟩ : ∃ z : Int32, tw_iv E xr14 (Int32.toNatClampNeg fv0_2) = z := ⟨_, rfl⟩
      rw [exe15] at hxe15a hxe15b ⊢
      refine tw_Sc (n := 1) (post := (fun v kq Lq Eq => (∃ x : Int32, v = some (.int x) ∧ 0 ≤ x.toInt ∧ x.toInt ≤ 1 ∧ (x.toInt ≠ 0 ↔ (97 ≤ xe15.toInt ∧ xe15.toInt ≤ 122))) ∧ kp = kq ∧ L = Lq ∧ E = Eq)) (As := [.int xe15]) (rest := []) ⟨hx, hb, hml, hown, hB⟩ (fun sz => tX12_isLetter_vL l D cs xe15  sz) cg_12_175_X12_isLetter rfl rfl (by decide +kernel) ⟨(by first | exact Nat.le_of_ble_eq_true rfl | (dsimp only; omega) | omega), (by first | exact Nat.le_of_ble_eq_true rfl | (dsimp only; omega) | omega)⟩ hK hN TH hS hA rfl hl.1 rfl ((by first | exact Nat.le_of_ble_eq_true rfl | (dsimp only; omega) | omega)) dX12_readsNode_20 ⟨(by first | exact Nat.le_of_ble_eq_true rfl | (dsimp only; omega) | omega), (by first | exact Nat.le_of_ble_eq_true rfl | (dsimp only; omega) | omega)⟩ (fun v16 kp16 L16 E16 H locs hq16 hx16 TH hS => ?_)
      obtain ⟨⟨xc17, rfl, hxc17a, hxc17b, hpoxc17_0⟩, rfl, rfl, rfl⟩ := hq16
      refine W.eq (g2 := F0 m 23 ls [.int xc17]) rfl ?_
      refine lv_if_eq (tgt := 42) hx hb dX12_readsNode_23 (by decide) (fun hc18 => ?_) (fun hc18 => ?_)
      · have hf19 : xc17.toInt = 0 := by have z := (fa_eq _ _).mp hc18; have : ((0 : Int32).toInt) = 0 := (by decide); omega
        refine lv_iconst (v := (-1)) hx hb dX12_readsNode_42 (by decide) ?_
        refine lv_istore_n (lv' := [(3, .int (-1)), (0, .ref a0), (1, .int x1), (2, .int x2)]) hx hb dX12_readsNode_43 rfl hl (by decide) rfl (fun ls hl => ?_)
        refine lv_iload_n hx hb dX12_readsNode_44 rfl (lv_at hl 0 rfl) ?_
        refine lv_iconst (v := (-1)) hx hb dX12_readsNode_45 (by decide) ?_
        refine lv_icmp_eq (tgt := 58) hx hb dX12_readsNode_46 (by decide) (fun hc20 => ?_) (fun hc20 => ?_)
        · have hf21 : (-1) = (-1) := by have z := (fa_eq _ _).mp hc20; have : (((-1) : Int32).toInt) = (-1) := (by decide); omega
          refine lv_aload_n hx hb dX12_readsNode_58 rfl (lv_at hl 1 rfl) ?_
          refine tw_Vc (o := a0) (ci := 12) (n := 0) (post := (fun v kq Lq Eq => (∃ x : Int32, v = some (.int x) ∧ 0 ≤ x.toInt ∧ x.toInt ≤ 0 ∧ (∃ z0 : Int32, tw_fv Eq a0 4 = .int z0 ∧ (z0.toInt ≠ -1))) ∧ kp = kq ∧ L = Lq ∧ tw_fr kp L [(12, 4)] [] E Eq)) (As := []) (rest := []) ⟨hx, hb, hml, hown, hB⟩ (fun sz => tX12_fails_vL l D cs a0 hm0 hk0 sz) cg_12_196_X12_fails rfl rfl (by decide +kernel) ⟨(by first | exact Nat.le_of_ble_eq_true rfl | (dsimp only; omega) | omega), (by first | exact Nat.le_of_ble_eq_true rfl | (dsimp only; omega) | omega)⟩ hK hN TH hS hA rfl hm0 hk0 (by decide) rfl hl.1 rfl ((by first | exact Nat.le_of_ble_eq_true rfl | (dsimp only; omega) | omega)) dX12_readsNode_59 ⟨(by first | exact Nat.le_of_ble_eq_true rfl | (dsimp only; omega) | omega), (by first | exact Nat.le_of_ble_eq_true rfl | (dsimp only; omega) | omega)⟩ (fun v22 kp22 L22 E22 H locs hq22 hx22 TH hS => ?_)
          obtain ⟨⟨xc23, rfl, hxc23a, hxc23b, ⟨zfxc23_0_0, hzfxc23_0_0, hzpxc23_0⟩⟩, rfl, rfl, hst22⟩ := hq22
          have hF := hF.tr hst22 (fun _ h => ⟨h, rfl⟩) (by decide) (by decide)
          have hmf24 : tw_fv E22 a0 28 = .int fv0_28 := (hst22.1 a0 28 hm0 (by rw [hk0]; decide)).trans hfv0_28
          have hmf25 : tw_fv E22 a0 3 = .int fv0_3 := (hst22.1 a0 3 hm0 (by rw [hk0]; decide)).trans hfv0_3
          have hmf26 : tw_fv E22 a0 2 = .int fv0_2 := (hst22.1 a0 2 hm0 (by rw [hk0]; decide)).trans hfv0_2
          have hmf27 : tw_fv E22 a0 1 = .int xi1 := (hst22.1 a0 1 hm0 (by rw [hk0]; decide)).trans hxi1
          have hmf28 : tw_fv E22 a0 0 = .ref xr14 := (hst22.1 a0 0 hm0 (by rw [hk0]; decide)).trans hxr14
          have hg0 : tk_at E22 a0 := tk_at_fr TH hst22 hm0 hk0 (by decide) (by decide) hg0
          have hg1 : th_ok E22 a0 (fv0_28.toInt) := th_ok_fr TH hst22 hm0 hk0 (by decide) (by decide) hg1
          have hg2 : tp_ok E22 a0 (fv0_28.toInt) := tp_ok_fr TH hst22 hm0 hk0 (by decide) (by decide) hg2
          have hg3 : tq_ok E22 a0 (fv0_28.toInt) := tq_ok_fr TH hst22 hm0 hk0 (by decide) (by decide) hg3
          have hg4 : tg_ok E22 a0 (fv0_28.toInt) := tg_ok_fr TH hst22 hm0 hk0 (by decide) (by decide) hg4
          have hg5 : rd_ok E22 a0 := rd_ok_fr TH hst22 hm0 hk0 (by decide) (by decide) hg5
          have hg6 : kg_ok E22 a0 := kg_ok_fr TH hst22 hm0 hk0 (by decide) (by decide) hg6
          have hot : ot_ok E22 a0 (15) E := ot_ok_fr TH hst22 hm0 hk0 (by decide) (by decide) hot
          obtain ⟨qzfxc23_0_0, hqzfxc23_0_0, hqzfxc23_0_0a, hqzfxc23_0_0b⟩ := tw_rd TH hm0 hk0 (by decide) (by decide) (k := 4) rfl
          have eqzfxc23_0_0 : qzfxc23_0_0 = zfxc23_0_0 := by have q := hqzfxc23_0_0.symm.trans hzfxc23_0_0; injection q
          rw [eqzfxc23_0_0] at hqzfxc23_0_0a hqzfxc23_0_0b
          refine W.eq (g2 := F0 m 62 ls [.int xc23]) rfl ?_
          exact tw_zret hx hb hr hlocks (ia_bool (by omega) (by omega)) TH hS hex ⟨⟨_, rfl, (show 0 ≤ Int32.toInt xc23 from by  omega), (show Int32.toInt xc23 ≤ 1 from by  omega), (by  exact hot), (by  intro _; rw [tw_fi_of hzfxc23_0_0]; omega), (by  intro q; exfalso; omega), ⟨fv0_2, fv0_28, hmf26, hmf24, by  omega, (th_ok_cast (by  omega) hg1), (tp_ok_cast (by  omega) hg2), (tq_ok_cast (by  omega) hg3), (tg_ok_cast (by  omega) hg4)⟩, hg5, hg6⟩, rfl, rfl, hF⟩ ((by first | exact Nat.le_of_ble_eq_true rfl | (dsimp only; omega) | omega)) ((by first | exact Nat.le_of_ble_eq_true rfl | (dsimp only; omega) | omega)) dX12_readsNode_62
        · have hf29 : ¬ ((-1) = (-1)) := fun q => hc20 ((fa_eq _ _).mpr (by have : (((-1) : Int32).toInt) = (-1) := (by decide); omega))
          exfalso; omega
      · have hf30 : ¬ (xc17.toInt = 0) := fun q => hc18 ((fa_eq _ _).mpr (by have : ((0 : Int32).toInt) = 0 := (by decide); omega))
        refine lv_aload_n hx hb dX12_readsNode_26 rfl (lv_at hl 0 rfl) ?_
        refine lv_aload_n hx hb dX12_readsNode_27 rfl (lv_at hl 0 rfl) ?_
        refine tw_get (ci := 12) (C := RX12) (T := TX12) (N := 64) hx hb hB cx_inX12 hown hK TH hm0 hk0 rfl ⟨by decide, rfl⟩ 3 (by decide) cw_1196 (fun _ h9 => h9) dX12_readsNode_28 (fun hv => ?_)
        rw [hfv0_3]
        refine lv_aload_n hx hb dX12_readsNode_31 rfl (lv_at hl 0 rfl) ?_
        refine tw_get (ci := 12) (C := RX12) (T := TX12) (N := 64) hx hb hB cx_inX12 hown hK TH hm0 hk0 rfl ⟨by decide, rfl⟩ 2 (by decide) cw_1195 (fun _ h9 => h9) dX12_readsNode_32 (fun hv => ?_)
        rw [hfv0_2]
        refine lv_isub hx hb dX12_readsNode_35 ?_
        refine lv_topi (fun zi31 ezi31 => ?_)
        have hzi31 : zi31.toInt = fv0_3.toInt - fv0_2.toInt := by rw [ezi31];  have := ia_lo fv0_3; have := ia_hi fv0_3; have := ia_lo fv0_2; have := ia_hi fv0_2; exact (ia_sub (by omega) (by omega)).trans (by omega)
        refine tw_Vc (o := a0) (ci := 12) (n := 1) (post := (fun v kq Lq Eq => (∃ x : Int32, v = some (.int x) ∧ (-1) ≤ x.toInt ∧ x.toInt ≤ 9) ∧ kp = kq ∧ L = Lq ∧ E = Eq)) (As := [.int zi31]) (rest := []) ⟨hx, hb, hml, hown, hB⟩ (fun sz => tX12_kindAt l D cs a0 zi31 fv0_2 hm0 hk0 (by omega) (by omega) hfv0_2 (by  omega) hg6 sz) cg_12_254_X12_kindAt rfl rfl (by decide +kernel) ⟨(by first | exact Nat.le_of_ble_eq_true rfl | (dsimp only; omega) | omega), (by first | exact Nat.le_of_ble_eq_true rfl | (dsimp only; omega) | omega)⟩ hK hN TH hS hA rfl hm0 hk0 (by decide) rfl hl.1 rfl ((by first | exact Nat.le_of_ble_eq_true rfl | (dsimp only; omega) | omega)) dX12_readsNode_36 ⟨(by first | exact Nat.le_of_ble_eq_true rfl | (dsimp only; omega) | omega), (by first | exact Nat.le_of_ble_eq_true rfl | (dsimp only; omega) | omega)⟩ (fun v32 kp32 L32 E32 H locs hq32 hx32 TH hS => ?_)
        obtain ⟨⟨xc33, rfl, hxc33a, hxc33b⟩, rfl, rfl, rfl⟩ := hq32
        refine W.eq (g2 := F0 m 39 ls [.int xc33]) rfl ?_
        refine lv_goto (tgt := 43) hx hb dX12_readsNode_39 (by decide) ?_
        refine lv_istore_n (lv' := [(3, .int xc33), (0, .ref a0), (1, .int x1), (2, .int x2)]) hx hb dX12_readsNode_43 rfl hl (by decide) rfl (fun ls hl => ?_)
        refine lv_iload_n hx hb dX12_readsNode_44 rfl (lv_at hl 0 rfl) ?_
        refine lv_iconst (v := (-1)) hx hb dX12_readsNode_45 (by decide) ?_
        refine lv_icmp_eq (tgt := 58) hx hb dX12_readsNode_46 (by decide) (fun hc34 => ?_) (fun hc34 => ?_)
        · have hf35 : xc33.toInt = (-1) := by have z := (fa_eq _ _).mp hc34; have : (((-1) : Int32).toInt) = (-1) := (by decide); omega
          refine lv_aload_n hx hb dX12_readsNode_58 rfl (lv_at hl 1 rfl) ?_
          refine tw_Vc (o := a0) (ci := 12) (n := 0) (post := (fun v kq Lq Eq => (∃ x : Int32, v = some (.int x) ∧ 0 ≤ x.toInt ∧ x.toInt ≤ 0 ∧ (∃ z0 : Int32, tw_fv Eq a0 4 = .int z0 ∧ (z0.toInt ≠ -1))) ∧ kp = kq ∧ L = Lq ∧ tw_fr kp L [(12, 4)] [] E Eq)) (As := []) (rest := []) ⟨hx, hb, hml, hown, hB⟩ (fun sz => tX12_fails_vL l D cs a0 hm0 hk0 sz) cg_12_196_X12_fails rfl rfl (by decide +kernel) ⟨(by first | exact Nat.le_of_ble_eq_true rfl | (dsimp only; omega) | omega), (by first | exact Nat.le_of_ble_eq_true rfl | (dsimp only; omega) | omega)⟩ hK hN TH hS hA rfl hm0 hk0 (by decide) rfl hl.1 rfl ((by first | exact Nat.le_of_ble_eq_true rfl | (dsimp only; omega) | omega)) dX12_readsNode_59 ⟨(by first | exact Nat.le_of_ble_eq_true rfl | (dsimp only; omega) | omega), (by first | exact Nat.le_of_ble_eq_true rfl | (dsimp only; omega) | omega)⟩ (fun v36 kp36 L36 E36 H locs hq36 hx36 TH hS => ?_)
          obtain ⟨⟨xc37, rfl, hxc37a, hxc37b, ⟨zfxc37_0_0, hzfxc37_0_0, hzpxc37_0⟩⟩, rfl, rfl, hst36⟩ := hq36
          have hF := hF.tr hst36 (fun _ h => ⟨h, rfl⟩) (by decide) (by decide)
          have hmf38 : tw_fv E36 a0 28 = .int fv0_28 := (hst36.1 a0 28 hm0 (by rw [hk0]; decide)).trans hfv0_28
          have hmf39 : tw_fv E36 a0 3 = .int fv0_3 := (hst36.1 a0 3 hm0 (by rw [hk0]; decide)).trans hfv0_3
          have hmf40 : tw_fv E36 a0 2 = .int fv0_2 := (hst36.1 a0 2 hm0 (by rw [hk0]; decide)).trans hfv0_2
          have hmf41 : tw_fv E36 a0 1 = .int xi1 := (hst36.1 a0 1 hm0 (by rw [hk0]; decide)).trans hxi1
          have hmf42 : tw_fv E36 a0 0 = .ref xr14 := (hst36.1 a0 0 hm0 (by rw [hk0]; decide)).trans hxr14
          have hg0 : tk_at E36 a0 := tk_at_fr TH hst36 hm0 hk0 (by decide) (by decide) hg0
          have hg1 : th_ok E36 a0 (fv0_28.toInt) := th_ok_fr TH hst36 hm0 hk0 (by decide) (by decide) hg1
          have hg2 : tp_ok E36 a0 (fv0_28.toInt) := tp_ok_fr TH hst36 hm0 hk0 (by decide) (by decide) hg2
          have hg3 : tq_ok E36 a0 (fv0_28.toInt) := tq_ok_fr TH hst36 hm0 hk0 (by decide) (by decide) hg3
          have hg4 : tg_ok E36 a0 (fv0_28.toInt) := tg_ok_fr TH hst36 hm0 hk0 (by decide) (by decide) hg4
          have hg5 : rd_ok E36 a0 := rd_ok_fr TH hst36 hm0 hk0 (by decide) (by decide) hg5
          have hg6 : kg_ok E36 a0 := kg_ok_fr TH hst36 hm0 hk0 (by decide) (by decide) hg6
          have hot : ot_ok E36 a0 (15) E := ot_ok_fr TH hst36 hm0 hk0 (by decide) (by decide) hot
          obtain ⟨qzfxc37_0_0, hqzfxc37_0_0, hqzfxc37_0_0a, hqzfxc37_0_0b⟩ := tw_rd TH hm0 hk0 (by decide) (by decide) (k := 4) rfl
          have eqzfxc37_0_0 : qzfxc37_0_0 = zfxc37_0_0 := by have q := hqzfxc37_0_0.symm.trans hzfxc37_0_0; injection q
          rw [eqzfxc37_0_0] at hqzfxc37_0_0a hqzfxc37_0_0b
          refine W.eq (g2 := F0 m 62 ls [.int xc37]) rfl ?_
          exact tw_zret hx hb hr hlocks (ia_bool (by omega) (by omega)) TH hS hex ⟨⟨_, rfl, (show 0 ≤ Int32.toInt xc37 from by  omega), (show Int32.toInt xc37 ≤ 1 from by  omega), (by  exact hot), (by  intro _; rw [tw_fi_of hzfxc37_0_0]; omega), (by  intro q; exfalso; omega), ⟨fv0_2, fv0_28, hmf40, hmf38, by  omega, (th_ok_cast (by  omega) hg1), (tp_ok_cast (by  omega) hg2), (tq_ok_cast (by  omega) hg3), (tg_ok_cast (by  omega) hg4)⟩, hg5, hg6⟩, rfl, rfl, hF⟩ ((by first | exact Nat.le_of_ble_eq_true rfl | (dsimp only; omega) | omega)) ((by first | exact Nat.le_of_ble_eq_true rfl | (dsimp only; omega) | omega)) dX12_readsNode_62
        · have hf43 : ¬ (xc33.toInt = (-1)) := fun q => hc34 ((fa_eq _ _).mpr (by have : (((-1) : Int32).toInt) = (-1) := (by decide); omega))
          refine lv_aload_n hx hb dX12_readsNode_49 rfl (lv_at hl 1 rfl) ?_
          refine tw_get (ci := 12) (C := RX12) (T := TX12) (N := 64) hx hb hB cx_inX12 hown hK TH hm0 hk0 rfl ⟨by decide, rfl⟩ 28 (by decide) cw_1221 (fun _ h9 => h9) dX12_readsNode_50 (fun hv => ?_)
          rw [hfv0_28]
          refine lv_bipush (v := 24) hx hb dX12_readsNode_53 (by decide) ?_
          refine lv_icmp_ne (tgt := 63) hx hb dX12_readsNode_55 (by decide) (fun hc44 => ?_) (fun hc44 => ?_)
          · have hf45 : ¬ (fv0_28.toInt = 24) := fun q => hc44 ((fa_eq _ _).mpr (by have : ((24 : Int32).toInt) = 24 := (by decide); omega))
            refine lv_aload_n hx hb dX12_readsNode_63 rfl (lv_at hl 1 rfl) ?_
            refine tw_get (ci := 12) (C := RX12) (T := TX12) (N := 64) hx hb hB cx_inX12 hown hK TH hm0 hk0 rfl ⟨by decide, rfl⟩ 28 (by decide) cw_1221 (fun _ h9 => h9) dX12_readsNode_64 (fun hv => ?_)
            rw [hfv0_28]
            refine lv_istore (lv' := [(4, .int fv0_28), (3, .int xc33), (0, .ref a0), (1, .int x1), (2, .int x2)]) hx hb dX12_readsNode_67 hl (by decide) rfl (fun ls hl => ?_)
            refine lv_aload_n hx hb dX12_readsNode_69 rfl (lv_at hl 2 rfl) ?_
            refine lv_dup hx hb dX12_readsNode_70 rfl ?_
            refine tw_get (ci := 12) (C := RX12) (T := TX12) (N := 64) hx hb hB cx_inX12 hown hK TH hm0 hk0 rfl ⟨by decide, rfl⟩ 28 (by decide) cw_1221 (fun _ h9 => h9) dX12_readsNode_71 (fun hv => ?_)
            rw [hfv0_28]
            refine lv_iconst (v := 1) hx hb dX12_readsNode_74 (by decide) ?_
            refine lv_iadd hx hb dX12_readsNode_75 ?_
            refine lv_topi (fun zi46 ezi46 => ?_)
            have hzi46 : zi46.toInt = fv0_28.toInt + 1 := by rw [ezi46]; have : ((1 : Int32).toInt) = 1 := (by decide); have := ia_lo fv0_28; have := ia_hi fv0_28; exact (ia_add (by omega) (by omega)).trans (by omega)
            refine tw_put (ci := 12) (v := .int zi46) (ty := .int) (C := RX12) (T := TX12) (N := 64) hx hb hB cx_inX12 tyX12 tyX12_ok nmX12 hown hK TH hS hm0 hk0 rfl ⟨by decide, rfl⟩ 28 (by decide) cw_1221 (fun _ h9 => h9) rfl (by decide +kernel) rfl rfl ⟨_, rfl, (show 0 ≤ Int32.toInt zi46 from by  omega), (show Int32.toInt zi46 ≤ 24 from by  omega)⟩ dX12_readsNode_76 (fun H locs E47 TH hS hmf51 hp48 hp49 => ?_)
            have hst50 : tw_fr kp L [(12, 28)] [] E E47 := tw_fr.put tw_fr.rf (fun _ => hk0) (by decide) hp48 hp49 (by decide)
            have hF := hF.tr hst50 (fun _ h => ⟨h, rfl⟩) (by decide) (by decide)
            have hmf52 : tw_fv E47 a0 3 = .int fv0_3 := (hst50.1 a0 3 hm0 (by rw [hk0]; decide)).trans hfv0_3
            have hmf53 : tw_fv E47 a0 2 = .int fv0_2 := (hst50.1 a0 2 hm0 (by rw [hk0]; decide)).trans hfv0_2
            have hmf54 : tw_fv E47 a0 1 = .int xi1 := (hst50.1 a0 1 hm0 (by rw [hk0]; decide)).trans hxi1
            have hmf55 : tw_fv E47 a0 0 = .ref xr14 := (hst50.1 a0 0 hm0 (by rw [hk0]; decide)).trans hxr14
            have hg0 : tk_at E47 a0 := tk_at_fr TH hst50 hm0 hk0 (by decide) (by decide) hg0
            have hg1 : th_ok E47 a0 (fv0_28.toInt) := th_ok_fr TH hst50 hm0 hk0 (by decide) (by decide) hg1
            have hg2 : tp_ok E47 a0 (fv0_28.toInt) := tp_ok_fr TH hst50 hm0 hk0 (by decide) (by decide) hg2
            have hg3 : tq_ok E47 a0 (fv0_28.toInt) := tq_ok_fr TH hst50 hm0 hk0 (by decide) (by decide) hg3
            have hg4 : tg_ok E47 a0 (fv0_28.toInt) := tg_ok_fr TH hst50 hm0 hk0 (by decide) (by decide) hg4
            have hg5 : rd_ok E47 a0 := rd_ok_fr TH hst50 hm0 hk0 (by decide) (by decide) hg5
            have hg6 : kg_ok E47 a0 := kg_ok_fr TH hst50 hm0 hk0 (by decide) (by decide) hg6
            have hot : ot_ok E47 a0 (15) E := ot_ok_fr TH hst50 hm0 hk0 (by decide) (by decide) hot
            refine lv_aload_n hx hb dX12_readsNode_79 rfl (lv_at hl 2 rfl) ?_
            refine tw_get (ci := 12) (C := RX12) (T := TX12) (N := 64) hx hb hB cx_inX12 hown hK TH hm0 hk0 rfl ⟨by decide, rfl⟩ 22 (by decide) cw_1215 (fun _ h9 => h9) dX12_readsNode_80 (fun hv => ?_)
            obtain ⟨xr56, hxr56, hmxr56, hkxr56⟩ : ∃ a : Nat, tw_fv E47 a0 22 = .ref a ∧ a ∈ L ∧ kp a = 332 := hv
            rw [hxr56]
            refine lv_iload hx hb dX12_readsNode_83 (lv_at hl 0 rfl) ?_
            refine lv_iload_n hx hb dX12_readsNode_85 rfl (lv_at hl 1 rfl) ?_
            refine tw_iast (k := 332) (n := 24) (lo := 0) (hi := 9) hx hb hK TH hS hmxr56 hkxr56 (by decide) rfl (i := fv0_28) (x := xc33) (vp_in_iff.mpr ⟨by  omega, by  omega⟩) (by omega) (by omega) dX12_readsNode_86 (fun H locs E57 TH hS hp58 hp59 hp60 => ?_)
            have hst61 : tw_fr kp L [] [332] E47 E57 := tw_fr.ast tw_fr.rf (fun _ => hkxr56) hp58 hp59 (by decide)
            have hF := hF.tr hst61 (fun _ h => ⟨h, rfl⟩) (by decide) (by decide)
            have hmf62 : tw_fv E57 a0 3 = .int fv0_3 := (hst61.1 a0 3 hm0 (by rw [hk0]; decide)).trans hmf52
            have hmf63 : tw_fv E57 a0 2 = .int fv0_2 := (hst61.1 a0 2 hm0 (by rw [hk0]; decide)).trans hmf53
            have hmf64 : tw_fv E57 a0 1 = .int xi1 := (hst61.1 a0 1 hm0 (by rw [hk0]; decide)).trans hmf54
            have hmf65 : tw_fv E57 a0 0 = .ref xr14 := (hst61.1 a0 0 hm0 (by rw [hk0]; decide)).trans hmf55
            have hmf66 : tw_fv E57 a0 28 = .int zi46 := (hst61.1 a0 28 hm0 (by rw [hk0]; decide)).trans hmf51
            have hmf67 : tw_fv E57 a0 22 = .ref xr56 := (hst61.1 a0 22 hm0 (by rw [hk0]; decide)).trans hxr56
            have hg0 : tk_at E57 a0 := tk_at_fr TH hst61 hm0 hk0 (by decide) (by decide) hg0
            have hg1 : th_ok E57 a0 (fv0_28.toInt) := th_ok_fr TH hst61 hm0 hk0 (by decide) (by decide) hg1
            have hg2 : tp_ok E57 a0 (fv0_28.toInt) := tp_ok_fr TH hst61 hm0 hk0 (by decide) (by decide) hg2
            have hg3 : tq_ok E57 a0 (fv0_28.toInt) := tq_ok_fr TH hst61 hm0 hk0 (by decide) (by decide) hg3
            have hg4 : tg_ok E57 a0 (fv0_28.toInt) := tg_ok_fr TH hst61 hm0 hk0 (by decide) (by decide) hg4
            have hg5 : rd_ok E57 a0 := rd_ok_fr TH hst61 hm0 hk0 (by decide) (by decide) hg5
            have hg6 : kg_ok E57 a0 := kg_ok_fr TH hst61 hm0 hk0 (by decide) (by decide) hg6
            have hot : ot_ok E57 a0 (15) E := ot_ok_fr TH hst61 hm0 hk0 (by decide) (by decide) hot
            refine lv_aload_n hx hb dX12_readsNode_87 rfl (lv_at hl 2 rfl) ?_
            refine tw_get (ci := 12) (C := RX12) (T := TX12) (N := 64) hx hb hB cx_inX12 hown hK TH hm0 hk0 rfl ⟨by decide, rfl⟩ 16 (by decide) cw_1209 (fun _ h9 => h9) dX12_readsNode_88 (fun hv => ?_)
            obtain ⟨xr68, hxr68, hmxr68, hkxr68⟩ : ∃ a : Nat, tw_fv E57 a0 16 = .ref a ∧ a ∈ L ∧ kp a = 316 := hv
            rw [hxr68]
            refine lv_bipush (v := 15) hx hb dX12_readsNode_91 (by decide) ?_
            refine tw_aald (k := 316) (t0 := 5) (n := 16) (lo := 326) (hi := 0) (ty := .boolean) hx hb hK TH hmxr68 hkxr68 (by decide) rfl rfl (i := 15) (vp_in_iff.mpr ⟨by have : ((15 : Int32).toInt) = 15 := (by decide); omega, by have : ((15 : Int32).toInt) = 15 := (by decide); omega⟩) dX12_readsNode_93 (fun xr69 exr69 hmxr69 hkxr69 => ?_)
            have hkxr69 : kp xr69 = 326 := hkxr69
            refine lv_iload hx hb dX12_readsNode_94 (lv_at hl 0 rfl) ?_
            refine lv_iconst (v := 1) hx hb dX12_readsNode_96 (by decide) ?_
            refine tw_zast (k := 326) (n := 150) (lo := 0) (hi := 1) hx hb hK TH hS hmxr69 hkxr69 (by decide) rfl (i := fv0_28) (x := 1) (vp_in_iff.mpr ⟨by  omega, by  omega⟩) (by have : ((1 : Int32).toInt) = 1 := (by decide); omega) (by have : ((1 : Int32).toInt) = 1 := (by decide); omega) (by have : ((1 : Int32).toInt) = 1 := (by decide); omega) (by have : ((1 : Int32).toInt) = 1 := (by decide); omega) dX12_readsNode_97 (fun H locs E70 TH hS hp71 hp72 hp73 => ?_)
            have hst74 : tw_fr kp L [] [326] E57 E70 := tw_fr.ast tw_fr.rf (fun _ => hkxr69) hp71 hp72 (by decide)
            have hF := hF.tr hst74 (fun _ h => ⟨h, rfl⟩) (by decide) (by decide)
            have hmf75 : tw_fv E70 a0 3 = .int fv0_3 := (hst74.1 a0 3 hm0 (by rw [hk0]; decide)).trans hmf62
            have hmf76 : tw_fv E70 a0 2 = .int fv0_2 := (hst74.1 a0 2 hm0 (by rw [hk0]; decide)).trans hmf63
            have hmf77 : tw_fv E70 a0 1 = .int xi1 := (hst74.1 a0 1 hm0 (by rw [hk0]; decide)).trans hmf64
            have hmf78 : tw_fv E70 a0 0 = .ref xr14 := (hst74.1 a0 0 hm0 (by rw [hk0]; decide)).trans hmf65
            have hmf79 : tw_fv E70 a0 28 = .int zi46 := (hst74.1 a0 28 hm0 (by rw [hk0]; decide)).trans hmf66
            have hmf80 : tw_fv E70 a0 22 = .ref xr56 := (hst74.1 a0 22 hm0 (by rw [hk0]; decide)).trans hmf67
            have hmf81 : tw_fv E70 a0 16 = .ref xr68 := (hst74.1 a0 16 hm0 (by rw [hk0]; decide)).trans hxr68
            have hg0_o := hg0
            have hg1_o := hg1
            have hg2_o := hg2
            have hg3_o := hg3
            have hg4_o := hg4
            have hg5_o := hg5
            have hg6_o := hg6
            have hot_o := hot
            have hg0 : tk_at E70 a0 := tk_at_fr TH hst74 hm0 hk0 (by decide) (by decide) hg0
            have hg1 : th_ok E70 a0 (fv0_28.toInt + 1) := th_push hg1_o (by omega) rfl (v := 1) (by decide) (by have e15 : ((15 : Int32).toInt) = 15 := (by decide); have ev : ((1 : Int32).toInt) = 1 := (by decide); have q := rw_h_st (m := a0) (i := 15) (c := fv0_28) hxr68 exr69 hkxr68 hkxr69 hp71 hp72 hp73; rw [e15, ev] at q; exact q)
            have hg2 : tp_ok E70 a0 (fv0_28.toInt) := tp_ok_fr TH hst74 hm0 hk0 (by decide) (by decide) hg2
            have hg3 : tq_ok E70 a0 (fv0_28.toInt) := tq_ok_fr TH hst74 hm0 hk0 (by decide) (by decide) hg3
            have hg4 : tg_ok E70 a0 (fv0_28.toInt) := tg_ok_fr TH hst74 hm0 hk0 (by decide) (by decide) hg4
            have hg5 : rd_ok E70 a0 := rd_ok_fr TH hst74 hm0 hk0 (by decide) (by decide) hg5
            have hg6 : kg_ok E70 a0 := kg_ok_fr TH hst74 hm0 hk0 (by decide) (by decide) hg6
            have hot : ot_ok E70 a0 (15) E := (by have e15 : ((15 : Int32).toInt) = 15 := (by decide); have q := ot_ok_h (i := 15) TH hm0 hk0 hg5_o hxr68 exr69 hkxr68 hkxr69 hp71 hp72 (by omega) (by omega) (show ot_ok _ _ _ _ from (by rw [e15]; exact hot_o)); rw [e15] at q; exact q)
            refine lv_aload_n hx hb dX12_readsNode_98 rfl (lv_at hl 2 rfl) ?_
            refine tw_get (ci := 12) (C := RX12) (T := TX12) (N := 64) hx hb hB cx_inX12 hown hK TH hm0 hk0 rfl ⟨by decide, rfl⟩ 18 (by decide) cw_1211 (fun _ h9 => h9) dX12_readsNode_99 (fun hv => ?_)
            obtain ⟨xr82, hxr82, hmxr82, hkxr82⟩ : ∃ a : Nat, tw_fv E70 a0 18 = .ref a ∧ a ∈ L ∧ kp a = 318 := hv
            rw [hxr82]
            refine lv_bipush (v := 15) hx hb dX12_readsNode_102 (by decide) ?_
            refine tw_aald (k := 318) (t0 := 4) (n := 16) (lo := 328) (hi := 0) (ty := .int) hx hb hK TH hmxr82 hkxr82 (by decide) rfl rfl (i := 15) (vp_in_iff.mpr ⟨by have : ((15 : Int32).toInt) = 15 := (by decide); omega, by have : ((15 : Int32).toInt) = 15 := (by decide); omega⟩) dX12_readsNode_104 (fun xr83 exr83 hmxr83 hkxr83 => ?_)
            have hkxr83 : kp xr83 = 328 := hkxr83
            refine lv_iload hx hb dX12_readsNode_105 (lv_at hl 0 rfl) ?_
            refine lv_iload_n hx hb dX12_readsNode_107 rfl (lv_at hl 3 rfl) ?_
            refine tw_iast (k := 328) (n := 150) (lo := (-1)) (hi := 149) hx hb hK TH hS hmxr83 hkxr83 (by decide) rfl (i := fv0_28) (x := x1) (vp_in_iff.mpr ⟨by  omega, by  omega⟩) (by omega) (by omega) dX12_readsNode_108 (fun H locs E84 TH hS hp85 hp86 hp87 => ?_)
            have hst88 : tw_fr kp L [] [328] E70 E84 := tw_fr.ast tw_fr.rf (fun _ => hkxr83) hp85 hp86 (by decide)
            have hF := hF.tr hst88 (fun _ h => ⟨h, rfl⟩) (by decide) (by decide)
            have hmf89 : tw_fv E84 a0 3 = .int fv0_3 := (hst88.1 a0 3 hm0 (by rw [hk0]; decide)).trans hmf75
            have hmf90 : tw_fv E84 a0 2 = .int fv0_2 := (hst88.1 a0 2 hm0 (by rw [hk0]; decide)).trans hmf76
            have hmf91 : tw_fv E84 a0 1 = .int xi1 := (hst88.1 a0 1 hm0 (by rw [hk0]; decide)).trans hmf77
            have hmf92 : tw_fv E84 a0 0 = .ref xr14 := (hst88.1 a0 0 hm0 (by rw [hk0]; decide)).trans hmf78
            have hmf93 : tw_fv E84 a0 28 = .int zi46 := (hst88.1 a0 28 hm0 (by rw [hk0]; decide)).trans hmf79
            have hmf94 : tw_fv E84 a0 22 = .ref xr56 := (hst88.1 a0 22 hm0 (by rw [hk0]; decide)).trans hmf80
            have hmf95 : tw_fv E84 a0 16 = .ref xr68 := (hst88.1 a0 16 hm0 (by rw [hk0]; decide)).trans hmf81
            have hmf96 : tw_fv E84 a0 18 = .ref xr82 := (hst88.1 a0 18 hm0 (by rw [hk0]; decide)).trans hxr82
            have hg0_o := hg0
            have hg1_o := hg1
            have hg2_o := hg2
            have hg3_o := hg3
            have hg4_o := hg4
            have hg5_o := hg5
            have hg6_o := hg6
            have hot_o := hot
            have hg0 : tk_at E84 a0 := tk_at_fr TH hst88 hm0 hk0 (by decide) (by decide) hg0
            have hg1 : th_ok E84 a0 (fv0_28.toInt + 1) := th_ok_fr TH hst88 hm0 hk0 (by decide) (by decide) hg1
            have hg2 : tp_ok E84 a0 (fv0_28.toInt + 1) := tp_push hg2_o (by omega) rfl (v := x1.toInt) (by omega) (by have e15 : ((15 : Int32).toInt) = 15 := (by decide); have q := rw_p_st (m := a0) (i := 15) (c := fv0_28) hxr82 exr83 hkxr82 hkxr83 hp85 hp86 hp87; rw [e15] at q; exact q)
            have hg3 : tq_ok E84 a0 (fv0_28.toInt) := tq_ok_fr TH hst88 hm0 hk0 (by decide) (by decide) hg3
            have hg4 : tg_ok E84 a0 (fv0_28.toInt) := tg_ok_fr TH hst88 hm0 hk0 (by decide) (by decide) hg4
            have hg5 : rd_ok E84 a0 := rd_ok_fr TH hst88 hm0 hk0 (by decide) (by decide) hg5
            have hg6 : kg_ok E84 a0 := kg_ok_fr TH hst88 hm0 hk0 (by decide) (by decide) hg6
            have hot : ot_ok E84 a0 (15) E := (by have e15 : ((15 : Int32).toInt) = 15 := (by decide); have q := ot_ok_p (i := 15) TH hm0 hk0 hg5_o hxr82 exr83 hkxr82 hkxr83 hp85 hp86 (by omega) (by omega) (show ot_ok _ _ _ _ from (by rw [e15]; exact hot_o)); rw [e15] at q; exact q)
            refine lv_aload_n hx hb dX12_readsNode_109 rfl (lv_at hl 2 rfl) ?_
            refine tw_get (ci := 12) (C := RX12) (T := TX12) (N := 64) hx hb hB cx_inX12 hown hK TH hm0 hk0 rfl ⟨by decide, rfl⟩ 19 (by decide) cw_1212 (fun _ h9 => h9) dX12_readsNode_110 (fun hv => ?_)
            obtain ⟨xr97, hxr97, hmxr97, hkxr97⟩ : ∃ a : Nat, tw_fv E84 a0 19 = .ref a ∧ a ∈ L ∧ kp a = 319 := hv
            rw [hxr97]
            refine lv_bipush (v := 15) hx hb dX12_readsNode_113 (by decide) ?_
            refine tw_aald (k := 319) (t0 := 4) (n := 16) (lo := 329) (hi := 0) (ty := .int) hx hb hK TH hmxr97 hkxr97 (by decide) rfl rfl (i := 15) (vp_in_iff.mpr ⟨by have : ((15 : Int32).toInt) = 15 := (by decide); omega, by have : ((15 : Int32).toInt) = 15 := (by decide); omega⟩) dX12_readsNode_115 (fun xr98 exr98 hmxr98 hkxr98 => ?_)
            have hkxr98 : kp xr98 = 329 := hkxr98
            refine lv_iload hx hb dX12_readsNode_116 (lv_at hl 0 rfl) ?_
            refine lv_iload hx hb dX12_readsNode_118 (lv_at hl 0 rfl) ?_
            refine tw_iast (k := 329) (n := 150) (lo := (-2147483648)) (hi := 2147483647) hx hb hK TH hS hmxr98 hkxr98 (by decide) rfl (i := fv0_28) (x := fv0_28) (vp_in_iff.mpr ⟨by  omega, by  omega⟩) (ia_lo _) (ia_hi _) dX12_readsNode_120 (fun H locs E99 TH hS hp100 hp101 hp102 => ?_)
            have hst103 : tw_fr kp L [] [329] E84 E99 := tw_fr.ast tw_fr.rf (fun _ => hkxr98) hp100 hp101 (by decide)
            have hF := hF.tr hst103 (fun _ h => ⟨h, rfl⟩) (by decide) (by decide)
            have hmf104 : tw_fv E99 a0 3 = .int fv0_3 := (hst103.1 a0 3 hm0 (by rw [hk0]; decide)).trans hmf89
            have hmf105 : tw_fv E99 a0 2 = .int fv0_2 := (hst103.1 a0 2 hm0 (by rw [hk0]; decide)).trans hmf90
            have hmf106 : tw_fv E99 a0 1 = .int xi1 := (hst103.1 a0 1 hm0 (by rw [hk0]; decide)).trans hmf91
            have hmf107 : tw_fv E99 a0 0 = .ref xr14 := (hst103.1 a0 0 hm0 (by rw [hk0]; decide)).trans hmf92
            have hmf108 : tw_fv E99 a0 28 = .int zi46 := (hst103.1 a0 28 hm0 (by rw [hk0]; decide)).trans hmf93
            have hmf109 : tw_fv E99 a0 22 = .ref xr56 := (hst103.1 a0 22 hm0 (by rw [hk0]; decide)).trans hmf94
            have hmf110 : tw_fv E99 a0 16 = .ref xr68 := (hst103.1 a0 16 hm0 (by rw [hk0]; decide)).trans hmf95
            have hmf111 : tw_fv E99 a0 18 = .ref xr82 := (hst103.1 a0 18 hm0 (by rw [hk0]; decide)).trans hmf96
            have hmf112 : tw_fv E99 a0 19 = .ref xr97 := (hst103.1 a0 19 hm0 (by rw [hk0]; decide)).trans hxr97
            have hg0_o := hg0
            have hg1_o := hg1
            have hg2_o := hg2
            have hg3_o := hg3
            have hg4_o := hg4
            have hg5_o := hg5
            have hg6_o := hg6
            have hot_o := hot
            have hg0 : tk_at E99 a0 := tk_at_fr TH hst103 hm0 hk0 (by decide) (by decide) hg0
            have hg1 : th_ok E99 a0 (fv0_28.toInt + 1) := th_ok_fr TH hst103 hm0 hk0 (by decide) (by decide) hg1
            have hg2 : tp_ok E99 a0 (fv0_28.toInt + 1) := tp_ok_fr TH hst103 hm0 hk0 (by decide) (by decide) hg2
            have hg3 : tq_ok E99 a0 (fv0_28.toInt + 1) := tq_push hg3_o (by omega) rfl (v := fv0_28.toInt) (by omega) (by have e15 : ((15 : Int32).toInt) = 15 := (by decide); have q := rw_q_st (m := a0) (i := 15) (c := fv0_28) hxr97 exr98 hkxr97 hkxr98 hp100 hp101 hp102; rw [e15] at q; exact q)
            have hg4 : tg_ok E99 a0 (fv0_28.toInt) := tg_ok_fr TH hst103 hm0 hk0 (by decide) (by decide) hg4
            have hg5 : rd_ok E99 a0 := rd_ok_fr TH hst103 hm0 hk0 (by decide) (by decide) hg5
            have hg6 : kg_ok E99 a0 := kg_ok_fr TH hst103 hm0 hk0 (by decide) (by decide) hg6
            have hot : ot_ok E99 a0 (15) E := ot_ok_fr TH hst103 hm0 hk0 (by decide) (by decide) hot
            refine lv_aload_n hx hb dX12_readsNode_121 rfl (lv_at hl 2 rfl) ?_
            refine tw_get (ci := 12) (C := RX12) (T := TX12) (N := 64) hx hb hB cx_inX12 hown hK TH hm0 hk0 rfl ⟨by decide, rfl⟩ 17 (by decide) cw_1210 (fun _ h9 => h9) dX12_readsNode_122 (fun hv => ?_)
            obtain ⟨xr113, hxr113, hmxr113, hkxr113⟩ : ∃ a : Nat, tw_fv E99 a0 17 = .ref a ∧ a ∈ L ∧ kp a = 317 := hv
            rw [hxr113]
            refine lv_bipush (v := 15) hx hb dX12_readsNode_125 (by decide) ?_
            refine tw_aald (k := 317) (t0 := 6) (n := 16) (lo := 327) (hi := 0) (ty := .long) hx hb hK TH hmxr113 hkxr113 (by decide) rfl rfl (i := 15) (vp_in_iff.mpr ⟨by have : ((15 : Int32).toInt) = 15 := (by decide); omega, by have : ((15 : Int32).toInt) = 15 := (by decide); omega⟩) dX12_readsNode_127 (fun xr114 exr114 hmxr114 hkxr114 => ?_)
            have hkxr114 : kp xr114 = 327 := hkxr114
            refine lv_iload hx hb dX12_readsNode_128 (lv_at hl 0 rfl) ?_
            refine lv_lconst (v := 0) hx hb dX12_readsNode_130 (by decide) ?_
            refine tw_topl (fun zl115 ezl115 => ?_)
            have hzl115 : zl115.toInt = 0 := by rw [ezl115]; decide
            refine tw_last2 (k := 327) (n := 150) (lo := 0) (hi := 0) hx hb hK TH hS hmxr114 hkxr114 (by decide) rfl (i := fv0_28) (x := zl115) (vp_in_iff.mpr ⟨by  omega, by  omega⟩) dX12_readsNode_131 (fun H locs E116 TH hS hp117 hp118 hp120 => ?_)
            have hst119 : tw_fr kp L [] [327] E99 E116 := tw_fr.ast tw_fr.rf (fun _ => hkxr114) hp117 hp118 (by decide)
            have hF := hF.tr hst119 (fun _ h => ⟨h, rfl⟩) (by decide) (by decide)
            have hmf121 : tw_fv E116 a0 3 = .int fv0_3 := (hst119.1 a0 3 hm0 (by rw [hk0]; decide)).trans hmf104
            have hmf122 : tw_fv E116 a0 2 = .int fv0_2 := (hst119.1 a0 2 hm0 (by rw [hk0]; decide)).trans hmf105
            have hmf123 : tw_fv E116 a0 1 = .int xi1 := (hst119.1 a0 1 hm0 (by rw [hk0]; decide)).trans hmf106
            have hmf124 : tw_fv E116 a0 0 = .ref xr14 := (hst119.1 a0 0 hm0 (by rw [hk0]; decide)).trans hmf107
            have hmf125 : tw_fv E116 a0 28 = .int zi46 := (hst119.1 a0 28 hm0 (by rw [hk0]; decide)).trans hmf108
            have hmf126 : tw_fv E116 a0 22 = .ref xr56 := (hst119.1 a0 22 hm0 (by rw [hk0]; decide)).trans hmf109
            have hmf127 : tw_fv E116 a0 16 = .ref xr68 := (hst119.1 a0 16 hm0 (by rw [hk0]; decide)).trans hmf110
            have hmf128 : tw_fv E116 a0 18 = .ref xr82 := (hst119.1 a0 18 hm0 (by rw [hk0]; decide)).trans hmf111
            have hmf129 : tw_fv E116 a0 19 = .ref xr97 := (hst119.1 a0 19 hm0 (by rw [hk0]; decide)).trans hmf112
            have hmf130 : tw_fv E116 a0 17 = .ref xr113 := (hst119.1 a0 17 hm0 (by rw [hk0]; decide)).trans hxr113
            have hg0_o := hg0
            have hg1_o := hg1
            have hg2_o := hg2
            have hg3_o := hg3
            have hg4_o := hg4
            have hg5_o := hg5
            have hg6_o := hg6
            have hot_o := hot
            have hg0 : tk_at E116 a0 := tk_at_fr TH hst119 hm0 hk0 (by decide) (by decide) hg0
            have hg1 : th_ok E116 a0 (fv0_28.toInt + 1) := th_ok_fr TH hst119 hm0 hk0 (by decide) (by decide) hg1
            have hg2 : tp_ok E116 a0 (fv0_28.toInt + 1) := tp_ok_fr TH hst119 hm0 hk0 (by decide) (by decide) hg2
            have hg3 : tq_ok E116 a0 (fv0_28.toInt + 1) := tq_ok_fr TH hst119 hm0 hk0 (by decide) (by decide) hg3
            have hg4 : tg_ok E116 a0 (fv0_28.toInt + 1) := tg_push hg4_o (by omega) rfl (v := zl115.toInt) (Or.inl hzl115) (by have e15 : ((15 : Int32).toInt) = 15 := (by decide); have q := rw_w_st (m := a0) (i := 15) (c := fv0_28) hxr113 exr114 hkxr113 hkxr114 hp117 hp118 hp120; rw [e15] at q; exact q)
            have hg5 : rd_ok E116 a0 := rd_ok_fr TH hst119 hm0 hk0 (by decide) (by decide) hg5
            have hg6 : kg_ok E116 a0 := kg_ok_fr TH hst119 hm0 hk0 (by decide) (by decide) hg6
            have hot : ot_ok E116 a0 (15) E := ot_ok_fr TH hst119 hm0 hk0 (by decide) (by decide) hot
            refine lv_aload_n hx hb dX12_readsNode_132 rfl (lv_at hl 2 rfl) ?_
            refine tw_Vc (o := a0) (ci := 12) (n := 0) (post := (fun v kq Lq Eq => v = none ∧ kp = kq ∧ L = Lq ∧ tw_fr kp L [(12, 2), (12, 3)] [] E116 Eq ∧ (lx_WS (tw_el E116 a0 0) xi1.toInt fv0_3.toInt (tw_fi Eq a0 2) ∧ lx_TK (tw_el E116 a0 0) xi1.toInt (tw_fi Eq a0 2) (tw_fi Eq a0 3)) ∧ (∃ z0 z1 : Int32, tw_fv Eq a0 2 = .int z0 ∧ tw_fv Eq a0 3 = .int z1 ∧ (fv0_3.toInt ≤ z0.toInt ∧ z0.toInt ≤ z1.toInt ∧ z1.toInt ≤ xi1.toInt)))) (As := []) (rest := []) ⟨hx, hb, hml, hown, hB⟩ (fun sz => tX12_goesOn_vL l D cs a0 fv0_3 xi1 hm0 hk0 hmf121 hmf123 (by  omega) sz) cg_12_200_X12_goesOn rfl rfl (by decide +kernel) ⟨(by first | exact Nat.le_of_ble_eq_true rfl | (dsimp only; omega) | omega), (by first | exact Nat.le_of_ble_eq_true rfl | (dsimp only; omega) | omega)⟩ hK hN TH hS hA rfl hm0 hk0 (by decide) rfl hl.1 rfl ((by first | exact Nat.le_of_ble_eq_true rfl | (dsimp only; omega) | omega)) dX12_readsNode_133 ⟨(by first | exact Nat.le_of_ble_eq_true rfl | (dsimp only; omega) | omega), (by first | exact Nat.le_of_ble_eq_true rfl | (dsimp only; omega) | omega)⟩ (fun v131 kp131 L131 E131 H locs hq131 hx131 TH hS => ?_)
            obtain ⟨rfl, rfl, rfl, hst131, hpoxc132_0, ⟨zfxc132_0_0, zfxc132_0_1, hzfxc132_0_0, hzfxc132_0_1, hzpxc132_0⟩⟩ := hq131
            have hF := hF.tr hst131 (fun _ h => ⟨h, rfl⟩) (by decide) (by decide)
            have hmf133 : tw_fv E131 a0 1 = .int xi1 := (hst131.1 a0 1 hm0 (by rw [hk0]; decide)).trans hmf123
            have hmf134 : tw_fv E131 a0 0 = .ref xr14 := (hst131.1 a0 0 hm0 (by rw [hk0]; decide)).trans hmf124
            have hmf135 : tw_fv E131 a0 28 = .int zi46 := (hst131.1 a0 28 hm0 (by rw [hk0]; decide)).trans hmf125
            have hmf136 : tw_fv E131 a0 22 = .ref xr56 := (hst131.1 a0 22 hm0 (by rw [hk0]; decide)).trans hmf126
            have hmf137 : tw_fv E131 a0 16 = .ref xr68 := (hst131.1 a0 16 hm0 (by rw [hk0]; decide)).trans hmf127
            have hmf138 : tw_fv E131 a0 18 = .ref xr82 := (hst131.1 a0 18 hm0 (by rw [hk0]; decide)).trans hmf128
            have hmf139 : tw_fv E131 a0 19 = .ref xr97 := (hst131.1 a0 19 hm0 (by rw [hk0]; decide)).trans hmf129
            have hmf140 : tw_fv E131 a0 17 = .ref xr113 := (hst131.1 a0 17 hm0 (by rw [hk0]; decide)).trans hmf130
            have hg1 : th_ok E131 a0 (fv0_28.toInt + 1) := th_ok_fr TH hst131 hm0 hk0 (by decide) (by decide) hg1
            have hg2 : tp_ok E131 a0 (fv0_28.toInt + 1) := tp_ok_fr TH hst131 hm0 hk0 (by decide) (by decide) hg2
            have hg3 : tq_ok E131 a0 (fv0_28.toInt + 1) := tq_ok_fr TH hst131 hm0 hk0 (by decide) (by decide) hg3
            have hg4 : tg_ok E131 a0 (fv0_28.toInt + 1) := tg_ok_fr TH hst131 hm0 hk0 (by decide) (by decide) hg4
            have hg5 : rd_ok E131 a0 := rd_ok_fr TH hst131 hm0 hk0 (by decide) (by decide) hg5
            have hg6 : kg_ok E131 a0 := kg_ok_fr TH hst131 hm0 hk0 (by decide) (by decide) hg6
            have hot : ot_ok E131 a0 (15) E := ot_ok_fr TH hst131 hm0 hk0 (by decide) (by decide) hot
            have hgn141 : tk_at E131 a0 := tk_of TH hst131 hm0 hk0 (by decide) (by decide) (by decide) (tw_fi_of hmf123) hpoxc132_0
            obtain ⟨qzfxc132_0_0, hqzfxc132_0_0, hqzfxc132_0_0a, hqzfxc132_0_0b⟩ := tw_rd TH hm0 hk0 (by decide) (by decide) (k := 2) rfl
            have eqzfxc132_0_0 : qzfxc132_0_0 = zfxc132_0_0 := by have q := hqzfxc132_0_0.symm.trans hzfxc132_0_0; injection q
            rw [eqzfxc132_0_0] at hqzfxc132_0_0a hqzfxc132_0_0b
            obtain ⟨qzfxc132_0_1, hqzfxc132_0_1, hqzfxc132_0_1a, hqzfxc132_0_1b⟩ := tw_rd TH hm0 hk0 (by decide) (by decide) (k := 3) rfl
            have eqzfxc132_0_1 : qzfxc132_0_1 = zfxc132_0_1 := by have q := hqzfxc132_0_1.symm.trans hzfxc132_0_1; injection q
            rw [eqzfxc132_0_1] at hqzfxc132_0_1a hqzfxc132_0_1b
            refine W.eq (g2 := F0 m 136 ls []) rfl ?_
            have htl1 := tk_le hgn141 (tw_fi_of hmf133) (tw_fi_of hzfxc132_0_0) (tw_fi_of hzfxc132_0_1)
            refine lv_aload_n hx hb dX12_readsNode_136 rfl (lv_at hl 2 rfl) ?_
            refine tw_Vc (o := a0) (ci := 12) (n := 0) (post := (fun v kq Lq Eq => (∃ x : Int32, v = some (.int x) ∧ 0 ≤ x.toInt ∧ x.toInt ≤ 1) ∧ kp = kq ∧ L = Lq ∧ E131 = Eq)) (As := []) (rest := []) ⟨hx, hb, hml, hown, hB⟩ (fun sz => tX12_isCut_vL l D cs a0 hm0 hk0 sz) cg_12_261_X12_isCut rfl rfl (by decide +kernel) ⟨(by first | exact Nat.le_of_ble_eq_true rfl | (dsimp only; omega) | omega), (by first | exact Nat.le_of_ble_eq_true rfl | (dsimp only; omega) | omega)⟩ hK hN TH hS hA rfl hm0 hk0 (by decide) rfl hl.1 rfl ((by first | exact Nat.le_of_ble_eq_true rfl | (dsimp only; omega) | omega)) dX12_readsNode_137 ⟨(by first | exact Nat.le_of_ble_eq_true rfl | (dsimp only; omega) | omega), (by first | exact Nat.le_of_ble_eq_true rfl | (dsimp only; omega) | omega)⟩ (fun v142 kp142 L142 E142 H locs hq142 hx142 TH hS => ?_)
            obtain ⟨⟨xc143, rfl, hxc143a, hxc143b⟩, rfl, rfl, rfl⟩ := hq142
            refine W.eq (g2 := F0 m 140 ls [.int xc143]) rfl ?_
            refine lv_if_eq (tgt := 156) hx hb dX12_readsNode_140 (by decide) (fun hc144 => ?_) (fun hc144 => ?_)
            · have hf145 : xc143.toInt = 0 := by have z := (fa_eq _ _).mp hc144; have : ((0 : Int32).toInt) = 0 := (by decide); omega
              refine lv_aload_n hx hb dX12_readsNode_156 rfl (lv_at hl 2 rfl) ?_
              refine tw_Vc (o := a0) (ci := 12) (n := 0) (post := (fun v kq Lq Eq => (∃ x : Int32, v = some (.int x) ∧ 0 ≤ x.toInt ∧ x.toInt ≤ 1 ∧ (x.toInt ≠ 0 ↔ ((zfxc132_0_0.toInt < xi1.toInt ∧ tw_el E131 a0 0 (zfxc132_0_0.toInt).toNat = 123) ∧ zfxc132_0_0.toInt + 1 < zfxc132_0_1.toInt))) ∧ kp = kq ∧ L = Lq ∧ E131 = Eq)) (As := []) (rest := []) ⟨hx, hb, hml, hown, hB⟩ (fun sz => tX12_isWord_vL l D cs a0 zfxc132_0_0 xi1 zfxc132_0_1 hm0 hk0 hzfxc132_0_0 hmf133 hzfxc132_0_1 sz) cg_12_224_X12_isWord rfl rfl (by decide +kernel) ⟨(by first | exact Nat.le_of_ble_eq_true rfl | (dsimp only; omega) | omega), (by first | exact Nat.le_of_ble_eq_true rfl | (dsimp only; omega) | omega)⟩ hK hN TH hS hA rfl hm0 hk0 (by decide) rfl hl.1 rfl ((by first | exact Nat.le_of_ble_eq_true rfl | (dsimp only; omega) | omega)) dX12_readsNode_157 ⟨(by first | exact Nat.le_of_ble_eq_true rfl | (dsimp only; omega) | omega), (by first | exact Nat.le_of_ble_eq_true rfl | (dsimp only; omega) | omega)⟩ (fun v146 kp146 L146 E146 H locs hq146 hx146 TH hS => ?_)
              obtain ⟨⟨xc147, rfl, hxc147a, hxc147b, hpoxc147_0⟩, rfl, rfl, rfl⟩ := hq146
              refine W.eq (g2 := F0 m 160 ls [.int xc147]) rfl ?_
              refine lv_if_eq (tgt := 181) hx hb dX12_readsNode_160 (by decide) (fun hc148 => ?_) (fun hc148 => ?_)
              · have hf149 : xc147.toInt = 0 := by have z := (fa_eq _ _).mp hc148; have : ((0 : Int32).toInt) = 0 := (by decide); omega
                have htl2 := tk_le hgn141 (tw_fi_of hmf133) (tw_fi_of hzfxc132_0_0) (tw_fi_of hzfxc132_0_1)
                refine lv_aload_n hx hb dX12_readsNode_181 rfl (lv_at hl 2 rfl) ?_
                refine lv_bipush (v := 40) hx hb dX12_readsNode_182 (by decide) ?_
                refine tw_Vc (o := a0) (ci := 12) (n := 1) (post := (fun v kq Lq Eq => (∃ x : Int32, v = some (.int x) ∧ 0 ≤ x.toInt ∧ x.toInt ≤ 1 ∧ (x.toInt ≠ 0 ↔ (zfxc132_0_0.toInt < xi1.toInt ∧ tw_el E131 a0 0 (zfxc132_0_0.toInt).toNat = (40 : Int32).toInt))) ∧ kp = kq ∧ L = Lq ∧ E131 = Eq)) (As := [.int 40]) (rest := []) ⟨hx, hb, hml, hown, hB⟩ (fun sz => tX12_isSign_vL l D cs a0 (40 : Int32) zfxc132_0_0 xi1 hm0 hk0 hzfxc132_0_0 hmf133 sz) cg_12_221_X12_isSign rfl rfl (by decide +kernel) ⟨(by first | exact Nat.le_of_ble_eq_true rfl | (dsimp only; omega) | omega), (by first | exact Nat.le_of_ble_eq_true rfl | (dsimp only; omega) | omega)⟩ hK hN TH hS hA rfl hm0 hk0 (by decide) rfl hl.1 rfl ((by first | exact Nat.le_of_ble_eq_true rfl | (dsimp only; omega) | omega)) dX12_readsNode_184 ⟨(by first | exact Nat.le_of_ble_eq_true rfl | (dsimp only; omega) | omega), (by first | exact Nat.le_of_ble_eq_true rfl | (dsimp only; omega) | omega)⟩ (fun v150 kp150 L150 E150 H locs hq150 hx150 TH hS => ?_)
                obtain ⟨⟨xc151, rfl, hxc151a, hxc151b, hpoxc151_0⟩, rfl, rfl, rfl⟩ := hq150
                refine W.eq (g2 := F0 m 187 ls [.int xc151]) rfl ?_
                refine lv_if_ne (tgt := 192) hx hb dX12_readsNode_187 (by decide) (fun hc152 => ?_) (fun hc152 => ?_)
                · have hf153 : ¬ (xc151.toInt = 0) := fun q => hc152 ((fa_eq _ _).mpr (by have : ((0 : Int32).toInt) = 0 := (by decide); omega))
                  have htl3 := tk_le hgn141 (tw_fi_of hmf133) (tw_fi_of hzfxc132_0_0) (tw_fi_of hzfxc132_0_1)
                  refine lv_aload_n hx hb dX12_readsNode_192 rfl (lv_at hl 2 rfl) ?_
                  refine lv_iload_n hx hb dX12_readsNode_193 rfl (lv_at hl 4 rfl) ?_
                  refine lv_bipush (v := 8) hx hb dX12_readsNode_194 (by decide) ?_
                  refine lv_icmp_ge (tgt := 203) hx hb dX12_readsNode_196 (by decide) (fun hc154 => ?_) (fun hc154 => ?_)
                  · have hf155 : 8 ≤ x2.toInt := by have z := (fa_le _ _).mp hc154; have : ((8 : Int32).toInt) = 8 := (by decide); omega
                    refine lv_iconst (v := 0) hx hb dX12_readsNode_203 (by decide) ?_
                    refine tw_Vc (o := a0) (ci := 12) (n := 1) (post := (fun v kq Lq Eq => (∃ x : Int32, v = some (.int x) ∧ 0 ≤ x.toInt ∧ x.toInt ≤ 1 ∧ (((0 : Int32).toInt = 0 → x.toInt = 0 ∧ tw_fi Eq a0 4 ≠ -1) ∧ ((0 : Int32).toInt ≠ 0 → x.toInt = 1 ∧ lx_WS (tw_el E131 a0 0) xi1.toInt zfxc132_0_1.toInt (tw_fi Eq a0 2) ∧ lx_TK (tw_el E131 a0 0) xi1.toInt (tw_fi Eq a0 2) (tw_fi Eq a0 3))) ∧ (∃ z0 z1 : Int32, tw_fv Eq a0 2 = .int z0 ∧ tw_fv Eq a0 3 = .int z1 ∧ (z0.toInt ≤ z1.toInt ∧ z1.toInt ≤ xi1.toInt ∧ (x.toInt ≠ 0 → zfxc132_0_1.toInt ≤ z0.toInt) ∧ (x.toInt = 0 → z0.toInt = zfxc132_0_0.toInt)))) ∧ kp = kq ∧ L = Lq ∧ tw_fr kp L [(12, 2), (12, 3), (12, 4)] [] E131 Eq)) (As := [.int 0]) (rest := []) ⟨hx, hb, hml, hown, hB⟩ (fun sz => tX12_passes_vL l D cs a0 (0 : Int32) zfxc132_0_0 zfxc132_0_1 xi1 hm0 hk0 (by have : ((0 : Int32).toInt) = 0 := (by decide); omega) (by have : ((0 : Int32).toInt) = 0 := (by decide); omega) hzfxc132_0_0 hzfxc132_0_1 hmf133 (by have : ((0 : Int32).toInt) = 0 := (by decide); omega) (by have : ((0 : Int32).toInt) = 0 := (by decide); omega) (by have : ((0 : Int32).toInt) = 0 := (by decide); omega) sz) cg_12_237_X12_passes rfl rfl (by decide +kernel) ⟨(by first | exact Nat.le_of_ble_eq_true rfl | (dsimp only; omega) | omega), (by first | exact Nat.le_of_ble_eq_true rfl | (dsimp only; omega) | omega)⟩ hK hN TH hS hA rfl hm0 hk0 (by decide) rfl hl.1 rfl ((by first | exact Nat.le_of_ble_eq_true rfl | (dsimp only; omega) | omega)) dX12_readsNode_204 ⟨(by first | exact Nat.le_of_ble_eq_true rfl | (dsimp only; omega) | omega), (by first | exact Nat.le_of_ble_eq_true rfl | (dsimp only; omega) | omega)⟩ (fun v156 kp156 L156 E156 H locs hq156 hx156 TH hS => ?_)
                    obtain ⟨⟨xc157, rfl, hxc157a, hxc157b, hpoxc157_0, ⟨zfxc157_0_0, zfxc157_0_1, hzfxc157_0_0, hzfxc157_0_1, hzpxc157_0⟩⟩, rfl, rfl, hst156⟩ := hq156
                    have hF := hF.tr hst156 (fun _ h => ⟨h, rfl⟩) (by decide) (by decide)
                    have hmf158 : tw_fv E156 a0 1 = .int xi1 := (hst156.1 a0 1 hm0 (by rw [hk0]; decide)).trans hmf133
                    have hmf159 : tw_fv E156 a0 0 = .ref xr14 := (hst156.1 a0 0 hm0 (by rw [hk0]; decide)).trans hmf134
                    have hmf160 : tw_fv E156 a0 28 = .int zi46 := (hst156.1 a0 28 hm0 (by rw [hk0]; decide)).trans hmf135
                    have hmf161 : tw_fv E156 a0 22 = .ref xr56 := (hst156.1 a0 22 hm0 (by rw [hk0]; decide)).trans hmf136
                    have hmf162 : tw_fv E156 a0 16 = .ref xr68 := (hst156.1 a0 16 hm0 (by rw [hk0]; decide)).trans hmf137
                    have hmf163 : tw_fv E156 a0 18 = .ref xr82 := (hst156.1 a0 18 hm0 (by rw [hk0]; decide)).trans hmf138
                    have hmf164 : tw_fv E156 a0 19 = .ref xr97 := (hst156.1 a0 19 hm0 (by rw [hk0]; decide)).trans hmf139
                    have hmf165 : tw_fv E156 a0 17 = .ref xr113 := (hst156.1 a0 17 hm0 (by rw [hk0]; decide)).trans hmf140
                    have hg1 : th_ok E156 a0 (fv0_28.toInt + 1) := th_ok_fr TH hst156 hm0 hk0 (by decide) (by decide) hg1
                    have hg2 : tp_ok E156 a0 (fv0_28.toInt + 1) := tp_ok_fr TH hst156 hm0 hk0 (by decide) (by decide) hg2
                    have hg3 : tq_ok E156 a0 (fv0_28.toInt + 1) := tq_ok_fr TH hst156 hm0 hk0 (by decide) (by decide) hg3
                    have hg4 : tg_ok E156 a0 (fv0_28.toInt + 1) := tg_ok_fr TH hst156 hm0 hk0 (by decide) (by decide) hg4
                    have hg5 : rd_ok E156 a0 := rd_ok_fr TH hst156 hm0 hk0 (by decide) (by decide) hg5
                    have hg6 : kg_ok E156 a0 := kg_ok_fr TH hst156 hm0 hk0 (by decide) (by decide) hg6
                    have hot : ot_ok E156 a0 (15) E := ot_ok_fr TH hst156 hm0 hk0 (by decide) (by decide) hot
                    obtain ⟨qzfxc157_0_0, hqzfxc157_0_0, hqzfxc157_0_0a, hqzfxc157_0_0b⟩ := tw_rd TH hm0 hk0 (by decide) (by decide) (k := 2) rfl
                    have eqzfxc157_0_0 : qzfxc157_0_0 = zfxc157_0_0 := by have q := hqzfxc157_0_0.symm.trans hzfxc157_0_0; injection q
                    rw [eqzfxc157_0_0] at hqzfxc157_0_0a hqzfxc157_0_0b
                    obtain ⟨qzfxc157_0_1, hqzfxc157_0_1, hqzfxc157_0_1a, hqzfxc157_0_1b⟩ := tw_rd TH hm0 hk0 (by decide) (by decide) (k := 3) rfl
                    have eqzfxc157_0_1 : qzfxc157_0_1 = zfxc157_0_1 := by have q := hqzfxc157_0_1.symm.trans hzfxc157_0_1; injection q
                    rw [eqzfxc157_0_1] at hqzfxc157_0_1a hqzfxc157_0_1b
                    refine W.eq (g2 := F0 m 207 ls [.int xc157]) rfl ?_
                    refine lv_if_ne (tgt := 212) hx hb dX12_readsNode_207 (by decide) (fun hc166 => ?_) (fun hc166 => ?_)
                    · have hf167 : ¬ (xc157.toInt = 0) := fun q => hc166 ((fa_eq _ _).mpr (by have : ((0 : Int32).toInt) = 0 := (by decide); omega))
                      have hpz := hpoxc157_0.1
                      have hpw : ((0 : Int32).toInt) ≠ 0 → xc157.toInt = 1 := fun z => (hpoxc157_0.2 z).1
                      have ek0 : ((0 : Int32).toInt) = 0 := (by decide)
                      have ek1 : ((1 : Int32).toInt) = 1 := (by decide)
                      exfalso
                      omega
                    · have hf168 : xc157.toInt = 0 := by have z := (fa_eq _ _).mp hc166; have : ((0 : Int32).toInt) = 0 := (by decide); omega
                      have hpz := hpoxc157_0.1
                      have hpw : ((0 : Int32).toInt) ≠ 0 → xc157.toInt = 1 := fun z => (hpoxc157_0.2 z).1
                      have ek0 : ((0 : Int32).toInt) = 0 := (by decide)
                      have ek1 : ((1 : Int32).toInt) = 1 := (by decide)
                      refine lv_iconst (v := 0) hx hb dX12_readsNode_210 (by decide) ?_
                      exact tw_zret hx hb hr hlocks (by decide) TH hS hex ⟨⟨_, rfl, (show 0 ≤ Int32.toInt 0 from by have : ((0 : Int32).toInt) = 0 := (by decide); omega), (show Int32.toInt 0 ≤ 1 from by have : ((0 : Int32).toInt) = 0 := (by decide); omega), (by have : ((0 : Int32).toInt) = 0 := (by decide); exact hot), (by have : ((0 : Int32).toInt) = 0 := (by decide); intro _; exact (hpz (by decide)).2), (by have : ((0 : Int32).toInt) = 0 := (by decide); intro q; exact absurd (by decide) q), ⟨zfxc157_0_0, zi46, hzfxc157_0_0, hmf160, by have : ((0 : Int32).toInt) = 0 := (by decide); omega, (th_ok_cast (by have : ((0 : Int32).toInt) = 0 := (by decide); omega) hg1), (tp_ok_cast (by have : ((0 : Int32).toInt) = 0 := (by decide); omega) hg2), (tq_ok_cast (by have : ((0 : Int32).toInt) = 0 := (by decide); omega) hg3), (tg_ok_cast (by have : ((0 : Int32).toInt) = 0 := (by decide); omega) hg4)⟩, hg5, hg6⟩, rfl, rfl, hF⟩ ((by first | exact Nat.le_of_ble_eq_true rfl | (dsimp only; omega) | omega)) ((by first | exact Nat.le_of_ble_eq_true rfl | (dsimp only; omega) | omega)) dX12_readsNode_211
                  · have hf169 : ¬ (8 ≤ x2.toInt) := fun q => hc154 ((fa_le _ _).mpr (by have : ((8 : Int32).toInt) = 8 := (by decide); omega))
                    refine lv_iconst (v := 1) hx hb dX12_readsNode_199 (by decide) ?_
                    refine lv_goto (tgt := 204) hx hb dX12_readsNode_200 (by decide) ?_
                    refine tw_Vc (o := a0) (ci := 12) (n := 1) (post := (fun v kq Lq Eq => (∃ x : Int32, v = some (.int x) ∧ 0 ≤ x.toInt ∧ x.toInt ≤ 1 ∧ (((1 : Int32).toInt = 0 → x.toInt = 0 ∧ tw_fi Eq a0 4 ≠ -1) ∧ ((1 : Int32).toInt ≠ 0 → x.toInt = 1 ∧ lx_WS (tw_el E131 a0 0) xi1.toInt zfxc132_0_1.toInt (tw_fi Eq a0 2) ∧ lx_TK (tw_el E131 a0 0) xi1.toInt (tw_fi Eq a0 2) (tw_fi Eq a0 3))) ∧ (∃ z0 z1 : Int32, tw_fv Eq a0 2 = .int z0 ∧ tw_fv Eq a0 3 = .int z1 ∧ (z0.toInt ≤ z1.toInt ∧ z1.toInt ≤ xi1.toInt ∧ (x.toInt ≠ 0 → zfxc132_0_1.toInt ≤ z0.toInt) ∧ (x.toInt = 0 → z0.toInt = zfxc132_0_0.toInt)))) ∧ kp = kq ∧ L = Lq ∧ tw_fr kp L [(12, 2), (12, 3), (12, 4)] [] E131 Eq)) (As := [.int 1]) (rest := []) ⟨hx, hb, hml, hown, hB⟩ (fun sz => tX12_passes_vL l D cs a0 (1 : Int32) zfxc132_0_0 zfxc132_0_1 xi1 hm0 hk0 (by have : ((1 : Int32).toInt) = 1 := (by decide); omega) (by have : ((1 : Int32).toInt) = 1 := (by decide); omega) hzfxc132_0_0 hzfxc132_0_1 hmf133 (by have : ((1 : Int32).toInt) = 1 := (by decide); omega) (by have : ((1 : Int32).toInt) = 1 := (by decide); omega) (by have : ((1 : Int32).toInt) = 1 := (by decide); omega) sz) cg_12_237_X12_passes rfl rfl (by decide +kernel) ⟨(by first | exact Nat.le_of_ble_eq_true rfl | (dsimp only; omega) | omega), (by first | exact Nat.le_of_ble_eq_true rfl | (dsimp only; omega) | omega)⟩ hK hN TH hS hA rfl hm0 hk0 (by decide) rfl hl.1 rfl ((by first | exact Nat.le_of_ble_eq_true rfl | (dsimp only; omega) | omega)) dX12_readsNode_204 ⟨(by first | exact Nat.le_of_ble_eq_true rfl | (dsimp only; omega) | omega), (by first | exact Nat.le_of_ble_eq_true rfl | (dsimp only; omega) | omega)⟩ (fun v170 kp170 L170 E170 H locs hq170 hx170 TH hS => ?_)
                    obtain ⟨⟨xc171, rfl, hxc171a, hxc171b, hpoxc171_0, ⟨zfxc171_0_0, zfxc171_0_1, hzfxc171_0_0, hzfxc171_0_1, hzpxc171_0⟩⟩, rfl, rfl, hst170⟩ := hq170
                    have hF := hF.tr hst170 (fun _ h => ⟨h, rfl⟩) (by decide) (by decide)
                    have hmf172 : tw_fv E170 a0 1 = .int xi1 := (hst170.1 a0 1 hm0 (by rw [hk0]; decide)).trans hmf133
                    have hmf173 : tw_fv E170 a0 0 = .ref xr14 := (hst170.1 a0 0 hm0 (by rw [hk0]; decide)).trans hmf134
                    have hmf174 : tw_fv E170 a0 28 = .int zi46 := (hst170.1 a0 28 hm0 (by rw [hk0]; decide)).trans hmf135
                    have hmf175 : tw_fv E170 a0 22 = .ref xr56 := (hst170.1 a0 22 hm0 (by rw [hk0]; decide)).trans hmf136
                    have hmf176 : tw_fv E170 a0 16 = .ref xr68 := (hst170.1 a0 16 hm0 (by rw [hk0]; decide)).trans hmf137
                    have hmf177 : tw_fv E170 a0 18 = .ref xr82 := (hst170.1 a0 18 hm0 (by rw [hk0]; decide)).trans hmf138
                    have hmf178 : tw_fv E170 a0 19 = .ref xr97 := (hst170.1 a0 19 hm0 (by rw [hk0]; decide)).trans hmf139
                    have hmf179 : tw_fv E170 a0 17 = .ref xr113 := (hst170.1 a0 17 hm0 (by rw [hk0]; decide)).trans hmf140
                    have hg1 : th_ok E170 a0 (fv0_28.toInt + 1) := th_ok_fr TH hst170 hm0 hk0 (by decide) (by decide) hg1
                    have hg2 : tp_ok E170 a0 (fv0_28.toInt + 1) := tp_ok_fr TH hst170 hm0 hk0 (by decide) (by decide) hg2
                    have hg3 : tq_ok E170 a0 (fv0_28.toInt + 1) := tq_ok_fr TH hst170 hm0 hk0 (by decide) (by decide) hg3
                    have hg4 : tg_ok E170 a0 (fv0_28.toInt + 1) := tg_ok_fr TH hst170 hm0 hk0 (by decide) (by decide) hg4
                    have hg5 : rd_ok E170 a0 := rd_ok_fr TH hst170 hm0 hk0 (by decide) (by decide) hg5
                    have hg6 : kg_ok E170 a0 := kg_ok_fr TH hst170 hm0 hk0 (by decide) (by decide) hg6
                    have hot : ot_ok E170 a0 (15) E := ot_ok_fr TH hst170 hm0 hk0 (by decide) (by decide) hot
                    have hgn180 : tk_at E170 a0 := tk_of TH hst170 hm0 hk0 (by decide) (by decide) (by decide) (tw_fi_of hmf133) (hpoxc171_0.2 (by decide)).2
                    obtain ⟨qzfxc171_0_0, hqzfxc171_0_0, hqzfxc171_0_0a, hqzfxc171_0_0b⟩ := tw_rd TH hm0 hk0 (by decide) (by decide) (k := 2) rfl
                    have eqzfxc171_0_0 : qzfxc171_0_0 = zfxc171_0_0 := by have q := hqzfxc171_0_0.symm.trans hzfxc171_0_0; injection q
                    rw [eqzfxc171_0_0] at hqzfxc171_0_0a hqzfxc171_0_0b
                    obtain ⟨qzfxc171_0_1, hqzfxc171_0_1, hqzfxc171_0_1a, hqzfxc171_0_1b⟩ := tw_rd TH hm0 hk0 (by decide) (by decide) (k := 3) rfl
                    have eqzfxc171_0_1 : qzfxc171_0_1 = zfxc171_0_1 := by have q := hqzfxc171_0_1.symm.trans hzfxc171_0_1; injection q
                    rw [eqzfxc171_0_1] at hqzfxc171_0_1a hqzfxc171_0_1b
                    refine W.eq (g2 := F0 m 207 ls [.int xc171]) rfl ?_
                    refine lv_if_ne (tgt := 212) hx hb dX12_readsNode_207 (by decide) (fun hc181 => ?_) (fun hc181 => ?_)
                    · have hf182 : ¬ (xc171.toInt = 0) := fun q => hc181 ((fa_eq _ _).mpr (by have : ((0 : Int32).toInt) = 0 := (by decide); omega))
                      have hpz := hpoxc171_0.1
                      have hpw : ((1 : Int32).toInt) ≠ 0 → xc171.toInt = 1 := fun z => (hpoxc171_0.2 z).1
                      have ek0 : ((0 : Int32).toInt) = 0 := (by decide)
                      have ek1 : ((1 : Int32).toInt) = 1 := (by decide)
                      refine lv_aload_n hx hb dX12_readsNode_212 rfl (lv_at hl 2 rfl) ?_
                      refine lv_iload hx hb dX12_readsNode_213 (lv_at hl 0 rfl) ?_
                      refine lv_iload_n hx hb dX12_readsNode_215 rfl (lv_at hl 4 rfl) ?_
                      refine lv_iconst (v := 1) hx hb dX12_readsNode_216 (by decide) ?_
                      refine lv_iadd hx hb dX12_readsNode_217 ?_
                      refine lv_topi (fun zi183 ezi183 => ?_)
                      have hzi183 : zi183.toInt = x2.toInt + 1 := by rw [ezi183]; have : ((1 : Int32).toInt) = 1 := (by decide); have := ia_lo x2; have := ia_hi x2; exact (ia_add (by omega) (by omega)).trans (by omega)
                      refine tw_Vc (o := a0) (ci := 12) (n := 2) (post := (fun v kq Lq Eq => (∃ x : Int32, v = some (.int x) ∧ 0 ≤ x.toInt ∧ x.toInt ≤ 1 ∧ (ot_ok Eq a0 15 E170) ∧ (x.toInt = 0 → tw_fi Eq a0 4 ≠ -1) ∧ (x.toInt ≠ 0 → tk_at Eq a0) ∧ (∃ z0 z1 : Int32, tw_fv Eq a0 2 = .int z0 ∧ tw_fv Eq a0 28 = .int z1 ∧ (zfxc171_0_0.toInt ≤ z0.toInt ∧ (x.toInt ≠ 0 → zfxc171_0_0.toInt < z0.toInt) ∧ zi46.toInt ≤ z1.toInt ∧ (x.toInt ≠ 0 → zi46.toInt < z1.toInt)) ∧ th_ok Eq a0 (z1.toInt) ∧ tp_ok Eq a0 (z1.toInt) ∧ tq_ok Eq a0 (z1.toInt) ∧ tg_ok Eq a0 (z1.toInt)) ∧ rd_ok Eq a0 ∧ kg_ok Eq a0) ∧ kp = kq ∧ L = Lq ∧ tw_fr kp L [(12, 2), (12, 3), (12, 4), (12, 28)] [326, 327, 328, 329, 332] E170 Eq)) (As := [.int fv0_28, .int zi183]) (rest := []) ⟨hx, hb, hml, hown, hB⟩ (fun sz => ih a0 fv0_28 zi183 zi46 zfxc171_0_1 zfxc171_0_0 hm0 hk0 (by omega) (by omega) (by omega) (by omega) hmf174 hzfxc171_0_1 hzfxc171_0_0 (by  omega) (by  omega) (by  omega) hgn180 (th_ok_cast (by  omega) hg1) (tp_ok_cast (by  omega) hg2) (tq_ok_cast (by  omega) hg3) (tg_ok_cast (by  omega) hg4) hg5 hg6 sz) cg_12_268_X12_readsNode rfl rfl (by decide +kernel) ⟨(by first | exact Nat.le_of_ble_eq_true rfl | (dsimp only; omega) | omega), (by first | exact Nat.le_of_ble_eq_true rfl | (dsimp only; omega) | omega)⟩ hK hN TH hS hA rfl hm0 hk0 (by decide) rfl hl.1 rfl ((by first | exact Nat.le_of_ble_eq_true rfl | (dsimp only; omega) | omega)) dX12_readsNode_218 ⟨(by first | exact Nat.le_of_ble_eq_true rfl | (dsimp only; omega) | omega), (by first | exact Nat.le_of_ble_eq_true rfl | (dsimp only; omega) | omega)⟩ (fun v184 kp184 L184 E184 H locs hq184 hx184 TH hS => ?_)
                      obtain ⟨⟨xc185, rfl, hxc185a, hxc185b, hpoxc185_0, hpoxc185_1, hpoxc185_2, ⟨zfxc185_0_0, zfxc185_0_1, hzfxc185_0_0, hzfxc185_0_1, hzpxc185_0, hzgxc185_0_0, hzgxc185_0_1, hzgxc185_0_2, hzgxc185_0_3⟩, hgpxc185_0, hgpxc185_1⟩, rfl, rfl, hst184⟩ := hq184
                      have hF := hF.tr hst184 (fun _ h => ⟨h, rfl⟩) (by decide) (by decide)
                      have hmf186 : tw_fv E184 a0 1 = .int xi1 := (hst184.1 a0 1 hm0 (by rw [hk0]; decide)).trans hmf172
                      have hmf187 : tw_fv E184 a0 0 = .ref xr14 := (hst184.1 a0 0 hm0 (by rw [hk0]; decide)).trans hmf173
                      have hmf188 : tw_fv E184 a0 22 = .ref xr56 := (hst184.1 a0 22 hm0 (by rw [hk0]; decide)).trans hmf175
                      have hmf189 : tw_fv E184 a0 16 = .ref xr68 := (hst184.1 a0 16 hm0 (by rw [hk0]; decide)).trans hmf176
                      have hmf190 : tw_fv E184 a0 18 = .ref xr82 := (hst184.1 a0 18 hm0 (by rw [hk0]; decide)).trans hmf177
                      have hmf191 : tw_fv E184 a0 19 = .ref xr97 := (hst184.1 a0 19 hm0 (by rw [hk0]; decide)).trans hmf178
                      have hmf192 : tw_fv E184 a0 17 = .ref xr113 := (hst184.1 a0 17 hm0 (by rw [hk0]; decide)).trans hmf179
                      have hot_o := hot
                      have hgn180_o := hgn180
                      have hot : ot_ok E184 a0 (15) E := ot_ok_tr hpoxc185_0 hot_o
                      obtain ⟨qzfxc185_0_0, hqzfxc185_0_0, hqzfxc185_0_0a, hqzfxc185_0_0b⟩ := tw_rd TH hm0 hk0 (by decide) (by decide) (k := 2) rfl
                      have eqzfxc185_0_0 : qzfxc185_0_0 = zfxc185_0_0 := by have q := hqzfxc185_0_0.symm.trans hzfxc185_0_0; injection q
                      rw [eqzfxc185_0_0] at hqzfxc185_0_0a hqzfxc185_0_0b
                      obtain ⟨qzfxc185_0_1, hqzfxc185_0_1, hqzfxc185_0_1a, hqzfxc185_0_1b⟩ := tw_rd TH hm0 hk0 (by decide) (by decide) (k := 28) rfl
                      have eqzfxc185_0_1 : qzfxc185_0_1 = zfxc185_0_1 := by have q := hqzfxc185_0_1.symm.trans hzfxc185_0_1; injection q
                      rw [eqzfxc185_0_1] at hqzfxc185_0_1a hqzfxc185_0_1b
                      refine W.eq (g2 := F0 m 221 ls [.int xc185]) rfl ?_
                      refine lv_istore (lv' := [(5, .int xc185), (4, .int fv0_28), (3, .int xc33), (0, .ref a0), (1, .int x1), (2, .int x2)]) hx hb dX12_readsNode_221 hl (by decide) rfl (fun ls hl => ?_)
                      have hJ223 : ∀ (n223 : Nat) (y223_5 : Int32) (u223_0_2 : Int32) (u223_0_28 : Int32) (Eg223 : Nat → va_E) (H : Heap) (locs : List Loc) (ls : Array Slot), 0 ≤ y223_5.toInt → y223_5.toInt ≤ 1 → 0 ≤ u223_0_2.toInt → u223_0_2.toInt ≤ 500 → 0 ≤ u223_0_28.toInt → u223_0_28.toInt ≤ 24 → (y223_5.toInt ≠ 0 → tk_at Eg223 a0) → (y223_5.toInt = 0 → tw_fi Eg223 a0 4 ≠ -1) → (fv0_2.toInt < u223_0_2.toInt) → (fv0_28.toInt < u223_0_28.toInt) → (fv0_28.toInt < u223_0_28.toInt) → 501 - u223_0_2.toInt + y223_5.toInt ≤ (n223 : Int) → tw_fv Eg223 a0 2 = .int u223_0_2 → tw_fv Eg223 a0 28 = .int u223_0_28 → tw_fr kp L [(12, 2), (12, 3), (12, 4), (12, 28)] [326, 327, 328, 329, 332] E184 Eg223 → rd_ok Eg223 a0 → kg_ok Eg223 a0 → ot_ok Eg223 a0 (15) E → th_ok Eg223 a0 (u223_0_28.toInt) → tp_ok Eg223 a0 (u223_0_28.toInt) → tq_ok Eg223 a0 (u223_0_28.toInt) → tg_ok Eg223 a0 (u223_0_28.toInt) → tw_H D cs kp L Eg223 A H → va_S A s.heap H locs → lv_has ls 6 [(5, .int y223_5), (4, .int fv0_28), (0, .ref a0), (2, .int x2)] → W p l e { frames := dd + 1 + 5, cells := 0, slots := 0, locals := 25 * (dd + 1) + 121 } s m [.ref a0, .int x1, .int x2].toArray below meth c H locs 0 0 (MQ below (tw_Q D cs kp0 L0 (fun v kq Lq Eq => (∃ x : Int32, v = some (.int x) ∧ 0 ≤ x.toInt ∧ x.toInt ≤ 1 ∧ (ot_ok Eq a0 15 E) ∧ (x.toInt = 0 → tw_fi Eq a0 4 ≠ -1) ∧ (x.toInt ≠ 0 → tk_at Eq a0) ∧ (∃ z0 z1 : Int32, tw_fv Eq a0 2 = .int z0 ∧ tw_fv Eq a0 28 = .int z1 ∧ (fv0_2.toInt ≤ z0.toInt ∧ (x.toInt ≠ 0 → fv0_2.toInt < z0.toInt) ∧ fv0_28.toInt ≤ z1.toInt ∧ (x.toInt ≠ 0 → fv0_28.toInt < z1.toInt)) ∧ th_ok Eq a0 (z1.toInt) ∧ tp_ok Eq a0 (z1.toInt) ∧ tq_ok Eq a0 (z1.toInt) ∧ tg_ok Eq a0 (z1.toInt)) ∧ rd_ok Eq a0 ∧ kg_ok Eq a0) ∧ kp = kq ∧ L = Lq ∧ tw_fr kp L [(12, 2), (12, 3), (12, 4), (12, 28)] [326, 327, 328, 329, 332] E Eq) A) [.ref a0, .int x1, .int x2].toArray s 0 0 A) (F0 m 223 ls []) := by
                        intro n223
                        induction n223 using Nat.strongRecOn with
                        | _ n223 ih223 =>
                          intro y223_5 u223_0_2 u223_0_28 Eg223 H locs ls hy223_5a hy223_5b hu223_0_2a hu223_0_2b hu223_0_28a hu223_0_28b hin223_0 hin223_1 hin223_2 hin223_3 hin223_4 hmeas223 hfm223_0 hfm223_1 hG223 hcg223_0 hcg223_1 hcg223_2 hcg223_3 hcg223_4 hcg223_5 hcg223_6 TH hS hl
                          have hF := hF.tr hG223 (fun _ h => ⟨h, rfl⟩) (by decide) (by decide)
                          have hmf193 : tw_fv Eg223 a0 1 = .int xi1 := (hG223.1 a0 1 hm0 (by rw [hk0]; decide)).trans hmf186
                          have hmf194 : tw_fv Eg223 a0 0 = .ref xr14 := (hG223.1 a0 0 hm0 (by rw [hk0]; decide)).trans hmf187
                          have hmf195 : tw_fv Eg223 a0 22 = .ref xr56 := (hG223.1 a0 22 hm0 (by rw [hk0]; decide)).trans hmf188
                          have hmf196 : tw_fv Eg223 a0 16 = .ref xr68 := (hG223.1 a0 16 hm0 (by rw [hk0]; decide)).trans hmf189
                          have hmf197 : tw_fv Eg223 a0 18 = .ref xr82 := (hG223.1 a0 18 hm0 (by rw [hk0]; decide)).trans hmf190
                          have hmf198 : tw_fv Eg223 a0 19 = .ref xr97 := (hG223.1 a0 19 hm0 (by rw [hk0]; decide)).trans hmf191
                          have hmf199 : tw_fv Eg223 a0 17 = .ref xr113 := (hG223.1 a0 17 hm0 (by rw [hk0]; decide)).trans hmf192
                          refine lv_iload hx hb dX12_readsNode_223 (lv_at hl 0 rfl) ?_
                          refine lv_if_eq (tgt := 251) hx hb dX12_readsNode_225 (by decide) (fun hc200 => ?_) (fun hc200 => ?_)
                          · have hf201 : y223_5.toInt = 0 := by have z := (fa_eq _ _).mp hc200; have : ((0 : Int32).toInt) = 0 := (by decide); omega
                            refine lv_iload hx hb dX12_readsNode_251 (lv_at hl 0 rfl) ?_
                            refine lv_if_eq (tgt := 268) hx hb dX12_readsNode_253 (by decide) (fun hc202 => ?_) (fun hc202 => ?_)
                            · have hf203 : y223_5.toInt = 0 := by have z := (fa_eq _ _).mp hc202; have : ((0 : Int32).toInt) = 0 := (by decide); omega
                              have hfin := trivial
                              refine lv_iconst (v := 0) hx hb dX12_readsNode_268 (by decide) ?_
                              exact tw_zret hx hb hr hlocks (by decide) TH hS hex ⟨⟨_, rfl, (show 0 ≤ Int32.toInt 0 from by have : ((0 : Int32).toInt) = 0 := (by decide); omega), (show Int32.toInt 0 ≤ 1 from by have : ((0 : Int32).toInt) = 0 := (by decide); omega), (by have : ((0 : Int32).toInt) = 0 := (by decide); exact hcg223_2), (by have : ((0 : Int32).toInt) = 0 := (by decide); intro _; exact hin223_1 (by omega)), (by have : ((0 : Int32).toInt) = 0 := (by decide); intro q; exact absurd (by decide) q), ⟨u223_0_2, u223_0_28, hfm223_0, hfm223_1, by have : ((0 : Int32).toInt) = 0 := (by decide); omega, (th_ok_cast (by have : ((0 : Int32).toInt) = 0 := (by decide); omega) hcg223_3), (tp_ok_cast (by have : ((0 : Int32).toInt) = 0 := (by decide); omega) hcg223_4), (tq_ok_cast (by have : ((0 : Int32).toInt) = 0 := (by decide); omega) hcg223_5), (tg_ok_cast (by have : ((0 : Int32).toInt) = 0 := (by decide); omega) hcg223_6)⟩, hcg223_0, hcg223_1⟩, rfl, rfl, hF⟩ ((by first | exact Nat.le_of_ble_eq_true rfl | (dsimp only; omega) | omega)) ((by first | exact Nat.le_of_ble_eq_true rfl | (dsimp only; omega) | omega)) dX12_readsNode_269
                            · have hf204 : ¬ (y223_5.toInt = 0) := fun q => hc202 ((fa_eq _ _).mpr (by have : ((0 : Int32).toInt) = 0 := (by decide); omega))
                              exfalso; omega
                          · have hf205 : ¬ (y223_5.toInt = 0) := fun q => hc200 ((fa_eq _ _).mpr (by have : ((0 : Int32).toInt) = 0 := (by decide); omega))
                            have htk228 : tk_at Eg223 a0 := hin223_0 (by omega)
                            refine lv_aload_n hx hb dX12_readsNode_228 rfl (lv_at hl 2 rfl) ?_
                            refine lv_bipush (v := 41) hx hb dX12_readsNode_229 (by decide) ?_
                            refine tw_Vc (o := a0) (ci := 12) (n := 1) (post := (fun v kq Lq Eq => (∃ x : Int32, v = some (.int x) ∧ 0 ≤ x.toInt ∧ x.toInt ≤ 1 ∧ (x.toInt ≠ 0 ↔ (u223_0_2.toInt < xi1.toInt ∧ tw_el Eg223 a0 0 (u223_0_2.toInt).toNat = (41 : Int32).toInt))) ∧ kp = kq ∧ L = Lq ∧ Eg223 = Eq)) (As := [.int 41]) (rest := []) ⟨hx, hb, hml, hown, hB⟩ (fun sz => tX12_isSign_vL l D cs a0 (41 : Int32) u223_0_2 xi1 hm0 hk0 hfm223_0 hmf193 sz) cg_12_221_X12_isSign rfl rfl (by decide +kernel) ⟨(by first | exact Nat.le_of_ble_eq_true rfl | (dsimp only; omega) | omega), (by first | exact Nat.le_of_ble_eq_true rfl | (dsimp only; omega) | omega)⟩ hK hN TH hS hA rfl hm0 hk0 (by decide) rfl hl.1 rfl ((by first | exact Nat.le_of_ble_eq_true rfl | (dsimp only; omega) | omega)) dX12_readsNode_231 ⟨(by first | exact Nat.le_of_ble_eq_true rfl | (dsimp only; omega) | omega), (by first | exact Nat.le_of_ble_eq_true rfl | (dsimp only; omega) | omega)⟩ (fun v206 kp206 L206 E206 H locs hq206 hx206 TH hS => ?_)
                            obtain ⟨⟨xc207, rfl, hxc207a, hxc207b, hpoxc207_0⟩, rfl, rfl, rfl⟩ := hq206
                            refine W.eq (g2 := F0 m 234 ls [.int xc207]) rfl ?_
                            refine lv_if_ne (tgt := 251) hx hb dX12_readsNode_234 (by decide) (fun hc208 => ?_) (fun hc208 => ?_)
                            · have hf209 : ¬ (xc207.toInt = 0) := fun q => hc208 ((fa_eq _ _).mpr (by have : ((0 : Int32).toInt) = 0 := (by decide); omega))
                              refine lv_iload hx hb dX12_readsNode_251 (lv_at hl 0 rfl) ?_
                              refine lv_if_eq (tgt := 268) hx hb dX12_readsNode_253 (by decide) (fun hc210 => ?_) (fun hc210 => ?_)
                              · have hf211 : y223_5.toInt = 0 := by have z := (fa_eq _ _).mp hc210; have : ((0 : Int32).toInt) = 0 := (by decide); omega
                                exfalso; omega
                              · have hf212 : ¬ (y223_5.toInt = 0) := fun q => hc210 ((fa_eq _ _).mpr (by have : ((0 : Int32).toInt) = 0 := (by decide); omega))
                                have htk228 : tk_at Eg223 a0 := hin223_0 (by omega)
                                refine lv_aload_n hx hb dX12_readsNode_256 rfl (lv_at hl 2 rfl) ?_
                                refine lv_iconst (v := 1) hx hb dX12_readsNode_257 (by decide) ?_
                                obtain ⟨xi213, hxi213, hxi213a, hxi213b⟩ := tw_rd TH hm0 hk0 (by decide) (by decide) (k := 3) rfl
                                have htl4 := tk_le htk228 (tw_fi_of hmf193) (tw_fi_of hfm223_0) (tw_fi_of hxi213)
                                refine tw_Vc (o := a0) (ci := 12) (n := 1) (post := (fun v kq Lq Eq => (∃ x : Int32, v = some (.int x) ∧ 0 ≤ x.toInt ∧ x.toInt ≤ 1 ∧ (((1 : Int32).toInt = 0 → x.toInt = 0 ∧ tw_fi Eq a0 4 ≠ -1) ∧ ((1 : Int32).toInt ≠ 0 → x.toInt = 1 ∧ lx_WS (tw_el Eg223 a0 0) xi1.toInt xi213.toInt (tw_fi Eq a0 2) ∧ lx_TK (tw_el Eg223 a0 0) xi1.toInt (tw_fi Eq a0 2) (tw_fi Eq a0 3))) ∧ (∃ z0 z1 : Int32, tw_fv Eq a0 2 = .int z0 ∧ tw_fv Eq a0 3 = .int z1 ∧ (z0.toInt ≤ z1.toInt ∧ z1.toInt ≤ xi1.toInt ∧ (x.toInt ≠ 0 → xi213.toInt ≤ z0.toInt) ∧ (x.toInt = 0 → z0.toInt = u223_0_2.toInt)))) ∧ kp = kq ∧ L = Lq ∧ tw_fr kp L [(12, 2), (12, 3), (12, 4)] [] Eg223 Eq)) (As := [.int 1]) (rest := []) ⟨hx, hb, hml, hown, hB⟩ (fun sz => tX12_passes_vL l D cs a0 (1 : Int32) u223_0_2 xi213 xi1 hm0 hk0 (by have : ((1 : Int32).toInt) = 1 := (by decide); omega) (by have : ((1 : Int32).toInt) = 1 := (by decide); omega) hfm223_0 hxi213 hmf193 (by have : ((1 : Int32).toInt) = 1 := (by decide); omega) (by have : ((1 : Int32).toInt) = 1 := (by decide); omega) (by have : ((1 : Int32).toInt) = 1 := (by decide); omega) sz) cg_12_237_X12_passes rfl rfl (by decide +kernel) ⟨(by first | exact Nat.le_of_ble_eq_true rfl | (dsimp only; omega) | omega), (by first | exact Nat.le_of_ble_eq_true rfl | (dsimp only; omega) | omega)⟩ hK hN TH hS hA rfl hm0 hk0 (by decide) rfl hl.1 rfl ((by first | exact Nat.le_of_ble_eq_true rfl | (dsimp only; omega) | omega)) dX12_readsNode_258 ⟨(by first | exact Nat.le_of_ble_eq_true rfl | (dsimp only; omega) | omega), (by first | exact Nat.le_of_ble_eq_true rfl | (dsimp only; omega) | omega)⟩ (fun v214 kp214 L214 E214 H locs hq214 hx214 TH hS => ?_)
                                obtain ⟨⟨xc215, rfl, hxc215a, hxc215b, hpoxc215_0, ⟨zfxc215_0_0, zfxc215_0_1, hzfxc215_0_0, hzfxc215_0_1, hzpxc215_0⟩⟩, rfl, rfl, hst214⟩ := hq214
                                have hF := hF.tr hst214 (fun _ h => ⟨h, rfl⟩) (by decide) (by decide)
                                have hG223 := hG223.tr hst214 (fun _ h => ⟨h, rfl⟩) (by decide) (by decide)
                                have hmf216 : tw_fv E214 a0 1 = .int xi1 := (hst214.1 a0 1 hm0 (by rw [hk0]; decide)).trans hmf193
                                have hmf217 : tw_fv E214 a0 0 = .ref xr14 := (hst214.1 a0 0 hm0 (by rw [hk0]; decide)).trans hmf194
                                have hmf218 : tw_fv E214 a0 22 = .ref xr56 := (hst214.1 a0 22 hm0 (by rw [hk0]; decide)).trans hmf195
                                have hmf219 : tw_fv E214 a0 16 = .ref xr68 := (hst214.1 a0 16 hm0 (by rw [hk0]; decide)).trans hmf196
                                have hmf220 : tw_fv E214 a0 18 = .ref xr82 := (hst214.1 a0 18 hm0 (by rw [hk0]; decide)).trans hmf197
                                have hmf221 : tw_fv E214 a0 19 = .ref xr97 := (hst214.1 a0 19 hm0 (by rw [hk0]; decide)).trans hmf198
                                have hmf222 : tw_fv E214 a0 17 = .ref xr113 := (hst214.1 a0 17 hm0 (by rw [hk0]; decide)).trans hmf199
                                have hmf223 : tw_fv E214 a0 28 = .int u223_0_28 := (hst214.1 a0 28 hm0 (by rw [hk0]; decide)).trans hfm223_1
                                have hcg223_0 : rd_ok E214 a0 := rd_ok_fr TH hst214 hm0 hk0 (by decide) (by decide) hcg223_0
                                have hcg223_1 : kg_ok E214 a0 := kg_ok_fr TH hst214 hm0 hk0 (by decide) (by decide) hcg223_1
                                have hcg223_2 : ot_ok E214 a0 (15) E := ot_ok_fr TH hst214 hm0 hk0 (by decide) (by decide) hcg223_2
                                have hcg223_3 : th_ok E214 a0 (u223_0_28.toInt) := th_ok_fr TH hst214 hm0 hk0 (by decide) (by decide) hcg223_3
                                have hcg223_4 : tp_ok E214 a0 (u223_0_28.toInt) := tp_ok_fr TH hst214 hm0 hk0 (by decide) (by decide) hcg223_4
                                have hcg223_5 : tq_ok E214 a0 (u223_0_28.toInt) := tq_ok_fr TH hst214 hm0 hk0 (by decide) (by decide) hcg223_5
                                have hcg223_6 : tg_ok E214 a0 (u223_0_28.toInt) := tg_ok_fr TH hst214 hm0 hk0 (by decide) (by decide) hcg223_6
                                have hgn224 : tk_at E214 a0 := tk_of TH hst214 hm0 hk0 (by decide) (by decide) (by decide) (tw_fi_of hmf193) (hpoxc215_0.2 (by decide)).2
                                obtain ⟨qzfxc215_0_0, hqzfxc215_0_0, hqzfxc215_0_0a, hqzfxc215_0_0b⟩ := tw_rd TH hm0 hk0 (by decide) (by decide) (k := 2) rfl
                                have eqzfxc215_0_0 : qzfxc215_0_0 = zfxc215_0_0 := by have q := hqzfxc215_0_0.symm.trans hzfxc215_0_0; injection q
                                rw [eqzfxc215_0_0] at hqzfxc215_0_0a hqzfxc215_0_0b
                                obtain ⟨qzfxc215_0_1, hqzfxc215_0_1, hqzfxc215_0_1a, hqzfxc215_0_1b⟩ := tw_rd TH hm0 hk0 (by decide) (by decide) (k := 3) rfl
                                have eqzfxc215_0_1 : qzfxc215_0_1 = zfxc215_0_1 := by have q := hqzfxc215_0_1.symm.trans hzfxc215_0_1; injection q
                                rw [eqzfxc215_0_1] at hqzfxc215_0_1a hqzfxc215_0_1b
                                refine W.eq (g2 := F0 m 261 ls [.int xc215]) rfl ?_
                                have hpp := trivial
                                refine lv_if_eq (tgt := 268) hx hb dX12_readsNode_261 (by decide) (fun hc225 => ?_) (fun hc225 => ?_)
                                · have hf226 : xc215.toInt = 0 := by have z := (fa_eq _ _).mp hc225; have : ((0 : Int32).toInt) = 0 := (by decide); omega
                                  have hpw := (hpoxc215_0.2 (by decide)).1
                                  exfalso
                                  omega
                                · have hf227 : ¬ (xc215.toInt = 0) := fun q => hc225 ((fa_eq _ _).mpr (by have : ((0 : Int32).toInt) = 0 := (by decide); omega))
                                  refine lv_iconst (v := 1) hx hb dX12_readsNode_264 (by decide) ?_
                                  refine lv_goto (tgt := 269) hx hb dX12_readsNode_265 (by decide) ?_
                                  exact tw_zret hx hb hr hlocks (by decide) TH hS hex ⟨⟨_, rfl, (show 0 ≤ Int32.toInt 1 from by have : ((1 : Int32).toInt) = 1 := (by decide); omega), (show Int32.toInt 1 ≤ 1 from by have : ((1 : Int32).toInt) = 1 := (by decide); omega), (by have : ((1 : Int32).toInt) = 1 := (by decide); exact hcg223_2), (by have : ((1 : Int32).toInt) = 1 := (by decide); intro q; exact absurd q (by decide)), (by have : ((1 : Int32).toInt) = 1 := (by decide); intro _; exact hgn224), ⟨zfxc215_0_0, u223_0_28, hzfxc215_0_0, hmf223, by have : ((1 : Int32).toInt) = 1 := (by decide); omega, (th_ok_cast (by have : ((1 : Int32).toInt) = 1 := (by decide); omega) hcg223_3), (tp_ok_cast (by have : ((1 : Int32).toInt) = 1 := (by decide); omega) hcg223_4), (tq_ok_cast (by have : ((1 : Int32).toInt) = 1 := (by decide); omega) hcg223_5), (tg_ok_cast (by have : ((1 : Int32).toInt) = 1 := (by decide); omega) hcg223_6)⟩, hcg223_0, hcg223_1⟩, rfl, rfl, hF⟩ ((by first | exact Nat.le_of_ble_eq_true rfl | (dsimp only; omega) | omega)) ((by first | exact Nat.le_of_ble_eq_true rfl | (dsimp only; omega) | omega)) dX12_readsNode_269
                            · have hf228 : xc207.toInt = 0 := by have z := (fa_eq _ _).mp hc208; have : ((0 : Int32).toInt) = 0 := (by decide); omega
                              refine lv_aload_n hx hb dX12_readsNode_237 rfl (lv_at hl 2 rfl) ?_
                              refine lv_iload hx hb dX12_readsNode_238 (lv_at hl 1 rfl) ?_
                              refine lv_iload_n hx hb dX12_readsNode_240 rfl (lv_at hl 3 rfl) ?_
                              refine lv_iconst (v := 1) hx hb dX12_readsNode_241 (by decide) ?_
                              refine lv_iadd hx hb dX12_readsNode_242 ?_
                              refine lv_topi (fun zi229 ezi229 => ?_)
                              have hzi229 : zi229.toInt = x2.toInt + 1 := by rw [ezi229]; have : ((1 : Int32).toInt) = 1 := (by decide); have := ia_lo x2; have := ia_hi x2; exact (ia_add (by omega) (by omega)).trans (by omega)
                              obtain ⟨xi230, hxi230, hxi230a, hxi230b⟩ := tw_rd TH hm0 hk0 (by decide) (by decide) (k := 3) rfl
                              refine tw_Vc (o := a0) (ci := 12) (n := 2) (post := (fun v kq Lq Eq => (∃ x : Int32, v = some (.int x) ∧ 0 ≤ x.toInt ∧ x.toInt ≤ 1 ∧ (ot_ok Eq a0 15 Eg223) ∧ (x.toInt = 0 → tw_fi Eq a0 4 ≠ -1) ∧ (x.toInt ≠ 0 → tk_at Eq a0) ∧ (∃ z0 z1 : Int32, tw_fv Eq a0 2 = .int z0 ∧ tw_fv Eq a0 28 = .int z1 ∧ (u223_0_2.toInt ≤ z0.toInt ∧ (x.toInt ≠ 0 → u223_0_2.toInt < z0.toInt) ∧ u223_0_28.toInt ≤ z1.toInt ∧ (x.toInt ≠ 0 → u223_0_28.toInt < z1.toInt)) ∧ th_ok Eq a0 (z1.toInt) ∧ tp_ok Eq a0 (z1.toInt) ∧ tq_ok Eq a0 (z1.toInt) ∧ tg_ok Eq a0 (z1.toInt)) ∧ rd_ok Eq a0 ∧ kg_ok Eq a0) ∧ kp = kq ∧ L = Lq ∧ tw_fr kp L [(12, 2), (12, 3), (12, 4), (12, 28)] [326, 327, 328, 329, 332] Eg223 Eq)) (As := [.int fv0_28, .int zi229]) (rest := []) ⟨hx, hb, hml, hown, hB⟩ (fun sz => ih a0 fv0_28 zi229 u223_0_28 xi230 u223_0_2 hm0 hk0 (by omega) (by omega) (by omega) (by omega) hfm223_1 hxi230 hfm223_0 (by  omega) (by  omega) (by  omega) htk228 hcg223_3 hcg223_4 hcg223_5 hcg223_6 hcg223_0 hcg223_1 sz) cg_12_268_X12_readsNode rfl rfl (by decide +kernel) ⟨(by first | exact Nat.le_of_ble_eq_true rfl | (dsimp only; omega) | omega), (by first | exact Nat.le_of_ble_eq_true rfl | (dsimp only; omega) | omega)⟩ hK hN TH hS hA rfl hm0 hk0 (by decide) rfl hl.1 rfl ((by first | exact Nat.le_of_ble_eq_true rfl | (dsimp only; omega) | omega)) dX12_readsNode_243 ⟨(by first | exact Nat.le_of_ble_eq_true rfl | (dsimp only; omega) | omega), (by first | exact Nat.le_of_ble_eq_true rfl | (dsimp only; omega) | omega)⟩ (fun v231 kp231 L231 E231 H locs hq231 hx231 TH hS => ?_)
                              obtain ⟨⟨xc232, rfl, hxc232a, hxc232b, hpoxc232_0, hpoxc232_1, hpoxc232_2, ⟨zfxc232_0_0, zfxc232_0_1, hzfxc232_0_0, hzfxc232_0_1, hzpxc232_0, hzgxc232_0_0, hzgxc232_0_1, hzgxc232_0_2, hzgxc232_0_3⟩, hgpxc232_0, hgpxc232_1⟩, rfl, rfl, hst231⟩ := hq231
                              have hF := hF.tr hst231 (fun _ h => ⟨h, rfl⟩) (by decide) (by decide)
                              have hG223 := hG223.tr hst231 (fun _ h => ⟨h, rfl⟩) (by decide) (by decide)
                              have hmf233 : tw_fv E231 a0 1 = .int xi1 := (hst231.1 a0 1 hm0 (by rw [hk0]; decide)).trans hmf193
                              have hmf234 : tw_fv E231 a0 0 = .ref xr14 := (hst231.1 a0 0 hm0 (by rw [hk0]; decide)).trans hmf194
                              have hmf235 : tw_fv E231 a0 22 = .ref xr56 := (hst231.1 a0 22 hm0 (by rw [hk0]; decide)).trans hmf195
                              have hmf236 : tw_fv E231 a0 16 = .ref xr68 := (hst231.1 a0 16 hm0 (by rw [hk0]; decide)).trans hmf196
                              have hmf237 : tw_fv E231 a0 18 = .ref xr82 := (hst231.1 a0 18 hm0 (by rw [hk0]; decide)).trans hmf197
                              have hmf238 : tw_fv E231 a0 19 = .ref xr97 := (hst231.1 a0 19 hm0 (by rw [hk0]; decide)).trans hmf198
                              have hmf239 : tw_fv E231 a0 17 = .ref xr113 := (hst231.1 a0 17 hm0 (by rw [hk0]; decide)).trans hmf199
                              have hcg223_2_o := hcg223_2
                              have htk228_o := htk228
                              have hcg223_2 : ot_ok E231 a0 (15) E := ot_ok_tr hpoxc232_0 hcg223_2_o
                              obtain ⟨qzfxc232_0_0, hqzfxc232_0_0, hqzfxc232_0_0a, hqzfxc232_0_0b⟩ := tw_rd TH hm0 hk0 (by decide) (by decide) (k := 2) rfl
                              have eqzfxc232_0_0 : qzfxc232_0_0 = zfxc232_0_0 := by have q := hqzfxc232_0_0.symm.trans hzfxc232_0_0; injection q
                              rw [eqzfxc232_0_0] at hqzfxc232_0_0a hqzfxc232_0_0b
                              obtain ⟨qzfxc232_0_1, hqzfxc232_0_1, hqzfxc232_0_1a, hqzfxc232_0_1b⟩ := tw_rd TH hm0 hk0 (by decide) (by decide) (k := 28) rfl
                              have eqzfxc232_0_1 : qzfxc232_0_1 = zfxc232_0_1 := by have q := hqzfxc232_0_1.symm.trans hzfxc232_0_1; injection q
                              rw [eqzfxc232_0_1] at hqzfxc232_0_1a hqzfxc232_0_1b
                              refine W.eq (g2 := F0 m 246 ls [.int xc232]) rfl ?_
                              refine lv_istore (lv' := [(5, .int xc232), (4, .int fv0_28), (0, .ref a0), (2, .int x2)]) hx hb dX12_readsNode_246 hl (by decide) rfl (fun ls hl => ?_)
                              refine lv_goto (tgt := 223) hx hb dX12_readsNode_248 (by decide) ?_
                              exact ih223 (n223 - 1) (by   omega) xc232 zfxc232_0_0 zfxc232_0_1 _ _ _ ls (by omega) (by omega) (by omega) (by omega) (by omega) (by omega) (by  intro z; exact hpoxc232_2 z) (by  intro z; exact hpoxc232_1 z) (by  omega) (by  omega) (by  omega) (by   omega) hzfxc232_0_0 hzfxc232_0_1 hG223 hgpxc232_0 hgpxc232_1 hcg223_2 (th_ok_cast (by  omega) hzgxc232_0_0) (tp_ok_cast (by  omega) hzgxc232_0_1) (tq_ok_cast (by  omega) hzgxc232_0_2) (tg_ok_cast (by  omega) hzgxc232_0_3) TH hS (lv_sub hl [0, 1, 2, 3] rfl)
                      exact hJ223 503 xc185 zfxc185_0_0 zfxc185_0_1 _ _ _ ls (by omega) (by omega) (by omega) (by omega) (by omega) (by omega) (by  intro z; exact hpoxc185_2 z) (by  intro z; exact hpoxc185_1 z) (by  omega) (by  omega) (by  omega) (by   omega) hzfxc185_0_0 hzfxc185_0_1 tw_fr.rf hgpxc185_0 hgpxc185_1 hot (th_ok_cast (by  omega) hzgxc185_0_0) (tp_ok_cast (by  omega) hzgxc185_0_1) (tq_ok_cast (by  omega) hzgxc185_0_2) (tg_ok_cast (by  omega) hzgxc185_0_3) TH hS (lv_sub hl [0, 1, 3, 5] rfl)
                    · have hf240 : xc171.toInt = 0 := by have z := (fa_eq _ _).mp hc181; have : ((0 : Int32).toInt) = 0 := (by decide); omega
                      have hpz := hpoxc171_0.1
                      have hpw : ((1 : Int32).toInt) ≠ 0 → xc171.toInt = 1 := fun z => (hpoxc171_0.2 z).1
                      have ek0 : ((0 : Int32).toInt) = 0 := (by decide)
                      have ek1 : ((1 : Int32).toInt) = 1 := (by decide)
                      exfalso
                      omega
                · have hf241 : xc151.toInt = 0 := by have z := (fa_eq _ _).mp hc152; have : ((0 : Int32).toInt) = 0 := (by decide); omega
                  refine lv_iconst (v := 1) hx hb dX12_readsNode_190 (by decide) ?_
                  exact tw_zret hx hb hr hlocks (by decide) TH hS hex ⟨⟨_, rfl, (show 0 ≤ Int32.toInt 1 from by have : ((1 : Int32).toInt) = 1 := (by decide); omega), (show Int32.toInt 1 ≤ 1 from by have : ((1 : Int32).toInt) = 1 := (by decide); omega), (by have : ((1 : Int32).toInt) = 1 := (by decide); exact hot), (by have : ((1 : Int32).toInt) = 1 := (by decide); intro q; exact absurd q (by decide)), (by have : ((1 : Int32).toInt) = 1 := (by decide); intro _; exact hgn141), ⟨zfxc132_0_0, zi46, hzfxc132_0_0, hmf135, by have : ((1 : Int32).toInt) = 1 := (by decide); omega, (th_ok_cast (by have : ((1 : Int32).toInt) = 1 := (by decide); omega) hg1), (tp_ok_cast (by have : ((1 : Int32).toInt) = 1 := (by decide); omega) hg2), (tq_ok_cast (by have : ((1 : Int32).toInt) = 1 := (by decide); omega) hg3), (tg_ok_cast (by have : ((1 : Int32).toInt) = 1 := (by decide); omega) hg4)⟩, hg5, hg6⟩, rfl, rfl, hF⟩ ((by first | exact Nat.le_of_ble_eq_true rfl | (dsimp only; omega) | omega)) ((by first | exact Nat.le_of_ble_eq_true rfl | (dsimp only; omega) | omega)) dX12_readsNode_191
              · have hf242 : ¬ (xc147.toInt = 0) := fun q => hc148 ((fa_eq _ _).mpr (by have : ((0 : Int32).toInt) = 0 := (by decide); omega))
                refine lv_aload_n hx hb dX12_readsNode_163 rfl (lv_at hl 2 rfl) ?_
                refine tw_get (ci := 12) (C := RX12) (T := TX12) (N := 64) hx hb hB cx_inX12 hown hK TH hm0 hk0 rfl ⟨by decide, rfl⟩ 17 (by decide) cw_1210 (fun _ h9 => h9) dX12_readsNode_164 (fun hv => ?_)
                rw [hmf140]
                refine lv_bipush (v := 15) hx hb dX12_readsNode_167 (by decide) ?_
                refine tw_aald (k := 317) (t0 := 6) (n := 16) (lo := 327) (hi := 0) (ty := .long) hx hb hK TH hmxr113 hkxr113 (by decide) rfl rfl (i := 15) (vp_in_iff.mpr ⟨by have : ((15 : Int32).toInt) = 15 := (by decide); omega, by have : ((15 : Int32).toInt) = 15 := (by decide); omega⟩) dX12_readsNode_169 (fun xr243 exr243 hmxr243 hkxr243 => ?_)
                have hkxr243 : kp xr243 = 327 := hkxr243
                refine lv_iload hx hb dX12_readsNode_170 (lv_at hl 0 rfl) ?_
                refine lv_aload_n hx hb dX12_readsNode_172 rfl (lv_at hl 2 rfl) ?_
                have hwd := tk_wd hgn141 (tw_fi_of hmf133) (tw_fi_of hzfxc132_0_0) (tw_fi_of hzfxc132_0_1) (by have z := (hpoxc147_0.1 (by omega)).1.1; omega) (hpoxc147_0.1 (by omega)).1.2 (by have z := (hpoxc147_0.1 (by omega)).2; omega)
                refine tw_Vc (o := a0) (ci := 12) (n := 0) (post := (fun v kq Lq Eq => (∃ x : Int64, v = some (.long x) ∧ (gw_ok x.toInt)) ∧ kp = kq ∧ L = Lq ∧ E131 = Eq)) (As := []) (rest := [.int fv0_28, .ref xr243]) ⟨hx, hb, hml, hown, hB⟩ (fun sz => tX12_wordHere l D cs a0 xi1 zfxc132_0_0 zfxc132_0_1 hm0 hk0 hmf133 hzfxc132_0_0 hzfxc132_0_1 (by  omega) sz) cg_12_264_X12_wordHere rfl rfl (by decide +kernel) ⟨(by first | exact Nat.le_of_ble_eq_true rfl | (dsimp only; omega) | omega), (by first | exact Nat.le_of_ble_eq_true rfl | (dsimp only; omega) | omega)⟩ hK hN TH hS hA rfl hm0 hk0 (by decide) rfl hl.1 rfl ((by first | exact Nat.le_of_ble_eq_true rfl | (dsimp only; omega) | omega)) dX12_readsNode_173 ⟨(by first | exact Nat.le_of_ble_eq_true rfl | (dsimp only; omega) | omega), (by first | exact Nat.le_of_ble_eq_true rfl | (dsimp only; omega) | omega)⟩ (fun v244 kp244 L244 E244 H locs hq244 hx244 TH hS => ?_)
                obtain ⟨⟨xc245, rfl, hpoxc245_0⟩, rfl, rfl, rfl⟩ := hq244
                refine W.eq (g2 := F0 m 176 ls [.long xc245, .int fv0_28, .ref xr243]) rfl ?_
                refine tw_last2 (k := 327) (n := 150) (lo := 0) (hi := 0) hx hb hK TH hS hmxr243 hkxr243 (by decide) rfl (i := fv0_28) (x := xc245) (vp_in_iff.mpr ⟨by  omega, by  omega⟩) dX12_readsNode_176 (fun H locs E246 TH hS hp247 hp248 hp250 => ?_)
                have hst249 : tw_fr kp L [] [327] E131 E246 := tw_fr.ast tw_fr.rf (fun _ => hkxr243) hp247 hp248 (by decide)
                have hF := hF.tr hst249 (fun _ h => ⟨h, rfl⟩) (by decide) (by decide)
                have hmf251 : tw_fv E246 a0 1 = .int xi1 := (hst249.1 a0 1 hm0 (by rw [hk0]; decide)).trans hmf133
                have hmf252 : tw_fv E246 a0 0 = .ref xr14 := (hst249.1 a0 0 hm0 (by rw [hk0]; decide)).trans hmf134
                have hmf253 : tw_fv E246 a0 28 = .int zi46 := (hst249.1 a0 28 hm0 (by rw [hk0]; decide)).trans hmf135
                have hmf254 : tw_fv E246 a0 22 = .ref xr56 := (hst249.1 a0 22 hm0 (by rw [hk0]; decide)).trans hmf136
                have hmf255 : tw_fv E246 a0 16 = .ref xr68 := (hst249.1 a0 16 hm0 (by rw [hk0]; decide)).trans hmf137
                have hmf256 : tw_fv E246 a0 18 = .ref xr82 := (hst249.1 a0 18 hm0 (by rw [hk0]; decide)).trans hmf138
                have hmf257 : tw_fv E246 a0 19 = .ref xr97 := (hst249.1 a0 19 hm0 (by rw [hk0]; decide)).trans hmf139
                have hmf258 : tw_fv E246 a0 17 = .ref xr113 := (hst249.1 a0 17 hm0 (by rw [hk0]; decide)).trans hmf140
                have hmf259 : tw_fv E246 a0 2 = .int zfxc132_0_0 := (hst249.1 a0 2 hm0 (by rw [hk0]; decide)).trans hzfxc132_0_0
                have hmf260 : tw_fv E246 a0 3 = .int zfxc132_0_1 := (hst249.1 a0 3 hm0 (by rw [hk0]; decide)).trans hzfxc132_0_1
                have hg1_o := hg1
                have hg2_o := hg2
                have hg3_o := hg3
                have hg4_o := hg4
                have hg5_o := hg5
                have hg6_o := hg6
                have hot_o := hot
                have hgn141_o := hgn141
                have hg1 : th_ok E246 a0 (fv0_28.toInt + 1) := th_ok_fr TH hst249 hm0 hk0 (by decide) (by decide) hg1
                have hg2 : tp_ok E246 a0 (fv0_28.toInt + 1) := tp_ok_fr TH hst249 hm0 hk0 (by decide) (by decide) hg2
                have hg3 : tq_ok E246 a0 (fv0_28.toInt + 1) := tq_ok_fr TH hst249 hm0 hk0 (by decide) (by decide) hg3
                have hg4 : tg_ok E246 a0 (fv0_28.toInt + 1) := tg_set (n := fv0_28.toInt) hg4_o hpoxc245_0 (by have e15 : ((15 : Int32).toInt) = 15 := (by decide); have q := rw_w_st (m := a0) (i := 15) (c := fv0_28) hmf140 exr243 hkxr113 hkxr243 hp247 hp248 hp250; rw [e15] at q; exact q)
                have hg5 : rd_ok E246 a0 := rd_ok_fr TH hst249 hm0 hk0 (by decide) (by decide) hg5
                have hg6 : kg_ok E246 a0 := kg_ok_fr TH hst249 hm0 hk0 (by decide) (by decide) hg6
                have hot : ot_ok E246 a0 (15) E := ot_ok_fr TH hst249 hm0 hk0 (by decide) (by decide) hot
                have hgn141 : tk_at E246 a0 := tk_at_fr TH hst249 hm0 hk0 (by decide) (by decide) hgn141
                refine lv_aload_n hx hb dX12_readsNode_177 rfl (lv_at hl 2 rfl) ?_
                refine tw_Vc (o := a0) (ci := 12) (n := 0) (post := (fun v kq Lq Eq => v = none ∧ kp = kq ∧ L = Lq ∧ tw_fr kp L [(12, 2), (12, 3)] [] E246 Eq ∧ (lx_WS (tw_el E246 a0 0) xi1.toInt zfxc132_0_1.toInt (tw_fi Eq a0 2) ∧ lx_TK (tw_el E246 a0 0) xi1.toInt (tw_fi Eq a0 2) (tw_fi Eq a0 3)) ∧ (∃ z0 z1 : Int32, tw_fv Eq a0 2 = .int z0 ∧ tw_fv Eq a0 3 = .int z1 ∧ (zfxc132_0_1.toInt ≤ z0.toInt ∧ z0.toInt ≤ z1.toInt ∧ z1.toInt ≤ xi1.toInt)))) (As := []) (rest := []) ⟨hx, hb, hml, hown, hB⟩ (fun sz => tX12_goesOn_vL l D cs a0 zfxc132_0_1 xi1 hm0 hk0 hmf260 hmf251 (by  omega) sz) cg_12_200_X12_goesOn rfl rfl (by decide +kernel) ⟨(by first | exact Nat.le_of_ble_eq_true rfl | (dsimp only; omega) | omega), (by first | exact Nat.le_of_ble_eq_true rfl | (dsimp only; omega) | omega)⟩ hK hN TH hS hA rfl hm0 hk0 (by decide) rfl hl.1 rfl ((by first | exact Nat.le_of_ble_eq_true rfl | (dsimp only; omega) | omega)) dX12_readsNode_178 ⟨(by first | exact Nat.le_of_ble_eq_true rfl | (dsimp only; omega) | omega), (by first | exact Nat.le_of_ble_eq_true rfl | (dsimp only; omega) | omega)⟩ (fun v261 kp261 L261 E261 H locs hq261 hx261 TH hS => ?_)
                obtain ⟨rfl, rfl, rfl, hst261, hpoxc262_0, ⟨zfxc262_0_0, zfxc262_0_1, hzfxc262_0_0, hzfxc262_0_1, hzpxc262_0⟩⟩ := hq261
                have hF := hF.tr hst261 (fun _ h => ⟨h, rfl⟩) (by decide) (by decide)
                have hmf263 : tw_fv E261 a0 1 = .int xi1 := (hst261.1 a0 1 hm0 (by rw [hk0]; decide)).trans hmf251
                have hmf264 : tw_fv E261 a0 0 = .ref xr14 := (hst261.1 a0 0 hm0 (by rw [hk0]; decide)).trans hmf252
                have hmf265 : tw_fv E261 a0 28 = .int zi46 := (hst261.1 a0 28 hm0 (by rw [hk0]; decide)).trans hmf253
                have hmf266 : tw_fv E261 a0 22 = .ref xr56 := (hst261.1 a0 22 hm0 (by rw [hk0]; decide)).trans hmf254
                have hmf267 : tw_fv E261 a0 16 = .ref xr68 := (hst261.1 a0 16 hm0 (by rw [hk0]; decide)).trans hmf255
                have hmf268 : tw_fv E261 a0 18 = .ref xr82 := (hst261.1 a0 18 hm0 (by rw [hk0]; decide)).trans hmf256
                have hmf269 : tw_fv E261 a0 19 = .ref xr97 := (hst261.1 a0 19 hm0 (by rw [hk0]; decide)).trans hmf257
                have hmf270 : tw_fv E261 a0 17 = .ref xr113 := (hst261.1 a0 17 hm0 (by rw [hk0]; decide)).trans hmf258
                have hg1 : th_ok E261 a0 (fv0_28.toInt + 1) := th_ok_fr TH hst261 hm0 hk0 (by decide) (by decide) hg1
                have hg2 : tp_ok E261 a0 (fv0_28.toInt + 1) := tp_ok_fr TH hst261 hm0 hk0 (by decide) (by decide) hg2
                have hg3 : tq_ok E261 a0 (fv0_28.toInt + 1) := tq_ok_fr TH hst261 hm0 hk0 (by decide) (by decide) hg3
                have hg4 : tg_ok E261 a0 (fv0_28.toInt + 1) := tg_ok_fr TH hst261 hm0 hk0 (by decide) (by decide) hg4
                have hg5 : rd_ok E261 a0 := rd_ok_fr TH hst261 hm0 hk0 (by decide) (by decide) hg5
                have hg6 : kg_ok E261 a0 := kg_ok_fr TH hst261 hm0 hk0 (by decide) (by decide) hg6
                have hot : ot_ok E261 a0 (15) E := ot_ok_fr TH hst261 hm0 hk0 (by decide) (by decide) hot
                have hgn271 : tk_at E261 a0 := tk_of TH hst261 hm0 hk0 (by decide) (by decide) (by decide) (tw_fi_of hmf251) hpoxc262_0
                obtain ⟨qzfxc262_0_0, hqzfxc262_0_0, hqzfxc262_0_0a, hqzfxc262_0_0b⟩ := tw_rd TH hm0 hk0 (by decide) (by decide) (k := 2) rfl
                have eqzfxc262_0_0 : qzfxc262_0_0 = zfxc262_0_0 := by have q := hqzfxc262_0_0.symm.trans hzfxc262_0_0; injection q
                rw [eqzfxc262_0_0] at hqzfxc262_0_0a hqzfxc262_0_0b
                obtain ⟨qzfxc262_0_1, hqzfxc262_0_1, hqzfxc262_0_1a, hqzfxc262_0_1b⟩ := tw_rd TH hm0 hk0 (by decide) (by decide) (k := 3) rfl
                have eqzfxc262_0_1 : qzfxc262_0_1 = zfxc262_0_1 := by have q := hqzfxc262_0_1.symm.trans hzfxc262_0_1; injection q
                rw [eqzfxc262_0_1] at hqzfxc262_0_1a hqzfxc262_0_1b
                refine W.eq (g2 := F0 m 181 ls []) rfl ?_
                have htl2 := tk_le hgn271 (tw_fi_of hmf263) (tw_fi_of hzfxc262_0_0) (tw_fi_of hzfxc262_0_1)
                refine lv_aload_n hx hb dX12_readsNode_181 rfl (lv_at hl 2 rfl) ?_
                refine lv_bipush (v := 40) hx hb dX12_readsNode_182 (by decide) ?_
                refine tw_Vc (o := a0) (ci := 12) (n := 1) (post := (fun v kq Lq Eq => (∃ x : Int32, v = some (.int x) ∧ 0 ≤ x.toInt ∧ x.toInt ≤ 1 ∧ (x.toInt ≠ 0 ↔ (zfxc262_0_0.toInt < xi1.toInt ∧ tw_el E261 a0 0 (zfxc262_0_0.toInt).toNat = (40 : Int32).toInt))) ∧ kp = kq ∧ L = Lq ∧ E261 = Eq)) (As := [.int 40]) (rest := []) ⟨hx, hb, hml, hown, hB⟩ (fun sz => tX12_isSign_vL l D cs a0 (40 : Int32) zfxc262_0_0 xi1 hm0 hk0 hzfxc262_0_0 hmf263 sz) cg_12_221_X12_isSign rfl rfl (by decide +kernel) ⟨(by first | exact Nat.le_of_ble_eq_true rfl | (dsimp only; omega) | omega), (by first | exact Nat.le_of_ble_eq_true rfl | (dsimp only; omega) | omega)⟩ hK hN TH hS hA rfl hm0 hk0 (by decide) rfl hl.1 rfl ((by first | exact Nat.le_of_ble_eq_true rfl | (dsimp only; omega) | omega)) dX12_readsNode_184 ⟨(by first | exact Nat.le_of_ble_eq_true rfl | (dsimp only; omega) | omega), (by first | exact Nat.le_of_ble_eq_true rfl | (dsimp only; omega) | omega)⟩ (fun v272 kp272 L272 E272 H locs hq272 hx272 TH hS => ?_)
                obtain ⟨⟨xc273, rfl, hxc273a, hxc273b, hpoxc273_0⟩, rfl, rfl, rfl⟩ := hq272
                refine W.eq (g2 := F0 m 187 ls [.int xc273]) rfl ?_
                refine lv_if_ne (tgt := 192) hx hb dX12_readsNode_187 (by decide) (fun hc274 => ?_) (fun hc274 => ?_)
                · have hf275 : ¬ (xc273.toInt = 0) := fun q => hc274 ((fa_eq _ _).mpr (by have : ((0 : Int32).toInt) = 0 := (by decide); omega))
                  have htl3 := tk_le hgn271 (tw_fi_of hmf263) (tw_fi_of hzfxc262_0_0) (tw_fi_of hzfxc262_0_1)
                  refine lv_aload_n hx hb dX12_readsNode_192 rfl (lv_at hl 2 rfl) ?_
                  refine lv_iload_n hx hb dX12_readsNode_193 rfl (lv_at hl 4 rfl) ?_
                  refine lv_bipush (v := 8) hx hb dX12_readsNode_194 (by decide) ?_
                  refine lv_icmp_ge (tgt := 203) hx hb dX12_readsNode_196 (by decide) (fun hc276 => ?_) (fun hc276 => ?_)
                  · have hf277 : 8 ≤ x2.toInt := by have z := (fa_le _ _).mp hc276; have : ((8 : Int32).toInt) = 8 := (by decide); omega
                    refine lv_iconst (v := 0) hx hb dX12_readsNode_203 (by decide) ?_
                    refine tw_Vc (o := a0) (ci := 12) (n := 1) (post := (fun v kq Lq Eq => (∃ x : Int32, v = some (.int x) ∧ 0 ≤ x.toInt ∧ x.toInt ≤ 1 ∧ (((0 : Int32).toInt = 0 → x.toInt = 0 ∧ tw_fi Eq a0 4 ≠ -1) ∧ ((0 : Int32).toInt ≠ 0 → x.toInt = 1 ∧ lx_WS (tw_el E261 a0 0) xi1.toInt zfxc262_0_1.toInt (tw_fi Eq a0 2) ∧ lx_TK (tw_el E261 a0 0) xi1.toInt (tw_fi Eq a0 2) (tw_fi Eq a0 3))) ∧ (∃ z0 z1 : Int32, tw_fv Eq a0 2 = .int z0 ∧ tw_fv Eq a0 3 = .int z1 ∧ (z0.toInt ≤ z1.toInt ∧ z1.toInt ≤ xi1.toInt ∧ (x.toInt ≠ 0 → zfxc262_0_1.toInt ≤ z0.toInt) ∧ (x.toInt = 0 → z0.toInt = zfxc262_0_0.toInt)))) ∧ kp = kq ∧ L = Lq ∧ tw_fr kp L [(12, 2), (12, 3), (12, 4)] [] E261 Eq)) (As := [.int 0]) (rest := []) ⟨hx, hb, hml, hown, hB⟩ (fun sz => tX12_passes_vL l D cs a0 (0 : Int32) zfxc262_0_0 zfxc262_0_1 xi1 hm0 hk0 (by have : ((0 : Int32).toInt) = 0 := (by decide); omega) (by have : ((0 : Int32).toInt) = 0 := (by decide); omega) hzfxc262_0_0 hzfxc262_0_1 hmf263 (by have : ((0 : Int32).toInt) = 0 := (by decide); omega) (by have : ((0 : Int32).toInt) = 0 := (by decide); omega) (by have : ((0 : Int32).toInt) = 0 := (by decide); omega) sz) cg_12_237_X12_passes rfl rfl (by decide +kernel) ⟨(by first | exact Nat.le_of_ble_eq_true rfl | (dsimp only; omega) | omega), (by first | exact Nat.le_of_ble_eq_true rfl | (dsimp only; omega) | omega)⟩ hK hN TH hS hA rfl hm0 hk0 (by decide) rfl hl.1 rfl ((by first | exact Nat.le_of_ble_eq_true rfl | (dsimp only; omega) | omega)) dX12_readsNode_204 ⟨(by first | exact Nat.le_of_ble_eq_true rfl | (dsimp only; omega) | omega), (by first | exact Nat.le_of_ble_eq_true rfl | (dsimp only; omega) | omega)⟩ (fun v278 kp278 L278 E278 H locs hq278 hx278 TH hS => ?_)
                    obtain ⟨⟨xc279, rfl, hxc279a, hxc279b, hpoxc279_0, ⟨zfxc279_0_0, zfxc279_0_1, hzfxc279_0_0, hzfxc279_0_1, hzpxc279_0⟩⟩, rfl, rfl, hst278⟩ := hq278
                    have hF := hF.tr hst278 (fun _ h => ⟨h, rfl⟩) (by decide) (by decide)
                    have hmf280 : tw_fv E278 a0 1 = .int xi1 := (hst278.1 a0 1 hm0 (by rw [hk0]; decide)).trans hmf263
                    have hmf281 : tw_fv E278 a0 0 = .ref xr14 := (hst278.1 a0 0 hm0 (by rw [hk0]; decide)).trans hmf264
                    have hmf282 : tw_fv E278 a0 28 = .int zi46 := (hst278.1 a0 28 hm0 (by rw [hk0]; decide)).trans hmf265
                    have hmf283 : tw_fv E278 a0 22 = .ref xr56 := (hst278.1 a0 22 hm0 (by rw [hk0]; decide)).trans hmf266
                    have hmf284 : tw_fv E278 a0 16 = .ref xr68 := (hst278.1 a0 16 hm0 (by rw [hk0]; decide)).trans hmf267
                    have hmf285 : tw_fv E278 a0 18 = .ref xr82 := (hst278.1 a0 18 hm0 (by rw [hk0]; decide)).trans hmf268
                    have hmf286 : tw_fv E278 a0 19 = .ref xr97 := (hst278.1 a0 19 hm0 (by rw [hk0]; decide)).trans hmf269
                    have hmf287 : tw_fv E278 a0 17 = .ref xr113 := (hst278.1 a0 17 hm0 (by rw [hk0]; decide)).trans hmf270
                    have hg1 : th_ok E278 a0 (fv0_28.toInt + 1) := th_ok_fr TH hst278 hm0 hk0 (by decide) (by decide) hg1
                    have hg2 : tp_ok E278 a0 (fv0_28.toInt + 1) := tp_ok_fr TH hst278 hm0 hk0 (by decide) (by decide) hg2
                    have hg3 : tq_ok E278 a0 (fv0_28.toInt + 1) := tq_ok_fr TH hst278 hm0 hk0 (by decide) (by decide) hg3
                    have hg4 : tg_ok E278 a0 (fv0_28.toInt + 1) := tg_ok_fr TH hst278 hm0 hk0 (by decide) (by decide) hg4
                    have hg5 : rd_ok E278 a0 := rd_ok_fr TH hst278 hm0 hk0 (by decide) (by decide) hg5
                    have hg6 : kg_ok E278 a0 := kg_ok_fr TH hst278 hm0 hk0 (by decide) (by decide) hg6
                    have hot : ot_ok E278 a0 (15) E := ot_ok_fr TH hst278 hm0 hk0 (by decide) (by decide) hot
                    obtain ⟨qzfxc279_0_0, hqzfxc279_0_0, hqzfxc279_0_0a, hqzfxc279_0_0b⟩ := tw_rd TH hm0 hk0 (by decide) (by decide) (k := 2) rfl
                    have eqzfxc279_0_0 : qzfxc279_0_0 = zfxc279_0_0 := by have q := hqzfxc279_0_0.symm.trans hzfxc279_0_0; injection q
                    rw [eqzfxc279_0_0] at hqzfxc279_0_0a hqzfxc279_0_0b
                    obtain ⟨qzfxc279_0_1, hqzfxc279_0_1, hqzfxc279_0_1a, hqzfxc279_0_1b⟩ := tw_rd TH hm0 hk0 (by decide) (by decide) (k := 3) rfl
                    have eqzfxc279_0_1 : qzfxc279_0_1 = zfxc279_0_1 := by have q := hqzfxc279_0_1.symm.trans hzfxc279_0_1; injection q
                    rw [eqzfxc279_0_1] at hqzfxc279_0_1a hqzfxc279_0_1b
                    refine W.eq (g2 := F0 m 207 ls [.int xc279]) rfl ?_
                    refine lv_if_ne (tgt := 212) hx hb dX12_readsNode_207 (by decide) (fun hc288 => ?_) (fun hc288 => ?_)
                    · have hf289 : ¬ (xc279.toInt = 0) := fun q => hc288 ((fa_eq _ _).mpr (by have : ((0 : Int32).toInt) = 0 := (by decide); omega))
                      have hpz := hpoxc279_0.1
                      have hpw : ((0 : Int32).toInt) ≠ 0 → xc279.toInt = 1 := fun z => (hpoxc279_0.2 z).1
                      have ek0 : ((0 : Int32).toInt) = 0 := (by decide)
                      have ek1 : ((1 : Int32).toInt) = 1 := (by decide)
                      exfalso
                      omega
                    · have hf290 : xc279.toInt = 0 := by have z := (fa_eq _ _).mp hc288; have : ((0 : Int32).toInt) = 0 := (by decide); omega
                      have hpz := hpoxc279_0.1
                      have hpw : ((0 : Int32).toInt) ≠ 0 → xc279.toInt = 1 := fun z => (hpoxc279_0.2 z).1
                      have ek0 : ((0 : Int32).toInt) = 0 := (by decide)
                      have ek1 : ((1 : Int32).toInt) = 1 := (by decide)
                      refine lv_iconst (v := 0) hx hb dX12_readsNode_210 (by decide) ?_
                      exact tw_zret hx hb hr hlocks (by decide) TH hS hex ⟨⟨_, rfl, (show 0 ≤ Int32.toInt 0 from by have : ((0 : Int32).toInt) = 0 := (by decide); omega), (show Int32.toInt 0 ≤ 1 from by have : ((0 : Int32).toInt) = 0 := (by decide); omega), (by have : ((0 : Int32).toInt) = 0 := (by decide); exact hot), (by have : ((0 : Int32).toInt) = 0 := (by decide); intro _; exact (hpz (by decide)).2), (by have : ((0 : Int32).toInt) = 0 := (by decide); intro q; exact absurd (by decide) q), ⟨zfxc279_0_0, zi46, hzfxc279_0_0, hmf282, by have : ((0 : Int32).toInt) = 0 := (by decide); omega, (th_ok_cast (by have : ((0 : Int32).toInt) = 0 := (by decide); omega) hg1), (tp_ok_cast (by have : ((0 : Int32).toInt) = 0 := (by decide); omega) hg2), (tq_ok_cast (by have : ((0 : Int32).toInt) = 0 := (by decide); omega) hg3), (tg_ok_cast (by have : ((0 : Int32).toInt) = 0 := (by decide); omega) hg4)⟩, hg5, hg6⟩, rfl, rfl, hF⟩ ((by first | exact Nat.le_of_ble_eq_true rfl | (dsimp only; omega) | omega)) ((by first | exact Nat.le_of_ble_eq_true rfl | (dsimp only; omega) | omega)) dX12_readsNode_211
                  · have hf291 : ¬ (8 ≤ x2.toInt) := fun q => hc276 ((fa_le _ _).mpr (by have : ((8 : Int32).toInt) = 8 := (by decide); omega))
                    refine lv_iconst (v := 1) hx hb dX12_readsNode_199 (by decide) ?_
                    refine lv_goto (tgt := 204) hx hb dX12_readsNode_200 (by decide) ?_
                    refine tw_Vc (o := a0) (ci := 12) (n := 1) (post := (fun v kq Lq Eq => (∃ x : Int32, v = some (.int x) ∧ 0 ≤ x.toInt ∧ x.toInt ≤ 1 ∧ (((1 : Int32).toInt = 0 → x.toInt = 0 ∧ tw_fi Eq a0 4 ≠ -1) ∧ ((1 : Int32).toInt ≠ 0 → x.toInt = 1 ∧ lx_WS (tw_el E261 a0 0) xi1.toInt zfxc262_0_1.toInt (tw_fi Eq a0 2) ∧ lx_TK (tw_el E261 a0 0) xi1.toInt (tw_fi Eq a0 2) (tw_fi Eq a0 3))) ∧ (∃ z0 z1 : Int32, tw_fv Eq a0 2 = .int z0 ∧ tw_fv Eq a0 3 = .int z1 ∧ (z0.toInt ≤ z1.toInt ∧ z1.toInt ≤ xi1.toInt ∧ (x.toInt ≠ 0 → zfxc262_0_1.toInt ≤ z0.toInt) ∧ (x.toInt = 0 → z0.toInt = zfxc262_0_0.toInt)))) ∧ kp = kq ∧ L = Lq ∧ tw_fr kp L [(12, 2), (12, 3), (12, 4)] [] E261 Eq)) (As := [.int 1]) (rest := []) ⟨hx, hb, hml, hown, hB⟩ (fun sz => tX12_passes_vL l D cs a0 (1 : Int32) zfxc262_0_0 zfxc262_0_1 xi1 hm0 hk0 (by have : ((1 : Int32).toInt) = 1 := (by decide); omega) (by have : ((1 : Int32).toInt) = 1 := (by decide); omega) hzfxc262_0_0 hzfxc262_0_1 hmf263 (by have : ((1 : Int32).toInt) = 1 := (by decide); omega) (by have : ((1 : Int32).toInt) = 1 := (by decide); omega) (by have : ((1 : Int32).toInt) = 1 := (by decide); omega) sz) cg_12_237_X12_passes rfl rfl (by decide +kernel) ⟨(by first | exact Nat.le_of_ble_eq_true rfl | (dsimp only; omega) | omega), (by first | exact Nat.le_of_ble_eq_true rfl | (dsimp only; omega) | omega)⟩ hK hN TH hS hA rfl hm0 hk0 (by decide) rfl hl.1 rfl ((by first | exact Nat.le_of_ble_eq_true rfl | (dsimp only; omega) | omega)) dX12_readsNode_204 ⟨(by first | exact Nat.le_of_ble_eq_true rfl | (dsimp only; omega) | omega), (by first | exact Nat.le_of_ble_eq_true rfl | (dsimp only; omega) | omega)⟩ (fun v292 kp292 L292 E292 H locs hq292 hx292 TH hS => ?_)
                    obtain ⟨⟨xc293, rfl, hxc293a, hxc293b, hpoxc293_0, ⟨zfxc293_0_0, zfxc293_0_1, hzfxc293_0_0, hzfxc293_0_1, hzpxc293_0⟩⟩, rfl, rfl, hst292⟩ := hq292
                    have hF := hF.tr hst292 (fun _ h => ⟨h, rfl⟩) (by decide) (by decide)
                    have hmf294 : tw_fv E292 a0 1 = .int xi1 := (hst292.1 a0 1 hm0 (by rw [hk0]; decide)).trans hmf263
                    have hmf295 : tw_fv E292 a0 0 = .ref xr14 := (hst292.1 a0 0 hm0 (by rw [hk0]; decide)).trans hmf264
                    have hmf296 : tw_fv E292 a0 28 = .int zi46 := (hst292.1 a0 28 hm0 (by rw [hk0]; decide)).trans hmf265
                    have hmf297 : tw_fv E292 a0 22 = .ref xr56 := (hst292.1 a0 22 hm0 (by rw [hk0]; decide)).trans hmf266
                    have hmf298 : tw_fv E292 a0 16 = .ref xr68 := (hst292.1 a0 16 hm0 (by rw [hk0]; decide)).trans hmf267
                    have hmf299 : tw_fv E292 a0 18 = .ref xr82 := (hst292.1 a0 18 hm0 (by rw [hk0]; decide)).trans hmf268
                    have hmf300 : tw_fv E292 a0 19 = .ref xr97 := (hst292.1 a0 19 hm0 (by rw [hk0]; decide)).trans hmf269
                    have hmf301 : tw_fv E292 a0 17 = .ref xr113 := (hst292.1 a0 17 hm0 (by rw [hk0]; decide)).trans hmf270
                    have hg1 : th_ok E292 a0 (fv0_28.toInt + 1) := th_ok_fr TH hst292 hm0 hk0 (by decide) (by decide) hg1
                    have hg2 : tp_ok E292 a0 (fv0_28.toInt + 1) := tp_ok_fr TH hst292 hm0 hk0 (by decide) (by decide) hg2
                    have hg3 : tq_ok E292 a0 (fv0_28.toInt + 1) := tq_ok_fr TH hst292 hm0 hk0 (by decide) (by decide) hg3
                    have hg4 : tg_ok E292 a0 (fv0_28.toInt + 1) := tg_ok_fr TH hst292 hm0 hk0 (by decide) (by decide) hg4
                    have hg5 : rd_ok E292 a0 := rd_ok_fr TH hst292 hm0 hk0 (by decide) (by decide) hg5
                    have hg6 : kg_ok E292 a0 := kg_ok_fr TH hst292 hm0 hk0 (by decide) (by decide) hg6
                    have hot : ot_ok E292 a0 (15) E := ot_ok_fr TH hst292 hm0 hk0 (by decide) (by decide) hot
                    have hgn302 : tk_at E292 a0 := tk_of TH hst292 hm0 hk0 (by decide) (by decide) (by decide) (tw_fi_of hmf263) (hpoxc293_0.2 (by decide)).2
                    obtain ⟨qzfxc293_0_0, hqzfxc293_0_0, hqzfxc293_0_0a, hqzfxc293_0_0b⟩ := tw_rd TH hm0 hk0 (by decide) (by decide) (k := 2) rfl
                    have eqzfxc293_0_0 : qzfxc293_0_0 = zfxc293_0_0 := by have q := hqzfxc293_0_0.symm.trans hzfxc293_0_0; injection q
                    rw [eqzfxc293_0_0] at hqzfxc293_0_0a hqzfxc293_0_0b
                    obtain ⟨qzfxc293_0_1, hqzfxc293_0_1, hqzfxc293_0_1a, hqzfxc293_0_1b⟩ := tw_rd TH hm0 hk0 (by decide) (by decide) (k := 3) rfl
                    have eqzfxc293_0_1 : qzfxc293_0_1 = zfxc293_0_1 := by have q := hqzfxc293_0_1.symm.trans hzfxc293_0_1; injection q
                    rw [eqzfxc293_0_1] at hqzfxc293_0_1a hqzfxc293_0_1b
                    refine W.eq (g2 := F0 m 207 ls [.int xc293]) rfl ?_
                    refine lv_if_ne (tgt := 212) hx hb dX12_readsNode_207 (by decide) (fun hc303 => ?_) (fun hc303 => ?_)
                    · have hf304 : ¬ (xc293.toInt = 0) := fun q => hc303 ((fa_eq _ _).mpr (by have : ((0 : Int32).toInt) = 0 := (by decide); omega))
                      have hpz := hpoxc293_0.1
                      have hpw : ((1 : Int32).toInt) ≠ 0 → xc293.toInt = 1 := fun z => (hpoxc293_0.2 z).1
                      have ek0 : ((0 : Int32).toInt) = 0 := (by decide)
                      have ek1 : ((1 : Int32).toInt) = 1 := (by decide)
                      refine lv_aload_n hx hb dX12_readsNode_212 rfl (lv_at hl 2 rfl) ?_
                      refine lv_iload hx hb dX12_readsNode_213 (lv_at hl 0 rfl) ?_
                      refine lv_iload_n hx hb dX12_readsNode_215 rfl (lv_at hl 4 rfl) ?_
                      refine lv_iconst (v := 1) hx hb dX12_readsNode_216 (by decide) ?_
                      refine lv_iadd hx hb dX12_readsNode_217 ?_
                      refine lv_topi (fun zi305 ezi305 => ?_)
                      have hzi305 : zi305.toInt = x2.toInt + 1 := by rw [ezi305]; have : ((1 : Int32).toInt) = 1 := (by decide); have := ia_lo x2; have := ia_hi x2; exact (ia_add (by omega) (by omega)).trans (by omega)
                      refine tw_Vc (o := a0) (ci := 12) (n := 2) (post := (fun v kq Lq Eq => (∃ x : Int32, v = some (.int x) ∧ 0 ≤ x.toInt ∧ x.toInt ≤ 1 ∧ (ot_ok Eq a0 15 E292) ∧ (x.toInt = 0 → tw_fi Eq a0 4 ≠ -1) ∧ (x.toInt ≠ 0 → tk_at Eq a0) ∧ (∃ z0 z1 : Int32, tw_fv Eq a0 2 = .int z0 ∧ tw_fv Eq a0 28 = .int z1 ∧ (zfxc293_0_0.toInt ≤ z0.toInt ∧ (x.toInt ≠ 0 → zfxc293_0_0.toInt < z0.toInt) ∧ zi46.toInt ≤ z1.toInt ∧ (x.toInt ≠ 0 → zi46.toInt < z1.toInt)) ∧ th_ok Eq a0 (z1.toInt) ∧ tp_ok Eq a0 (z1.toInt) ∧ tq_ok Eq a0 (z1.toInt) ∧ tg_ok Eq a0 (z1.toInt)) ∧ rd_ok Eq a0 ∧ kg_ok Eq a0) ∧ kp = kq ∧ L = Lq ∧ tw_fr kp L [(12, 2), (12, 3), (12, 4), (12, 28)] [326, 327, 328, 329, 332] E292 Eq)) (As := [.int fv0_28, .int zi305]) (rest := []) ⟨hx, hb, hml, hown, hB⟩ (fun sz => ih a0 fv0_28 zi305 zi46 zfxc293_0_1 zfxc293_0_0 hm0 hk0 (by omega) (by omega) (by omega) (by omega) hmf296 hzfxc293_0_1 hzfxc293_0_0 (by  omega) (by  omega) (by  omega) hgn302 (th_ok_cast (by  omega) hg1) (tp_ok_cast (by  omega) hg2) (tq_ok_cast (by  omega) hg3) (tg_ok_cast (by  omega) hg4) hg5 hg6 sz) cg_12_268_X12_readsNode rfl rfl (by decide +kernel) ⟨(by first | exact Nat.le_of_ble_eq_true rfl | (dsimp only; omega) | omega), (by first | exact Nat.le_of_ble_eq_true rfl | (dsimp only; omega) | omega)⟩ hK hN TH hS hA rfl hm0 hk0 (by decide) rfl hl.1 rfl ((by first | exact Nat.le_of_ble_eq_true rfl | (dsimp only; omega) | omega)) dX12_readsNode_218 ⟨(by first | exact Nat.le_of_ble_eq_true rfl | (dsimp only; omega) | omega), (by first | exact Nat.le_of_ble_eq_true rfl | (dsimp only; omega) | omega)⟩ (fun v306 kp306 L306 E306 H locs hq306 hx306 TH hS => ?_)
                      obtain ⟨⟨xc307, rfl, hxc307a, hxc307b, hpoxc307_0, hpoxc307_1, hpoxc307_2, ⟨zfxc307_0_0, zfxc307_0_1, hzfxc307_0_0, hzfxc307_0_1, hzpxc307_0, hzgxc307_0_0, hzgxc307_0_1, hzgxc307_0_2, hzgxc307_0_3⟩, hgpxc307_0, hgpxc307_1⟩, rfl, rfl, hst306⟩ := hq306
                      have hF := hF.tr hst306 (fun _ h => ⟨h, rfl⟩) (by decide) (by decide)
                      have hmf308 : tw_fv E306 a0 1 = .int xi1 := (hst306.1 a0 1 hm0 (by rw [hk0]; decide)).trans hmf294
                      have hmf309 : tw_fv E306 a0 0 = .ref xr14 := (hst306.1 a0 0 hm0 (by rw [hk0]; decide)).trans hmf295
                      have hmf310 : tw_fv E306 a0 22 = .ref xr56 := (hst306.1 a0 22 hm0 (by rw [hk0]; decide)).trans hmf297
                      have hmf311 : tw_fv E306 a0 16 = .ref xr68 := (hst306.1 a0 16 hm0 (by rw [hk0]; decide)).trans hmf298
                      have hmf312 : tw_fv E306 a0 18 = .ref xr82 := (hst306.1 a0 18 hm0 (by rw [hk0]; decide)).trans hmf299
                      have hmf313 : tw_fv E306 a0 19 = .ref xr97 := (hst306.1 a0 19 hm0 (by rw [hk0]; decide)).trans hmf300
                      have hmf314 : tw_fv E306 a0 17 = .ref xr113 := (hst306.1 a0 17 hm0 (by rw [hk0]; decide)).trans hmf301
                      have hot_o := hot
                      have hgn302_o := hgn302
                      have hot : ot_ok E306 a0 (15) E := ot_ok_tr hpoxc307_0 hot_o
                      obtain ⟨qzfxc307_0_0, hqzfxc307_0_0, hqzfxc307_0_0a, hqzfxc307_0_0b⟩ := tw_rd TH hm0 hk0 (by decide) (by decide) (k := 2) rfl
                      have eqzfxc307_0_0 : qzfxc307_0_0 = zfxc307_0_0 := by have q := hqzfxc307_0_0.symm.trans hzfxc307_0_0; injection q
                      rw [eqzfxc307_0_0] at hqzfxc307_0_0a hqzfxc307_0_0b
                      obtain ⟨qzfxc307_0_1, hqzfxc307_0_1, hqzfxc307_0_1a, hqzfxc307_0_1b⟩ := tw_rd TH hm0 hk0 (by decide) (by decide) (k := 28) rfl
                      have eqzfxc307_0_1 : qzfxc307_0_1 = zfxc307_0_1 := by have q := hqzfxc307_0_1.symm.trans hzfxc307_0_1; injection q
                      rw [eqzfxc307_0_1] at hqzfxc307_0_1a hqzfxc307_0_1b
                      refine W.eq (g2 := F0 m 221 ls [.int xc307]) rfl ?_
                      refine lv_istore (lv' := [(5, .int xc307), (4, .int fv0_28), (3, .int xc33), (0, .ref a0), (1, .int x1), (2, .int x2)]) hx hb dX12_readsNode_221 hl (by decide) rfl (fun ls hl => ?_)
                      have hJ223 : ∀ (n223 : Nat) (y223_5 : Int32) (u223_0_2 : Int32) (u223_0_28 : Int32) (Eg223 : Nat → va_E) (H : Heap) (locs : List Loc) (ls : Array Slot), 0 ≤ y223_5.toInt → y223_5.toInt ≤ 1 → 0 ≤ u223_0_2.toInt → u223_0_2.toInt ≤ 500 → 0 ≤ u223_0_28.toInt → u223_0_28.toInt ≤ 24 → (y223_5.toInt ≠ 0 → tk_at Eg223 a0) → (y223_5.toInt = 0 → tw_fi Eg223 a0 4 ≠ -1) → (fv0_2.toInt < u223_0_2.toInt) → (fv0_28.toInt < u223_0_28.toInt) → (fv0_28.toInt < u223_0_28.toInt) → 501 - u223_0_2.toInt + y223_5.toInt ≤ (n223 : Int) → tw_fv Eg223 a0 2 = .int u223_0_2 → tw_fv Eg223 a0 28 = .int u223_0_28 → tw_fr kp L [(12, 2), (12, 3), (12, 4), (12, 28)] [326, 327, 328, 329, 332] E306 Eg223 → rd_ok Eg223 a0 → kg_ok Eg223 a0 → ot_ok Eg223 a0 (15) E → th_ok Eg223 a0 (u223_0_28.toInt) → tp_ok Eg223 a0 (u223_0_28.toInt) → tq_ok Eg223 a0 (u223_0_28.toInt) → tg_ok Eg223 a0 (u223_0_28.toInt) → tw_H D cs kp L Eg223 A H → va_S A s.heap H locs → lv_has ls 6 [(5, .int y223_5), (4, .int fv0_28), (0, .ref a0), (2, .int x2)] → W p l e { frames := dd + 1 + 5, cells := 0, slots := 0, locals := 25 * (dd + 1) + 121 } s m [.ref a0, .int x1, .int x2].toArray below meth c H locs 0 0 (MQ below (tw_Q D cs kp0 L0 (fun v kq Lq Eq => (∃ x : Int32, v = some (.int x) ∧ 0 ≤ x.toInt ∧ x.toInt ≤ 1 ∧ (ot_ok Eq a0 15 E) ∧ (x.toInt = 0 → tw_fi Eq a0 4 ≠ -1) ∧ (x.toInt ≠ 0 → tk_at Eq a0) ∧ (∃ z0 z1 : Int32, tw_fv Eq a0 2 = .int z0 ∧ tw_fv Eq a0 28 = .int z1 ∧ (fv0_2.toInt ≤ z0.toInt ∧ (x.toInt ≠ 0 → fv0_2.toInt < z0.toInt) ∧ fv0_28.toInt ≤ z1.toInt ∧ (x.toInt ≠ 0 → fv0_28.toInt < z1.toInt)) ∧ th_ok Eq a0 (z1.toInt) ∧ tp_ok Eq a0 (z1.toInt) ∧ tq_ok Eq a0 (z1.toInt) ∧ tg_ok Eq a0 (z1.toInt)) ∧ rd_ok Eq a0 ∧ kg_ok Eq a0) ∧ kp = kq ∧ L = Lq ∧ tw_fr kp L [(12, 2), (12, 3), (12, 4), (12, 28)] [326, 327, 328, 329, 332] E Eq) A) [.ref a0, .int x1, .int x2].toArray s 0 0 A) (F0 m 223 ls []) := by
                        intro n223
                        induction n223 using Nat.strongRecOn with
                        | _ n223 ih223 =>
                          intro y223_5 u223_0_2 u223_0_28 Eg223 H locs ls hy223_5a hy223_5b hu223_0_2a hu223_0_2b hu223_0_28a hu223_0_28b hin223_0 hin223_1 hin223_2 hin223_3 hin223_4 hmeas223 hfm223_0 hfm223_1 hG223 hcg223_0 hcg223_1 hcg223_2 hcg223_3 hcg223_4 hcg223_5 hcg223_6 TH hS hl
                          have hF := hF.tr hG223 (fun _ h => ⟨h, rfl⟩) (by decide) (by decide)
                          have hmf315 : tw_fv Eg223 a0 1 = .int xi1 := (hG223.1 a0 1 hm0 (by rw [hk0]; decide)).trans hmf308
                          have hmf316 : tw_fv Eg223 a0 0 = .ref xr14 := (hG223.1 a0 0 hm0 (by rw [hk0]; decide)).trans hmf309
                          have hmf317 : tw_fv Eg223 a0 22 = .ref xr56 := (hG223.1 a0 22 hm0 (by rw [hk0]; decide)).trans hmf310
                          have hmf318 : tw_fv Eg223 a0 16 = .ref xr68 := (hG223.1 a0 16 hm0 (by rw [hk0]; decide)).trans hmf311
                          have hmf319 : tw_fv Eg223 a0 18 = .ref xr82 := (hG223.1 a0 18 hm0 (by rw [hk0]; decide)).trans hmf312
                          have hmf320 : tw_fv Eg223 a0 19 = .ref xr97 := (hG223.1 a0 19 hm0 (by rw [hk0]; decide)).trans hmf313
                          have hmf321 : tw_fv Eg223 a0 17 = .ref xr113 := (hG223.1 a0 17 hm0 (by rw [hk0]; decide)).trans hmf314
                          refine lv_iload hx hb dX12_readsNode_223 (lv_at hl 0 rfl) ?_
                          refine lv_if_eq (tgt := 251) hx hb dX12_readsNode_225 (by decide) (fun hc322 => ?_) (fun hc322 => ?_)
                          · have hf323 : y223_5.toInt = 0 := by have z := (fa_eq _ _).mp hc322; have : ((0 : Int32).toInt) = 0 := (by decide); omega
                            refine lv_iload hx hb dX12_readsNode_251 (lv_at hl 0 rfl) ?_
                            refine lv_if_eq (tgt := 268) hx hb dX12_readsNode_253 (by decide) (fun hc324 => ?_) (fun hc324 => ?_)
                            · have hf325 : y223_5.toInt = 0 := by have z := (fa_eq _ _).mp hc324; have : ((0 : Int32).toInt) = 0 := (by decide); omega
                              have hfin := trivial
                              refine lv_iconst (v := 0) hx hb dX12_readsNode_268 (by decide) ?_
                              exact tw_zret hx hb hr hlocks (by decide) TH hS hex ⟨⟨_, rfl, (show 0 ≤ Int32.toInt 0 from by have : ((0 : Int32).toInt) = 0 := (by decide); omega), (show Int32.toInt 0 ≤ 1 from by have : ((0 : Int32).toInt) = 0 := (by decide); omega), (by have : ((0 : Int32).toInt) = 0 := (by decide); exact hcg223_2), (by have : ((0 : Int32).toInt) = 0 := (by decide); intro _; exact hin223_1 (by omega)), (by have : ((0 : Int32).toInt) = 0 := (by decide); intro q; exact absurd (by decide) q), ⟨u223_0_2, u223_0_28, hfm223_0, hfm223_1, by have : ((0 : Int32).toInt) = 0 := (by decide); omega, (th_ok_cast (by have : ((0 : Int32).toInt) = 0 := (by decide); omega) hcg223_3), (tp_ok_cast (by have : ((0 : Int32).toInt) = 0 := (by decide); omega) hcg223_4), (tq_ok_cast (by have : ((0 : Int32).toInt) = 0 := (by decide); omega) hcg223_5), (tg_ok_cast (by have : ((0 : Int32).toInt) = 0 := (by decide); omega) hcg223_6)⟩, hcg223_0, hcg223_1⟩, rfl, rfl, hF⟩ ((by first | exact Nat.le_of_ble_eq_true rfl | (dsimp only; omega) | omega)) ((by first | exact Nat.le_of_ble_eq_true rfl | (dsimp only; omega) | omega)) dX12_readsNode_269
                            · have hf326 : ¬ (y223_5.toInt = 0) := fun q => hc324 ((fa_eq _ _).mpr (by have : ((0 : Int32).toInt) = 0 := (by decide); omega))
                              exfalso; omega
                          · have hf327 : ¬ (y223_5.toInt = 0) := fun q => hc322 ((fa_eq _ _).mpr (by have : ((0 : Int32).toInt) = 0 := (by decide); omega))
                            have htk228 : tk_at Eg223 a0 := hin223_0 (by omega)
                            refine lv_aload_n hx hb dX12_readsNode_228 rfl (lv_at hl 2 rfl) ?_
                            refine lv_bipush (v := 41) hx hb dX12_readsNode_229 (by decide) ?_
                            refine tw_Vc (o := a0) (ci := 12) (n := 1) (post := (fun v kq Lq Eq => (∃ x : Int32, v = some (.int x) ∧ 0 ≤ x.toInt ∧ x.toInt ≤ 1 ∧ (x.toInt ≠ 0 ↔ (u223_0_2.toInt < xi1.toInt ∧ tw_el Eg223 a0 0 (u223_0_2.toInt).toNat = (41 : Int32).toInt))) ∧ kp = kq ∧ L = Lq ∧ Eg223 = Eq)) (As := [.int 41]) (rest := []) ⟨hx, hb, hml, hown, hB⟩ (fun sz => tX12_isSign_vL l D cs a0 (41 : Int32) u223_0_2 xi1 hm0 hk0 hfm223_0 hmf315 sz) cg_12_221_X12_isSign rfl rfl (by decide +kernel) ⟨(by first | exact Nat.le_of_ble_eq_true rfl | (dsimp only; omega) | omega), (by first | exact Nat.le_of_ble_eq_true rfl | (dsimp only; omega) | omega)⟩ hK hN TH hS hA rfl hm0 hk0 (by decide) rfl hl.1 rfl ((by first | exact Nat.le_of_ble_eq_true rfl | (dsimp only; omega) | omega)) dX12_readsNode_231 ⟨(by first | exact Nat.le_of_ble_eq_true rfl | (dsimp only; omega) | omega), (by first | exact Nat.le_of_ble_eq_true rfl | (dsimp only; omega) | omega)⟩ (fun v328 kp328 L328 E328 H locs hq328 hx328 TH hS => ?_)
                            obtain ⟨⟨xc329, rfl, hxc329a, hxc329b, hpoxc329_0⟩, rfl, rfl, rfl⟩ := hq328
                            refine W.eq (g2 := F0 m 234 ls [.int xc329]) rfl ?_
                            refine lv_if_ne (tgt := 251) hx hb dX12_readsNode_234 (by decide) (fun hc330 => ?_) (fun hc330 => ?_)
                            · have hf331 : ¬ (xc329.toInt = 0) := fun q => hc330 ((fa_eq _ _).mpr (by have : ((0 : Int32).toInt) = 0 := (by decide); omega))
                              refine lv_iload hx hb dX12_readsNode_251 (lv_at hl 0 rfl) ?_
                              refine lv_if_eq (tgt := 268) hx hb dX12_readsNode_253 (by decide) (fun hc332 => ?_) (fun hc332 => ?_)
                              · have hf333 : y223_5.toInt = 0 := by have z := (fa_eq _ _).mp hc332; have : ((0 : Int32).toInt) = 0 := (by decide); omega
                                exfalso; omega
                              · have hf334 : ¬ (y223_5.toInt = 0) := fun q => hc332 ((fa_eq _ _).mpr (by have : ((0 : Int32).toInt) = 0 := (by decide); omega))
                                have htk228 : tk_at Eg223 a0 := hin223_0 (by omega)
                                refine lv_aload_n hx hb dX12_readsNode_256 rfl (lv_at hl 2 rfl) ?_
                                refine lv_iconst (v := 1) hx hb dX12_readsNode_257 (by decide) ?_
                                obtain ⟨xi335, hxi335, hxi335a, hxi335b⟩ := tw_rd TH hm0 hk0 (by decide) (by decide) (k := 3) rfl
                                have htl4 := tk_le htk228 (tw_fi_of hmf315) (tw_fi_of hfm223_0) (tw_fi_of hxi335)
                                refine tw_Vc (o := a0) (ci := 12) (n := 1) (post := (fun v kq Lq Eq => (∃ x : Int32, v = some (.int x) ∧ 0 ≤ x.toInt ∧ x.toInt ≤ 1 ∧ (((1 : Int32).toInt = 0 → x.toInt = 0 ∧ tw_fi Eq a0 4 ≠ -1) ∧ ((1 : Int32).toInt ≠ 0 → x.toInt = 1 ∧ lx_WS (tw_el Eg223 a0 0) xi1.toInt xi335.toInt (tw_fi Eq a0 2) ∧ lx_TK (tw_el Eg223 a0 0) xi1.toInt (tw_fi Eq a0 2) (tw_fi Eq a0 3))) ∧ (∃ z0 z1 : Int32, tw_fv Eq a0 2 = .int z0 ∧ tw_fv Eq a0 3 = .int z1 ∧ (z0.toInt ≤ z1.toInt ∧ z1.toInt ≤ xi1.toInt ∧ (x.toInt ≠ 0 → xi335.toInt ≤ z0.toInt) ∧ (x.toInt = 0 → z0.toInt = u223_0_2.toInt)))) ∧ kp = kq ∧ L = Lq ∧ tw_fr kp L [(12, 2), (12, 3), (12, 4)] [] Eg223 Eq)) (As := [.int 1]) (rest := []) ⟨hx, hb, hml, hown, hB⟩ (fun sz => tX12_passes_vL l D cs a0 (1 : Int32) u223_0_2 xi335 xi1 hm0 hk0 (by have : ((1 : Int32).toInt) = 1 := (by decide); omega) (by have : ((1 : Int32).toInt) = 1 := (by decide); omega) hfm223_0 hxi335 hmf315 (by have : ((1 : Int32).toInt) = 1 := (by decide); omega) (by have : ((1 : Int32).toInt) = 1 := (by decide); omega) (by have : ((1 : Int32).toInt) = 1 := (by decide); omega) sz) cg_12_237_X12_passes rfl rfl (by decide +kernel) ⟨(by first | exact Nat.le_of_ble_eq_true rfl | (dsimp only; omega) | omega), (by first | exact Nat.le_of_ble_eq_true rfl | (dsimp only; omega) | omega)⟩ hK hN TH hS hA rfl hm0 hk0 (by decide) rfl hl.1 rfl ((by first | exact Nat.le_of_ble_eq_true rfl | (dsimp only; omega) | omega)) dX12_readsNode_258 ⟨(by first | exact Nat.le_of_ble_eq_true rfl | (dsimp only; omega) | omega), (by first | exact Nat.le_of_ble_eq_true rfl | (dsimp only; omega) | omega)⟩ (fun v336 kp336 L336 E336 H locs hq336 hx336 TH hS => ?_)
                                obtain ⟨⟨xc337, rfl, hxc337a, hxc337b, hpoxc337_0, ⟨zfxc337_0_0, zfxc337_0_1, hzfxc337_0_0, hzfxc337_0_1, hzpxc337_0⟩⟩, rfl, rfl, hst336⟩ := hq336
                                have hF := hF.tr hst336 (fun _ h => ⟨h, rfl⟩) (by decide) (by decide)
                                have hG223 := hG223.tr hst336 (fun _ h => ⟨h, rfl⟩) (by decide) (by decide)
                                have hmf338 : tw_fv E336 a0 1 = .int xi1 := (hst336.1 a0 1 hm0 (by rw [hk0]; decide)).trans hmf315
                                have hmf339 : tw_fv E336 a0 0 = .ref xr14 := (hst336.1 a0 0 hm0 (by rw [hk0]; decide)).trans hmf316
                                have hmf340 : tw_fv E336 a0 22 = .ref xr56 := (hst336.1 a0 22 hm0 (by rw [hk0]; decide)).trans hmf317
                                have hmf341 : tw_fv E336 a0 16 = .ref xr68 := (hst336.1 a0 16 hm0 (by rw [hk0]; decide)).trans hmf318
                                have hmf342 : tw_fv E336 a0 18 = .ref xr82 := (hst336.1 a0 18 hm0 (by rw [hk0]; decide)).trans hmf319
                                have hmf343 : tw_fv E336 a0 19 = .ref xr97 := (hst336.1 a0 19 hm0 (by rw [hk0]; decide)).trans hmf320
                                have hmf344 : tw_fv E336 a0 17 = .ref xr113 := (hst336.1 a0 17 hm0 (by rw [hk0]; decide)).trans hmf321
                                have hmf345 : tw_fv E336 a0 28 = .int u223_0_28 := (hst336.1 a0 28 hm0 (by rw [hk0]; decide)).trans hfm223_1
                                have hcg223_0 : rd_ok E336 a0 := rd_ok_fr TH hst336 hm0 hk0 (by decide) (by decide) hcg223_0
                                have hcg223_1 : kg_ok E336 a0 := kg_ok_fr TH hst336 hm0 hk0 (by decide) (by decide) hcg223_1
                                have hcg223_2 : ot_ok E336 a0 (15) E := ot_ok_fr TH hst336 hm0 hk0 (by decide) (by decide) hcg223_2
                                have hcg223_3 : th_ok E336 a0 (u223_0_28.toInt) := th_ok_fr TH hst336 hm0 hk0 (by decide) (by decide) hcg223_3
                                have hcg223_4 : tp_ok E336 a0 (u223_0_28.toInt) := tp_ok_fr TH hst336 hm0 hk0 (by decide) (by decide) hcg223_4
                                have hcg223_5 : tq_ok E336 a0 (u223_0_28.toInt) := tq_ok_fr TH hst336 hm0 hk0 (by decide) (by decide) hcg223_5
                                have hcg223_6 : tg_ok E336 a0 (u223_0_28.toInt) := tg_ok_fr TH hst336 hm0 hk0 (by decide) (by decide) hcg223_6
                                have hgn346 : tk_at E336 a0 := tk_of TH hst336 hm0 hk0 (by decide) (by decide) (by decide) (tw_fi_of hmf315) (hpoxc337_0.2 (by decide)).2
                                obtain ⟨qzfxc337_0_0, hqzfxc337_0_0, hqzfxc337_0_0a, hqzfxc337_0_0b⟩ := tw_rd TH hm0 hk0 (by decide) (by decide) (k := 2) rfl
                                have eqzfxc337_0_0 : qzfxc337_0_0 = zfxc337_0_0 := by have q := hqzfxc337_0_0.symm.trans hzfxc337_0_0; injection q
                                rw [eqzfxc337_0_0] at hqzfxc337_0_0a hqzfxc337_0_0b
                                obtain ⟨qzfxc337_0_1, hqzfxc337_0_1, hqzfxc337_0_1a, hqzfxc337_0_1b⟩ := tw_rd TH hm0 hk0 (by decide) (by decide) (k := 3) rfl
                                have eqzfxc337_0_1 : qzfxc337_0_1 = zfxc337_0_1 := by have q := hqzfxc337_0_1.symm.trans hzfxc337_0_1; injection q
                                rw [eqzfxc337_0_1] at hqzfxc337_0_1a hqzfxc337_0_1b
                                refine W.eq (g2 := F0 m 261 ls [.int xc337]) rfl ?_
                                have hpp := trivial
                                refine lv_if_eq (tgt := 268) hx hb dX12_readsNode_261 (by decide) (fun hc347 => ?_) (fun hc347 => ?_)
                                · have hf348 : xc337.toInt = 0 := by have z := (fa_eq _ _).mp hc347; have : ((0 : Int32).toInt) = 0 := (by decide); omega
                                  have hpw := (hpoxc337_0.2 (by decide)).1
                                  exfalso
                                  omega
                                · have hf349 : ¬ (xc337.toInt = 0) := fun q => hc347 ((fa_eq _ _).mpr (by have : ((0 : Int32).toInt) = 0 := (by decide); omega))
                                  refine lv_iconst (v := 1) hx hb dX12_readsNode_264 (by decide) ?_
                                  refine lv_goto (tgt := 269) hx hb dX12_readsNode_265 (by decide) ?_
                                  exact tw_zret hx hb hr hlocks (by decide) TH hS hex ⟨⟨_, rfl, (show 0 ≤ Int32.toInt 1 from by have : ((1 : Int32).toInt) = 1 := (by decide); omega), (show Int32.toInt 1 ≤ 1 from by have : ((1 : Int32).toInt) = 1 := (by decide); omega), (by have : ((1 : Int32).toInt) = 1 := (by decide); exact hcg223_2), (by have : ((1 : Int32).toInt) = 1 := (by decide); intro q; exact absurd q (by decide)), (by have : ((1 : Int32).toInt) = 1 := (by decide); intro _; exact hgn346), ⟨zfxc337_0_0, u223_0_28, hzfxc337_0_0, hmf345, by have : ((1 : Int32).toInt) = 1 := (by decide); omega, (th_ok_cast (by have : ((1 : Int32).toInt) = 1 := (by decide); omega) hcg223_3), (tp_ok_cast (by have : ((1 : Int32).toInt) = 1 := (by decide); omega) hcg223_4), (tq_ok_cast (by have : ((1 : Int32).toInt) = 1 := (by decide); omega) hcg223_5), (tg_ok_cast (by have : ((1 : Int32).toInt) = 1 := (by decide); omega) hcg223_6)⟩, hcg223_0, hcg223_1⟩, rfl, rfl, hF⟩ ((by first | exact Nat.le_of_ble_eq_true rfl | (dsimp only; omega) | omega)) ((by first | exact Nat.le_of_ble_eq_true rfl | (dsimp only; omega) | omega)) dX12_readsNode_269
                            · have hf350 : xc329.toInt = 0 := by have z := (fa_eq _ _).mp hc330; have : ((0 : Int32).toInt) = 0 := (by decide); omega
                              refine lv_aload_n hx hb dX12_readsNode_237 rfl (lv_at hl 2 rfl) ?_
                              refine lv_iload hx hb dX12_readsNode_238 (lv_at hl 1 rfl) ?_
                              refine lv_iload_n hx hb dX12_readsNode_240 rfl (lv_at hl 3 rfl) ?_
                              refine lv_iconst (v := 1) hx hb dX12_readsNode_241 (by decide) ?_
                              refine lv_iadd hx hb dX12_readsNode_242 ?_
                              refine lv_topi (fun zi351 ezi351 => ?_)
                              have hzi351 : zi351.toInt = x2.toInt + 1 := by rw [ezi351]; have : ((1 : Int32).toInt) = 1 := (by decide); have := ia_lo x2; have := ia_hi x2; exact (ia_add (by omega) (by omega)).trans (by omega)
                              obtain ⟨xi352, hxi352, hxi352a, hxi352b⟩ := tw_rd TH hm0 hk0 (by decide) (by decide) (k := 3) rfl
                              refine tw_Vc (o := a0) (ci := 12) (n := 2) (post := (fun v kq Lq Eq => (∃ x : Int32, v = some (.int x) ∧ 0 ≤ x.toInt ∧ x.toInt ≤ 1 ∧ (ot_ok Eq a0 15 Eg223) ∧ (x.toInt = 0 → tw_fi Eq a0 4 ≠ -1) ∧ (x.toInt ≠ 0 → tk_at Eq a0) ∧ (∃ z0 z1 : Int32, tw_fv Eq a0 2 = .int z0 ∧ tw_fv Eq a0 28 = .int z1 ∧ (u223_0_2.toInt ≤ z0.toInt ∧ (x.toInt ≠ 0 → u223_0_2.toInt < z0.toInt) ∧ u223_0_28.toInt ≤ z1.toInt ∧ (x.toInt ≠ 0 → u223_0_28.toInt < z1.toInt)) ∧ th_ok Eq a0 (z1.toInt) ∧ tp_ok Eq a0 (z1.toInt) ∧ tq_ok Eq a0 (z1.toInt) ∧ tg_ok Eq a0 (z1.toInt)) ∧ rd_ok Eq a0 ∧ kg_ok Eq a0) ∧ kp = kq ∧ L = Lq ∧ tw_fr kp L [(12, 2), (12, 3), (12, 4), (12, 28)] [326, 327, 328, 329, 332] Eg223 Eq)) (As := [.int fv0_28, .int zi351]) (rest := []) ⟨hx, hb, hml, hown, hB⟩ (fun sz => ih a0 fv0_28 zi351 u223_0_28 xi352 u223_0_2 hm0 hk0 (by omega) (by omega) (by omega) (by omega) hfm223_1 hxi352 hfm223_0 (by  omega) (by  omega) (by  omega) htk228 hcg223_3 hcg223_4 hcg223_5 hcg223_6 hcg223_0 hcg223_1 sz) cg_12_268_X12_readsNode rfl rfl (by decide +kernel) ⟨(by first | exact Nat.le_of_ble_eq_true rfl | (dsimp only; omega) | omega), (by first | exact Nat.le_of_ble_eq_true rfl | (dsimp only; omega) | omega)⟩ hK hN TH hS hA rfl hm0 hk0 (by decide) rfl hl.1 rfl ((by first | exact Nat.le_of_ble_eq_true rfl | (dsimp only; omega) | omega)) dX12_readsNode_243 ⟨(by first | exact Nat.le_of_ble_eq_true rfl | (dsimp only; omega) | omega), (by first | exact Nat.le_of_ble_eq_true rfl | (dsimp only; omega) | omega)⟩ (fun v353 kp353 L353 E353 H locs hq353 hx353 TH hS => ?_)
                              obtain ⟨⟨xc354, rfl, hxc354a, hxc354b, hpoxc354_0, hpoxc354_1, hpoxc354_2, ⟨zfxc354_0_0, zfxc354_0_1, hzfxc354_0_0, hzfxc354_0_1, hzpxc354_0, hzgxc354_0_0, hzgxc354_0_1, hzgxc354_0_2, hzgxc354_0_3⟩, hgpxc354_0, hgpxc354_1⟩, rfl, rfl, hst353⟩ := hq353
                              have hF := hF.tr hst353 (fun _ h => ⟨h, rfl⟩) (by decide) (by decide)
                              have hG223 := hG223.tr hst353 (fun _ h => ⟨h, rfl⟩) (by decide) (by decide)
                              have hmf355 : tw_fv E353 a0 1 = .int xi1 := (hst353.1 a0 1 hm0 (by rw [hk0]; decide)).trans hmf315
                              have hmf356 : tw_fv E353 a0 0 = .ref xr14 := (hst353.1 a0 0 hm0 (by rw [hk0]; decide)).trans hmf316
                              have hmf357 : tw_fv E353 a0 22 = .ref xr56 := (hst353.1 a0 22 hm0 (by rw [hk0]; decide)).trans hmf317
                              have hmf358 : tw_fv E353 a0 16 = .ref xr68 := (hst353.1 a0 16 hm0 (by rw [hk0]; decide)).trans hmf318
                              have hmf359 : tw_fv E353 a0 18 = .ref xr82 := (hst353.1 a0 18 hm0 (by rw [hk0]; decide)).trans hmf319
                              have hmf360 : tw_fv E353 a0 19 = .ref xr97 := (hst353.1 a0 19 hm0 (by rw [hk0]; decide)).trans hmf320
                              have hmf361 : tw_fv E353 a0 17 = .ref xr113 := (hst353.1 a0 17 hm0 (by rw [hk0]; decide)).trans hmf321
                              have hcg223_2_o := hcg223_2
                              have htk228_o := htk228
                              have hcg223_2 : ot_ok E353 a0 (15) E := ot_ok_tr hpoxc354_0 hcg223_2_o
                              obtain ⟨qzfxc354_0_0, hqzfxc354_0_0, hqzfxc354_0_0a, hqzfxc354_0_0b⟩ := tw_rd TH hm0 hk0 (by decide) (by decide) (k := 2) rfl
                              have eqzfxc354_0_0 : qzfxc354_0_0 = zfxc354_0_0 := by have q := hqzfxc354_0_0.symm.trans hzfxc354_0_0; injection q
                              rw [eqzfxc354_0_0] at hqzfxc354_0_0a hqzfxc354_0_0b
                              obtain ⟨qzfxc354_0_1, hqzfxc354_0_1, hqzfxc354_0_1a, hqzfxc354_0_1b⟩ := tw_rd TH hm0 hk0 (by decide) (by decide) (k := 28) rfl
                              have eqzfxc354_0_1 : qzfxc354_0_1 = zfxc354_0_1 := by have q := hqzfxc354_0_1.symm.trans hzfxc354_0_1; injection q
                              rw [eqzfxc354_0_1] at hqzfxc354_0_1a hqzfxc354_0_1b
                              refine W.eq (g2 := F0 m 246 ls [.int xc354]) rfl ?_
                              refine lv_istore (lv' := [(5, .int xc354), (4, .int fv0_28), (0, .ref a0), (2, .int x2)]) hx hb dX12_readsNode_246 hl (by decide) rfl (fun ls hl => ?_)
                              refine lv_goto (tgt := 223) hx hb dX12_readsNode_248 (by decide) ?_
                              exact ih223 (n223 - 1) (by   omega) xc354 zfxc354_0_0 zfxc354_0_1 _ _ _ ls (by omega) (by omega) (by omega) (by omega) (by omega) (by omega) (by  intro z; exact hpoxc354_2 z) (by  intro z; exact hpoxc354_1 z) (by  omega) (by  omega) (by  omega) (by   omega) hzfxc354_0_0 hzfxc354_0_1 hG223 hgpxc354_0 hgpxc354_1 hcg223_2 (th_ok_cast (by  omega) hzgxc354_0_0) (tp_ok_cast (by  omega) hzgxc354_0_1) (tq_ok_cast (by  omega) hzgxc354_0_2) (tg_ok_cast (by  omega) hzgxc354_0_3) TH hS (lv_sub hl [0, 1, 2, 3] rfl)
                      exact hJ223 503 xc307 zfxc307_0_0 zfxc307_0_1 _ _ _ ls (by omega) (by omega) (by omega) (by omega) (by omega) (by omega) (by  intro z; exact hpoxc307_2 z) (by  intro z; exact hpoxc307_1 z) (by  omega) (by  omega) (by  omega) (by   omega) hzfxc307_0_0 hzfxc307_0_1 tw_fr.rf hgpxc307_0 hgpxc307_1 hot (th_ok_cast (by  omega) hzgxc307_0_0) (tp_ok_cast (by  omega) hzgxc307_0_1) (tq_ok_cast (by  omega) hzgxc307_0_2) (tg_ok_cast (by  omega) hzgxc307_0_3) TH hS (lv_sub hl [0, 1, 3, 5] rfl)
                    · have hf362 : xc293.toInt = 0 := by have z := (fa_eq _ _).mp hc303; have : ((0 : Int32).toInt) = 0 := (by decide); omega
                      have hpz := hpoxc293_0.1
                      have hpw : ((1 : Int32).toInt) ≠ 0 → xc293.toInt = 1 := fun z => (hpoxc293_0.2 z).1
                      have ek0 : ((0 : Int32).toInt) = 0 := (by decide)
                      have ek1 : ((1 : Int32).toInt) = 1 := (by decide)
                      exfalso
                      omega
                · have hf363 : xc273.toInt = 0 := by have z := (fa_eq _ _).mp hc274; have : ((0 : Int32).toInt) = 0 := (by decide); omega
                  refine lv_iconst (v := 1) hx hb dX12_readsNode_190 (by decide) ?_
                  exact tw_zret hx hb hr hlocks (by decide) TH hS hex ⟨⟨_, rfl, (show 0 ≤ Int32.toInt 1 from by have : ((1 : Int32).toInt) = 1 := (by decide); omega), (show Int32.toInt 1 ≤ 1 from by have : ((1 : Int32).toInt) = 1 := (by decide); omega), (by have : ((1 : Int32).toInt) = 1 := (by decide); exact hot), (by have : ((1 : Int32).toInt) = 1 := (by decide); intro q; exact absurd q (by decide)), (by have : ((1 : Int32).toInt) = 1 := (by decide); intro _; exact hgn271), ⟨zfxc262_0_0, zi46, hzfxc262_0_0, hmf265, by have : ((1 : Int32).toInt) = 1 := (by decide); omega, (th_ok_cast (by have : ((1 : Int32).toInt) = 1 := (by decide); omega) hg1), (tp_ok_cast (by have : ((1 : Int32).toInt) = 1 := (by decide); omega) hg2), (tq_ok_cast (by have : ((1 : Int32).toInt) = 1 := (by decide); omega) hg3), (tg_ok_cast (by have : ((1 : Int32).toInt) = 1 := (by decide); omega) hg4)⟩, hg5, hg6⟩, rfl, rfl, hF⟩ ((by first | exact Nat.le_of_ble_eq_true rfl | (dsimp only; omega) | omega)) ((by first | exact Nat.le_of_ble_eq_true rfl | (dsimp only; omega) | omega)) dX12_readsNode_191
            · have hf364 : ¬ (xc143.toInt = 0) := fun q => hc144 ((fa_eq _ _).mpr (by have : ((0 : Int32).toInt) = 0 := (by decide); omega))
              refine lv_aload_n hx hb dX12_readsNode_143 rfl (lv_at hl 2 rfl) ?_
              refine lv_aload_n hx hb dX12_readsNode_144 rfl (lv_at hl 2 rfl) ?_
              refine tw_get (ci := 12) (C := RX12) (T := TX12) (N := 64) hx hb hB cx_inX12 hown hK TH hm0 hk0 rfl ⟨by decide, rfl⟩ 1 (by decide) cw_1194 (fun _ h9 => h9) dX12_readsNode_145 (fun hv => ?_)
              rw [hmf133]
              refine tw_put (ci := 12) (v := .int xi1) (ty := .int) (C := RX12) (T := TX12) (N := 64) hx hb hB cx_inX12 tyX12 tyX12_ok nmX12 hown hK TH hS hm0 hk0 rfl ⟨by decide, rfl⟩ 2 (by decide) cw_1195 (fun _ h9 => h9) rfl (by decide +kernel) rfl rfl ⟨_, rfl, (show 0 ≤ Int32.toInt xi1 from by  omega), (show Int32.toInt xi1 ≤ 500 from by  omega)⟩ dX12_readsNode_148 (fun H locs E365 TH hS hmf369 hp366 hp367 => ?_)
              have hst368 : tw_fr kp L [(12, 2)] [] E131 E365 := tw_fr.put tw_fr.rf (fun _ => hk0) (by decide) hp366 hp367 (by decide)
              have hF := hF.tr hst368 (fun _ h => ⟨h, rfl⟩) (by decide) (by decide)
              have hmf370 : tw_fv E365 a0 1 = .int xi1 := (hst368.1 a0 1 hm0 (by rw [hk0]; decide)).trans hmf133
              have hmf371 : tw_fv E365 a0 0 = .ref xr14 := (hst368.1 a0 0 hm0 (by rw [hk0]; decide)).trans hmf134
              have hmf372 : tw_fv E365 a0 28 = .int zi46 := (hst368.1 a0 28 hm0 (by rw [hk0]; decide)).trans hmf135
              have hmf373 : tw_fv E365 a0 22 = .ref xr56 := (hst368.1 a0 22 hm0 (by rw [hk0]; decide)).trans hmf136
              have hmf374 : tw_fv E365 a0 16 = .ref xr68 := (hst368.1 a0 16 hm0 (by rw [hk0]; decide)).trans hmf137
              have hmf375 : tw_fv E365 a0 18 = .ref xr82 := (hst368.1 a0 18 hm0 (by rw [hk0]; decide)).trans hmf138
              have hmf376 : tw_fv E365 a0 19 = .ref xr97 := (hst368.1 a0 19 hm0 (by rw [hk0]; decide)).trans hmf139
              have hmf377 : tw_fv E365 a0 17 = .ref xr113 := (hst368.1 a0 17 hm0 (by rw [hk0]; decide)).trans hmf140
              have hmf378 : tw_fv E365 a0 3 = .int zfxc132_0_1 := (hst368.1 a0 3 hm0 (by rw [hk0]; decide)).trans hzfxc132_0_1
              have hg1 : th_ok E365 a0 (fv0_28.toInt + 1) := th_ok_fr TH hst368 hm0 hk0 (by decide) (by decide) hg1
              have hg2 : tp_ok E365 a0 (fv0_28.toInt + 1) := tp_ok_fr TH hst368 hm0 hk0 (by decide) (by decide) hg2
              have hg3 : tq_ok E365 a0 (fv0_28.toInt + 1) := tq_ok_fr TH hst368 hm0 hk0 (by decide) (by decide) hg3
              have hg4 : tg_ok E365 a0 (fv0_28.toInt + 1) := tg_ok_fr TH hst368 hm0 hk0 (by decide) (by decide) hg4
              have hg5 : rd_ok E365 a0 := rd_ok_fr TH hst368 hm0 hk0 (by decide) (by decide) hg5
              have hg6 : kg_ok E365 a0 := kg_ok_fr TH hst368 hm0 hk0 (by decide) (by decide) hg6
              have hot : ot_ok E365 a0 (15) E := ot_ok_fr TH hst368 hm0 hk0 (by decide) (by decide) hot
              refine lv_aload_n hx hb dX12_readsNode_151 rfl (lv_at hl 2 rfl) ?_
              refine tw_Vc (o := a0) (ci := 12) (n := 0) (post := (fun v kq Lq Eq => (∃ x : Int32, v = some (.int x) ∧ 0 ≤ x.toInt ∧ x.toInt ≤ 0 ∧ (∃ z0 : Int32, tw_fv Eq a0 4 = .int z0 ∧ (z0.toInt ≠ -1))) ∧ kp = kq ∧ L = Lq ∧ tw_fr kp L [(12, 4)] [] E365 Eq)) (As := []) (rest := []) ⟨hx, hb, hml, hown, hB⟩ (fun sz => tX12_fails_vL l D cs a0 hm0 hk0 sz) cg_12_196_X12_fails rfl rfl (by decide +kernel) ⟨(by first | exact Nat.le_of_ble_eq_true rfl | (dsimp only; omega) | omega), (by first | exact Nat.le_of_ble_eq_true rfl | (dsimp only; omega) | omega)⟩ hK hN TH hS hA rfl hm0 hk0 (by decide) rfl hl.1 rfl ((by first | exact Nat.le_of_ble_eq_true rfl | (dsimp only; omega) | omega)) dX12_readsNode_152 ⟨(by first | exact Nat.le_of_ble_eq_true rfl | (dsimp only; omega) | omega), (by first | exact Nat.le_of_ble_eq_true rfl | (dsimp only; omega) | omega)⟩ (fun v379 kp379 L379 E379 H locs hq379 hx379 TH hS => ?_)
              obtain ⟨⟨xc380, rfl, hxc380a, hxc380b, ⟨zfxc380_0_0, hzfxc380_0_0, hzpxc380_0⟩⟩, rfl, rfl, hst379⟩ := hq379
              have hF := hF.tr hst379 (fun _ h => ⟨h, rfl⟩) (by decide) (by decide)
              have hmf381 : tw_fv E379 a0 1 = .int xi1 := (hst379.1 a0 1 hm0 (by rw [hk0]; decide)).trans hmf370
              have hmf382 : tw_fv E379 a0 0 = .ref xr14 := (hst379.1 a0 0 hm0 (by rw [hk0]; decide)).trans hmf371
              have hmf383 : tw_fv E379 a0 28 = .int zi46 := (hst379.1 a0 28 hm0 (by rw [hk0]; decide)).trans hmf372
              have hmf384 : tw_fv E379 a0 22 = .ref xr56 := (hst379.1 a0 22 hm0 (by rw [hk0]; decide)).trans hmf373
              have hmf385 : tw_fv E379 a0 16 = .ref xr68 := (hst379.1 a0 16 hm0 (by rw [hk0]; decide)).trans hmf374
              have hmf386 : tw_fv E379 a0 18 = .ref xr82 := (hst379.1 a0 18 hm0 (by rw [hk0]; decide)).trans hmf375
              have hmf387 : tw_fv E379 a0 19 = .ref xr97 := (hst379.1 a0 19 hm0 (by rw [hk0]; decide)).trans hmf376
              have hmf388 : tw_fv E379 a0 17 = .ref xr113 := (hst379.1 a0 17 hm0 (by rw [hk0]; decide)).trans hmf377
              have hmf389 : tw_fv E379 a0 3 = .int zfxc132_0_1 := (hst379.1 a0 3 hm0 (by rw [hk0]; decide)).trans hmf378
              have hmf390 : tw_fv E379 a0 2 = .int xi1 := (hst379.1 a0 2 hm0 (by rw [hk0]; decide)).trans hmf369
              have hg1 : th_ok E379 a0 (fv0_28.toInt + 1) := th_ok_fr TH hst379 hm0 hk0 (by decide) (by decide) hg1
              have hg2 : tp_ok E379 a0 (fv0_28.toInt + 1) := tp_ok_fr TH hst379 hm0 hk0 (by decide) (by decide) hg2
              have hg3 : tq_ok E379 a0 (fv0_28.toInt + 1) := tq_ok_fr TH hst379 hm0 hk0 (by decide) (by decide) hg3
              have hg4 : tg_ok E379 a0 (fv0_28.toInt + 1) := tg_ok_fr TH hst379 hm0 hk0 (by decide) (by decide) hg4
              have hg5 : rd_ok E379 a0 := rd_ok_fr TH hst379 hm0 hk0 (by decide) (by decide) hg5
              have hg6 : kg_ok E379 a0 := kg_ok_fr TH hst379 hm0 hk0 (by decide) (by decide) hg6
              have hot : ot_ok E379 a0 (15) E := ot_ok_fr TH hst379 hm0 hk0 (by decide) (by decide) hot
              obtain ⟨qzfxc380_0_0, hqzfxc380_0_0, hqzfxc380_0_0a, hqzfxc380_0_0b⟩ := tw_rd TH hm0 hk0 (by decide) (by decide) (k := 4) rfl
              have eqzfxc380_0_0 : qzfxc380_0_0 = zfxc380_0_0 := by have q := hqzfxc380_0_0.symm.trans hzfxc380_0_0; injection q
              rw [eqzfxc380_0_0] at hqzfxc380_0_0a hqzfxc380_0_0b
              refine W.eq (g2 := F0 m 155 ls [.int xc380]) rfl ?_
              exact tw_zret hx hb hr hlocks (ia_bool (by omega) (by omega)) TH hS hex ⟨⟨_, rfl, (show 0 ≤ Int32.toInt xc380 from by  omega), (show Int32.toInt xc380 ≤ 1 from by  omega), (by  exact hot), (by  intro _; rw [tw_fi_of hzfxc380_0_0]; omega), (by  intro q; exfalso; omega), ⟨xi1, zi46, hmf390, hmf383, by  omega, (th_ok_cast (by  omega) hg1), (tp_ok_cast (by  omega) hg2), (tq_ok_cast (by  omega) hg3), (tg_ok_cast (by  omega) hg4)⟩, hg5, hg6⟩, rfl, rfl, hF⟩ ((by first | exact Nat.le_of_ble_eq_true rfl | (dsimp only; omega) | omega)) ((by first | exact Nat.le_of_ble_eq_true rfl | (dsimp only; omega) | omega)) dX12_readsNode_155
          · have hf391 : fv0_28.toInt = 24 := by have z := (fa_eq _ _).mp hc44; have : ((24 : Int32).toInt) = 24 := (by decide); omega
            refine lv_aload_n hx hb dX12_readsNode_58 rfl (lv_at hl 1 rfl) ?_
            refine tw_Vc (o := a0) (ci := 12) (n := 0) (post := (fun v kq Lq Eq => (∃ x : Int32, v = some (.int x) ∧ 0 ≤ x.toInt ∧ x.toInt ≤ 0 ∧ (∃ z0 : Int32, tw_fv Eq a0 4 = .int z0 ∧ (z0.toInt ≠ -1))) ∧ kp = kq ∧ L = Lq ∧ tw_fr kp L [(12, 4)] [] E Eq)) (As := []) (rest := []) ⟨hx, hb, hml, hown, hB⟩ (fun sz => tX12_fails_vL l D cs a0 hm0 hk0 sz) cg_12_196_X12_fails rfl rfl (by decide +kernel) ⟨(by first | exact Nat.le_of_ble_eq_true rfl | (dsimp only; omega) | omega), (by first | exact Nat.le_of_ble_eq_true rfl | (dsimp only; omega) | omega)⟩ hK hN TH hS hA rfl hm0 hk0 (by decide) rfl hl.1 rfl ((by first | exact Nat.le_of_ble_eq_true rfl | (dsimp only; omega) | omega)) dX12_readsNode_59 ⟨(by first | exact Nat.le_of_ble_eq_true rfl | (dsimp only; omega) | omega), (by first | exact Nat.le_of_ble_eq_true rfl | (dsimp only; omega) | omega)⟩ (fun v392 kp392 L392 E392 H locs hq392 hx392 TH hS => ?_)
            obtain ⟨⟨xc393, rfl, hxc393a, hxc393b, ⟨zfxc393_0_0, hzfxc393_0_0, hzpxc393_0⟩⟩, rfl, rfl, hst392⟩ := hq392
            have hF := hF.tr hst392 (fun _ h => ⟨h, rfl⟩) (by decide) (by decide)
            have hmf394 : tw_fv E392 a0 28 = .int fv0_28 := (hst392.1 a0 28 hm0 (by rw [hk0]; decide)).trans hfv0_28
            have hmf395 : tw_fv E392 a0 3 = .int fv0_3 := (hst392.1 a0 3 hm0 (by rw [hk0]; decide)).trans hfv0_3
            have hmf396 : tw_fv E392 a0 2 = .int fv0_2 := (hst392.1 a0 2 hm0 (by rw [hk0]; decide)).trans hfv0_2
            have hmf397 : tw_fv E392 a0 1 = .int xi1 := (hst392.1 a0 1 hm0 (by rw [hk0]; decide)).trans hxi1
            have hmf398 : tw_fv E392 a0 0 = .ref xr14 := (hst392.1 a0 0 hm0 (by rw [hk0]; decide)).trans hxr14
            have hg0 : tk_at E392 a0 := tk_at_fr TH hst392 hm0 hk0 (by decide) (by decide) hg0
            have hg1 : th_ok E392 a0 (fv0_28.toInt) := th_ok_fr TH hst392 hm0 hk0 (by decide) (by decide) hg1
            have hg2 : tp_ok E392 a0 (fv0_28.toInt) := tp_ok_fr TH hst392 hm0 hk0 (by decide) (by decide) hg2
            have hg3 : tq_ok E392 a0 (fv0_28.toInt) := tq_ok_fr TH hst392 hm0 hk0 (by decide) (by decide) hg3
            have hg4 : tg_ok E392 a0 (fv0_28.toInt) := tg_ok_fr TH hst392 hm0 hk0 (by decide) (by decide) hg4
            have hg5 : rd_ok E392 a0 := rd_ok_fr TH hst392 hm0 hk0 (by decide) (by decide) hg5
            have hg6 : kg_ok E392 a0 := kg_ok_fr TH hst392 hm0 hk0 (by decide) (by decide) hg6
            have hot : ot_ok E392 a0 (15) E := ot_ok_fr TH hst392 hm0 hk0 (by decide) (by decide) hot
            obtain ⟨qzfxc393_0_0, hqzfxc393_0_0, hqzfxc393_0_0a, hqzfxc393_0_0b⟩ := tw_rd TH hm0 hk0 (by decide) (by decide) (k := 4) rfl
            have eqzfxc393_0_0 : qzfxc393_0_0 = zfxc393_0_0 := by have q := hqzfxc393_0_0.symm.trans hzfxc393_0_0; injection q
            rw [eqzfxc393_0_0] at hqzfxc393_0_0a hqzfxc393_0_0b
            refine W.eq (g2 := F0 m 62 ls [.int xc393]) rfl ?_
            exact tw_zret hx hb hr hlocks (ia_bool (by omega) (by omega)) TH hS hex ⟨⟨_, rfl, (show 0 ≤ Int32.toInt xc393 from by  omega), (show Int32.toInt xc393 ≤ 1 from by  omega), (by  exact hot), (by  intro _; rw [tw_fi_of hzfxc393_0_0]; omega), (by  intro q; exfalso; omega), ⟨fv0_2, fv0_28, hmf396, hmf394, by  omega, (th_ok_cast (by  omega) hg1), (tp_ok_cast (by  omega) hg2), (tq_ok_cast (by  omega) hg3), (tg_ok_cast (by  omega) hg4)⟩, hg5, hg6⟩, rfl, rfl, hF⟩ ((by first | exact Nat.le_of_ble_eq_true rfl | (dsimp only; omega) | omega)) ((by first | exact Nat.le_of_ble_eq_true rfl | (dsimp only; omega) | omega)) dX12_readsNode_62
