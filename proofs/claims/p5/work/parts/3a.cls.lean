set_option maxHeartbeats 4000000 in
set_option maxRecDepth 100000 in
theorem tX9_spells_v0 (l : Launch) (D : va_G) (cs : Nat → ClassId) {kp : Nat → Nat} {L : List Nat} {E : Nat → va_E} (a0 : Nat) (hm0 : a0 ∈ L) (hk0 : kp a0 = 9) (sz : Nat) : Met l yX9_spells (.code yX9_spells cX9_spells 3 (some .boolean) :: cx_big) { frames := 4, cells := 0, slots := 0, locals := 85 } (tw_P D cs kp L E [.ref a0, .ref (D.2 100 0)] sz) (tw_Q D cs kp L (fun v kq Lq Eq => (∃ x : Int32, v = some (.int x) ∧ 0 ≤ x.toInt ∧ x.toInt ≤ 1) ∧ kp = kq ∧ L = Lq ∧ E = Eq) (va_A (va_pl L E) sz)) 0 0 (va_A (va_pl L E) sz) := by
  refine tw_ofW (by decide) (Nat.le_of_ble_eq_true rfl) ?_
  intro p e s m below meth c A ls hx hb hr hml hB hown hlocks hK hN hA TH hS hl
  have hown : s.vm.findClass "TreeMerge$Text" = some m.cls := hown
  have hl : lv_has ls 3 [(0, .ref a0), (1, .ref (D.2 100 0))] := hl
  obtain ⟨kp0, ekp⟩ : ∃ z, z = kp := ⟨_, rfl⟩
  obtain ⟨L0, eL⟩ : ∃ z, z = L := ⟨_, rfl⟩
  rw [show tw_Q D cs kp L = tw_Q D cs kp0 L0 by rw [ekp, eL]]
  have hex : ∀ a : Nat, a ∈ L0 → a ∈ L ∧ kp a = kp0 a := fun a h => ⟨by rw [← eL]; exact h, by rw [ekp]⟩
  refine lv_aload_n hx hb dX9_spells_0 rfl (lv_at hl 0 rfl) ?_
  refine tw_get (ci := 9) (C := RX9) (T := TX9) (N := 5) hx hb hB cx_inX9 hown hK TH hm0 hk0 rfl ⟨by decide, rfl⟩ 4 (by decide) cw_46 (fun _ h9 => h9) dX9_spells_1 (fun hv => ?_)
  obtain ⟨xi1, hxi1, hxi1a, hxi1b⟩ : ∃ x : Int32, tw_fv E a0 4 = .int x ∧ 0 ≤ x.toInt ∧ x.toInt ≤ 500 := hv
  rw [hxi1]
  refine lv_aload_n hx hb dX9_spells_4 rfl (lv_at hl 0 rfl) ?_
  refine tw_get (ci := 9) (C := RX9) (T := TX9) (N := 5) hx hb hB cx_inX9 hown hK TH hm0 hk0 rfl ⟨by decide, rfl⟩ 3 (by decide) cw_43 (fun _ h9 => h9) dX9_spells_5 (fun hv => ?_)
  obtain ⟨xi2, hxi2, hxi2a, hxi2b⟩ : ∃ x : Int32, tw_fv E a0 3 = .int x ∧ 0 ≤ x.toInt ∧ x.toInt ≤ 500 := hv
  rw [hxi2]
  refine lv_isub hx hb dX9_spells_8 ?_
  refine lv_topi (fun zi3 ezi3 => ?_)
  have hzi3 : zi3.toInt = xi1.toInt - xi2.toInt := by rw [ezi3];  have := ia_lo xi1; have := ia_hi xi1; have := ia_lo xi2; have := ia_hi xi2; exact (ia_sub (by omega) (by omega)).trans (by omega)
  refine lv_aload_n hx hb dX9_spells_9 rfl (lv_at hl 1 rfl) ?_
  refine tw_VSc (i := 0) (n := 0) (post := (fun v kq Lq Eq => v = some (.int 4) ∧ kp = kq ∧ L = Lq ∧ E = Eq)) (As := []) (rest := [.int zi3]) ⟨hx, hb, hml, hown, hB⟩ (fun sz => tj_length0 l D cs sz) gj_len9 rfl rfl (by decide +kernel) ⟨Nat.le_of_ble_eq_true rfl, Nat.le_of_ble_eq_true rfl⟩ hK hN TH hS hA (by decide) rfl hl.1 rfl (Nat.le_of_ble_eq_true rfl) dX9_spells_10 ⟨Nat.le_of_ble_eq_true rfl, Nat.le_of_ble_eq_true rfl⟩ (fun v4 kp4 L4 E4 H locs hq4 hx4 TH hS => ?_)
  obtain ⟨rfl, rfl, rfl, rfl⟩ := hq4
  refine W.eq (g2 := F0 m 13 ls [.int 4, .int zi3]) rfl ?_
  refine lv_icmp_eq (tgt := 18) hx hb dX9_spells_13 (by decide) (fun hc5 => ?_) (fun hc5 => ?_)
  · have hf6 : zi3.toInt = 4 := by have z := (fa_eq _ _).mp hc5; have : ((4 : Int32).toInt) = 4 := (by decide); omega
    refine lv_iconst (v := 0) hx hb dX9_spells_18 (by decide) ?_
    refine lv_istore_n (lv' := [(2, .int 0), (0, .ref a0), (1, .ref (D.2 100 0))]) hx hb dX9_spells_19 rfl hl (by decide) rfl (fun ls hl => ?_)
    have hJ20 : ∀ (n20 : Nat) (y20_2 : Int32) (H : Heap) (locs : List Loc) (ls : Array Slot), 0 ≤ y20_2.toInt → y20_2.toInt ≤ 5 → 5 - y20_2.toInt ≤ (n20 : Int) → tw_H D cs kp L E A H → va_S A s.heap H locs → lv_has ls 3 [(2, .int y20_2), (0, .ref a0), (1, .ref (D.2 100 0))] → W p l e { frames := 4, cells := 0, slots := 0, locals := 85 } s m [.ref a0, .ref (D.2 100 0)].toArray below meth c H locs 0 0 (MQ below (tw_Q D cs kp0 L0 (fun v kq Lq Eq => (∃ x : Int32, v = some (.int x) ∧ 0 ≤ x.toInt ∧ x.toInt ≤ 1) ∧ kp = kq ∧ L = Lq ∧ E = Eq) A) [.ref a0, .ref (D.2 100 0)].toArray s 0 0 A) (F0 m 20 ls []) := by
      intro n20
      induction n20 using Nat.strongRecOn with
      | _ n20 ih20 =>
        intro y20_2 H locs ls hy20_2a hy20_2b hmeas20 TH hS hl
        refine lv_iload_n hx hb dX9_spells_20 rfl (lv_at hl 0 rfl) ?_
        refine lv_aload_n hx hb dX9_spells_21 rfl (lv_at hl 2 rfl) ?_
        refine tw_VSc (i := 0) (n := 0) (post := (fun v kq Lq Eq => v = some (.int 4) ∧ kp = kq ∧ L = Lq ∧ E = Eq)) (As := []) (rest := [.int y20_2]) ⟨hx, hb, hml, hown, hB⟩ (fun sz => tj_length0 l D cs sz) gj_len9 rfl rfl (by decide +kernel) ⟨Nat.le_of_ble_eq_true rfl, Nat.le_of_ble_eq_true rfl⟩ hK hN TH hS hA (by decide) rfl hl.1 rfl (Nat.le_of_ble_eq_true rfl) dX9_spells_22 ⟨Nat.le_of_ble_eq_true rfl, Nat.le_of_ble_eq_true rfl⟩ (fun v7 kp7 L7 E7 H locs hq7 hx7 TH hS => ?_)
        obtain ⟨rfl, rfl, rfl, rfl⟩ := hq7
        refine W.eq (g2 := F0 m 25 ls [.int 4, .int y20_2]) rfl ?_
        refine lv_icmp_ge (tgt := 55) hx hb dX9_spells_25 (by decide) (fun hc8 => ?_) (fun hc8 => ?_)
        · have hf9 : 4 ≤ y20_2.toInt := by have z := (fa_le _ _).mp hc8; have : ((4 : Int32).toInt) = 4 := (by decide); omega
          refine lv_iconst (v := 1) hx hb dX9_spells_55 (by decide) ?_
          exact tw_zret hx hb hr hlocks (by decide) TH hS hex ⟨⟨_, rfl, (show 0 ≤ Int32.toInt 1 from by have : ((1 : Int32).toInt) = 1 := (by decide); omega), (show Int32.toInt 1 ≤ 1 from by have : ((1 : Int32).toInt) = 1 := (by decide); omega)⟩, rfl, rfl, rfl⟩ (Nat.le_of_ble_eq_true rfl) (Nat.le_of_ble_eq_true rfl) dX9_spells_56
        · have hf10 : ¬ (4 ≤ y20_2.toInt) := fun q => hc8 ((fa_le _ _).mpr (by have : ((4 : Int32).toInt) = 4 := (by decide); omega))
          refine lv_aload_n hx hb dX9_spells_28 rfl (lv_at hl 1 rfl) ?_
          refine tw_get (ci := 9) (C := RX9) (T := TX9) (N := 5) hx hb hB cx_inX9 hown hK TH hm0 hk0 rfl ⟨by decide, rfl⟩ 0 (by decide) cw_34 (fun _ h9 => h9) dX9_spells_29 (fun hv => ?_)
          obtain ⟨xr11, hxr11, hmxr11, hkxr11⟩ : ∃ a : Nat, tw_fv E a0 0 = .ref a ∧ a ∈ L ∧ kp a = 100 := hv
          rw [hxr11]
          refine lv_aload_n hx hb dX9_spells_32 rfl (lv_at hl 1 rfl) ?_
          refine tw_get (ci := 9) (C := RX9) (T := TX9) (N := 5) hx hb hB cx_inX9 hown hK TH hm0 hk0 rfl ⟨by decide, rfl⟩ 3 (by decide) cw_43 (fun _ h9 => h9) dX9_spells_33 (fun hv => ?_)
          rw [hxi2]
          refine lv_iload_n hx hb dX9_spells_36 rfl (lv_at hl 0 rfl) ?_
          refine lv_iadd hx hb dX9_spells_37 ?_
          refine lv_topi (fun zi12 ezi12 => ?_)
          have hzi12 : zi12.toInt = xi2.toInt + y20_2.toInt := by rw [ezi12];  have := ia_lo xi2; have := ia_hi xi2; have := ia_lo y20_2; have := ia_hi y20_2; exact (ia_add (by omega) (by omega)).trans (by omega)
          refine tw_iald (k := 100) (t0 := 0) (n := 500) (lo := 0) (hi := 255) hx hb hK TH hmxr11 hkxr11 (by decide) rfl rfl (i := zi12) (vp_in_iff.mpr ⟨by  omega, by  omega⟩) dX9_spells_38 (fun hxe13a hxe13b => ?_)
          obtain ⟨xe13, exe13⟩ : ∃ z : Int32, tw_iv E xr11 (Int32.toNatClampNeg zi12) = z := ⟨_, rfl⟩
          rw [exe13] at hxe13a hxe13b ⊢
          refine lv_aload_n hx hb dX9_spells_39 rfl (lv_at hl 2 rfl) ?_
          refine lv_iload_n hx hb dX9_spells_40 rfl (lv_at hl 0 rfl) ?_
          refine tw_VSc (i := 0) (n := 1) (post := (fun v kq Lq Eq => v = some (.int (st_ch 0 (Int32.toNatClampNeg y20_2))) ∧ kp = kq ∧ L = Lq ∧ E = Eq)) (As := [.int y20_2]) (rest := [.int xe13]) ⟨hx, hb, hml, hown, hB⟩ (fun sz => tj_charAt0 l D cs y20_2 (by omega) (by omega) sz) gj_at9 rfl rfl (by decide +kernel) ⟨Nat.le_of_ble_eq_true rfl, Nat.le_of_ble_eq_true rfl⟩ hK hN TH hS hA (by decide) rfl hl.1 rfl (Nat.le_of_ble_eq_true rfl) dX9_spells_41 ⟨Nat.le_of_ble_eq_true rfl, Nat.le_of_ble_eq_true rfl⟩ (fun v14 kp14 L14 E14 H locs hq14 hx14 TH hS => ?_)
          obtain ⟨rfl, rfl, rfl, rfl⟩ := hq14
          obtain ⟨xk15, exk15⟩ : ∃ z : Int32, st_ch 0 (Int32.toNatClampNeg y20_2) = z := ⟨_, rfl⟩
          rw [exk15]
          refine W.eq (g2 := F0 m 44 ls [.int xk15, .int xe13]) rfl ?_
          refine lv_icmp_eq (tgt := 49) hx hb dX9_spells_44 (by decide) (fun hc16 => ?_) (fun hc16 => ?_)
          · have hf17 : xe13.toInt = xk15.toInt := by have z := (fa_eq _ _).mp hc16;  omega
            obtain ⟨zi18, ezi18⟩ : ∃ z : Int32, z = y20_2 + Int32.ofInt 1 := ⟨_, rfl⟩
            have hzi18 : zi18.toInt = y20_2.toInt + 1 := by rw [ezi18]; have : ((Int32.ofInt 1).toInt) = 1 := (by decide);  exact (ia_add (by omega) (by omega)).trans (by omega)
            refine lv_iinc (v := zi18) (lv' := [(2, .int zi18), (0, .ref a0), (1, .ref (D.2 100 0))]) hx hb dX9_spells_49 hl (k := 0) rfl ezi18.symm (by decide) rfl (fun ls hl => ?_)
            refine lv_goto (tgt := 20) hx hb dX9_spells_52 (by decide) ?_
            exact ih20 (n20 - 1) (by   omega) zi18 _ _ ls (by omega) (by omega) (by   omega) TH hS (lv_sub hl [0, 1, 2] rfl)
          · have hf19 : ¬ (xe13.toInt = xk15.toInt) := fun q => hc16 ((fa_eq _ _).mpr (by  omega))
            refine lv_iconst (v := 0) hx hb dX9_spells_47 (by decide) ?_
            exact tw_zret hx hb hr hlocks (by decide) TH hS hex ⟨⟨_, rfl, (show 0 ≤ Int32.toInt 0 from by have : ((0 : Int32).toInt) = 0 := (by decide); omega), (show Int32.toInt 0 ≤ 1 from by have : ((0 : Int32).toInt) = 0 := (by decide); omega)⟩, rfl, rfl, rfl⟩ (Nat.le_of_ble_eq_true rfl) (Nat.le_of_ble_eq_true rfl) dX9_spells_48
    exact hJ20 6 (0 : Int32) _ _ ls (by have : ((0 : Int32).toInt) = 0 := (by decide); omega) (by have : ((0 : Int32).toInt) = 0 := (by decide); omega) (by have : ((0 : Int32).toInt) = 0 := (by decide);  omega) TH hS (lv_sub hl [0, 1, 2] rfl)
  · have hf20 : ¬ (zi3.toInt = 4) := fun q => hc5 ((fa_eq _ _).mpr (by have : ((4 : Int32).toInt) = 4 := (by decide); omega))
    refine lv_iconst (v := 0) hx hb dX9_spells_16 (by decide) ?_
    exact tw_zret hx hb hr hlocks (by decide) TH hS hex ⟨⟨_, rfl, (show 0 ≤ Int32.toInt 0 from by have : ((0 : Int32).toInt) = 0 := (by decide); omega), (show Int32.toInt 0 ≤ 1 from by have : ((0 : Int32).toInt) = 0 := (by decide); omega)⟩, rfl, rfl, rfl⟩ (Nat.le_of_ble_eq_true rfl) (Nat.le_of_ble_eq_true rfl) dX9_spells_17
set_option maxHeartbeats 4000000 in
set_option maxRecDepth 100000 in
theorem tX9_spells_v1 (l : Launch) (D : va_G) (cs : Nat → ClassId) {kp : Nat → Nat} {L : List Nat} {E : Nat → va_E} (a0 : Nat) (hm0 : a0 ∈ L) (hk0 : kp a0 = 9) (sz : Nat) : Met l yX9_spells (.code yX9_spells cX9_spells 3 (some .boolean) :: cx_big) { frames := 4, cells := 0, slots := 0, locals := 85 } (tw_P D cs kp L E [.ref a0, .ref (D.2 100 1)] sz) (tw_Q D cs kp L (fun v kq Lq Eq => (∃ x : Int32, v = some (.int x) ∧ 0 ≤ x.toInt ∧ x.toInt ≤ 1) ∧ kp = kq ∧ L = Lq ∧ E = Eq) (va_A (va_pl L E) sz)) 0 0 (va_A (va_pl L E) sz) := by
  refine tw_ofW (by decide) (Nat.le_of_ble_eq_true rfl) ?_
  intro p e s m below meth c A ls hx hb hr hml hB hown hlocks hK hN hA TH hS hl
  have hown : s.vm.findClass "TreeMerge$Text" = some m.cls := hown
  have hl : lv_has ls 3 [(0, .ref a0), (1, .ref (D.2 100 1))] := hl
  obtain ⟨kp0, ekp⟩ : ∃ z, z = kp := ⟨_, rfl⟩
  obtain ⟨L0, eL⟩ : ∃ z, z = L := ⟨_, rfl⟩
  rw [show tw_Q D cs kp L = tw_Q D cs kp0 L0 by rw [ekp, eL]]
  have hex : ∀ a : Nat, a ∈ L0 → a ∈ L ∧ kp a = kp0 a := fun a h => ⟨by rw [← eL]; exact h, by rw [ekp]⟩
  refine lv_aload_n hx hb dX9_spells_0 rfl (lv_at hl 0 rfl) ?_
  refine tw_get (ci := 9) (C := RX9) (T := TX9) (N := 5) hx hb hB cx_inX9 hown hK TH hm0 hk0 rfl ⟨by decide, rfl⟩ 4 (by decide) cw_46 (fun _ h9 => h9) dX9_spells_1 (fun hv => ?_)
  obtain ⟨xi1, hxi1, hxi1a, hxi1b⟩ : ∃ x : Int32, tw_fv E a0 4 = .int x ∧ 0 ≤ x.toInt ∧ x.toInt ≤ 500 := hv
  rw [hxi1]
  refine lv_aload_n hx hb dX9_spells_4 rfl (lv_at hl 0 rfl) ?_
  refine tw_get (ci := 9) (C := RX9) (T := TX9) (N := 5) hx hb hB cx_inX9 hown hK TH hm0 hk0 rfl ⟨by decide, rfl⟩ 3 (by decide) cw_43 (fun _ h9 => h9) dX9_spells_5 (fun hv => ?_)
  obtain ⟨xi2, hxi2, hxi2a, hxi2b⟩ : ∃ x : Int32, tw_fv E a0 3 = .int x ∧ 0 ≤ x.toInt ∧ x.toInt ≤ 500 := hv
  rw [hxi2]
  refine lv_isub hx hb dX9_spells_8 ?_
  refine lv_topi (fun zi3 ezi3 => ?_)
  have hzi3 : zi3.toInt = xi1.toInt - xi2.toInt := by rw [ezi3];  have := ia_lo xi1; have := ia_hi xi1; have := ia_lo xi2; have := ia_hi xi2; exact (ia_sub (by omega) (by omega)).trans (by omega)
  refine lv_aload_n hx hb dX9_spells_9 rfl (lv_at hl 1 rfl) ?_
  refine tw_VSc (i := 1) (n := 0) (post := (fun v kq Lq Eq => v = some (.int 3) ∧ kp = kq ∧ L = Lq ∧ E = Eq)) (As := []) (rest := [.int zi3]) ⟨hx, hb, hml, hown, hB⟩ (fun sz => tj_length1 l D cs sz) gj_len9 rfl rfl (by decide +kernel) ⟨Nat.le_of_ble_eq_true rfl, Nat.le_of_ble_eq_true rfl⟩ hK hN TH hS hA (by decide) rfl hl.1 rfl (Nat.le_of_ble_eq_true rfl) dX9_spells_10 ⟨Nat.le_of_ble_eq_true rfl, Nat.le_of_ble_eq_true rfl⟩ (fun v4 kp4 L4 E4 H locs hq4 hx4 TH hS => ?_)
  obtain ⟨rfl, rfl, rfl, rfl⟩ := hq4
  refine W.eq (g2 := F0 m 13 ls [.int 3, .int zi3]) rfl ?_
  refine lv_icmp_eq (tgt := 18) hx hb dX9_spells_13 (by decide) (fun hc5 => ?_) (fun hc5 => ?_)
  · have hf6 : zi3.toInt = 3 := by have z := (fa_eq _ _).mp hc5; have : ((3 : Int32).toInt) = 3 := (by decide); omega
    refine lv_iconst (v := 0) hx hb dX9_spells_18 (by decide) ?_
    refine lv_istore_n (lv' := [(2, .int 0), (0, .ref a0), (1, .ref (D.2 100 1))]) hx hb dX9_spells_19 rfl hl (by decide) rfl (fun ls hl => ?_)
    have hJ20 : ∀ (n20 : Nat) (y20_2 : Int32) (H : Heap) (locs : List Loc) (ls : Array Slot), 0 ≤ y20_2.toInt → y20_2.toInt ≤ 3 → 3 - y20_2.toInt ≤ (n20 : Int) → tw_H D cs kp L E A H → va_S A s.heap H locs → lv_has ls 3 [(2, .int y20_2), (0, .ref a0), (1, .ref (D.2 100 1))] → W p l e { frames := 4, cells := 0, slots := 0, locals := 85 } s m [.ref a0, .ref (D.2 100 1)].toArray below meth c H locs 0 0 (MQ below (tw_Q D cs kp0 L0 (fun v kq Lq Eq => (∃ x : Int32, v = some (.int x) ∧ 0 ≤ x.toInt ∧ x.toInt ≤ 1) ∧ kp = kq ∧ L = Lq ∧ E = Eq) A) [.ref a0, .ref (D.2 100 1)].toArray s 0 0 A) (F0 m 20 ls []) := by
      intro n20
      induction n20 using Nat.strongRecOn with
      | _ n20 ih20 =>
        intro y20_2 H locs ls hy20_2a hy20_2b hmeas20 TH hS hl
        refine lv_iload_n hx hb dX9_spells_20 rfl (lv_at hl 0 rfl) ?_
        refine lv_aload_n hx hb dX9_spells_21 rfl (lv_at hl 2 rfl) ?_
        refine tw_VSc (i := 1) (n := 0) (post := (fun v kq Lq Eq => v = some (.int 3) ∧ kp = kq ∧ L = Lq ∧ E = Eq)) (As := []) (rest := [.int y20_2]) ⟨hx, hb, hml, hown, hB⟩ (fun sz => tj_length1 l D cs sz) gj_len9 rfl rfl (by decide +kernel) ⟨Nat.le_of_ble_eq_true rfl, Nat.le_of_ble_eq_true rfl⟩ hK hN TH hS hA (by decide) rfl hl.1 rfl (Nat.le_of_ble_eq_true rfl) dX9_spells_22 ⟨Nat.le_of_ble_eq_true rfl, Nat.le_of_ble_eq_true rfl⟩ (fun v7 kp7 L7 E7 H locs hq7 hx7 TH hS => ?_)
        obtain ⟨rfl, rfl, rfl, rfl⟩ := hq7
        refine W.eq (g2 := F0 m 25 ls [.int 3, .int y20_2]) rfl ?_
        refine lv_icmp_ge (tgt := 55) hx hb dX9_spells_25 (by decide) (fun hc8 => ?_) (fun hc8 => ?_)
        · have hf9 : 3 ≤ y20_2.toInt := by have z := (fa_le _ _).mp hc8; have : ((3 : Int32).toInt) = 3 := (by decide); omega
          refine lv_iconst (v := 1) hx hb dX9_spells_55 (by decide) ?_
          exact tw_zret hx hb hr hlocks (by decide) TH hS hex ⟨⟨_, rfl, (show 0 ≤ Int32.toInt 1 from by have : ((1 : Int32).toInt) = 1 := (by decide); omega), (show Int32.toInt 1 ≤ 1 from by have : ((1 : Int32).toInt) = 1 := (by decide); omega)⟩, rfl, rfl, rfl⟩ (Nat.le_of_ble_eq_true rfl) (Nat.le_of_ble_eq_true rfl) dX9_spells_56
        · have hf10 : ¬ (3 ≤ y20_2.toInt) := fun q => hc8 ((fa_le _ _).mpr (by have : ((3 : Int32).toInt) = 3 := (by decide); omega))
          refine lv_aload_n hx hb dX9_spells_28 rfl (lv_at hl 1 rfl) ?_
          refine tw_get (ci := 9) (C := RX9) (T := TX9) (N := 5) hx hb hB cx_inX9 hown hK TH hm0 hk0 rfl ⟨by decide, rfl⟩ 0 (by decide) cw_34 (fun _ h9 => h9) dX9_spells_29 (fun hv => ?_)
          obtain ⟨xr11, hxr11, hmxr11, hkxr11⟩ : ∃ a : Nat, tw_fv E a0 0 = .ref a ∧ a ∈ L ∧ kp a = 100 := hv
          rw [hxr11]
          refine lv_aload_n hx hb dX9_spells_32 rfl (lv_at hl 1 rfl) ?_
          refine tw_get (ci := 9) (C := RX9) (T := TX9) (N := 5) hx hb hB cx_inX9 hown hK TH hm0 hk0 rfl ⟨by decide, rfl⟩ 3 (by decide) cw_43 (fun _ h9 => h9) dX9_spells_33 (fun hv => ?_)
          rw [hxi2]
          refine lv_iload_n hx hb dX9_spells_36 rfl (lv_at hl 0 rfl) ?_
          refine lv_iadd hx hb dX9_spells_37 ?_
          refine lv_topi (fun zi12 ezi12 => ?_)
          have hzi12 : zi12.toInt = xi2.toInt + y20_2.toInt := by rw [ezi12];  have := ia_lo xi2; have := ia_hi xi2; have := ia_lo y20_2; have := ia_hi y20_2; exact (ia_add (by omega) (by omega)).trans (by omega)
          refine tw_iald (k := 100) (t0 := 0) (n := 500) (lo := 0) (hi := 255) hx hb hK TH hmxr11 hkxr11 (by decide) rfl rfl (i := zi12) (vp_in_iff.mpr ⟨by  omega, by  omega⟩) dX9_spells_38 (fun hxe13a hxe13b => ?_)
          obtain ⟨xe13, exe13⟩ : ∃ z : Int32, tw_iv E xr11 (Int32.toNatClampNeg zi12) = z := ⟨_, rfl⟩
          rw [exe13] at hxe13a hxe13b ⊢
          refine lv_aload_n hx hb dX9_spells_39 rfl (lv_at hl 2 rfl) ?_
          refine lv_iload_n hx hb dX9_spells_40 rfl (lv_at hl 0 rfl) ?_
          refine tw_VSc (i := 1) (n := 1) (post := (fun v kq Lq Eq => v = some (.int (st_ch 1 (Int32.toNatClampNeg y20_2))) ∧ kp = kq ∧ L = Lq ∧ E = Eq)) (As := [.int y20_2]) (rest := [.int xe13]) ⟨hx, hb, hml, hown, hB⟩ (fun sz => tj_charAt1 l D cs y20_2 (by omega) (by omega) sz) gj_at9 rfl rfl (by decide +kernel) ⟨Nat.le_of_ble_eq_true rfl, Nat.le_of_ble_eq_true rfl⟩ hK hN TH hS hA (by decide) rfl hl.1 rfl (Nat.le_of_ble_eq_true rfl) dX9_spells_41 ⟨Nat.le_of_ble_eq_true rfl, Nat.le_of_ble_eq_true rfl⟩ (fun v14 kp14 L14 E14 H locs hq14 hx14 TH hS => ?_)
          obtain ⟨rfl, rfl, rfl, rfl⟩ := hq14
          obtain ⟨xk15, exk15⟩ : ∃ z : Int32, st_ch 1 (Int32.toNatClampNeg y20_2) = z := ⟨_, rfl⟩
          rw [exk15]
          refine W.eq (g2 := F0 m 44 ls [.int xk15, .int xe13]) rfl ?_
          refine lv_icmp_eq (tgt := 49) hx hb dX9_spells_44 (by decide) (fun hc16 => ?_) (fun hc16 => ?_)
          · have hf17 : xe13.toInt = xk15.toInt := by have z := (fa_eq _ _).mp hc16;  omega
            obtain ⟨zi18, ezi18⟩ : ∃ z : Int32, z = y20_2 + Int32.ofInt 1 := ⟨_, rfl⟩
            have hzi18 : zi18.toInt = y20_2.toInt + 1 := by rw [ezi18]; have : ((Int32.ofInt 1).toInt) = 1 := (by decide);  exact (ia_add (by omega) (by omega)).trans (by omega)
            refine lv_iinc (v := zi18) (lv' := [(2, .int zi18), (0, .ref a0), (1, .ref (D.2 100 1))]) hx hb dX9_spells_49 hl (k := 0) rfl ezi18.symm (by decide) rfl (fun ls hl => ?_)
            refine lv_goto (tgt := 20) hx hb dX9_spells_52 (by decide) ?_
            exact ih20 (n20 - 1) (by   omega) zi18 _ _ ls (by omega) (by omega) (by   omega) TH hS (lv_sub hl [0, 1, 2] rfl)
          · have hf19 : ¬ (xe13.toInt = xk15.toInt) := fun q => hc16 ((fa_eq _ _).mpr (by  omega))
            refine lv_iconst (v := 0) hx hb dX9_spells_47 (by decide) ?_
            exact tw_zret hx hb hr hlocks (by decide) TH hS hex ⟨⟨_, rfl, (show 0 ≤ Int32.toInt 0 from by have : ((0 : Int32).toInt) = 0 := (by decide); omega), (show Int32.toInt 0 ≤ 1 from by have : ((0 : Int32).toInt) = 0 := (by decide); omega)⟩, rfl, rfl, rfl⟩ (Nat.le_of_ble_eq_true rfl) (Nat.le_of_ble_eq_true rfl) dX9_spells_48
    exact hJ20 4 (0 : Int32) _ _ ls (by have : ((0 : Int32).toInt) = 0 := (by decide); omega) (by have : ((0 : Int32).toInt) = 0 := (by decide); omega) (by have : ((0 : Int32).toInt) = 0 := (by decide);  omega) TH hS (lv_sub hl [0, 1, 2] rfl)
  · have hf20 : ¬ (zi3.toInt = 3) := fun q => hc5 ((fa_eq _ _).mpr (by have : ((3 : Int32).toInt) = 3 := (by decide); omega))
    refine lv_iconst (v := 0) hx hb dX9_spells_16 (by decide) ?_
    exact tw_zret hx hb hr hlocks (by decide) TH hS hex ⟨⟨_, rfl, (show 0 ≤ Int32.toInt 0 from by have : ((0 : Int32).toInt) = 0 := (by decide); omega), (show Int32.toInt 0 ≤ 1 from by have : ((0 : Int32).toInt) = 0 := (by decide); omega)⟩, rfl, rfl, rfl⟩ (Nat.le_of_ble_eq_true rfl) (Nat.le_of_ble_eq_true rfl) dX9_spells_17
set_option maxHeartbeats 4000000 in
set_option maxRecDepth 100000 in
theorem tX9_cutName (l : Launch) (D : va_G) (cs : Nat → ClassId) {kp : Nat → Nat} {L : List Nat} {E : Nat → va_E} (a0 : Nat) (fv0_3 : Int32) (fv0_4 : Int32) (hm0 : a0 ∈ L) (hk0 : kp a0 = 9) (hfv0_3 : tw_fv E a0 3 = .int fv0_3) (hfv0_4 : tw_fv E a0 4 = .int fv0_4) (hpre0 : fv0_3.toInt ≤ fv0_4.toInt) (sz : Nat) : Met l yX9_cutName (.code yX9_cutName cX9_cutName 1 none :: cx_big) { frames := 5, cells := 0, slots := 0, locals := 107 } (tw_P D cs kp L E [.ref a0] sz) (tw_Q D cs kp L (fun v kq Lq Eq => v = none ∧ kp = kq ∧ L = Lq ∧ tw_fr kp L [(9, 2), (9, 4)] [] E Eq ∧ (∃ z0 z1 : Int32, tw_fv Eq a0 3 = .int z0 ∧ tw_fv Eq a0 4 = .int z1 ∧ (z0.toInt ≤ z1.toInt))) (va_A (va_pl L E) sz)) 0 0 (va_A (va_pl L E) sz) := by
  refine tw_ofW (by decide) (Nat.le_of_ble_eq_true rfl) ?_
  intro p e s m below meth c A ls hx hb hr hml hB hown hlocks hK hN hA TH hS hl
  have hown : s.vm.findClass "TreeMerge$Text" = some m.cls := hown
  have hl : lv_has ls 1 [(0, .ref a0)] := hl
  obtain ⟨kp0, ekp⟩ : ∃ z, z = kp := ⟨_, rfl⟩
  obtain ⟨L0, eL⟩ : ∃ z, z = L := ⟨_, rfl⟩
  rw [show tw_Q D cs kp L = tw_Q D cs kp0 L0 by rw [ekp, eL]]
  have hex : ∀ a : Nat, a ∈ L0 → a ∈ L ∧ kp a = kp0 a := fun a h => ⟨by rw [← eL]; exact h, by rw [ekp]⟩
  have hF : tw_fr kp L [(9, 2), (9, 4)] [] E E := tw_fr.rf
  obtain ⟨qfv0_3, hqfv0_3, hqfv0_3a, hqfv0_3b⟩ := tw_rd TH hm0 hk0 (by decide) (by decide) (k := 3) rfl
  have eqfv0_3 : qfv0_3 = fv0_3 := by have q := hqfv0_3.symm.trans hfv0_3; injection q
  rw [eqfv0_3] at hqfv0_3a hqfv0_3b
  obtain ⟨qfv0_4, hqfv0_4, hqfv0_4a, hqfv0_4b⟩ := tw_rd TH hm0 hk0 (by decide) (by decide) (k := 4) rfl
  have eqfv0_4 : qfv0_4 = fv0_4 := by have q := hqfv0_4.symm.trans hfv0_4; injection q
  rw [eqfv0_4] at hqfv0_4a hqfv0_4b
  have hJ0 : ∀ (n0 : Nat) (u0_0_4 : Int32) (Eg0 : Nat → va_E) (H : Heap) (locs : List Loc) (ls : Array Slot), 0 ≤ u0_0_4.toInt → u0_0_4.toInt ≤ 500 → (fv0_3.toInt ≤ u0_0_4.toInt) → 500 - u0_0_4.toInt ≤ (n0 : Int) → tw_fv Eg0 a0 4 = .int u0_0_4 → tw_fr kp L [(9, 4)] [] E Eg0 → tw_H D cs kp L Eg0 A H → va_S A s.heap H locs → lv_has ls 1 [(0, .ref a0)] → W p l e { frames := 5, cells := 0, slots := 0, locals := 107 } s m [.ref a0].toArray below meth c H locs 0 0 (MQ below (tw_Q D cs kp0 L0 (fun v kq Lq Eq => v = none ∧ kp = kq ∧ L = Lq ∧ tw_fr kp L [(9, 2), (9, 4)] [] E Eq ∧ (∃ z0 z1 : Int32, tw_fv Eq a0 3 = .int z0 ∧ tw_fv Eq a0 4 = .int z1 ∧ (z0.toInt ≤ z1.toInt))) A) [.ref a0].toArray s 0 0 A) (F0 m 0 ls []) := by
    intro n0
    induction n0 using Nat.strongRecOn with
    | _ n0 ih0 =>
      intro u0_0_4 Eg0 H locs ls hu0_0_4a hu0_0_4b hin0_0 hmeas0 hfm0_0 hG0 TH hS hl
      have hF := hF.tr hG0 (fun _ h => ⟨h, rfl⟩) (by decide) (by decide)
      have hmf1 : tw_fv Eg0 a0 3 = .int fv0_3 := (hG0.1 a0 3 hm0 (by rw [hk0]; decide)).trans hfv0_3
      refine lv_aload_n hx hb dX9_cutName_0 rfl (lv_at hl 0 rfl) ?_
      refine tw_get (ci := 9) (C := RX9) (T := TX9) (N := 5) hx hb hB cx_inX9 hown hK TH hm0 hk0 rfl ⟨by decide, rfl⟩ 4 (by decide) cw_46 (fun _ h9 => h9) dX9_cutName_1 (fun hv => ?_)
      rw [hfm0_0]
      refine lv_aload_n hx hb dX9_cutName_4 rfl (lv_at hl 0 rfl) ?_
      refine tw_get (ci := 9) (C := RX9) (T := TX9) (N := 5) hx hb hB cx_inX9 hown hK TH hm0 hk0 rfl ⟨by decide, rfl⟩ 1 (by decide) cw_36 (fun _ h9 => h9) dX9_cutName_5 (fun hv => ?_)
      obtain ⟨xi2, hxi2, hxi2a, hxi2b⟩ : ∃ x : Int32, tw_fv Eg0 a0 1 = .int x ∧ 0 ≤ x.toInt ∧ x.toInt ≤ 500 := hv
      rw [hxi2]
      have hJ39 : ∀  (H : Heap) (locs : List Loc) (ls : Array Slot), tw_H D cs kp L Eg0 A H → va_S A s.heap H locs → lv_has ls 1 [(0, .ref a0)] → W p l e { frames := 5, cells := 0, slots := 0, locals := 107 } s m [.ref a0].toArray below meth c H locs 0 0 (MQ below (tw_Q D cs kp0 L0 (fun v kq Lq Eq => v = none ∧ kp = kq ∧ L = Lq ∧ tw_fr kp L [(9, 2), (9, 4)] [] E Eq ∧ (∃ z0 z1 : Int32, tw_fv Eq a0 3 = .int z0 ∧ tw_fv Eq a0 4 = .int z1 ∧ (z0.toInt ≤ z1.toInt))) A) [.ref a0].toArray s 0 0 A) (F0 m 39 ls []) := by
        intro H locs ls TH hS hl
        refine lv_aload_n hx hb dX9_cutName_39 rfl (lv_at hl 0 rfl) ?_
        refine lv_iconst (v := 1) hx hb dX9_cutName_40 (by decide) ?_
        refine tw_put (ci := 9) (v := .int 1) (ty := .int) (C := RX9) (T := TX9) (N := 5) hx hb hB cx_inX9 tyX9 tyX9_ok nmX9 hown hK TH hS hm0 hk0 rfl ⟨by decide, rfl⟩ 2 (by decide) cw_41 (fun _ h9 => h9) rfl (by decide +kernel) rfl rfl ⟨_, rfl, (show 0 ≤ Int32.toInt 1 from by have : ((1 : Int32).toInt) = 1 := (by decide); omega), (show Int32.toInt 1 ≤ 255 from by have : ((1 : Int32).toInt) = 1 := (by decide); omega)⟩ dX9_cutName_41 (fun H locs E3 TH hS hmf7 hp4 hp5 => ?_)
        have hst6 : tw_fr kp L [(9, 2)] [] Eg0 E3 := tw_fr.put tw_fr.rf (fun _ => hk0) (by decide) hp4 hp5 (by decide)
        have hF := hF.tr hst6 (fun _ h => ⟨h, rfl⟩) (by decide) (by decide)
        have hmf8 : tw_fv E3 a0 3 = .int fv0_3 := (hst6.1 a0 3 hm0 (by rw [hk0]; decide)).trans hmf1
        have hmf9 : tw_fv E3 a0 4 = .int u0_0_4 := (hst6.1 a0 4 hm0 (by rw [hk0]; decide)).trans hfm0_0
        have hmf10 : tw_fv E3 a0 1 = .int xi2 := (hst6.1 a0 1 hm0 (by rw [hk0]; decide)).trans hxi2
        refine lv_aload_n hx hb dX9_cutName_44 rfl (lv_at hl 0 rfl) ?_
        refine va_ldcS (q := D.2 100 0) hx hb hown hN.2.2.2.2.1 dX9_cutName_45 ?_
        refine tw_Vc (o := a0) (ci := 9) (n := 1) (post := (fun v kq Lq Eq => (∃ x : Int32, v = some (.int x) ∧ 0 ≤ x.toInt ∧ x.toInt ≤ 1) ∧ kp = kq ∧ L = Lq ∧ E3 = Eq)) (As := [.ref (D.2 100 0)]) (rest := []) ⟨hx, hb, hml, hown, hB⟩ (fun sz => tX9_spells_v0 l D cs a0 hm0 hk0 sz) cg_9_43_X9_spells rfl rfl (by decide +kernel) ⟨Nat.le_of_ble_eq_true rfl, Nat.le_of_ble_eq_true rfl⟩ hK hN TH hS hA rfl hm0 hk0 (by decide) rfl hl.1 rfl (Nat.le_of_ble_eq_true rfl) dX9_cutName_47 ⟨Nat.le_of_ble_eq_true rfl, Nat.le_of_ble_eq_true rfl⟩ (fun v11 kp11 L11 E11 H locs hq11 hx11 TH hS => ?_)
        obtain ⟨⟨xc12, rfl, hxc12a, hxc12b⟩, rfl, rfl, rfl⟩ := hq11
        refine W.eq (g2 := F0 m 50 ls [.int xc12]) rfl ?_
        refine lv_if_eq (tgt := 61) hx hb dX9_cutName_50 (by decide) (fun hc13 => ?_) (fun hc13 => ?_)
        · have hf14 : xc12.toInt = 0 := by have z := (fa_eq _ _).mp hc13; have : ((0 : Int32).toInt) = 0 := (by decide); omega
          refine lv_aload_n hx hb dX9_cutName_61 rfl (lv_at hl 0 rfl) ?_
          refine va_ldcS (q := D.2 100 1) hx hb hown hN.2.2.2.2.2.1 dX9_cutName_62 ?_
          refine tw_Vc (o := a0) (ci := 9) (n := 1) (post := (fun v kq Lq Eq => (∃ x : Int32, v = some (.int x) ∧ 0 ≤ x.toInt ∧ x.toInt ≤ 1) ∧ kp = kq ∧ L = Lq ∧ E3 = Eq)) (As := [.ref (D.2 100 1)]) (rest := []) ⟨hx, hb, hml, hown, hB⟩ (fun sz => tX9_spells_v1 l D cs a0 hm0 hk0 sz) cg_9_43_X9_spells rfl rfl (by decide +kernel) ⟨Nat.le_of_ble_eq_true rfl, Nat.le_of_ble_eq_true rfl⟩ hK hN TH hS hA rfl hm0 hk0 (by decide) rfl hl.1 rfl (Nat.le_of_ble_eq_true rfl) dX9_cutName_64 ⟨Nat.le_of_ble_eq_true rfl, Nat.le_of_ble_eq_true rfl⟩ (fun v15 kp15 L15 E15 H locs hq15 hx15 TH hS => ?_)
          obtain ⟨⟨xc16, rfl, hxc16a, hxc16b⟩, rfl, rfl, rfl⟩ := hq15
          refine W.eq (g2 := F0 m 67 ls [.int xc16]) rfl ?_
          refine lv_if_eq (tgt := 75) hx hb dX9_cutName_67 (by decide) (fun hc17 => ?_) (fun hc17 => ?_)
          · have hf18 : xc16.toInt = 0 := by have z := (fa_eq _ _).mp hc17; have : ((0 : Int32).toInt) = 0 := (by decide); omega
            exact tw_vret hx hb hr hlocks TH hS hex ⟨rfl, rfl, rfl, hF, ⟨fv0_3, u0_0_4, hmf8, hmf9, by have : ((1 : Int32).toInt) = 1 := (by decide); omega⟩⟩ (Nat.le_of_ble_eq_true rfl) (Nat.le_of_ble_eq_true rfl) dX9_cutName_75
          · have hf19 : ¬ (xc16.toInt = 0) := fun q => hc17 ((fa_eq _ _).mpr (by have : ((0 : Int32).toInt) = 0 := (by decide); omega))
            refine lv_aload_n hx hb dX9_cutName_70 rfl (lv_at hl 0 rfl) ?_
            refine lv_iconst (v := 3) hx hb dX9_cutName_71 (by decide) ?_
            refine tw_put (ci := 9) (v := .int 3) (ty := .int) (C := RX9) (T := TX9) (N := 5) hx hb hB cx_inX9 tyX9 tyX9_ok nmX9 hown hK TH hS hm0 hk0 rfl ⟨by decide, rfl⟩ 2 (by decide) cw_41 (fun _ h9 => h9) rfl (by decide +kernel) rfl rfl ⟨_, rfl, (show 0 ≤ Int32.toInt 3 from by have : ((3 : Int32).toInt) = 3 := (by decide); omega), (show Int32.toInt 3 ≤ 255 from by have : ((3 : Int32).toInt) = 3 := (by decide); omega)⟩ dX9_cutName_72 (fun H locs E20 TH hS hmf24 hp21 hp22 => ?_)
            have hst23 : tw_fr kp L [(9, 2)] [] E3 E20 := tw_fr.put tw_fr.rf (fun _ => hk0) (by decide) hp21 hp22 (by decide)
            have hF := hF.tr hst23 (fun _ h => ⟨h, rfl⟩) (by decide) (by decide)
            have hmf25 : tw_fv E20 a0 3 = .int fv0_3 := (hst23.1 a0 3 hm0 (by rw [hk0]; decide)).trans hmf8
            have hmf26 : tw_fv E20 a0 4 = .int u0_0_4 := (hst23.1 a0 4 hm0 (by rw [hk0]; decide)).trans hmf9
            have hmf27 : tw_fv E20 a0 1 = .int xi2 := (hst23.1 a0 1 hm0 (by rw [hk0]; decide)).trans hmf10
            exact tw_vret hx hb hr hlocks TH hS hex ⟨rfl, rfl, rfl, hF, ⟨fv0_3, u0_0_4, hmf25, hmf26, by have : ((3 : Int32).toInt) = 3 := (by decide); omega⟩⟩ (Nat.le_of_ble_eq_true rfl) (Nat.le_of_ble_eq_true rfl) dX9_cutName_75
        · have hf28 : ¬ (xc12.toInt = 0) := fun q => hc13 ((fa_eq _ _).mpr (by have : ((0 : Int32).toInt) = 0 := (by decide); omega))
          refine lv_aload_n hx hb dX9_cutName_53 rfl (lv_at hl 0 rfl) ?_
          refine lv_iconst (v := 2) hx hb dX9_cutName_54 (by decide) ?_
          refine tw_put (ci := 9) (v := .int 2) (ty := .int) (C := RX9) (T := TX9) (N := 5) hx hb hB cx_inX9 tyX9 tyX9_ok nmX9 hown hK TH hS hm0 hk0 rfl ⟨by decide, rfl⟩ 2 (by decide) cw_41 (fun _ h9 => h9) rfl (by decide +kernel) rfl rfl ⟨_, rfl, (show 0 ≤ Int32.toInt 2 from by have : ((2 : Int32).toInt) = 2 := (by decide); omega), (show Int32.toInt 2 ≤ 255 from by have : ((2 : Int32).toInt) = 2 := (by decide); omega)⟩ dX9_cutName_55 (fun H locs E29 TH hS hmf33 hp30 hp31 => ?_)
          have hst32 : tw_fr kp L [(9, 2)] [] E3 E29 := tw_fr.put tw_fr.rf (fun _ => hk0) (by decide) hp30 hp31 (by decide)
          have hF := hF.tr hst32 (fun _ h => ⟨h, rfl⟩) (by decide) (by decide)
          have hmf34 : tw_fv E29 a0 3 = .int fv0_3 := (hst32.1 a0 3 hm0 (by rw [hk0]; decide)).trans hmf8
          have hmf35 : tw_fv E29 a0 4 = .int u0_0_4 := (hst32.1 a0 4 hm0 (by rw [hk0]; decide)).trans hmf9
          have hmf36 : tw_fv E29 a0 1 = .int xi2 := (hst32.1 a0 1 hm0 (by rw [hk0]; decide)).trans hmf10
          refine lv_goto (tgt := 75) hx hb dX9_cutName_58 (by decide) ?_
          exact tw_vret hx hb hr hlocks TH hS hex ⟨rfl, rfl, rfl, hF, ⟨fv0_3, u0_0_4, hmf34, hmf35, by have : ((2 : Int32).toInt) = 2 := (by decide); omega⟩⟩ (Nat.le_of_ble_eq_true rfl) (Nat.le_of_ble_eq_true rfl) dX9_cutName_75
      refine lv_icmp_ge (tgt := 39) hx hb dX9_cutName_8 (by decide) (fun hc37 => ?_) (fun hc37 => ?_)
      · have hf38 : xi2.toInt ≤ u0_0_4.toInt := by have z := (fa_le _ _).mp hc37;  omega
        exact hJ39  _ _ ls  TH hS (lv_sub hl [0] rfl)
      · have hf39 : ¬ (xi2.toInt ≤ u0_0_4.toInt) := fun q => hc37 ((fa_le _ _).mpr (by  omega))
        refine lv_aload_n hx hb dX9_cutName_11 rfl (lv_at hl 0 rfl) ?_
        refine tw_get (ci := 9) (C := RX9) (T := TX9) (N := 5) hx hb hB cx_inX9 hown hK TH hm0 hk0 rfl ⟨by decide, rfl⟩ 0 (by decide) cw_34 (fun _ h9 => h9) dX9_cutName_12 (fun hv => ?_)
        obtain ⟨xr40, hxr40, hmxr40, hkxr40⟩ : ∃ a : Nat, tw_fv Eg0 a0 0 = .ref a ∧ a ∈ L ∧ kp a = 100 := hv
        rw [hxr40]
        refine lv_aload_n hx hb dX9_cutName_15 rfl (lv_at hl 0 rfl) ?_
        refine tw_get (ci := 9) (C := RX9) (T := TX9) (N := 5) hx hb hB cx_inX9 hown hK TH hm0 hk0 rfl ⟨by decide, rfl⟩ 4 (by decide) cw_46 (fun _ h9 => h9) dX9_cutName_16 (fun hv => ?_)
        rw [hfm0_0]
        refine tw_iald (k := 100) (t0 := 0) (n := 500) (lo := 0) (hi := 255) hx hb hK TH hmxr40 hkxr40 (by decide) rfl rfl (i := u0_0_4) (vp_in_iff.mpr ⟨by  omega, by  omega⟩) dX9_cutName_19 (fun hxe41a hxe41b => ?_)
        obtain ⟨xe41, exe41⟩ : ∃ z : Int32, tw_iv Eg0 xr40 (Int32.toNatClampNeg u0_0_4) = z := ⟨_, rfl⟩
        rw [exe41] at hxe41a hxe41b ⊢
        refine tw_SNc (n := 1) (post := (fun v kq Lq Eq => (∃ x : Int32, v = some (.int x) ∧ 0 ≤ x.toInt ∧ x.toInt ≤ 1) ∧ kp = kq ∧ L = Lq ∧ Eg0 = Eq)) (As := [.int xe41]) (rest := []) ⟨hx, hb, hml, hown, hB⟩ (fun sz => tX11_isLetter l D cs xe41  sz) cw_483 cw_1 (by decide +kernel) cw_482 rfl rfl (by decide +kernel) ⟨Nat.le_of_ble_eq_true rfl, Nat.le_of_ble_eq_true rfl⟩ hK hN TH hS hA rfl hl.1 rfl (Nat.le_of_ble_eq_true rfl) dX9_cutName_20 ⟨Nat.le_of_ble_eq_true rfl, Nat.le_of_ble_eq_true rfl⟩ (fun v42 kp42 L42 E42 H locs hq42 hx42 TH hS => ?_)
        obtain ⟨⟨xc43, rfl, hxc43a, hxc43b⟩, rfl, rfl, rfl⟩ := hq42
        refine W.eq (g2 := F0 m 23 ls [.int xc43]) rfl ?_
        refine lv_if_eq (tgt := 39) hx hb dX9_cutName_23 (by decide) (fun hc44 => ?_) (fun hc44 => ?_)
        · have hf45 : xc43.toInt = 0 := by have z := (fa_eq _ _).mp hc44; have : ((0 : Int32).toInt) = 0 := (by decide); omega
          exact hJ39  _ _ ls  TH hS (lv_sub hl [0] rfl)
        · have hf46 : ¬ (xc43.toInt = 0) := fun q => hc44 ((fa_eq _ _).mpr (by have : ((0 : Int32).toInt) = 0 := (by decide); omega))
          refine lv_aload_n hx hb dX9_cutName_26 rfl (lv_at hl 0 rfl) ?_
          refine lv_dup hx hb dX9_cutName_27 rfl ?_
          refine tw_get (ci := 9) (C := RX9) (T := TX9) (N := 5) hx hb hB cx_inX9 hown hK TH hm0 hk0 rfl ⟨by decide, rfl⟩ 4 (by decide) cw_46 (fun _ h9 => h9) dX9_cutName_28 (fun hv => ?_)
          rw [hfm0_0]
          refine lv_iconst (v := 1) hx hb dX9_cutName_31 (by decide) ?_
          refine lv_iadd hx hb dX9_cutName_32 ?_
          refine lv_topi (fun zi47 ezi47 => ?_)
          have hzi47 : zi47.toInt = u0_0_4.toInt + 1 := by rw [ezi47]; have : ((1 : Int32).toInt) = 1 := (by decide); have := ia_lo u0_0_4; have := ia_hi u0_0_4; exact (ia_add (by omega) (by omega)).trans (by omega)
          refine tw_put (ci := 9) (v := .int zi47) (ty := .int) (C := RX9) (T := TX9) (N := 5) hx hb hB cx_inX9 tyX9 tyX9_ok nmX9 hown hK TH hS hm0 hk0 rfl ⟨by decide, rfl⟩ 4 (by decide) cw_46 (fun _ h9 => h9) rfl (by decide +kernel) rfl rfl ⟨_, rfl, (show 0 ≤ Int32.toInt zi47 from by  omega), (show Int32.toInt zi47 ≤ 500 from by  omega)⟩ dX9_cutName_33 (fun H locs E48 TH hS hmf52 hp49 hp50 => ?_)
          have hst51 : tw_fr kp L [(9, 4)] [] Eg0 E48 := tw_fr.put tw_fr.rf (fun _ => hk0) (by decide) hp49 hp50 (by decide)
          have hF := hF.tr hst51 (fun _ h => ⟨h, rfl⟩) (by decide) (by decide)
          have hG0 := hG0.tr hst51 (fun _ h => ⟨h, rfl⟩) (by decide) (by decide)
          have hmf53 : tw_fv E48 a0 3 = .int fv0_3 := (hst51.1 a0 3 hm0 (by rw [hk0]; decide)).trans hmf1
          have hmf54 : tw_fv E48 a0 1 = .int xi2 := (hst51.1 a0 1 hm0 (by rw [hk0]; decide)).trans hxi2
          have hmf55 : tw_fv E48 a0 0 = .ref xr40 := (hst51.1 a0 0 hm0 (by rw [hk0]; decide)).trans hxr40
          refine lv_goto (tgt := 0) hx hb dX9_cutName_36 (by decide) ?_
          exact ih0 (n0 - 1) (by   omega) zi47 _ _ _ ls (by omega) (by omega) (by  omega) (by   omega) hmf52 hG0 TH hS (lv_sub hl [0] rfl)
  exact hJ0 501 fv0_4 _ _ _ ls (by omega) (by omega) (by  omega) (by   omega) hfv0_4 tw_fr.rf TH hS (lv_sub hl [0] rfl)
set_option maxHeartbeats 4000000 in
set_option maxRecDepth 100000 in
theorem tX9_advance (l : Launch) (D : va_G) (cs : Nat → ClassId) {kp : Nat → Nat} {L : List Nat} {E : Nat → va_E} (a0 : Nat) (hm0 : a0 ∈ L) (hk0 : kp a0 = 9) (sz : Nat) : Met l yX9_advance (.code yX9_advance cX9_advance 1 none :: cx_big) { frames := 6, cells := 0, slots := 0, locals := 127 } (tw_P D cs kp L E [.ref a0] sz) (tw_Q D cs kp L (fun v kq Lq Eq => v = none ∧ kp = kq ∧ L = Lq ∧ tw_fr kp L [(9, 2), (9, 3), (9, 4)] [] E Eq ∧ (∃ z0 z1 : Int32, tw_fv Eq a0 3 = .int z0 ∧ tw_fv Eq a0 4 = .int z1 ∧ (z0.toInt ≤ z1.toInt))) (va_A (va_pl L E) sz)) 0 0 (va_A (va_pl L E) sz) := by
  refine tw_ofW (by decide) (Nat.le_of_ble_eq_true rfl) ?_
  intro p e s m below meth c A ls hx hb hr hml hB hown hlocks hK hN hA TH hS hl
  have hown : s.vm.findClass "TreeMerge$Text" = some m.cls := hown
  have hl : lv_has ls 1 [(0, .ref a0)] := hl
  obtain ⟨kp0, ekp⟩ : ∃ z, z = kp := ⟨_, rfl⟩
  obtain ⟨L0, eL⟩ : ∃ z, z = L := ⟨_, rfl⟩
  rw [show tw_Q D cs kp L = tw_Q D cs kp0 L0 by rw [ekp, eL]]
  have hex : ∀ a : Nat, a ∈ L0 → a ∈ L ∧ kp a = kp0 a := fun a h => ⟨by rw [← eL]; exact h, by rw [ekp]⟩
  have hF : tw_fr kp L [(9, 2), (9, 3), (9, 4)] [] E E := tw_fr.rf
  refine lv_aload_n hx hb dX9_advance_0 rfl (lv_at hl 0 rfl) ?_
  refine lv_aload_n hx hb dX9_advance_1 rfl (lv_at hl 0 rfl) ?_
  refine tw_get (ci := 9) (C := RX9) (T := TX9) (N := 5) hx hb hB cx_inX9 hown hK TH hm0 hk0 rfl ⟨by decide, rfl⟩ 4 (by decide) cw_46 (fun _ h9 => h9) dX9_advance_2 (fun hv => ?_)
  obtain ⟨xi1, hxi1, hxi1a, hxi1b⟩ : ∃ x : Int32, tw_fv E a0 4 = .int x ∧ 0 ≤ x.toInt ∧ x.toInt ≤ 500 := hv
  rw [hxi1]
  refine tw_put (ci := 9) (v := .int xi1) (ty := .int) (C := RX9) (T := TX9) (N := 5) hx hb hB cx_inX9 tyX9 tyX9_ok nmX9 hown hK TH hS hm0 hk0 rfl ⟨by decide, rfl⟩ 3 (by decide) cw_43 (fun _ h9 => h9) rfl (by decide +kernel) rfl rfl ⟨_, rfl, (show 0 ≤ Int32.toInt xi1 from by  omega), (show Int32.toInt xi1 ≤ 500 from by  omega)⟩ dX9_advance_5 (fun H locs E2 TH hS hmf6 hp3 hp4 => ?_)
  have hst5 : tw_fr kp L [(9, 3)] [] E E2 := tw_fr.put tw_fr.rf (fun _ => hk0) (by decide) hp3 hp4 (by decide)
  have hF := hF.tr hst5 (fun _ h => ⟨h, rfl⟩) (by decide) (by decide)
  have hmf7 : tw_fv E2 a0 4 = .int xi1 := (hst5.1 a0 4 hm0 (by rw [hk0]; decide)).trans hxi1
  have hJ8 : ∀ (n8 : Nat) (w8_0_3 : Int32) (Eg8 : Nat → va_E) (H : Heap) (locs : List Loc) (ls : Array Slot), 0 ≤ w8_0_3.toInt → w8_0_3.toInt ≤ 500 → 500 - w8_0_3.toInt ≤ (n8 : Int) → tw_fv Eg8 a0 3 = .int w8_0_3 → tw_fr kp L [(9, 3)] [] E2 Eg8 → tw_H D cs kp L Eg8 A H → va_S A s.heap H locs → lv_has ls 1 [(0, .ref a0)] → W p l e { frames := 6, cells := 0, slots := 0, locals := 127 } s m [.ref a0].toArray below meth c H locs 0 0 (MQ below (tw_Q D cs kp0 L0 (fun v kq Lq Eq => v = none ∧ kp = kq ∧ L = Lq ∧ tw_fr kp L [(9, 2), (9, 3), (9, 4)] [] E Eq ∧ (∃ z0 z1 : Int32, tw_fv Eq a0 3 = .int z0 ∧ tw_fv Eq a0 4 = .int z1 ∧ (z0.toInt ≤ z1.toInt))) A) [.ref a0].toArray s 0 0 A) (F0 m 8 ls []) := by
    intro n8
    induction n8 using Nat.strongRecOn with
    | _ n8 ih8 =>
      intro w8_0_3 Eg8 H locs ls hw8_0_3a hw8_0_3b hmeas8 hfm8_0 hG8 TH hS hl
      have hF := hF.tr hG8 (fun _ h => ⟨h, rfl⟩) (by decide) (by decide)
      have hmf8 : tw_fv Eg8 a0 4 = .int xi1 := (hG8.1 a0 4 hm0 (by rw [hk0]; decide)).trans hmf7
      refine lv_aload_n hx hb dX9_advance_8 rfl (lv_at hl 0 rfl) ?_
      refine tw_get (ci := 9) (C := RX9) (T := TX9) (N := 5) hx hb hB cx_inX9 hown hK TH hm0 hk0 rfl ⟨by decide, rfl⟩ 3 (by decide) cw_43 (fun _ h9 => h9) dX9_advance_9 (fun hv => ?_)
      rw [hfm8_0]
      refine lv_aload_n hx hb dX9_advance_12 rfl (lv_at hl 0 rfl) ?_
      refine tw_get (ci := 9) (C := RX9) (T := TX9) (N := 5) hx hb hB cx_inX9 hown hK TH hm0 hk0 rfl ⟨by decide, rfl⟩ 1 (by decide) cw_36 (fun _ h9 => h9) dX9_advance_13 (fun hv => ?_)
      obtain ⟨xi9, hxi9, hxi9a, hxi9b⟩ : ∃ x : Int32, tw_fv Eg8 a0 1 = .int x ∧ 0 ≤ x.toInt ∧ x.toInt ≤ 500 := hv
      rw [hxi9]
      have hJ60 : ∀  (H : Heap) (locs : List Loc) (ls : Array Slot), tw_H D cs kp L Eg8 A H → va_S A s.heap H locs → lv_has ls 1 [(0, .ref a0)] → W p l e { frames := 6, cells := 0, slots := 0, locals := 127 } s m [.ref a0].toArray below meth c H locs 0 0 (MQ below (tw_Q D cs kp0 L0 (fun v kq Lq Eq => v = none ∧ kp = kq ∧ L = Lq ∧ tw_fr kp L [(9, 2), (9, 3), (9, 4)] [] E Eq ∧ (∃ z0 z1 : Int32, tw_fv Eq a0 3 = .int z0 ∧ tw_fv Eq a0 4 = .int z1 ∧ (z0.toInt ≤ z1.toInt))) A) [.ref a0].toArray s 0 0 A) (F0 m 60 ls []) := by
        intro H locs ls TH hS hl
        refine lv_aload_n hx hb dX9_advance_60 rfl (lv_at hl 0 rfl) ?_
        refine lv_aload_n hx hb dX9_advance_61 rfl (lv_at hl 0 rfl) ?_
        refine tw_get (ci := 9) (C := RX9) (T := TX9) (N := 5) hx hb hB cx_inX9 hown hK TH hm0 hk0 rfl ⟨by decide, rfl⟩ 3 (by decide) cw_43 (fun _ h9 => h9) dX9_advance_62 (fun hv => ?_)
        rw [hfm8_0]
        refine tw_put (ci := 9) (v := .int w8_0_3) (ty := .int) (C := RX9) (T := TX9) (N := 5) hx hb hB cx_inX9 tyX9 tyX9_ok nmX9 hown hK TH hS hm0 hk0 rfl ⟨by decide, rfl⟩ 4 (by decide) cw_46 (fun _ h9 => h9) rfl (by decide +kernel) rfl rfl ⟨_, rfl, (show 0 ≤ Int32.toInt w8_0_3 from by  omega), (show Int32.toInt w8_0_3 ≤ 500 from by  omega)⟩ dX9_advance_65 (fun H locs E10 TH hS hmf14 hp11 hp12 => ?_)
        have hst13 : tw_fr kp L [(9, 4)] [] Eg8 E10 := tw_fr.put tw_fr.rf (fun _ => hk0) (by decide) hp11 hp12 (by decide)
        have hF := hF.tr hst13 (fun _ h => ⟨h, rfl⟩) (by decide) (by decide)
        have hmf15 : tw_fv E10 a0 3 = .int w8_0_3 := (hst13.1 a0 3 hm0 (by rw [hk0]; decide)).trans hfm8_0
        have hmf16 : tw_fv E10 a0 1 = .int xi9 := (hst13.1 a0 1 hm0 (by rw [hk0]; decide)).trans hxi9
        refine lv_aload_n hx hb dX9_advance_68 rfl (lv_at hl 0 rfl) ?_
        refine tw_get (ci := 9) (C := RX9) (T := TX9) (N := 5) hx hb hB cx_inX9 hown hK TH hm0 hk0 rfl ⟨by decide, rfl⟩ 3 (by decide) cw_43 (fun _ h9 => h9) dX9_advance_69 (fun hv => ?_)
        rw [hmf15]
        refine lv_aload_n hx hb dX9_advance_72 rfl (lv_at hl 0 rfl) ?_
        refine tw_get (ci := 9) (C := RX9) (T := TX9) (N := 5) hx hb hB cx_inX9 hown hK TH hm0 hk0 rfl ⟨by decide, rfl⟩ 1 (by decide) cw_36 (fun _ h9 => h9) dX9_advance_73 (fun hv => ?_)
        rw [hmf16]
        refine lv_icmp_lt (tgt := 87) hx hb dX9_advance_76 (by decide) (fun hc17 => ?_) (fun hc17 => ?_)
        · have hf18 : w8_0_3.toInt < xi9.toInt := by have z := (fa_lt _ _).mp hc17;  omega
          refine lv_aload_n hx hb dX9_advance_87 rfl (lv_at hl 0 rfl) ?_
          refine tw_get (ci := 9) (C := RX9) (T := TX9) (N := 5) hx hb hB cx_inX9 hown hK TH hm0 hk0 rfl ⟨by decide, rfl⟩ 0 (by decide) cw_34 (fun _ h9 => h9) dX9_advance_88 (fun hv => ?_)
          obtain ⟨xr19, hxr19, hmxr19, hkxr19⟩ : ∃ a : Nat, tw_fv E10 a0 0 = .ref a ∧ a ∈ L ∧ kp a = 100 := hv
          rw [hxr19]
          refine lv_aload_n hx hb dX9_advance_91 rfl (lv_at hl 0 rfl) ?_
          refine tw_get (ci := 9) (C := RX9) (T := TX9) (N := 5) hx hb hB cx_inX9 hown hK TH hm0 hk0 rfl ⟨by decide, rfl⟩ 3 (by decide) cw_43 (fun _ h9 => h9) dX9_advance_92 (fun hv => ?_)
          rw [hmf15]
          refine tw_iald (k := 100) (t0 := 0) (n := 500) (lo := 0) (hi := 255) hx hb hK TH hmxr19 hkxr19 (by decide) rfl rfl (i := w8_0_3) (vp_in_iff.mpr ⟨by  omega, by  omega⟩) dX9_advance_95 (fun hxe20a hxe20b => ?_)
          obtain ⟨xe20, exe20⟩ : ∃ z : Int32, tw_iv E10 xr19 (Int32.toNatClampNeg w8_0_3) = z := ⟨_, rfl⟩
          rw [exe20] at hxe20a hxe20b ⊢
          refine tw_SNc (n := 1) (post := (fun v kq Lq Eq => (∃ x : Int32, v = some (.int x) ∧ 0 ≤ x.toInt ∧ x.toInt ≤ 1) ∧ kp = kq ∧ L = Lq ∧ E10 = Eq)) (As := [.int xe20]) (rest := []) ⟨hx, hb, hml, hown, hB⟩ (fun sz => tX11_isLetter l D cs xe20  sz) cw_483 cw_1 (by decide +kernel) cw_482 rfl rfl (by decide +kernel) ⟨Nat.le_of_ble_eq_true rfl, Nat.le_of_ble_eq_true rfl⟩ hK hN TH hS hA rfl hl.1 rfl (Nat.le_of_ble_eq_true rfl) dX9_advance_96 ⟨Nat.le_of_ble_eq_true rfl, Nat.le_of_ble_eq_true rfl⟩ (fun v21 kp21 L21 E21 H locs hq21 hx21 TH hS => ?_)
          obtain ⟨⟨xc22, rfl, hxc22a, hxc22b⟩, rfl, rfl, rfl⟩ := hq21
          refine W.eq (g2 := F0 m 99 ls [.int xc22]) rfl ?_
          refine lv_if_eq (tgt := 109) hx hb dX9_advance_99 (by decide) (fun hc23 => ?_) (fun hc23 => ?_)
          · have hf24 : xc22.toInt = 0 := by have z := (fa_eq _ _).mp hc23; have : ((0 : Int32).toInt) = 0 := (by decide); omega
            refine lv_aload_n hx hb dX9_advance_109 rfl (lv_at hl 0 rfl) ?_
            refine tw_get (ci := 9) (C := RX9) (T := TX9) (N := 5) hx hb hB cx_inX9 hown hK TH hm0 hk0 rfl ⟨by decide, rfl⟩ 0 (by decide) cw_34 (fun _ h9 => h9) dX9_advance_110 (fun hv => ?_)
            rw [hxr19]
            refine lv_aload_n hx hb dX9_advance_113 rfl (lv_at hl 0 rfl) ?_
            refine tw_get (ci := 9) (C := RX9) (T := TX9) (N := 5) hx hb hB cx_inX9 hown hK TH hm0 hk0 rfl ⟨by decide, rfl⟩ 3 (by decide) cw_43 (fun _ h9 => h9) dX9_advance_114 (fun hv => ?_)
            rw [hmf15]
            refine tw_iald (k := 100) (t0 := 0) (n := 500) (lo := 0) (hi := 255) hx hb hK TH hmxr19 hkxr19 (by decide) rfl rfl (i := w8_0_3) (vp_in_iff.mpr ⟨by  omega, by  omega⟩) dX9_advance_117 (fun hxe25a hxe25b => ?_)
            rw [exe20]
            refine lv_bipush (v := 123) hx hb dX9_advance_118 (by decide) ?_
            refine lv_icmp_ne (tgt := 130) hx hb dX9_advance_120 (by decide) (fun hc26 => ?_) (fun hc26 => ?_)
            · have hf27 : ¬ (xe20.toInt = 123) := fun q => hc26 ((fa_eq _ _).mpr (by have : ((123 : Int32).toInt) = 123 := (by decide); omega))
              refine lv_aload_n hx hb dX9_advance_130 rfl (lv_at hl 0 rfl) ?_
              refine lv_aload_n hx hb dX9_advance_131 rfl (lv_at hl 0 rfl) ?_
              refine tw_get (ci := 9) (C := RX9) (T := TX9) (N := 5) hx hb hB cx_inX9 hown hK TH hm0 hk0 rfl ⟨by decide, rfl⟩ 0 (by decide) cw_34 (fun _ h9 => h9) dX9_advance_132 (fun hv => ?_)
              rw [hxr19]
              refine lv_aload_n hx hb dX9_advance_135 rfl (lv_at hl 0 rfl) ?_
              refine tw_get (ci := 9) (C := RX9) (T := TX9) (N := 5) hx hb hB cx_inX9 hown hK TH hm0 hk0 rfl ⟨by decide, rfl⟩ 3 (by decide) cw_43 (fun _ h9 => h9) dX9_advance_136 (fun hv => ?_)
              rw [hmf15]
              refine tw_iald (k := 100) (t0 := 0) (n := 500) (lo := 0) (hi := 255) hx hb hK TH hmxr19 hkxr19 (by decide) rfl rfl (i := w8_0_3) (vp_in_iff.mpr ⟨by  omega, by  omega⟩) dX9_advance_139 (fun hxe28a hxe28b => ?_)
              rw [exe20]
              refine tw_Sc (n := 1) (post := (fun v kq Lq Eq => (∃ x : Int32, v = some (.int x) ∧ 0 ≤ x.toInt ∧ x.toInt ≤ 1) ∧ kp = kq ∧ L = Lq ∧ E10 = Eq)) (As := [.int xe20]) (rest := [.ref a0]) ⟨hx, hb, hml, hown, hB⟩ (fun sz => tX9_isSign l D cs xe20  sz) cg_9_38_X9_isSign rfl rfl (by decide +kernel) ⟨Nat.le_of_ble_eq_true rfl, Nat.le_of_ble_eq_true rfl⟩ hK hN TH hS hA rfl hl.1 rfl (Nat.le_of_ble_eq_true rfl) dX9_advance_140 ⟨Nat.le_of_ble_eq_true rfl, Nat.le_of_ble_eq_true rfl⟩ (fun v29 kp29 L29 E29 H locs hq29 hx29 TH hS => ?_)
              obtain ⟨⟨xc30, rfl, hxc30a, hxc30b⟩, rfl, rfl, rfl⟩ := hq29
              refine W.eq (g2 := F0 m 143 ls [.int xc30, .ref a0]) rfl ?_
              refine lv_if_eq (tgt := 158) hx hb dX9_advance_143 (by decide) (fun hc31 => ?_) (fun hc31 => ?_)
              · have hf32 : xc30.toInt = 0 := by have z := (fa_eq _ _).mp hc31; have : ((0 : Int32).toInt) = 0 := (by decide); omega
                refine lv_bipush (v := 6) hx hb dX9_advance_158 (by decide) ?_
                refine tw_put (ci := 9) (v := .int 6) (ty := .int) (C := RX9) (T := TX9) (N := 5) hx hb hB cx_inX9 tyX9 tyX9_ok nmX9 hown hK TH hS hm0 hk0 rfl ⟨by decide, rfl⟩ 2 (by decide) cw_41 (fun _ h9 => h9) rfl (by decide +kernel) rfl rfl ⟨_, rfl, (show 0 ≤ Int32.toInt 6 from by have : ((6 : Int32).toInt) = 6 := (by decide); omega), (show Int32.toInt 6 ≤ 255 from by have : ((6 : Int32).toInt) = 6 := (by decide); omega)⟩ dX9_advance_160 (fun H locs E33 TH hS hmf37 hp34 hp35 => ?_)
                have hst36 : tw_fr kp L [(9, 2)] [] E10 E33 := tw_fr.put tw_fr.rf (fun _ => hk0) (by decide) hp34 hp35 (by decide)
                have hF := hF.tr hst36 (fun _ h => ⟨h, rfl⟩) (by decide) (by decide)
                have hmf38 : tw_fv E33 a0 3 = .int w8_0_3 := (hst36.1 a0 3 hm0 (by rw [hk0]; decide)).trans hmf15
                have hmf39 : tw_fv E33 a0 1 = .int xi9 := (hst36.1 a0 1 hm0 (by rw [hk0]; decide)).trans hmf16
                have hmf40 : tw_fv E33 a0 4 = .int w8_0_3 := (hst36.1 a0 4 hm0 (by rw [hk0]; decide)).trans hmf14
                have hmf41 : tw_fv E33 a0 0 = .ref xr19 := (hst36.1 a0 0 hm0 (by rw [hk0]; decide)).trans hxr19
                refine lv_aload_n hx hb dX9_advance_163 rfl (lv_at hl 0 rfl) ?_
                refine lv_aload_n hx hb dX9_advance_164 rfl (lv_at hl 0 rfl) ?_
                refine tw_get (ci := 9) (C := RX9) (T := TX9) (N := 5) hx hb hB cx_inX9 hown hK TH hm0 hk0 rfl ⟨by decide, rfl⟩ 3 (by decide) cw_43 (fun _ h9 => h9) dX9_advance_165 (fun hv => ?_)
                rw [hmf38]
                refine lv_iconst (v := 1) hx hb dX9_advance_168 (by decide) ?_
                refine lv_iadd hx hb dX9_advance_169 ?_
                refine lv_topi (fun zi42 ezi42 => ?_)
                have hzi42 : zi42.toInt = w8_0_3.toInt + 1 := by rw [ezi42]; have : ((1 : Int32).toInt) = 1 := (by decide); have := ia_lo w8_0_3; have := ia_hi w8_0_3; exact (ia_add (by omega) (by omega)).trans (by omega)
                refine tw_put (ci := 9) (v := .int zi42) (ty := .int) (C := RX9) (T := TX9) (N := 5) hx hb hB cx_inX9 tyX9 tyX9_ok nmX9 hown hK TH hS hm0 hk0 rfl ⟨by decide, rfl⟩ 4 (by decide) cw_46 (fun _ h9 => h9) rfl (by decide +kernel) rfl rfl ⟨_, rfl, (show 0 ≤ Int32.toInt zi42 from by  omega), (show Int32.toInt zi42 ≤ 500 from by  omega)⟩ dX9_advance_170 (fun H locs E43 TH hS hmf47 hp44 hp45 => ?_)
                have hst46 : tw_fr kp L [(9, 4)] [] E33 E43 := tw_fr.put tw_fr.rf (fun _ => hk0) (by decide) hp44 hp45 (by decide)
                have hF := hF.tr hst46 (fun _ h => ⟨h, rfl⟩) (by decide) (by decide)
                have hmf48 : tw_fv E43 a0 3 = .int w8_0_3 := (hst46.1 a0 3 hm0 (by rw [hk0]; decide)).trans hmf38
                have hmf49 : tw_fv E43 a0 1 = .int xi9 := (hst46.1 a0 1 hm0 (by rw [hk0]; decide)).trans hmf39
                have hmf50 : tw_fv E43 a0 0 = .ref xr19 := (hst46.1 a0 0 hm0 (by rw [hk0]; decide)).trans hmf41
                have hmf51 : tw_fv E43 a0 2 = .int 6 := (hst46.1 a0 2 hm0 (by rw [hk0]; decide)).trans hmf37
                exact tw_vret hx hb hr hlocks TH hS hex ⟨rfl, rfl, rfl, hF, ⟨w8_0_3, zi42, hmf48, hmf47, by have : ((6 : Int32).toInt) = 6 := (by decide); omega⟩⟩ (Nat.le_of_ble_eq_true rfl) (Nat.le_of_ble_eq_true rfl) dX9_advance_173
              · have hf52 : ¬ (xc30.toInt = 0) := fun q => hc31 ((fa_eq _ _).mpr (by have : ((0 : Int32).toInt) = 0 := (by decide); omega))
                refine lv_aload_n hx hb dX9_advance_146 rfl (lv_at hl 0 rfl) ?_
                refine tw_get (ci := 9) (C := RX9) (T := TX9) (N := 5) hx hb hB cx_inX9 hown hK TH hm0 hk0 rfl ⟨by decide, rfl⟩ 0 (by decide) cw_34 (fun _ h9 => h9) dX9_advance_147 (fun hv => ?_)
                rw [hxr19]
                refine lv_aload_n hx hb dX9_advance_150 rfl (lv_at hl 0 rfl) ?_
                refine tw_get (ci := 9) (C := RX9) (T := TX9) (N := 5) hx hb hB cx_inX9 hown hK TH hm0 hk0 rfl ⟨by decide, rfl⟩ 3 (by decide) cw_43 (fun _ h9 => h9) dX9_advance_151 (fun hv => ?_)
                rw [hmf15]
                refine tw_iald (k := 100) (t0 := 0) (n := 500) (lo := 0) (hi := 255) hx hb hK TH hmxr19 hkxr19 (by decide) rfl rfl (i := w8_0_3) (vp_in_iff.mpr ⟨by  omega, by  omega⟩) dX9_advance_154 (fun hxe53a hxe53b => ?_)
                rw [exe20]
                refine lv_goto (tgt := 160) hx hb dX9_advance_155 (by decide) ?_
                refine tw_put (ci := 9) (v := .int xe20) (ty := .int) (C := RX9) (T := TX9) (N := 5) hx hb hB cx_inX9 tyX9 tyX9_ok nmX9 hown hK TH hS hm0 hk0 rfl ⟨by decide, rfl⟩ 2 (by decide) cw_41 (fun _ h9 => h9) rfl (by decide +kernel) rfl rfl ⟨_, rfl, (show 0 ≤ Int32.toInt xe20 from by  omega), (show Int32.toInt xe20 ≤ 255 from by  omega)⟩ dX9_advance_160 (fun H locs E54 TH hS hmf58 hp55 hp56 => ?_)
                have hst57 : tw_fr kp L [(9, 2)] [] E10 E54 := tw_fr.put tw_fr.rf (fun _ => hk0) (by decide) hp55 hp56 (by decide)
                have hF := hF.tr hst57 (fun _ h => ⟨h, rfl⟩) (by decide) (by decide)
                have hmf59 : tw_fv E54 a0 3 = .int w8_0_3 := (hst57.1 a0 3 hm0 (by rw [hk0]; decide)).trans hmf15
                have hmf60 : tw_fv E54 a0 1 = .int xi9 := (hst57.1 a0 1 hm0 (by rw [hk0]; decide)).trans hmf16
                have hmf61 : tw_fv E54 a0 4 = .int w8_0_3 := (hst57.1 a0 4 hm0 (by rw [hk0]; decide)).trans hmf14
                have hmf62 : tw_fv E54 a0 0 = .ref xr19 := (hst57.1 a0 0 hm0 (by rw [hk0]; decide)).trans hxr19
                refine lv_aload_n hx hb dX9_advance_163 rfl (lv_at hl 0 rfl) ?_
                refine lv_aload_n hx hb dX9_advance_164 rfl (lv_at hl 0 rfl) ?_
                refine tw_get (ci := 9) (C := RX9) (T := TX9) (N := 5) hx hb hB cx_inX9 hown hK TH hm0 hk0 rfl ⟨by decide, rfl⟩ 3 (by decide) cw_43 (fun _ h9 => h9) dX9_advance_165 (fun hv => ?_)
                rw [hmf59]
                refine lv_iconst (v := 1) hx hb dX9_advance_168 (by decide) ?_
                refine lv_iadd hx hb dX9_advance_169 ?_
                refine lv_topi (fun zi63 ezi63 => ?_)
                have hzi63 : zi63.toInt = w8_0_3.toInt + 1 := by rw [ezi63]; have : ((1 : Int32).toInt) = 1 := (by decide); have := ia_lo w8_0_3; have := ia_hi w8_0_3; exact (ia_add (by omega) (by omega)).trans (by omega)
                refine tw_put (ci := 9) (v := .int zi63) (ty := .int) (C := RX9) (T := TX9) (N := 5) hx hb hB cx_inX9 tyX9 tyX9_ok nmX9 hown hK TH hS hm0 hk0 rfl ⟨by decide, rfl⟩ 4 (by decide) cw_46 (fun _ h9 => h9) rfl (by decide +kernel) rfl rfl ⟨_, rfl, (show 0 ≤ Int32.toInt zi63 from by  omega), (show Int32.toInt zi63 ≤ 500 from by  omega)⟩ dX9_advance_170 (fun H locs E64 TH hS hmf68 hp65 hp66 => ?_)
                have hst67 : tw_fr kp L [(9, 4)] [] E54 E64 := tw_fr.put tw_fr.rf (fun _ => hk0) (by decide) hp65 hp66 (by decide)
                have hF := hF.tr hst67 (fun _ h => ⟨h, rfl⟩) (by decide) (by decide)
                have hmf69 : tw_fv E64 a0 3 = .int w8_0_3 := (hst67.1 a0 3 hm0 (by rw [hk0]; decide)).trans hmf59
                have hmf70 : tw_fv E64 a0 1 = .int xi9 := (hst67.1 a0 1 hm0 (by rw [hk0]; decide)).trans hmf60
                have hmf71 : tw_fv E64 a0 0 = .ref xr19 := (hst67.1 a0 0 hm0 (by rw [hk0]; decide)).trans hmf62
                have hmf72 : tw_fv E64 a0 2 = .int xe20 := (hst67.1 a0 2 hm0 (by rw [hk0]; decide)).trans hmf58
                exact tw_vret hx hb hr hlocks TH hS hex ⟨rfl, rfl, rfl, hF, ⟨w8_0_3, zi63, hmf69, hmf68, by  omega⟩⟩ (Nat.le_of_ble_eq_true rfl) (Nat.le_of_ble_eq_true rfl) dX9_advance_173
            · have hf73 : xe20.toInt = 123 := by have z := (fa_eq _ _).mp hc26; have : ((123 : Int32).toInt) = 123 := (by decide); omega
              refine lv_aload_n hx hb dX9_advance_123 rfl (lv_at hl 0 rfl) ?_
              refine tw_Vc (o := a0) (ci := 9) (n := 0) (post := (fun v kq Lq Eq => v = none ∧ kp = kq ∧ L = Lq ∧ tw_fr kp L [(9, 2), (9, 4)] [] E10 Eq ∧ (∃ z0 z1 : Int32, tw_fv Eq a0 3 = .int z0 ∧ tw_fv Eq a0 4 = .int z1 ∧ (z0.toInt ≤ z1.toInt)))) (As := []) (rest := []) ⟨hx, hb, hml, hown, hB⟩ (fun sz => tX9_cutWord l D cs a0 hm0 hk0 ⟨w8_0_3, hmf15, by  omega, by  omega⟩ sz) cg_9_35_X9_cutWord rfl rfl (by decide +kernel) ⟨Nat.le_of_ble_eq_true rfl, Nat.le_of_ble_eq_true rfl⟩ hK hN TH hS hA rfl hm0 hk0 (by decide) rfl hl.1 rfl (Nat.le_of_ble_eq_true rfl) dX9_advance_124 ⟨Nat.le_of_ble_eq_true rfl, Nat.le_of_ble_eq_true rfl⟩ (fun v74 kp74 L74 E74 H locs hq74 hx74 TH hS => ?_)
              obtain ⟨rfl, rfl, rfl, hst74, ⟨zfxc75_0_0, zfxc75_0_1, hzfxc75_0_0, hzfxc75_0_1, hzpxc75_0⟩⟩ := hq74
              have hF := hF.tr hst74 (fun _ h => ⟨h, rfl⟩) (by decide) (by decide)
              have hmf76 : tw_fv E74 a0 3 = .int w8_0_3 := (hst74.1 a0 3 hm0 (by rw [hk0]; decide)).trans hmf15
              have hmf77 : tw_fv E74 a0 1 = .int xi9 := (hst74.1 a0 1 hm0 (by rw [hk0]; decide)).trans hmf16
              have hmf78 : tw_fv E74 a0 0 = .ref xr19 := (hst74.1 a0 0 hm0 (by rw [hk0]; decide)).trans hxr19
              have hezfxc75_0_0 : zfxc75_0_0 = w8_0_3 := by have q := hzfxc75_0_0.symm.trans hmf76; injection q
              rw [hezfxc75_0_0] at hzpxc75_0
              obtain ⟨qzfxc75_0_1, hqzfxc75_0_1, hqzfxc75_0_1a, hqzfxc75_0_1b⟩ := tw_rd TH hm0 hk0 (by decide) (by decide) (k := 4) rfl
              have eqzfxc75_0_1 : qzfxc75_0_1 = zfxc75_0_1 := by have q := hqzfxc75_0_1.symm.trans hzfxc75_0_1; injection q
              rw [eqzfxc75_0_1] at hqzfxc75_0_1a hqzfxc75_0_1b
              refine W.eq (g2 := F0 m 127 ls []) rfl ?_
              refine lv_goto (tgt := 173) hx hb dX9_advance_127 (by decide) ?_
              exact tw_vret hx hb hr hlocks TH hS hex ⟨rfl, rfl, rfl, hF, ⟨w8_0_3, zfxc75_0_1, hmf76, hzfxc75_0_1, by  omega⟩⟩ (Nat.le_of_ble_eq_true rfl) (Nat.le_of_ble_eq_true rfl) dX9_advance_173
          · have hf79 : ¬ (xc22.toInt = 0) := fun q => hc23 ((fa_eq _ _).mpr (by have : ((0 : Int32).toInt) = 0 := (by decide); omega))
            refine lv_aload_n hx hb dX9_advance_102 rfl (lv_at hl 0 rfl) ?_
            refine tw_Vc (o := a0) (ci := 9) (n := 0) (post := (fun v kq Lq Eq => v = none ∧ kp = kq ∧ L = Lq ∧ tw_fr kp L [(9, 2), (9, 4)] [] E10 Eq ∧ (∃ z0 z1 : Int32, tw_fv Eq a0 3 = .int z0 ∧ tw_fv Eq a0 4 = .int z1 ∧ (z0.toInt ≤ z1.toInt)))) (As := []) (rest := []) ⟨hx, hb, hml, hown, hB⟩ (fun sz => tX9_cutName l D cs a0 w8_0_3 w8_0_3 hm0 hk0 hmf15 hmf14 (by  omega) sz) cg_9_32_X9_cutName rfl rfl (by decide +kernel) ⟨Nat.le_of_ble_eq_true rfl, Nat.le_of_ble_eq_true rfl⟩ hK hN TH hS hA rfl hm0 hk0 (by decide) rfl hl.1 rfl (Nat.le_of_ble_eq_true rfl) dX9_advance_103 ⟨Nat.le_of_ble_eq_true rfl, Nat.le_of_ble_eq_true rfl⟩ (fun v80 kp80 L80 E80 H locs hq80 hx80 TH hS => ?_)
            obtain ⟨rfl, rfl, rfl, hst80, ⟨zfxc81_0_0, zfxc81_0_1, hzfxc81_0_0, hzfxc81_0_1, hzpxc81_0⟩⟩ := hq80
            have hF := hF.tr hst80 (fun _ h => ⟨h, rfl⟩) (by decide) (by decide)
            have hmf82 : tw_fv E80 a0 3 = .int w8_0_3 := (hst80.1 a0 3 hm0 (by rw [hk0]; decide)).trans hmf15
            have hmf83 : tw_fv E80 a0 1 = .int xi9 := (hst80.1 a0 1 hm0 (by rw [hk0]; decide)).trans hmf16
            have hmf84 : tw_fv E80 a0 0 = .ref xr19 := (hst80.1 a0 0 hm0 (by rw [hk0]; decide)).trans hxr19
            have hezfxc81_0_0 : zfxc81_0_0 = w8_0_3 := by have q := hzfxc81_0_0.symm.trans hmf82; injection q
            rw [hezfxc81_0_0] at hzpxc81_0
            obtain ⟨qzfxc81_0_1, hqzfxc81_0_1, hqzfxc81_0_1a, hqzfxc81_0_1b⟩ := tw_rd TH hm0 hk0 (by decide) (by decide) (k := 4) rfl
            have eqzfxc81_0_1 : qzfxc81_0_1 = zfxc81_0_1 := by have q := hqzfxc81_0_1.symm.trans hzfxc81_0_1; injection q
            rw [eqzfxc81_0_1] at hqzfxc81_0_1a hqzfxc81_0_1b
            refine W.eq (g2 := F0 m 106 ls []) rfl ?_
            refine lv_goto (tgt := 173) hx hb dX9_advance_106 (by decide) ?_
            exact tw_vret hx hb hr hlocks TH hS hex ⟨rfl, rfl, rfl, hF, ⟨w8_0_3, zfxc81_0_1, hmf82, hzfxc81_0_1, by  omega⟩⟩ (Nat.le_of_ble_eq_true rfl) (Nat.le_of_ble_eq_true rfl) dX9_advance_173
        · have hf85 : ¬ (w8_0_3.toInt < xi9.toInt) := fun q => hc17 ((fa_lt _ _).mpr (by  omega))
          refine lv_aload_n hx hb dX9_advance_79 rfl (lv_at hl 0 rfl) ?_
          refine lv_iconst (v := 0) hx hb dX9_advance_80 (by decide) ?_
          refine tw_put (ci := 9) (v := .int 0) (ty := .int) (C := RX9) (T := TX9) (N := 5) hx hb hB cx_inX9 tyX9 tyX9_ok nmX9 hown hK TH hS hm0 hk0 rfl ⟨by decide, rfl⟩ 2 (by decide) cw_41 (fun _ h9 => h9) rfl (by decide +kernel) rfl rfl ⟨_, rfl, (show 0 ≤ Int32.toInt 0 from by have : ((0 : Int32).toInt) = 0 := (by decide); omega), (show Int32.toInt 0 ≤ 255 from by have : ((0 : Int32).toInt) = 0 := (by decide); omega)⟩ dX9_advance_81 (fun H locs E86 TH hS hmf90 hp87 hp88 => ?_)
          have hst89 : tw_fr kp L [(9, 2)] [] E10 E86 := tw_fr.put tw_fr.rf (fun _ => hk0) (by decide) hp87 hp88 (by decide)
          have hF := hF.tr hst89 (fun _ h => ⟨h, rfl⟩) (by decide) (by decide)
          have hmf91 : tw_fv E86 a0 3 = .int w8_0_3 := (hst89.1 a0 3 hm0 (by rw [hk0]; decide)).trans hmf15
          have hmf92 : tw_fv E86 a0 1 = .int xi9 := (hst89.1 a0 1 hm0 (by rw [hk0]; decide)).trans hmf16
          have hmf93 : tw_fv E86 a0 4 = .int w8_0_3 := (hst89.1 a0 4 hm0 (by rw [hk0]; decide)).trans hmf14
          refine lv_goto (tgt := 173) hx hb dX9_advance_84 (by decide) ?_
          exact tw_vret hx hb hr hlocks TH hS hex ⟨rfl, rfl, rfl, hF, ⟨w8_0_3, w8_0_3, hmf91, hmf93, by have : ((0 : Int32).toInt) = 0 := (by decide); omega⟩⟩ (Nat.le_of_ble_eq_true rfl) (Nat.le_of_ble_eq_true rfl) dX9_advance_173
      refine lv_icmp_ge (tgt := 60) hx hb dX9_advance_16 (by decide) (fun hc94 => ?_) (fun hc94 => ?_)
      · have hf95 : xi9.toInt ≤ w8_0_3.toInt := by have z := (fa_le _ _).mp hc94;  omega
        exact hJ60  _ _ ls  TH hS (lv_sub hl [0] rfl)
      · have hf96 : ¬ (xi9.toInt ≤ w8_0_3.toInt) := fun q => hc94 ((fa_le _ _).mpr (by  omega))
        refine lv_aload_n hx hb dX9_advance_19 rfl (lv_at hl 0 rfl) ?_
        refine tw_get (ci := 9) (C := RX9) (T := TX9) (N := 5) hx hb hB cx_inX9 hown hK TH hm0 hk0 rfl ⟨by decide, rfl⟩ 0 (by decide) cw_34 (fun _ h9 => h9) dX9_advance_20 (fun hv => ?_)
        obtain ⟨xr97, hxr97, hmxr97, hkxr97⟩ : ∃ a : Nat, tw_fv Eg8 a0 0 = .ref a ∧ a ∈ L ∧ kp a = 100 := hv
        rw [hxr97]
        refine lv_aload_n hx hb dX9_advance_23 rfl (lv_at hl 0 rfl) ?_
        refine tw_get (ci := 9) (C := RX9) (T := TX9) (N := 5) hx hb hB cx_inX9 hown hK TH hm0 hk0 rfl ⟨by decide, rfl⟩ 3 (by decide) cw_43 (fun _ h9 => h9) dX9_advance_24 (fun hv => ?_)
        rw [hfm8_0]
        refine tw_iald (k := 100) (t0 := 0) (n := 500) (lo := 0) (hi := 255) hx hb hK TH hmxr97 hkxr97 (by decide) rfl rfl (i := w8_0_3) (vp_in_iff.mpr ⟨by  omega, by  omega⟩) dX9_advance_27 (fun hxe98a hxe98b => ?_)
        obtain ⟨xe98, exe98⟩ : ∃ z : Int32, tw_iv Eg8 xr97 (Int32.toNatClampNeg w8_0_3) = z := ⟨_, rfl⟩
        rw [exe98] at hxe98a hxe98b ⊢
        refine lv_bipush (v := 32) hx hb dX9_advance_28 (by decide) ?_
        have hJ47 : ∀  (H : Heap) (locs : List Loc) (ls : Array Slot), tw_H D cs kp L Eg8 A H → va_S A s.heap H locs → lv_has ls 1 [(0, .ref a0)] → W p l e { frames := 6, cells := 0, slots := 0, locals := 127 } s m [.ref a0].toArray below meth c H locs 0 0 (MQ below (tw_Q D cs kp0 L0 (fun v kq Lq Eq => v = none ∧ kp = kq ∧ L = Lq ∧ tw_fr kp L [(9, 2), (9, 3), (9, 4)] [] E Eq ∧ (∃ z0 z1 : Int32, tw_fv Eq a0 3 = .int z0 ∧ tw_fv Eq a0 4 = .int z1 ∧ (z0.toInt ≤ z1.toInt))) A) [.ref a0].toArray s 0 0 A) (F0 m 47 ls []) := by
          intro H locs ls TH hS hl
          refine lv_aload_n hx hb dX9_advance_47 rfl (lv_at hl 0 rfl) ?_
          refine lv_dup hx hb dX9_advance_48 rfl ?_
          refine tw_get (ci := 9) (C := RX9) (T := TX9) (N := 5) hx hb hB cx_inX9 hown hK TH hm0 hk0 rfl ⟨by decide, rfl⟩ 3 (by decide) cw_43 (fun _ h9 => h9) dX9_advance_49 (fun hv => ?_)
          rw [hfm8_0]
          refine lv_iconst (v := 1) hx hb dX9_advance_52 (by decide) ?_
          refine lv_iadd hx hb dX9_advance_53 ?_
          refine lv_topi (fun zi99 ezi99 => ?_)
          have hzi99 : zi99.toInt = w8_0_3.toInt + 1 := by rw [ezi99]; have : ((1 : Int32).toInt) = 1 := (by decide); have := ia_lo w8_0_3; have := ia_hi w8_0_3; exact (ia_add (by omega) (by omega)).trans (by omega)
          refine tw_put (ci := 9) (v := .int zi99) (ty := .int) (C := RX9) (T := TX9) (N := 5) hx hb hB cx_inX9 tyX9 tyX9_ok nmX9 hown hK TH hS hm0 hk0 rfl ⟨by decide, rfl⟩ 3 (by decide) cw_43 (fun _ h9 => h9) rfl (by decide +kernel) rfl rfl ⟨_, rfl, (show 0 ≤ Int32.toInt zi99 from by  omega), (show Int32.toInt zi99 ≤ 500 from by  omega)⟩ dX9_advance_54 (fun H locs E100 TH hS hmf104 hp101 hp102 => ?_)
          have hst103 : tw_fr kp L [(9, 3)] [] Eg8 E100 := tw_fr.put tw_fr.rf (fun _ => hk0) (by decide) hp101 hp102 (by decide)
          have hF := hF.tr hst103 (fun _ h => ⟨h, rfl⟩) (by decide) (by decide)
          have hG8 := hG8.tr hst103 (fun _ h => ⟨h, rfl⟩) (by decide) (by decide)
          have hmf105 : tw_fv E100 a0 4 = .int xi1 := (hst103.1 a0 4 hm0 (by rw [hk0]; decide)).trans hmf8
          have hmf106 : tw_fv E100 a0 1 = .int xi9 := (hst103.1 a0 1 hm0 (by rw [hk0]; decide)).trans hxi9
          have hmf107 : tw_fv E100 a0 0 = .ref xr97 := (hst103.1 a0 0 hm0 (by rw [hk0]; decide)).trans hxr97
          refine lv_goto (tgt := 8) hx hb dX9_advance_57 (by decide) ?_
          exact ih8 (n8 - 1) (by   omega) zi99 _ _ _ ls (by omega) (by omega) (by   omega) hmf104 hG8 TH hS (lv_sub hl [0] rfl)
        refine lv_icmp_eq (tgt := 47) hx hb dX9_advance_30 (by decide) (fun hc108 => ?_) (fun hc108 => ?_)
        · have hf109 : xe98.toInt = 32 := by have z := (fa_eq _ _).mp hc108; have : ((32 : Int32).toInt) = 32 := (by decide); omega
          exact hJ47  _ _ ls  TH hS (lv_sub hl [0] rfl)
        · have hf110 : ¬ (xe98.toInt = 32) := fun q => hc108 ((fa_eq _ _).mpr (by have : ((32 : Int32).toInt) = 32 := (by decide); omega))
          refine lv_aload_n hx hb dX9_advance_33 rfl (lv_at hl 0 rfl) ?_
          refine tw_get (ci := 9) (C := RX9) (T := TX9) (N := 5) hx hb hB cx_inX9 hown hK TH hm0 hk0 rfl ⟨by decide, rfl⟩ 0 (by decide) cw_34 (fun _ h9 => h9) dX9_advance_34 (fun hv => ?_)
          rw [hxr97]
          refine lv_aload_n hx hb dX9_advance_37 rfl (lv_at hl 0 rfl) ?_
          refine tw_get (ci := 9) (C := RX9) (T := TX9) (N := 5) hx hb hB cx_inX9 hown hK TH hm0 hk0 rfl ⟨by decide, rfl⟩ 3 (by decide) cw_43 (fun _ h9 => h9) dX9_advance_38 (fun hv => ?_)
          rw [hfm8_0]
          refine tw_iald (k := 100) (t0 := 0) (n := 500) (lo := 0) (hi := 255) hx hb hK TH hmxr97 hkxr97 (by decide) rfl rfl (i := w8_0_3) (vp_in_iff.mpr ⟨by  omega, by  omega⟩) dX9_advance_41 (fun hxe111a hxe111b => ?_)
          rw [exe98]
          refine lv_bipush (v := 10) hx hb dX9_advance_42 (by decide) ?_
          refine lv_icmp_ne (tgt := 60) hx hb dX9_advance_44 (by decide) (fun hc112 => ?_) (fun hc112 => ?_)
          · have hf113 : ¬ (xe98.toInt = 10) := fun q => hc112 ((fa_eq _ _).mpr (by have : ((10 : Int32).toInt) = 10 := (by decide); omega))
            exact hJ60  _ _ ls  TH hS (lv_sub hl [0] rfl)
          · have hf114 : xe98.toInt = 10 := by have z := (fa_eq _ _).mp hc112; have : ((10 : Int32).toInt) = 10 := (by decide); omega
            exact hJ47  _ _ ls  TH hS (lv_sub hl [0] rfl)
  exact hJ8 501 xi1 _ _ _ ls (by omega) (by omega) (by   omega) hmf6 tw_fr.rf TH hS (lv_sub hl [0] rfl)
set_option maxHeartbeats 4000000 in
set_option maxRecDepth 100000 in
theorem tX10_add_v1 (l : Launch) (D : va_G) (cs : Nat → ClassId) {kp : Nat → Nat} {L : List Nat} {E : Nat → va_E} (a0 : Nat) (x1 : Int32) (x2 : Int32) (x3 : Int32) (x4 : Int64) (fv0_0 : Int32) (hm0 : a0 ∈ L) (hk0 : kp a0 = 10) (hp1a : (-1) ≤ x1.toInt) (hp1b : x1.toInt ≤ 149) (hp2a : (-1) ≤ x2.toInt) (hp2b : x2.toInt ≤ 149) (hp3a : (-1) ≤ x3.toInt) (hp3b : x3.toInt ≤ 9) (hfv0_0 : tw_fv E a0 0 = .int fv0_0) (hpre0 : fv0_0.toInt < 40) (hpre1 : x2.toInt < fv0_0.toInt) (hg0 : up_ok E a0 (fv0_0.toInt)) (sz : Nat) : Met l yX10_add (.code yX10_add cX10_add 6 none :: cx_big) { frames := 0, cells := 0, slots := 0, locals := 0 } (tw_P D cs kp L E [.ref a0, .int x1, .int x2, .int x3, .long x4] sz) (tw_Q D cs kp L (fun v kq Lq Eq => v = none ∧ kp = kq ∧ L = Lq ∧ tw_fr kp L [(10, 0)] [102, 110, 111, 114] E Eq ∧ (∃ z0 : Int32, tw_fv Eq a0 0 = .int z0 ∧ (z0.toInt = fv0_0.toInt + 1) ∧ up_ok Eq a0 (z0.toInt))) (va_A (va_pl L E) sz)) 0 0 (va_A (va_pl L E) sz) := by
  refine tw_ofW (by decide) (Nat.le_of_ble_eq_true rfl) ?_
  intro p e s m below meth c A ls hx hb hr hml hB hown hlocks hK hN hA TH hS hl
  have hown : s.vm.findClass "TreeMerge$Tree" = some m.cls := hown
  have hl : lv_has ls 6 [(0, .ref a0), (1, .int x1), (2, .int x2), (3, .int x3), (4, .long x4)] := hl
  obtain ⟨kp0, ekp⟩ : ∃ z, z = kp := ⟨_, rfl⟩
  obtain ⟨L0, eL⟩ : ∃ z, z = L := ⟨_, rfl⟩
  rw [show tw_Q D cs kp L = tw_Q D cs kp0 L0 by rw [ekp, eL]]
  have hex : ∀ a : Nat, a ∈ L0 → a ∈ L ∧ kp a = kp0 a := fun a h => ⟨by rw [← eL]; exact h, by rw [ekp]⟩
  have hF : tw_fr kp L [(10, 0)] [102, 110, 111, 114] E E := tw_fr.rf
  obtain ⟨qfv0_0, hqfv0_0, hqfv0_0a, hqfv0_0b⟩ := tw_rd TH hm0 hk0 (by decide) (by decide) (k := 0) rfl
  have eqfv0_0 : qfv0_0 = fv0_0 := by have q := hqfv0_0.symm.trans hfv0_0; injection q
  rw [eqfv0_0] at hqfv0_0a hqfv0_0b
  refine lv_aload_n hx hb dX10_add_0 rfl (lv_at hl 0 rfl) ?_
  refine tw_get (ci := 10) (C := RX10) (T := TX10) (N := 8) hx hb hB cx_inX10 hown hK TH hm0 hk0 rfl ⟨by decide, rfl⟩ 0 (by decide) cw_116 (fun _ h9 => h9) dX10_add_1 (fun hv => ?_)
  rw [hfv0_0]
  refine lv_bipush (v := 40) hx hb dX10_add_4 (by decide) ?_
  refine lv_icmp_ge (tgt := 60) hx hb dX10_add_6 (by decide) (fun hc1 => ?_) (fun hc1 => ?_)
  · have hf2 : 40 ≤ fv0_0.toInt := by have z := (fa_le _ _).mp hc1; have : ((40 : Int32).toInt) = 40 := (by decide); omega
    exfalso; omega
  · have hf3 : ¬ (40 ≤ fv0_0.toInt) := fun q => hc1 ((fa_le _ _).mpr (by have : ((40 : Int32).toInt) = 40 := (by decide); omega))
    refine lv_aload_n hx hb dX10_add_9 rfl (lv_at hl 0 rfl) ?_
    refine tw_get (ci := 10) (C := RX10) (T := TX10) (N := 8) hx hb hB cx_inX10 hown hK TH hm0 hk0 rfl ⟨by decide, rfl⟩ 1 (by decide) cw_122 (fun _ h9 => h9) dX10_add_10 (fun hv => ?_)
    obtain ⟨xr4, hxr4, hmxr4, hkxr4⟩ : ∃ a : Nat, tw_fv E a0 1 = .ref a ∧ a ∈ L ∧ kp a = 110 := hv
    rw [hxr4]
    refine lv_aload_n hx hb dX10_add_13 rfl (lv_at hl 0 rfl) ?_
    refine tw_get (ci := 10) (C := RX10) (T := TX10) (N := 8) hx hb hB cx_inX10 hown hK TH hm0 hk0 rfl ⟨by decide, rfl⟩ 0 (by decide) cw_116 (fun _ h9 => h9) dX10_add_14 (fun hv => ?_)
    rw [hfv0_0]
    refine lv_iload_n hx hb dX10_add_17 rfl (lv_at hl 1 rfl) ?_
    refine tw_iast (k := 110) (n := 40) (lo := (-1)) (hi := 149) hx hb hK TH hS hmxr4 hkxr4 (by decide) rfl (i := fv0_0) (x := x1) (vp_in_iff.mpr ⟨by  omega, by  omega⟩) (by omega) (by omega) dX10_add_18 (fun H locs E5 TH hS hp6 hp7 hp8 => ?_)
    have hst9 : tw_fr kp L [] [110] E E5 := tw_fr.ast tw_fr.rf (fun _ => hkxr4) hp6 hp7 (by decide)
    have hF := hF.tr hst9 (fun _ h => ⟨h, rfl⟩) (by decide) (by decide)
    have hmf10 : tw_fv E5 a0 0 = .int fv0_0 := (hst9.1 a0 0 hm0 (by rw [hk0]; decide)).trans hfv0_0
    have hmf11 : tw_fv E5 a0 1 = .ref xr4 := (hst9.1 a0 1 hm0 (by rw [hk0]; decide)).trans hxr4
    have hg0 : up_ok E5 a0 (fv0_0.toInt) := up_ok_fr TH hst9 hm0 hk0 (by decide) (by decide) hg0
    refine lv_aload_n hx hb dX10_add_19 rfl (lv_at hl 0 rfl) ?_
    refine tw_get (ci := 10) (C := RX10) (T := TX10) (N := 8) hx hb hB cx_inX10 hown hK TH hm0 hk0 rfl ⟨by decide, rfl⟩ 2 (by decide) cw_127 (fun _ h9 => h9) dX10_add_20 (fun hv => ?_)
    obtain ⟨xr12, hxr12, hmxr12, hkxr12⟩ : ∃ a : Nat, tw_fv E5 a0 2 = .ref a ∧ a ∈ L ∧ kp a = 111 := hv
    rw [hxr12]
    refine lv_aload_n hx hb dX10_add_23 rfl (lv_at hl 0 rfl) ?_
    refine tw_get (ci := 10) (C := RX10) (T := TX10) (N := 8) hx hb hB cx_inX10 hown hK TH hm0 hk0 rfl ⟨by decide, rfl⟩ 0 (by decide) cw_116 (fun _ h9 => h9) dX10_add_24 (fun hv => ?_)
    rw [hmf10]
    refine lv_iload_n hx hb dX10_add_27 rfl (lv_at hl 2 rfl) ?_
    refine tw_iast (k := 111) (n := 40) (lo := (-1)) (hi := 149) hx hb hK TH hS hmxr12 hkxr12 (by decide) rfl (i := fv0_0) (x := x2) (vp_in_iff.mpr ⟨by  omega, by  omega⟩) (by omega) (by omega) dX10_add_28 (fun H locs E13 TH hS hp14 hp15 hp16 => ?_)
    have hst17 : tw_fr kp L [] [111] E5 E13 := tw_fr.ast tw_fr.rf (fun _ => hkxr12) hp14 hp15 (by decide)
    have hF := hF.tr hst17 (fun _ h => ⟨h, rfl⟩) (by decide) (by decide)
    have hmf18 : tw_fv E13 a0 0 = .int fv0_0 := (hst17.1 a0 0 hm0 (by rw [hk0]; decide)).trans hmf10
    have hmf19 : tw_fv E13 a0 1 = .ref xr4 := (hst17.1 a0 1 hm0 (by rw [hk0]; decide)).trans hmf11
    have hmf20 : tw_fv E13 a0 2 = .ref xr12 := (hst17.1 a0 2 hm0 (by rw [hk0]; decide)).trans hxr12
    have hg0_o := hg0
    have hg0 : up_ok E13 a0 (fv0_0.toInt + 1) := up_ok_push hxr12 hp14 hp15 hp16 (by omega) (by omega) (by omega) hg0_o
    refine lv_aload_n hx hb dX10_add_29 rfl (lv_at hl 0 rfl) ?_
    refine tw_get (ci := 10) (C := RX10) (T := TX10) (N := 8) hx hb hB cx_inX10 hown hK TH hm0 hk0 rfl ⟨by decide, rfl⟩ 5 (by decide) cw_138 (fun _ h9 => h9) dX10_add_30 (fun hv => ?_)
    obtain ⟨xr21, hxr21, hmxr21, hkxr21⟩ : ∃ a : Nat, tw_fv E13 a0 5 = .ref a ∧ a ∈ L ∧ kp a = 114 := hv
    rw [hxr21]
    refine lv_aload_n hx hb dX10_add_33 rfl (lv_at hl 0 rfl) ?_
    refine tw_get (ci := 10) (C := RX10) (T := TX10) (N := 8) hx hb hB cx_inX10 hown hK TH hm0 hk0 rfl ⟨by decide, rfl⟩ 0 (by decide) cw_116 (fun _ h9 => h9) dX10_add_34 (fun hv => ?_)
    rw [hmf18]
    refine lv_iload_n hx hb dX10_add_37 rfl (lv_at hl 3 rfl) ?_
    refine tw_iast (k := 114) (n := 40) (lo := (-1)) (hi := 9) hx hb hK TH hS hmxr21 hkxr21 (by decide) rfl (i := fv0_0) (x := x3) (vp_in_iff.mpr ⟨by  omega, by  omega⟩) (by omega) (by omega) dX10_add_38 (fun H locs E22 TH hS hp23 hp24 hp25 => ?_)
    have hst26 : tw_fr kp L [] [114] E13 E22 := tw_fr.ast tw_fr.rf (fun _ => hkxr21) hp23 hp24 (by decide)
    have hF := hF.tr hst26 (fun _ h => ⟨h, rfl⟩) (by decide) (by decide)
    have hmf27 : tw_fv E22 a0 0 = .int fv0_0 := (hst26.1 a0 0 hm0 (by rw [hk0]; decide)).trans hmf18
    have hmf28 : tw_fv E22 a0 1 = .ref xr4 := (hst26.1 a0 1 hm0 (by rw [hk0]; decide)).trans hmf19
    have hmf29 : tw_fv E22 a0 2 = .ref xr12 := (hst26.1 a0 2 hm0 (by rw [hk0]; decide)).trans hmf20
    have hmf30 : tw_fv E22 a0 5 = .ref xr21 := (hst26.1 a0 5 hm0 (by rw [hk0]; decide)).trans hxr21
    have hg0 : up_ok E22 a0 (fv0_0.toInt + 1) := up_ok_fr TH hst26 hm0 hk0 (by decide) (by decide) hg0
    refine lv_aload_n hx hb dX10_add_39 rfl (lv_at hl 0 rfl) ?_
    refine tw_get (ci := 10) (C := RX10) (T := TX10) (N := 8) hx hb hB cx_inX10 hown hK TH hm0 hk0 rfl ⟨by decide, rfl⟩ 6 (by decide) cw_144 (fun _ h9 => h9) dX10_add_40 (fun hv => ?_)
    obtain ⟨xr31, hxr31, hmxr31, hkxr31⟩ : ∃ a : Nat, tw_fv E22 a0 6 = .ref a ∧ a ∈ L ∧ kp a = 102 := hv
    rw [hxr31]
    refine lv_aload_n hx hb dX10_add_43 rfl (lv_at hl 0 rfl) ?_
    refine tw_get (ci := 10) (C := RX10) (T := TX10) (N := 8) hx hb hB cx_inX10 hown hK TH hm0 hk0 rfl ⟨by decide, rfl⟩ 0 (by decide) cw_116 (fun _ h9 => h9) dX10_add_44 (fun hv => ?_)
    rw [hmf27]
    refine lv_lload hx hb dX10_add_47 (lv_at hl 4 rfl) ?_
    refine tw_last (k := 102) (n := 40) (lo := 0) (hi := 0) hx hb hK TH hS hmxr31 hkxr31 (by decide) rfl (i := fv0_0) (x := x4) (vp_in_iff.mpr ⟨by  omega, by  omega⟩) dX10_add_49 (fun H locs E32 TH hS hp33 hp34  => ?_)
    have hst35 : tw_fr kp L [] [102] E22 E32 := tw_fr.ast tw_fr.rf (fun _ => hkxr31) hp33 hp34 (by decide)
    have hF := hF.tr hst35 (fun _ h => ⟨h, rfl⟩) (by decide) (by decide)
    have hmf36 : tw_fv E32 a0 0 = .int fv0_0 := (hst35.1 a0 0 hm0 (by rw [hk0]; decide)).trans hmf27
    have hmf37 : tw_fv E32 a0 1 = .ref xr4 := (hst35.1 a0 1 hm0 (by rw [hk0]; decide)).trans hmf28
    have hmf38 : tw_fv E32 a0 2 = .ref xr12 := (hst35.1 a0 2 hm0 (by rw [hk0]; decide)).trans hmf29
    have hmf39 : tw_fv E32 a0 5 = .ref xr21 := (hst35.1 a0 5 hm0 (by rw [hk0]; decide)).trans hmf30
    have hmf40 : tw_fv E32 a0 6 = .ref xr31 := (hst35.1 a0 6 hm0 (by rw [hk0]; decide)).trans hxr31
    have hg0 : up_ok E32 a0 (fv0_0.toInt + 1) := up_ok_fr TH hst35 hm0 hk0 (by decide) (by decide) hg0
    refine lv_aload_n hx hb dX10_add_50 rfl (lv_at hl 0 rfl) ?_
    refine lv_dup hx hb dX10_add_51 rfl ?_
    refine tw_get (ci := 10) (C := RX10) (T := TX10) (N := 8) hx hb hB cx_inX10 hown hK TH hm0 hk0 rfl ⟨by decide, rfl⟩ 0 (by decide) cw_116 (fun _ h9 => h9) dX10_add_52 (fun hv => ?_)
    rw [hmf36]
    refine lv_iconst (v := 1) hx hb dX10_add_55 (by decide) ?_
    refine lv_iadd hx hb dX10_add_56 ?_
    refine lv_topi (fun zi41 ezi41 => ?_)
    have hzi41 : zi41.toInt = fv0_0.toInt + 1 := by rw [ezi41]; have : ((1 : Int32).toInt) = 1 := (by decide); have := ia_lo fv0_0; have := ia_hi fv0_0; exact (ia_add (by omega) (by omega)).trans (by omega)
    refine tw_put (ci := 10) (v := .int zi41) (ty := .int) (C := RX10) (T := TX10) (N := 8) hx hb hB cx_inX10 tyX10 tyX10_ok nmX10 hown hK TH hS hm0 hk0 rfl ⟨by decide, rfl⟩ 0 (by decide) cw_116 (fun _ h9 => h9) rfl (by decide +kernel) rfl rfl ⟨_, rfl, (show 0 ≤ Int32.toInt zi41 from by  omega), (show Int32.toInt zi41 ≤ 40 from by  omega)⟩ dX10_add_57 (fun H locs E42 TH hS hmf46 hp43 hp44 => ?_)
    have hst45 : tw_fr kp L [(10, 0)] [] E32 E42 := tw_fr.put tw_fr.rf (fun _ => hk0) (by decide) hp43 hp44 (by decide)
    have hF := hF.tr hst45 (fun _ h => ⟨h, rfl⟩) (by decide) (by decide)
    have hmf47 : tw_fv E42 a0 1 = .ref xr4 := (hst45.1 a0 1 hm0 (by rw [hk0]; decide)).trans hmf37
    have hmf48 : tw_fv E42 a0 2 = .ref xr12 := (hst45.1 a0 2 hm0 (by rw [hk0]; decide)).trans hmf38
    have hmf49 : tw_fv E42 a0 5 = .ref xr21 := (hst45.1 a0 5 hm0 (by rw [hk0]; decide)).trans hmf39
    have hmf50 : tw_fv E42 a0 6 = .ref xr31 := (hst45.1 a0 6 hm0 (by rw [hk0]; decide)).trans hmf40
    have hg0 : up_ok E42 a0 (fv0_0.toInt + 1) := up_ok_fr TH hst45 hm0 hk0 (by decide) (by decide) hg0
    exact tw_vret hx hb hr hlocks TH hS hex ⟨rfl, rfl, rfl, hF, ⟨zi41, hmf46, by  omega, (up_ok_cast (by  omega) hg0)⟩⟩ (Nat.le_of_ble_eq_true rfl) (Nat.le_of_ble_eq_true rfl) dX10_add_60
set_option maxHeartbeats 4000000 in
set_option maxRecDepth 100000 in
theorem tX10_readFrom (l : Launch) (D : va_G) (cs : Nat → ClassId) {kp : Nat → Nat} {L : List Nat} {E : Nat → va_E} (a0 : Nat) (a1 : Nat) (a2 : Nat) (hm0 : a0 ∈ L) (hk0 : kp a0 = 10) (hm1 : a1 ∈ L) (hk1 : kp a1 = 9) (hm2 : a2 ∈ L) (hk2 : kp a2 = 2) (sz : Nat) : Met l yX10_readFrom (.code yX10_readFrom cX10_readFrom 7 (some .int) :: cx_big) { frames := 7, cells := 0, slots := 0, locals := 147 } (tw_P D cs kp L E [.ref a0, .ref a1, .ref a2] sz) (tw_Q D cs kp L (fun v kq Lq Eq => (∃ x : Int32, v = some (.int x) ∧ (-1) ≤ x.toInt ∧ x.toInt ≤ 500) ∧ kp = kq ∧ L = Lq ∧ tw_fr kp L [(9, 2), (9, 3), (9, 4), (10, 0)] [102, 110, 111, 114] E Eq) (va_A (va_pl L E) sz)) 0 0 (va_A (va_pl L E) sz) := by
  refine tw_ofW (by decide) (Nat.le_of_ble_eq_true rfl) ?_
  intro p e s m below meth c A ls hx hb hr hml hB hown hlocks hK hN hA TH hS hl
  have hown : s.vm.findClass "TreeMerge$Tree" = some m.cls := hown
  have hl : lv_has ls 7 [(0, .ref a0), (1, .ref a1), (2, .ref a2)] := hl
  obtain ⟨kp0, ekp⟩ : ∃ z, z = kp := ⟨_, rfl⟩
  obtain ⟨L0, eL⟩ : ∃ z, z = L := ⟨_, rfl⟩
  rw [show tw_Q D cs kp L = tw_Q D cs kp0 L0 by rw [ekp, eL]]
  have hex : ∀ a : Nat, a ∈ L0 → a ∈ L ∧ kp a = kp0 a := fun a h => ⟨by rw [← eL]; exact h, by rw [ekp]⟩
  have hF : tw_fr kp L [(9, 2), (9, 3), (9, 4), (10, 0)] [102, 110, 111, 114] E E := tw_fr.rf
  refine lv_aload_n hx hb dX10_readFrom_0 rfl (lv_at hl 0 rfl) ?_
  refine tw_Vc (o := a0) (ci := 10) (n := 0) (post := (fun v kq Lq Eq => v = none ∧ kp = kq ∧ L = Lq ∧ tw_fr kp L [(10, 0)] [] E Eq ∧ (∃ z0 : Int32, tw_fv Eq a0 0 = .int z0 ∧ (z0.toInt = 0)))) (As := []) (rest := []) ⟨hx, hb, hml, hown, hB⟩ (fun sz => tX10_clear l D cs a0 hm0 hk0 sz) cg_10_42_X10_clear rfl rfl (by decide +kernel) ⟨Nat.le_of_ble_eq_true rfl, Nat.le_of_ble_eq_true rfl⟩ hK hN TH hS hA rfl hm0 hk0 (by decide) rfl hl.1 rfl (Nat.le_of_ble_eq_true rfl) dX10_readFrom_1 ⟨Nat.le_of_ble_eq_true rfl, Nat.le_of_ble_eq_true rfl⟩ (fun v1 kp1 L1 E1 H locs hq1 hx1 TH hS => ?_)
  obtain ⟨rfl, rfl, rfl, hst1, ⟨zfxc2_0_0, hzfxc2_0_0, hzpxc2_0⟩⟩ := hq1
  have hF := hF.tr hst1 (fun _ h => ⟨h, rfl⟩) (by decide) (by decide)
  obtain ⟨qzfxc2_0_0, hqzfxc2_0_0, hqzfxc2_0_0a, hqzfxc2_0_0b⟩ := tw_rd TH hm0 hk0 (by decide) (by decide) (k := 0) rfl
  have eqzfxc2_0_0 : qzfxc2_0_0 = zfxc2_0_0 := by have q := hqzfxc2_0_0.symm.trans hzfxc2_0_0; injection q
  rw [eqzfxc2_0_0] at hqzfxc2_0_0a hqzfxc2_0_0b
  refine W.eq (g2 := F0 m 4 ls []) rfl ?_
  have hup : up_ok E1 a0 (zfxc2_0_0.toInt) := up_ok_zero (by omega)
  refine lv_aload_n hx hb dX10_readFrom_4 rfl (lv_at hl 1 rfl) ?_
  refine tw_Vc (o := a1) (ci := 9) (n := 0) (post := (fun v kq Lq Eq => v = none ∧ kp = kq ∧ L = Lq ∧ tw_fr kp L [(9, 4)] [] E1 Eq)) (As := []) (rest := []) ⟨hx, hb, hml, hown, hB⟩ (fun sz => tX9_rewind l D cs a1 hm1 hk1 sz) cg_10_45_X9_rewind rfl rfl (by decide +kernel) ⟨Nat.le_of_ble_eq_true rfl, Nat.le_of_ble_eq_true rfl⟩ hK hN TH hS hA rfl hm1 hk1 (by decide) rfl hl.1 rfl (Nat.le_of_ble_eq_true rfl) dX10_readFrom_5 ⟨Nat.le_of_ble_eq_true rfl, Nat.le_of_ble_eq_true rfl⟩ (fun v3 kp3 L3 E3 H locs hq3 hx3 TH hS => ?_)
  obtain ⟨rfl, rfl, rfl, hst3⟩ := hq3
  have hF := hF.tr hst3 (fun _ h => ⟨h, rfl⟩) (by decide) (by decide)
  have hmf5 : tw_fv E3 a0 0 = .int zfxc2_0_0 := (hst3.1 a0 0 hm0 (by rw [hk0]; decide)).trans hzfxc2_0_0
  have hup : up_ok E3 a0 (zfxc2_0_0.toInt) := up_ok_fr TH hst3 hm0 hk0 (by decide) (by decide) hup
  refine W.eq (g2 := F0 m 8 ls []) rfl ?_
  refine lv_aload_n hx hb dX10_readFrom_8 rfl (lv_at hl 1 rfl) ?_
  refine tw_Vc (o := a1) (ci := 9) (n := 0) (post := (fun v kq Lq Eq => v = none ∧ kp = kq ∧ L = Lq ∧ tw_fr kp L [(9, 2), (9, 3), (9, 4)] [] E3 Eq ∧ (∃ z0 z1 : Int32, tw_fv Eq a1 3 = .int z0 ∧ tw_fv Eq a1 4 = .int z1 ∧ (z0.toInt ≤ z1.toInt)))) (As := []) (rest := []) ⟨hx, hb, hml, hown, hB⟩ (fun sz => tX9_advance l D cs a1 hm1 hk1 sz) cg_10_50_X9_advance rfl rfl (by decide +kernel) ⟨Nat.le_of_ble_eq_true rfl, Nat.le_of_ble_eq_true rfl⟩ hK hN TH hS hA rfl hm1 hk1 (by decide) rfl hl.1 rfl (Nat.le_of_ble_eq_true rfl) dX10_readFrom_9 ⟨Nat.le_of_ble_eq_true rfl, Nat.le_of_ble_eq_true rfl⟩ (fun v6 kp6 L6 E6 H locs hq6 hx6 TH hS => ?_)
  obtain ⟨rfl, rfl, rfl, hst6, ⟨zfxc7_0_0, zfxc7_0_1, hzfxc7_0_0, hzfxc7_0_1, hzpxc7_0⟩⟩ := hq6
  have hF := hF.tr hst6 (fun _ h => ⟨h, rfl⟩) (by decide) (by decide)
  have hmf8 : tw_fv E6 a0 0 = .int zfxc2_0_0 := (hst6.1 a0 0 hm0 (by rw [hk0]; decide)).trans hmf5
  have hup : up_ok E6 a0 (zfxc2_0_0.toInt) := up_ok_fr TH hst6 hm0 hk0 (by decide) (by decide) hup
  obtain ⟨qzfxc7_0_0, hqzfxc7_0_0, hqzfxc7_0_0a, hqzfxc7_0_0b⟩ := tw_rd TH hm1 hk1 (by decide) (by decide) (k := 3) rfl
  have eqzfxc7_0_0 : qzfxc7_0_0 = zfxc7_0_0 := by have q := hqzfxc7_0_0.symm.trans hzfxc7_0_0; injection q
  rw [eqzfxc7_0_0] at hqzfxc7_0_0a hqzfxc7_0_0b
  obtain ⟨qzfxc7_0_1, hqzfxc7_0_1, hqzfxc7_0_1a, hqzfxc7_0_1b⟩ := tw_rd TH hm1 hk1 (by decide) (by decide) (k := 4) rfl
  have eqzfxc7_0_1 : qzfxc7_0_1 = zfxc7_0_1 := by have q := hqzfxc7_0_1.symm.trans hzfxc7_0_1; injection q
  rw [eqzfxc7_0_1] at hqzfxc7_0_1a hqzfxc7_0_1b
  refine W.eq (g2 := F0 m 12 ls []) rfl ?_
  refine lv_iconst (v := 1) hx hb dX10_readFrom_12 (by decide) ?_
  refine lv_istore_n (lv' := [(3, .int 1), (0, .ref a0), (1, .ref a1), (2, .ref a2)]) hx hb dX10_readFrom_13 rfl hl (by decide) rfl (fun ls hl => ?_)
  refine lv_iconst (v := (-1)) hx hb dX10_readFrom_14 (by decide) ?_
  refine lv_istore (lv' := [(4, .int (-1)), (3, .int 1), (0, .ref a0), (1, .ref a1), (2, .ref a2)]) hx hb dX10_readFrom_15 hl (by decide) rfl (fun ls hl => ?_)
  refine lv_iconst (v := 0) hx hb dX10_readFrom_17 (by decide) ?_
  refine lv_istore (lv' := [(5, .int 0), (4, .int (-1)), (3, .int 1), (0, .ref a0), (1, .ref a1), (2, .ref a2)]) hx hb dX10_readFrom_18 hl (by decide) rfl (fun ls hl => ?_)
  have hJ20 : ∀ (n20 : Nat) (y20_5 : Int32) (y20_4 : Int32) (y20_3 : Int32) (u20_0_0 : Int32) (Eg20 : Nat → va_E) (H : Heap) (locs : List Loc) (ls : Array Slot), 0 ≤ y20_5.toInt → y20_5.toInt ≤ 25 → (-1) ≤ y20_4.toInt → y20_4.toInt ≤ 149 → 1 ≤ y20_3.toInt → y20_3.toInt ≤ 8 → 0 ≤ u20_0_0.toInt → u20_0_0.toInt ≤ 40 → (u20_0_0.toInt = y20_5.toInt) → (y20_4.toInt < u20_0_0.toInt) → 25 - y20_5.toInt ≤ (n20 : Int) → tw_fv Eg20 a0 0 = .int u20_0_0 → tw_fr kp L [(9, 2), (9, 3), (9, 4), (10, 0)] [102, 110, 111, 114] E6 Eg20 → up_ok Eg20 a0 (u20_0_0.toInt) → tw_H D cs kp L Eg20 A H → va_S A s.heap H locs → lv_has ls 7 [(5, .int y20_5), (4, .int y20_4), (3, .int y20_3), (0, .ref a0), (1, .ref a1), (2, .ref a2)] → W p l e { frames := 7, cells := 0, slots := 0, locals := 147 } s m [.ref a0, .ref a1, .ref a2].toArray below meth c H locs 0 0 (MQ below (tw_Q D cs kp0 L0 (fun v kq Lq Eq => (∃ x : Int32, v = some (.int x) ∧ (-1) ≤ x.toInt ∧ x.toInt ≤ 500) ∧ kp = kq ∧ L = Lq ∧ tw_fr kp L [(9, 2), (9, 3), (9, 4), (10, 0)] [102, 110, 111, 114] E Eq) A) [.ref a0, .ref a1, .ref a2].toArray s 0 0 A) (F0 m 20 ls []) := by
    intro n20
    induction n20 using Nat.strongRecOn with
    | _ n20 ih20 =>
      intro y20_5 y20_4 y20_3 u20_0_0 Eg20 H locs ls hy20_5a hy20_5b hy20_4a hy20_4b hy20_3a hy20_3b hu20_0_0a hu20_0_0b hin20_0 hin20_1 hmeas20 hfm20_0 hG20 hcg20_0 TH hS hl
      have hF := hF.tr hG20 (fun _ h => ⟨h, rfl⟩) (by decide) (by decide)
      refine lv_iload hx hb dX10_readFrom_20 (lv_at hl 0 rfl) ?_
      refine lv_bipush (v := 24) hx hb dX10_readFrom_22 (by decide) ?_
      refine lv_icmp_gt (tgt := 216) hx hb dX10_readFrom_24 (by decide) (fun hc9 => ?_) (fun hc9 => ?_)
      · have hf10 : 24 < y20_5.toInt := by have z := (fa_lt _ _).mp hc9; have : ((24 : Int32).toInt) = 24 := (by decide); omega
        refine lv_aload_n hx hb dX10_readFrom_216 rfl (lv_at hl 4 rfl) ?_
        refine tw_get (ci := 9) (C := RX9) (T := TX9) (N := 5) hx hb hB cx_inX9 hown hK TH hm1 hk1 rfl ⟨by decide, rfl⟩ 3 (by decide) cw_45 (fun _ h9 => h9) dX10_readFrom_217 (fun hv => ?_)
        obtain ⟨xi11, hxi11, hxi11a, hxi11b⟩ : ∃ x : Int32, tw_fv Eg20 a1 3 = .int x ∧ 0 ≤ x.toInt ∧ x.toInt ≤ 500 := hv
        rw [hxi11]
        exact tw_iret hx hb hr hlocks TH hS hex ⟨⟨_, rfl, (show (-1) ≤ Int32.toInt xi11 from by  omega), (show Int32.toInt xi11 ≤ 500 from by  omega)⟩, rfl, rfl, hF⟩ (Nat.le_of_ble_eq_true rfl) (Nat.le_of_ble_eq_true rfl) dX10_readFrom_220
      · have hf12 : ¬ (24 < y20_5.toInt) := fun q => hc9 ((fa_lt _ _).mpr (by have : ((24 : Int32).toInt) = 24 := (by decide); omega))
        refine lv_aload_n hx hb dX10_readFrom_27 rfl (lv_at hl 5 rfl) ?_
        refine lv_aload_n hx hb dX10_readFrom_28 rfl (lv_at hl 4 rfl) ?_
        refine tw_Vc (o := a2) (ci := 2) (n := 1) (post := (fun v kq Lq Eq => (∃ x : Int32, v = some (.int x) ∧ (-1) ≤ x.toInt ∧ x.toInt ≤ 9) ∧ kp = kq ∧ L = Lq ∧ Eg20 = Eq)) (As := [.ref a1]) (rest := []) ⟨hx, hb, hml, hown, hB⟩ (fun sz => tX2_kindAt l D cs a2 a1 hm2 hk2 hm1 hk1 sz) cg_10_53_X2_kindAt rfl rfl (by decide +kernel) ⟨Nat.le_of_ble_eq_true rfl, Nat.le_of_ble_eq_true rfl⟩ hK hN TH hS hA rfl hm2 hk2 (by decide) rfl hl.1 rfl (Nat.le_of_ble_eq_true rfl) dX10_readFrom_29 ⟨Nat.le_of_ble_eq_true rfl, Nat.le_of_ble_eq_true rfl⟩ (fun v13 kp13 L13 E13 H locs hq13 hx13 TH hS => ?_)
        obtain ⟨⟨xc14, rfl, hxc14a, hxc14b⟩, rfl, rfl, rfl⟩ := hq13
        refine W.eq (g2 := F0 m 32 ls [.int xc14]) rfl ?_
        refine lv_istore (lv' := [(6, .int xc14), (5, .int y20_5), (4, .int y20_4), (3, .int y20_3), (0, .ref a0), (1, .ref a1), (2, .ref a2)]) hx hb dX10_readFrom_32 hl (by decide) rfl (fun ls hl => ?_)
        refine lv_aload_n hx hb dX10_readFrom_34 rfl (lv_at hl 5 rfl) ?_
        refine tw_get (ci := 9) (C := RX9) (T := TX9) (N := 5) hx hb hB cx_inX9 hown hK TH hm1 hk1 rfl ⟨by decide, rfl⟩ 2 (by decide) cw_42 (fun _ h9 => h9) dX10_readFrom_35 (fun hv => ?_)
        obtain ⟨xi15, hxi15, hxi15a, hxi15b⟩ : ∃ x : Int32, tw_fv Eg20 a1 2 = .int x ∧ 0 ≤ x.toInt ∧ x.toInt ≤ 255 := hv
        rw [hxi15]
        refine lv_iconst (v := 1) hx hb dX10_readFrom_38 (by decide) ?_
        refine lv_icmp_ne (tgt := 57) hx hb dX10_readFrom_39 (by decide) (fun hc16 => ?_) (fun hc16 => ?_)
        · have hf17 : ¬ (xi15.toInt = 1) := fun q => hc16 ((fa_eq _ _).mpr (by have : ((1 : Int32).toInt) = 1 := (by decide); omega))
          refine lv_aload_n hx hb dX10_readFrom_57 rfl (lv_at hl 5 rfl) ?_
          refine tw_get (ci := 9) (C := RX9) (T := TX9) (N := 5) hx hb hB cx_inX9 hown hK TH hm1 hk1 rfl ⟨by decide, rfl⟩ 3 (by decide) cw_45 (fun _ h9 => h9) dX10_readFrom_58 (fun hv => ?_)
          obtain ⟨xi18, hxi18, hxi18a, hxi18b⟩ : ∃ x : Int32, tw_fv Eg20 a1 3 = .int x ∧ 0 ≤ x.toInt ∧ x.toInt ≤ 500 := hv
          rw [hxi18]
          exact tw_iret hx hb hr hlocks TH hS hex ⟨⟨_, rfl, (show (-1) ≤ Int32.toInt xi18 from by  omega), (show Int32.toInt xi18 ≤ 500 from by  omega)⟩, rfl, rfl, hF⟩ (Nat.le_of_ble_eq_true rfl) (Nat.le_of_ble_eq_true rfl) dX10_readFrom_61
        · have hf19 : xi15.toInt = 1 := by have z := (fa_eq _ _).mp hc16; have : ((1 : Int32).toInt) = 1 := (by decide); omega
          refine lv_aload_n hx hb dX10_readFrom_42 rfl (lv_at hl 4 rfl) ?_
          refine tw_get (ci := 10) (C := RX10) (T := TX10) (N := 8) hx hb hB cx_inX10 hown hK TH hm0 hk0 rfl ⟨by decide, rfl⟩ 0 (by decide) cw_116 (fun _ h9 => h9) dX10_readFrom_43 (fun hv => ?_)
          rw [hfm20_0]
          refine lv_bipush (v := 24) hx hb dX10_readFrom_46 (by decide) ?_
          refine lv_icmp_ge (tgt := 57) hx hb dX10_readFrom_48 (by decide) (fun hc20 => ?_) (fun hc20 => ?_)
          · have hf21 : 24 ≤ u20_0_0.toInt := by have z := (fa_le _ _).mp hc20; have : ((24 : Int32).toInt) = 24 := (by decide); omega
            refine lv_aload_n hx hb dX10_readFrom_57 rfl (lv_at hl 5 rfl) ?_
            refine tw_get (ci := 9) (C := RX9) (T := TX9) (N := 5) hx hb hB cx_inX9 hown hK TH hm1 hk1 rfl ⟨by decide, rfl⟩ 3 (by decide) cw_45 (fun _ h9 => h9) dX10_readFrom_58 (fun hv => ?_)
            obtain ⟨xi22, hxi22, hxi22a, hxi22b⟩ : ∃ x : Int32, tw_fv Eg20 a1 3 = .int x ∧ 0 ≤ x.toInt ∧ x.toInt ≤ 500 := hv
            rw [hxi22]
            exact tw_iret hx hb hr hlocks TH hS hex ⟨⟨_, rfl, (show (-1) ≤ Int32.toInt xi22 from by  omega), (show Int32.toInt xi22 ≤ 500 from by  omega)⟩, rfl, rfl, hF⟩ (Nat.le_of_ble_eq_true rfl) (Nat.le_of_ble_eq_true rfl) dX10_readFrom_61
          · have hf23 : ¬ (24 ≤ u20_0_0.toInt) := fun q => hc20 ((fa_le _ _).mpr (by have : ((24 : Int32).toInt) = 24 := (by decide); omega))
            refine lv_iload hx hb dX10_readFrom_51 (lv_at hl 0 rfl) ?_
            refine lv_iconst (v := (-1)) hx hb dX10_readFrom_53 (by decide) ?_
            refine lv_icmp_ne (tgt := 62) hx hb dX10_readFrom_54 (by decide) (fun hc24 => ?_) (fun hc24 => ?_)
            · have hf25 : ¬ (xc14.toInt = (-1)) := fun q => hc24 ((fa_eq _ _).mpr (by have : (((-1) : Int32).toInt) = (-1) := (by decide); omega))
              refine lv_aload_n hx hb dX10_readFrom_62 rfl (lv_at hl 4 rfl) ?_
              refine lv_iload hx hb dX10_readFrom_63 (lv_at hl 1 rfl) ?_
              refine lv_iload hx hb dX10_readFrom_65 (lv_at hl 2 rfl) ?_
              refine lv_iload hx hb dX10_readFrom_67 (lv_at hl 0 rfl) ?_
              refine lv_lconst (v := 0) hx hb dX10_readFrom_69 (by decide) ?_
              refine tw_Vc (o := a0) (ci := 10) (n := 4) (post := (fun v kq Lq Eq => v = none ∧ kp = kq ∧ L = Lq ∧ tw_fr kp L [(10, 0)] [102, 110, 111, 114] Eg20 Eq ∧ (∃ z0 : Int32, tw_fv Eq a0 0 = .int z0 ∧ (z0.toInt = u20_0_0.toInt + 1) ∧ up_ok Eq a0 (z0.toInt)))) (As := [.int y20_5, .int y20_4, .int xc14, .long (0 : Int64)]) (rest := []) ⟨hx, hb, hml, hown, hB⟩ (fun sz => tX10_add_v1 l D cs a0 y20_5 y20_4 xc14 (0 : Int64) u20_0_0 hm0 hk0 (by omega) (by omega) (by omega) (by omega) (by omega) (by omega) hfm20_0 (by  omega) (by  omega) hcg20_0 sz) cg_10_65_X10_add rfl rfl (by decide +kernel) ⟨Nat.le_of_ble_eq_true rfl, Nat.le_of_ble_eq_true rfl⟩ hK hN TH hS hA rfl hm0 hk0 (by decide) rfl hl.1 rfl (Nat.le_of_ble_eq_true rfl) dX10_readFrom_70 ⟨Nat.le_of_ble_eq_true rfl, Nat.le_of_ble_eq_true rfl⟩ (fun v26 kp26 L26 E26 H locs hq26 hx26 TH hS => ?_)
              obtain ⟨rfl, rfl, rfl, hst26, ⟨zfxc27_0_0, hzfxc27_0_0, hzpxc27_0, hzgxc27_0_0⟩⟩ := hq26
              have hF := hF.tr hst26 (fun _ h => ⟨h, rfl⟩) (by decide) (by decide)
              have hG20 := hG20.tr hst26 (fun _ h => ⟨h, rfl⟩) (by decide) (by decide)
              have hmf28 : tw_fv E26 a1 2 = .int xi15 := (hst26.1 a1 2 hm1 (by rw [hk1]; decide)).trans hxi15
              obtain ⟨qzfxc27_0_0, hqzfxc27_0_0, hqzfxc27_0_0a, hqzfxc27_0_0b⟩ := tw_rd TH hm0 hk0 (by decide) (by decide) (k := 0) rfl
              have eqzfxc27_0_0 : qzfxc27_0_0 = zfxc27_0_0 := by have q := hqzfxc27_0_0.symm.trans hzfxc27_0_0; injection q
              rw [eqzfxc27_0_0] at hqzfxc27_0_0a hqzfxc27_0_0b
              refine W.eq (g2 := F0 m 73 ls []) rfl ?_
              refine lv_aload_n hx hb dX10_readFrom_73 rfl (lv_at hl 5 rfl) ?_
              refine tw_Vc (o := a1) (ci := 9) (n := 0) (post := (fun v kq Lq Eq => v = none ∧ kp = kq ∧ L = Lq ∧ tw_fr kp L [(9, 2), (9, 3), (9, 4)] [] E26 Eq ∧ (∃ z0 z1 : Int32, tw_fv Eq a1 3 = .int z0 ∧ tw_fv Eq a1 4 = .int z1 ∧ (z0.toInt ≤ z1.toInt)))) (As := []) (rest := []) ⟨hx, hb, hml, hown, hB⟩ (fun sz => tX9_advance l D cs a1 hm1 hk1 sz) cg_10_50_X9_advance rfl rfl (by decide +kernel) ⟨Nat.le_of_ble_eq_true rfl, Nat.le_of_ble_eq_true rfl⟩ hK hN TH hS hA rfl hm1 hk1 (by decide) rfl hl.1 rfl (Nat.le_of_ble_eq_true rfl) dX10_readFrom_74 ⟨Nat.le_of_ble_eq_true rfl, Nat.le_of_ble_eq_true rfl⟩ (fun v29 kp29 L29 E29 H locs hq29 hx29 TH hS => ?_)
              obtain ⟨rfl, rfl, rfl, hst29, ⟨zfxc30_0_0, zfxc30_0_1, hzfxc30_0_0, hzfxc30_0_1, hzpxc30_0⟩⟩ := hq29
              have hF := hF.tr hst29 (fun _ h => ⟨h, rfl⟩) (by decide) (by decide)
              have hG20 := hG20.tr hst29 (fun _ h => ⟨h, rfl⟩) (by decide) (by decide)
              have hmf31 : tw_fv E29 a0 0 = .int zfxc27_0_0 := (hst29.1 a0 0 hm0 (by rw [hk0]; decide)).trans hzfxc27_0_0
              have hzgxc27_0_0 : up_ok E29 a0 (zfxc27_0_0.toInt) := up_ok_fr TH hst29 hm0 hk0 (by decide) (by decide) hzgxc27_0_0
              obtain ⟨qzfxc30_0_0, hqzfxc30_0_0, hqzfxc30_0_0a, hqzfxc30_0_0b⟩ := tw_rd TH hm1 hk1 (by decide) (by decide) (k := 3) rfl
              have eqzfxc30_0_0 : qzfxc30_0_0 = zfxc30_0_0 := by have q := hqzfxc30_0_0.symm.trans hzfxc30_0_0; injection q
              rw [eqzfxc30_0_0] at hqzfxc30_0_0a hqzfxc30_0_0b
              obtain ⟨qzfxc30_0_1, hqzfxc30_0_1, hqzfxc30_0_1a, hqzfxc30_0_1b⟩ := tw_rd TH hm1 hk1 (by decide) (by decide) (k := 4) rfl
              have eqzfxc30_0_1 : qzfxc30_0_1 = zfxc30_0_1 := by have q := hqzfxc30_0_1.symm.trans hzfxc30_0_1; injection q
              rw [eqzfxc30_0_1] at hqzfxc30_0_1a hqzfxc30_0_1b
              refine W.eq (g2 := F0 m 77 ls []) rfl ?_
              refine lv_aload_n hx hb dX10_readFrom_77 rfl (lv_at hl 5 rfl) ?_
              refine tw_get (ci := 9) (C := RX9) (T := TX9) (N := 5) hx hb hB cx_inX9 hown hK TH hm1 hk1 rfl ⟨by decide, rfl⟩ 2 (by decide) cw_42 (fun _ h9 => h9) dX10_readFrom_78 (fun hv => ?_)
              obtain ⟨xi32, hxi32, hxi32a, hxi32b⟩ : ∃ x : Int32, tw_fv E29 a1 2 = .int x ∧ 0 ≤ x.toInt ∧ x.toInt ≤ 255 := hv
              rw [hxi32]
              refine lv_iconst (v := 5) hx hb dX10_readFrom_81 (by decide) ?_
              refine lv_icmp_ne (tgt := 90) hx hb dX10_readFrom_82 (by decide) (fun hc33 => ?_) (fun hc33 => ?_)
              · have hf34 : ¬ (xi32.toInt = 5) := fun q => hc33 ((fa_eq _ _).mpr (by have : ((5 : Int32).toInt) = 5 := (by decide); omega))
                refine lv_aload_n hx hb dX10_readFrom_90 rfl (lv_at hl 5 rfl) ?_
                refine tw_get (ci := 9) (C := RX9) (T := TX9) (N := 5) hx hb hB cx_inX9 hown hK TH hm1 hk1 rfl ⟨by decide, rfl⟩ 2 (by decide) cw_42 (fun _ h9 => h9) dX10_readFrom_91 (fun hv => ?_)
                rw [hxi32]
                refine lv_iconst (v := 4) hx hb dX10_readFrom_94 (by decide) ?_
                have hJ113 : ∀  (Eg113 : Nat → va_E) (H : Heap) (locs : List Loc) (ls : Array Slot), tw_fr kp L [(9, 2), (9, 3), (9, 4)] [102] E29 Eg113 → up_ok Eg113 a0 (zfxc27_0_0.toInt) → tw_H D cs kp L Eg113 A H → va_S A s.heap H locs → lv_has ls 7 [(5, .int y20_5), (4, .int y20_4), (3, .int y20_3), (0, .ref a0), (1, .ref a1), (2, .ref a2)] → W p l e { frames := 7, cells := 0, slots := 0, locals := 147 } s m [.ref a0, .ref a1, .ref a2].toArray below meth c H locs 0 0 (MQ below (tw_Q D cs kp0 L0 (fun v kq Lq Eq => (∃ x : Int32, v = some (.int x) ∧ (-1) ≤ x.toInt ∧ x.toInt ≤ 500) ∧ kp = kq ∧ L = Lq ∧ tw_fr kp L [(9, 2), (9, 3), (9, 4), (10, 0)] [102, 110, 111, 114] E Eq) A) [.ref a0, .ref a1, .ref a2].toArray s 0 0 A) (F0 m 113 ls []) := by
                  intro Eg113 H locs ls hG113 hzgxc27_0_0 TH hS hl
                  have hF := hF.tr hG113 (fun _ h => ⟨h, rfl⟩) (by decide) (by decide)
                  have hG20 := hG20.tr hG113 (fun _ h => ⟨h, rfl⟩) (by decide) (by decide)
                  have hmf35 : tw_fv Eg113 a0 0 = .int zfxc27_0_0 := (hG113.1 a0 0 hm0 (by rw [hk0]; decide)).trans hmf31
                  refine lv_aload_n hx hb dX10_readFrom_113 rfl (lv_at hl 4 rfl) ?_
                  refine tw_get (ci := 9) (C := RX9) (T := TX9) (N := 5) hx hb hB cx_inX9 hown hK TH hm1 hk1 rfl ⟨by decide, rfl⟩ 2 (by decide) cw_42 (fun _ h9 => h9) dX10_readFrom_114 (fun hv => ?_)
                  obtain ⟨xi36, hxi36, hxi36a, hxi36b⟩ : ∃ x : Int32, tw_fv Eg113 a1 2 = .int x ∧ 0 ≤ x.toInt ∧ x.toInt ≤ 255 := hv
                  rw [hxi36]
                  refine lv_bipush (v := 40) hx hb dX10_readFrom_117 (by decide) ?_
                  have hJ210 : ∀ (y210_4 : Int32) (y210_3 : Int32) (Eg210 : Nat → va_E) (H : Heap) (locs : List Loc) (ls : Array Slot), (-1) ≤ y210_4.toInt → y210_4.toInt ≤ 149 → 2 ≤ y210_3.toInt → y210_3.toInt ≤ 8 → (y210_4.toInt < zfxc27_0_0.toInt) → tw_fr kp L [(9, 2), (9, 3), (9, 4)] [] Eg113 Eg210 → up_ok Eg210 a0 (zfxc27_0_0.toInt) → tw_H D cs kp L Eg210 A H → va_S A s.heap H locs → lv_has ls 7 [(5, .int y20_5), (4, .int y210_4), (3, .int y210_3), (0, .ref a0), (1, .ref a1), (2, .ref a2)] → W p l e { frames := 7, cells := 0, slots := 0, locals := 147 } s m [.ref a0, .ref a1, .ref a2].toArray below meth c H locs 0 0 (MQ below (tw_Q D cs kp0 L0 (fun v kq Lq Eq => (∃ x : Int32, v = some (.int x) ∧ (-1) ≤ x.toInt ∧ x.toInt ≤ 500) ∧ kp = kq ∧ L = Lq ∧ tw_fr kp L [(9, 2), (9, 3), (9, 4), (10, 0)] [102, 110, 111, 114] E Eq) A) [.ref a0, .ref a1, .ref a2].toArray s 0 0 A) (F0 m 210 ls []) := by
                    intro y210_4 y210_3 Eg210 H locs ls hy210_4a hy210_4b hy210_3a hy210_3b hin210_0 hG210 hzgxc27_0_0 TH hS hl
                    have hF := hF.tr hG210 (fun _ h => ⟨h, rfl⟩) (by decide) (by decide)
                    have hG20 := hG20.tr hG210 (fun _ h => ⟨h, rfl⟩) (by decide) (by decide)
                    have hmf37 : tw_fv Eg210 a0 0 = .int zfxc27_0_0 := (hG210.1 a0 0 hm0 (by rw [hk0]; decide)).trans hmf35
                    obtain ⟨zi38, ezi38⟩ : ∃ z : Int32, z = y20_5 + Int32.ofInt 1 := ⟨_, rfl⟩
                    have hzi38 : zi38.toInt = y20_5.toInt + 1 := by rw [ezi38]; have : ((Int32.ofInt 1).toInt) = 1 := (by decide);  exact (ia_add (by omega) (by omega)).trans (by omega)
                    refine lv_iinc (v := zi38) (lv' := [(5, .int zi38), (4, .int y210_4), (3, .int y210_3), (0, .ref a0), (1, .ref a1), (2, .ref a2)]) hx hb dX10_readFrom_210 hl (k := 0) rfl ezi38.symm (by decide) rfl (fun ls hl => ?_)
                    refine lv_goto (tgt := 20) hx hb dX10_readFrom_213 (by decide) ?_
                    exact ih20 (n20 - 1) (by   omega) zi38 y210_4 y210_3 zfxc27_0_0 _ _ _ ls (by omega) (by omega) (by omega) (by omega) (by omega) (by omega) (by omega) (by omega) (by  omega) (by  omega) (by   omega) hmf37 hG20 (up_ok_cast (by  omega) hzgxc27_0_0) TH hS (lv_sub hl [0, 1, 2, 3, 4, 5] rfl)
                  have hG210 : tw_fr kp L [(9, 2), (9, 3), (9, 4)] [] Eg113 Eg113 := tw_fr.rf
                  refine lv_icmp_ne (tgt := 147) hx hb dX10_readFrom_119 (by decide) (fun hc39 => ?_) (fun hc39 => ?_)
                  · have hf40 : ¬ (xi36.toInt = 40) := fun q => hc39 ((fa_eq _ _).mpr (by have : ((40 : Int32).toInt) = 40 := (by decide); omega))
                    have hJ147 : ∀ (n147 : Nat) (y147_4 : Int32) (y147_3 : Int32) (Eg147 : Nat → va_E) (H : Heap) (locs : List Loc) (ls : Array Slot), (-1) ≤ y147_4.toInt → y147_4.toInt ≤ 149 → 1 ≤ y147_3.toInt → y147_3.toInt ≤ 8 → (zfxc27_0_0.toInt = y20_5.toInt + 1) → (y147_4.toInt < zfxc27_0_0.toInt) → y147_3.toInt ≤ (n147 : Int) → tw_fr kp L [(9, 2), (9, 3), (9, 4)] [] Eg113 Eg147 → up_ok Eg147 a0 (zfxc27_0_0.toInt) → tw_H D cs kp L Eg147 A H → va_S A s.heap H locs → lv_has ls 7 [(5, .int y20_5), (4, .int y147_4), (3, .int y147_3), (0, .ref a0), (1, .ref a1), (2, .ref a2)] → W p l e { frames := 7, cells := 0, slots := 0, locals := 147 } s m [.ref a0, .ref a1, .ref a2].toArray below meth c H locs 0 0 (MQ below (tw_Q D cs kp0 L0 (fun v kq Lq Eq => (∃ x : Int32, v = some (.int x) ∧ (-1) ≤ x.toInt ∧ x.toInt ≤ 500) ∧ kp = kq ∧ L = Lq ∧ tw_fr kp L [(9, 2), (9, 3), (9, 4), (10, 0)] [102, 110, 111, 114] E Eq) A) [.ref a0, .ref a1, .ref a2].toArray s 0 0 A) (F0 m 147 ls []) := by
                      intro n147
                      induction n147 using Nat.strongRecOn with
                      | _ n147 ih147 =>
                        intro y147_4 y147_3 Eg147 H locs ls hy147_4a hy147_4b hy147_3a hy147_3b hin147_0 hin147_1 hmeas147 hG147 hzgxc27_0_0 TH hS hl
                        have hF := hF.tr hG147 (fun _ h => ⟨h, rfl⟩) (by decide) (by decide)
                        have hG20 := hG20.tr hG147 (fun _ h => ⟨h, rfl⟩) (by decide) (by decide)
                        have hG210 := hG210.tr hG147 (fun _ h => ⟨h, rfl⟩) (by decide) (by decide)
                        have hmf41 : tw_fv Eg147 a0 0 = .int zfxc27_0_0 := (hG147.1 a0 0 hm0 (by rw [hk0]; decide)).trans hmf35
                        refine lv_iload_n hx hb dX10_readFrom_147 rfl (lv_at hl 2 rfl) ?_
                        refine lv_iconst (v := 1) hx hb dX10_readFrom_148 (by decide) ?_
                        have hJ189 : ∀  (H : Heap) (locs : List Loc) (ls : Array Slot), tw_H D cs kp L Eg147 A H → va_S A s.heap H locs → lv_has ls 7 [(5, .int y20_5), (4, .int y147_4), (3, .int y147_3), (0, .ref a0), (1, .ref a1), (2, .ref a2)] → W p l e { frames := 7, cells := 0, slots := 0, locals := 147 } s m [.ref a0, .ref a1, .ref a2].toArray below meth c H locs 0 0 (MQ below (tw_Q D cs kp0 L0 (fun v kq Lq Eq => (∃ x : Int32, v = some (.int x) ∧ (-1) ≤ x.toInt ∧ x.toInt ≤ 500) ∧ kp = kq ∧ L = Lq ∧ tw_fr kp L [(9, 2), (9, 3), (9, 4), (10, 0)] [102, 110, 111, 114] E Eq) A) [.ref a0, .ref a1, .ref a2].toArray s 0 0 A) (F0 m 189 ls []) := by
                          intro H locs ls TH hS hl
                          refine lv_iload_n hx hb dX10_readFrom_189 rfl (lv_at hl 2 rfl) ?_
                          refine lv_iconst (v := 1) hx hb dX10_readFrom_190 (by decide) ?_
                          refine lv_icmp_ne (tgt := 210) hx hb dX10_readFrom_191 (by decide) (fun hc42 => ?_) (fun hc42 => ?_)
                          · have hf43 : ¬ (y147_3.toInt = 1) := fun q => hc42 ((fa_eq _ _).mpr (by have : ((1 : Int32).toInt) = 1 := (by decide); omega))
                            exact hJ210 y147_4 y147_3 _ _ _ ls (by omega) (by omega) (by omega) (by omega) (by  omega) hG210 hzgxc27_0_0 TH hS (lv_sub hl [0, 1, 2, 3, 4, 5] rfl)
                          · have hf44 : y147_3.toInt = 1 := by have z := (fa_eq _ _).mp hc42; have : ((1 : Int32).toInt) = 1 := (by decide); omega
                            refine lv_aload_n hx hb dX10_readFrom_194 rfl (lv_at hl 4 rfl) ?_
                            refine tw_get (ci := 9) (C := RX9) (T := TX9) (N := 5) hx hb hB cx_inX9 hown hK TH hm1 hk1 rfl ⟨by decide, rfl⟩ 2 (by decide) cw_42 (fun _ h9 => h9) dX10_readFrom_195 (fun hv => ?_)
                            obtain ⟨xi45, hxi45, hxi45a, hxi45b⟩ : ∃ x : Int32, tw_fv Eg147 a1 2 = .int x ∧ 0 ≤ x.toInt ∧ x.toInt ≤ 255 := hv
                            rw [hxi45]
                            refine lv_if_ne (tgt := 205) hx hb dX10_readFrom_198 (by decide) (fun hc46 => ?_) (fun hc46 => ?_)
                            · have hf47 : ¬ (xi45.toInt = 0) := fun q => hc46 ((fa_eq _ _).mpr (by have : ((0 : Int32).toInt) = 0 := (by decide); omega))
                              refine lv_aload_n hx hb dX10_readFrom_205 rfl (lv_at hl 4 rfl) ?_
                              refine tw_get (ci := 9) (C := RX9) (T := TX9) (N := 5) hx hb hB cx_inX9 hown hK TH hm1 hk1 rfl ⟨by decide, rfl⟩ 3 (by decide) cw_45 (fun _ h9 => h9) dX10_readFrom_206 (fun hv => ?_)
                              obtain ⟨xi48, hxi48, hxi48a, hxi48b⟩ : ∃ x : Int32, tw_fv Eg147 a1 3 = .int x ∧ 0 ≤ x.toInt ∧ x.toInt ≤ 500 := hv
                              rw [hxi48]
                              exact tw_iret hx hb hr hlocks TH hS hex ⟨⟨_, rfl, (show (-1) ≤ Int32.toInt xi48 from by  omega), (show Int32.toInt xi48 ≤ 500 from by  omega)⟩, rfl, rfl, hF⟩ (Nat.le_of_ble_eq_true rfl) (Nat.le_of_ble_eq_true rfl) dX10_readFrom_209
                            · have hf49 : xi45.toInt = 0 := by have z := (fa_eq _ _).mp hc46; have : ((0 : Int32).toInt) = 0 := (by decide); omega
                              refine lv_iconst (v := (-1)) hx hb dX10_readFrom_201 (by decide) ?_
                              refine lv_goto (tgt := 209) hx hb dX10_readFrom_202 (by decide) ?_
                              exact tw_iret hx hb hr hlocks TH hS hex ⟨⟨_, rfl, (show (-1) ≤ Int32.toInt (-1) from by have : (((-1) : Int32).toInt) = (-1) := (by decide); omega), (show Int32.toInt (-1) ≤ 500 from by have : (((-1) : Int32).toInt) = (-1) := (by decide); omega)⟩, rfl, rfl, hF⟩ (Nat.le_of_ble_eq_true rfl) (Nat.le_of_ble_eq_true rfl) dX10_readFrom_209
                        refine lv_icmp_le (tgt := 189) hx hb dX10_readFrom_149 (by decide) (fun hc50 => ?_) (fun hc50 => ?_)
                        · have hf51 : y147_3.toInt ≤ 1 := by have z := (fa_le _ _).mp hc50; have : ((1 : Int32).toInt) = 1 := (by decide); omega
                          exact hJ189  _ _ ls  TH hS (lv_sub hl [0, 1, 2, 3, 4, 5] rfl)
                        · have hf52 : ¬ (y147_3.toInt ≤ 1) := fun q => hc50 ((fa_le _ _).mpr (by have : ((1 : Int32).toInt) = 1 := (by decide); omega))
                          refine lv_aload_n hx hb dX10_readFrom_152 rfl (lv_at hl 4 rfl) ?_
                          refine tw_get (ci := 9) (C := RX9) (T := TX9) (N := 5) hx hb hB cx_inX9 hown hK TH hm1 hk1 rfl ⟨by decide, rfl⟩ 2 (by decide) cw_42 (fun _ h9 => h9) dX10_readFrom_153 (fun hv => ?_)
                          obtain ⟨xi53, hxi53, hxi53a, hxi53b⟩ : ∃ x : Int32, tw_fv Eg147 a1 2 = .int x ∧ 0 ≤ x.toInt ∧ x.toInt ≤ 255 := hv
                          rw [hxi53]
                          refine lv_bipush (v := 41) hx hb dX10_readFrom_156 (by decide) ?_
                          refine lv_icmp_ne (tgt := 189) hx hb dX10_readFrom_158 (by decide) (fun hc54 => ?_) (fun hc54 => ?_)
                          · have hf55 : ¬ (xi53.toInt = 41) := fun q => hc54 ((fa_eq _ _).mpr (by have : ((41 : Int32).toInt) = 41 := (by decide); omega))
                            exact hJ189  _ _ ls  TH hS (lv_sub hl [0, 1, 2, 3, 4, 5] rfl)
                          · have hf56 : xi53.toInt = 41 := by have z := (fa_eq _ _).mp hc54; have : ((41 : Int32).toInt) = 41 := (by decide); omega
                            obtain ⟨zi57, ezi57⟩ : ∃ z : Int32, z = y147_3 + Int32.ofInt (-1) := ⟨_, rfl⟩
                            have hzi57 : zi57.toInt = y147_3.toInt + (-1) := by rw [ezi57]; have : ((Int32.ofInt (-1)).toInt) = (-1) := (by decide);  exact (ia_add (by omega) (by omega)).trans (by omega)
                            refine lv_iinc (v := zi57) (lv' := [(3, .int zi57), (5, .int y20_5), (4, .int y147_4), (0, .ref a0), (1, .ref a1), (2, .ref a2)]) hx hb dX10_readFrom_161 hl (k := 2) rfl ezi57.symm (by decide) rfl (fun ls hl => ?_)
                            refine lv_iload hx hb dX10_readFrom_164 (lv_at hl 2 rfl) ?_
                            have hJ180 : ∀ (z180_0 : Int32) (H : Heap) (locs : List Loc) (ls : Array Slot), (-1) ≤ z180_0.toInt → z180_0.toInt ≤ 149 → (z180_0.toInt < zfxc27_0_0.toInt) → tw_H D cs kp L Eg147 A H → va_S A s.heap H locs → lv_has ls 7 [(3, .int zi57), (5, .int y20_5), (0, .ref a0), (1, .ref a1), (2, .ref a2)] → W p l e { frames := 7, cells := 0, slots := 0, locals := 147 } s m [.ref a0, .ref a1, .ref a2].toArray below meth c H locs 0 0 (MQ below (tw_Q D cs kp0 L0 (fun v kq Lq Eq => (∃ x : Int32, v = some (.int x) ∧ (-1) ≤ x.toInt ∧ x.toInt ≤ 500) ∧ kp = kq ∧ L = Lq ∧ tw_fr kp L [(9, 2), (9, 3), (9, 4), (10, 0)] [102, 110, 111, 114] E Eq) A) [.ref a0, .ref a1, .ref a2].toArray s 0 0 A) (F0 m 180 ls [.int z180_0]) := by
                              intro z180_0 H locs ls hz180_0a hz180_0b hin180_0 TH hS hl
                              refine lv_istore (lv' := [(4, .int z180_0), (3, .int zi57), (5, .int y20_5), (0, .ref a0), (1, .ref a1), (2, .ref a2)]) hx hb dX10_readFrom_180 hl (by decide) rfl (fun ls hl => ?_)
                              refine lv_aload_n hx hb dX10_readFrom_182 rfl (lv_at hl 4 rfl) ?_
                              refine tw_Vc (o := a1) (ci := 9) (n := 0) (post := (fun v kq Lq Eq => v = none ∧ kp = kq ∧ L = Lq ∧ tw_fr kp L [(9, 2), (9, 3), (9, 4)] [] Eg147 Eq ∧ (∃ z0 z1 : Int32, tw_fv Eq a1 3 = .int z0 ∧ tw_fv Eq a1 4 = .int z1 ∧ (z0.toInt ≤ z1.toInt)))) (As := []) (rest := []) ⟨hx, hb, hml, hown, hB⟩ (fun sz => tX9_advance l D cs a1 hm1 hk1 sz) cg_10_50_X9_advance rfl rfl (by decide +kernel) ⟨Nat.le_of_ble_eq_true rfl, Nat.le_of_ble_eq_true rfl⟩ hK hN TH hS hA rfl hm1 hk1 (by decide) rfl hl.1 rfl (Nat.le_of_ble_eq_true rfl) dX10_readFrom_183 ⟨Nat.le_of_ble_eq_true rfl, Nat.le_of_ble_eq_true rfl⟩ (fun v58 kp58 L58 E58 H locs hq58 hx58 TH hS => ?_)
                              obtain ⟨rfl, rfl, rfl, hst58, ⟨zfxc59_0_0, zfxc59_0_1, hzfxc59_0_0, hzfxc59_0_1, hzpxc59_0⟩⟩ := hq58
                              have hF := hF.tr hst58 (fun _ h => ⟨h, rfl⟩) (by decide) (by decide)
                              have hG20 := hG20.tr hst58 (fun _ h => ⟨h, rfl⟩) (by decide) (by decide)
                              have hG210 := hG210.tr hst58 (fun _ h => ⟨h, rfl⟩) (by decide) (by decide)
                              have hG147 := hG147.tr hst58 (fun _ h => ⟨h, rfl⟩) (by decide) (by decide)
                              have hmf60 : tw_fv E58 a0 0 = .int zfxc27_0_0 := (hst58.1 a0 0 hm0 (by rw [hk0]; decide)).trans hmf41
                              have hzgxc27_0_0 : up_ok E58 a0 (zfxc27_0_0.toInt) := up_ok_fr TH hst58 hm0 hk0 (by decide) (by decide) hzgxc27_0_0
                              obtain ⟨qzfxc59_0_0, hqzfxc59_0_0, hqzfxc59_0_0a, hqzfxc59_0_0b⟩ := tw_rd TH hm1 hk1 (by decide) (by decide) (k := 3) rfl
                              have eqzfxc59_0_0 : qzfxc59_0_0 = zfxc59_0_0 := by have q := hqzfxc59_0_0.symm.trans hzfxc59_0_0; injection q
                              rw [eqzfxc59_0_0] at hqzfxc59_0_0a hqzfxc59_0_0b
                              obtain ⟨qzfxc59_0_1, hqzfxc59_0_1, hqzfxc59_0_1a, hqzfxc59_0_1b⟩ := tw_rd TH hm1 hk1 (by decide) (by decide) (k := 4) rfl
                              have eqzfxc59_0_1 : qzfxc59_0_1 = zfxc59_0_1 := by have q := hqzfxc59_0_1.symm.trans hzfxc59_0_1; injection q
                              rw [eqzfxc59_0_1] at hqzfxc59_0_1a hqzfxc59_0_1b
                              refine W.eq (g2 := F0 m 186 ls []) rfl ?_
                              refine lv_goto (tgt := 147) hx hb dX10_readFrom_186 (by decide) ?_
                              exact ih147 (n147 - 1) (by   omega) z180_0 zi57 _ _ _ ls (by omega) (by omega) (by omega) (by omega) (by  omega) (by  omega) (by   omega) hG147 hzgxc27_0_0 TH hS (lv_sub hl [2, 0, 1, 3, 4, 5] rfl)
                            refine lv_if_ge (tgt := 173) hx hb dX10_readFrom_166 (by decide) (fun hc61 => ?_) (fun hc61 => ?_)
                            · have hf62 : 0 ≤ y147_4.toInt := by have z := (fa_le _ _).mp hc61; have : ((0 : Int32).toInt) = 0 := (by decide); omega
                              refine lv_aload_n hx hb dX10_readFrom_173 rfl (lv_at hl 3 rfl) ?_
                              refine tw_get (ci := 10) (C := RX10) (T := TX10) (N := 8) hx hb hB cx_inX10 hown hK TH hm0 hk0 rfl ⟨by decide, rfl⟩ 2 (by decide) cw_127 (fun _ h9 => h9) dX10_readFrom_174 (fun hv => ?_)
                              obtain ⟨xr63, hxr63, hmxr63, hkxr63⟩ : ∃ a : Nat, tw_fv Eg147 a0 2 = .ref a ∧ a ∈ L ∧ kp a = 111 := hv
                              rw [hxr63]
                              refine lv_iload hx hb dX10_readFrom_177 (lv_at hl 2 rfl) ?_
                              refine tw_iald (k := 111) (t0 := 0) (n := 40) (lo := (-1)) (hi := 149) hx hb hK TH hmxr63 hkxr63 (by decide) rfl rfl (i := y147_4) (vp_in_iff.mpr ⟨by  omega, by  omega⟩) dX10_readFrom_179 (fun hxe64a hxe64b => ?_)
                              obtain ⟨xe64, exe64⟩ : ∃ z : Int32, tw_iv Eg147 xr63 (Int32.toNatClampNeg y147_4) = z := ⟨_, rfl⟩
                              rw [exe64] at hxe64a hxe64b ⊢
                              have hnt := ia_tn (i := y147_4) (by omega)
                              have htt := hzgxc27_0_0 (Int32.toNatClampNeg y147_4) (by omega)
                              rw [tw_el_of hxr63, exe64] at htt
                              exact hJ180 xe64 _ _ ls (by omega) (by omega) (by  omega) TH hS (lv_sub hl [0, 1, 3, 4, 5] rfl)
                            · have hf65 : ¬ (0 ≤ y147_4.toInt) := fun q => hc61 ((fa_le _ _).mpr (by have : ((0 : Int32).toInt) = 0 := (by decide); omega))
                              refine lv_iconst (v := (-1)) hx hb dX10_readFrom_169 (by decide) ?_
                              refine lv_goto (tgt := 180) hx hb dX10_readFrom_170 (by decide) ?_
                              exact hJ180 ((-1) : Int32) _ _ ls (by have : (((-1) : Int32).toInt) = (-1) := (by decide); omega) (by have : (((-1) : Int32).toInt) = (-1) := (by decide); omega) (by have : (((-1) : Int32).toInt) = (-1) := (by decide); omega) TH hS (lv_sub hl [0, 1, 3, 4, 5] rfl)
                    exact hJ147 9 y20_4 y20_3 _ _ _ ls (by omega) (by omega) (by omega) (by omega) (by  omega) (by  omega) (by   omega) tw_fr.rf hzgxc27_0_0 TH hS (lv_sub hl [0, 1, 2, 3, 4, 5] rfl)
                  · have hf66 : xi36.toInt = 40 := by have z := (fa_eq _ _).mp hc39; have : ((40 : Int32).toInt) = 40 := (by decide); omega
                    refine lv_iload_n hx hb dX10_readFrom_122 rfl (lv_at hl 2 rfl) ?_
                    refine lv_bipush (v := 8) hx hb dX10_readFrom_123 (by decide) ?_
                    refine lv_icmp_lt (tgt := 133) hx hb dX10_readFrom_125 (by decide) (fun hc67 => ?_) (fun hc67 => ?_)
                    · have hf68 : y20_3.toInt < 8 := by have z := (fa_lt _ _).mp hc67; have : ((8 : Int32).toInt) = 8 := (by decide); omega
                      obtain ⟨zi69, ezi69⟩ : ∃ z : Int32, z = y20_3 + Int32.ofInt 1 := ⟨_, rfl⟩
                      have hzi69 : zi69.toInt = y20_3.toInt + 1 := by rw [ezi69]; have : ((Int32.ofInt 1).toInt) = 1 := (by decide);  exact (ia_add (by omega) (by omega)).trans (by omega)
                      refine lv_iinc (v := zi69) (lv' := [(3, .int zi69), (5, .int y20_5), (4, .int y20_4), (0, .ref a0), (1, .ref a1), (2, .ref a2)]) hx hb dX10_readFrom_133 hl (k := 2) rfl ezi69.symm (by decide) rfl (fun ls hl => ?_)
                      refine lv_iload hx hb dX10_readFrom_136 (lv_at hl 1 rfl) ?_
                      refine lv_istore (lv' := [(4, .int y20_5), (3, .int zi69), (5, .int y20_5), (0, .ref a0), (1, .ref a1), (2, .ref a2)]) hx hb dX10_readFrom_138 hl (by decide) rfl (fun ls hl => ?_)
                      refine lv_aload_n hx hb dX10_readFrom_140 rfl (lv_at hl 4 rfl) ?_
                      refine tw_Vc (o := a1) (ci := 9) (n := 0) (post := (fun v kq Lq Eq => v = none ∧ kp = kq ∧ L = Lq ∧ tw_fr kp L [(9, 2), (9, 3), (9, 4)] [] Eg113 Eq ∧ (∃ z0 z1 : Int32, tw_fv Eq a1 3 = .int z0 ∧ tw_fv Eq a1 4 = .int z1 ∧ (z0.toInt ≤ z1.toInt)))) (As := []) (rest := []) ⟨hx, hb, hml, hown, hB⟩ (fun sz => tX9_advance l D cs a1 hm1 hk1 sz) cg_10_50_X9_advance rfl rfl (by decide +kernel) ⟨Nat.le_of_ble_eq_true rfl, Nat.le_of_ble_eq_true rfl⟩ hK hN TH hS hA rfl hm1 hk1 (by decide) rfl hl.1 rfl (Nat.le_of_ble_eq_true rfl) dX10_readFrom_141 ⟨Nat.le_of_ble_eq_true rfl, Nat.le_of_ble_eq_true rfl⟩ (fun v70 kp70 L70 E70 H locs hq70 hx70 TH hS => ?_)
                      obtain ⟨rfl, rfl, rfl, hst70, ⟨zfxc71_0_0, zfxc71_0_1, hzfxc71_0_0, hzfxc71_0_1, hzpxc71_0⟩⟩ := hq70
                      have hF := hF.tr hst70 (fun _ h => ⟨h, rfl⟩) (by decide) (by decide)
                      have hG20 := hG20.tr hst70 (fun _ h => ⟨h, rfl⟩) (by decide) (by decide)
                      have hG210 := hG210.tr hst70 (fun _ h => ⟨h, rfl⟩) (by decide) (by decide)
                      have hmf72 : tw_fv E70 a0 0 = .int zfxc27_0_0 := (hst70.1 a0 0 hm0 (by rw [hk0]; decide)).trans hmf35
                      have hzgxc27_0_0 : up_ok E70 a0 (zfxc27_0_0.toInt) := up_ok_fr TH hst70 hm0 hk0 (by decide) (by decide) hzgxc27_0_0
                      obtain ⟨qzfxc71_0_0, hqzfxc71_0_0, hqzfxc71_0_0a, hqzfxc71_0_0b⟩ := tw_rd TH hm1 hk1 (by decide) (by decide) (k := 3) rfl
                      have eqzfxc71_0_0 : qzfxc71_0_0 = zfxc71_0_0 := by have q := hqzfxc71_0_0.symm.trans hzfxc71_0_0; injection q
                      rw [eqzfxc71_0_0] at hqzfxc71_0_0a hqzfxc71_0_0b
                      obtain ⟨qzfxc71_0_1, hqzfxc71_0_1, hqzfxc71_0_1a, hqzfxc71_0_1b⟩ := tw_rd TH hm1 hk1 (by decide) (by decide) (k := 4) rfl
                      have eqzfxc71_0_1 : qzfxc71_0_1 = zfxc71_0_1 := by have q := hqzfxc71_0_1.symm.trans hzfxc71_0_1; injection q
                      rw [eqzfxc71_0_1] at hqzfxc71_0_1a hqzfxc71_0_1b
                      refine W.eq (g2 := F0 m 144 ls []) rfl ?_
                      refine lv_goto (tgt := 210) hx hb dX10_readFrom_144 (by decide) ?_
                      exact hJ210 y20_5 zi69 _ _ _ ls (by omega) (by omega) (by omega) (by omega) (by  omega) hG210 hzgxc27_0_0 TH hS (lv_sub hl [2, 0, 1, 3, 4, 5] rfl)
                    · have hf73 : ¬ (y20_3.toInt < 8) := fun q => hc67 ((fa_lt _ _).mpr (by have : ((8 : Int32).toInt) = 8 := (by decide); omega))
                      refine lv_aload_n hx hb dX10_readFrom_128 rfl (lv_at hl 4 rfl) ?_
                      refine tw_get (ci := 9) (C := RX9) (T := TX9) (N := 5) hx hb hB cx_inX9 hown hK TH hm1 hk1 rfl ⟨by decide, rfl⟩ 3 (by decide) cw_45 (fun _ h9 => h9) dX10_readFrom_129 (fun hv => ?_)
                      obtain ⟨xi74, hxi74, hxi74a, hxi74b⟩ : ∃ x : Int32, tw_fv Eg113 a1 3 = .int x ∧ 0 ≤ x.toInt ∧ x.toInt ≤ 500 := hv
                      rw [hxi74]
                      exact tw_iret hx hb hr hlocks TH hS hex ⟨⟨_, rfl, (show (-1) ≤ Int32.toInt xi74 from by  omega), (show Int32.toInt xi74 ≤ 500 from by  omega)⟩, rfl, rfl, hF⟩ (Nat.le_of_ble_eq_true rfl) (Nat.le_of_ble_eq_true rfl) dX10_readFrom_132
                have hG113 : tw_fr kp L [(9, 2), (9, 3), (9, 4)] [102] E29 E29 := tw_fr.rf
                refine lv_icmp_ne (tgt := 113) hx hb dX10_readFrom_95 (by decide) (fun hc75 => ?_) (fun hc75 => ?_)
                · have hf76 : ¬ (xi32.toInt = 4) := fun q => hc75 ((fa_eq _ _).mpr (by have : ((4 : Int32).toInt) = 4 := (by decide); omega))
                  exact hJ113  _ _ _ ls hG113 hzgxc27_0_0 TH hS (lv_sub hl [1, 2, 3, 4, 5, 6] rfl)
                · have hf77 : xi32.toInt = 4 := by have z := (fa_eq _ _).mp hc75; have : ((4 : Int32).toInt) = 4 := (by decide); omega
                  refine lv_aload_n hx hb dX10_readFrom_98 rfl (lv_at hl 4 rfl) ?_
                  refine tw_get (ci := 10) (C := RX10) (T := TX10) (N := 8) hx hb hB cx_inX10 hown hK TH hm0 hk0 rfl ⟨by decide, rfl⟩ 6 (by decide) cw_144 (fun _ h9 => h9) dX10_readFrom_99 (fun hv => ?_)
                  obtain ⟨xr78, hxr78, hmxr78, hkxr78⟩ : ∃ a : Nat, tw_fv E29 a0 6 = .ref a ∧ a ∈ L ∧ kp a = 102 := hv
                  rw [hxr78]
                  refine lv_iload hx hb dX10_readFrom_102 (lv_at hl 1 rfl) ?_
                  refine lv_aload_n hx hb dX10_readFrom_104 rfl (lv_at hl 5 rfl) ?_
                  refine tw_Vc (o := a1) (ci := 9) (n := 0) (post := (fun v kq Lq Eq => (∃ x : Int64, v = some (.long x)) ∧ kp = kq ∧ L = Lq ∧ E29 = Eq)) (As := []) (rest := [.int y20_5, .ref xr78]) ⟨hx, hb, hml, hown, hB⟩ (fun sz => tX9_wordHere l D cs a1 hm1 hk1 sz) cg_10_72_X9_wordHere rfl rfl (by decide +kernel) ⟨Nat.le_of_ble_eq_true rfl, Nat.le_of_ble_eq_true rfl⟩ hK hN TH hS hA rfl hm1 hk1 (by decide) rfl hl.1 rfl (Nat.le_of_ble_eq_true rfl) dX10_readFrom_105 ⟨Nat.le_of_ble_eq_true rfl, Nat.le_of_ble_eq_true rfl⟩ (fun v79 kp79 L79 E79 H locs hq79 hx79 TH hS => ?_)
                  obtain ⟨⟨xc80, rfl⟩, rfl, rfl, rfl⟩ := hq79
                  refine W.eq (g2 := F0 m 108 ls [.long xc80, .int y20_5, .ref xr78]) rfl ?_
                  refine tw_last (k := 102) (n := 40) (lo := 0) (hi := 0) hx hb hK TH hS hmxr78 hkxr78 (by decide) rfl (i := y20_5) (x := xc80) (vp_in_iff.mpr ⟨by  omega, by  omega⟩) dX10_readFrom_108 (fun H locs E81 TH hS hp82 hp83  => ?_)
                  have hst84 : tw_fr kp L [] [102] E29 E81 := tw_fr.ast tw_fr.rf (fun _ => hkxr78) hp82 hp83 (by decide)
                  have hF := hF.tr hst84 (fun _ h => ⟨h, rfl⟩) (by decide) (by decide)
                  have hG20 := hG20.tr hst84 (fun _ h => ⟨h, rfl⟩) (by decide) (by decide)
                  have hG113 := hG113.tr hst84 (fun _ h => ⟨h, rfl⟩) (by decide) (by decide)
                  have hmf85 : tw_fv E81 a0 0 = .int zfxc27_0_0 := (hst84.1 a0 0 hm0 (by rw [hk0]; decide)).trans hmf31
                  have hmf86 : tw_fv E81 a1 3 = .int zfxc30_0_0 := (hst84.1 a1 3 hm1 (by rw [hk1]; decide)).trans hzfxc30_0_0
                  have hmf87 : tw_fv E81 a1 4 = .int zfxc30_0_1 := (hst84.1 a1 4 hm1 (by rw [hk1]; decide)).trans hzfxc30_0_1
                  have hmf88 : tw_fv E81 a1 2 = .int xi32 := (hst84.1 a1 2 hm1 (by rw [hk1]; decide)).trans hxi32
                  have hmf89 : tw_fv E81 a0 6 = .ref xr78 := (hst84.1 a0 6 hm0 (by rw [hk0]; decide)).trans hxr78
                  have hzgxc27_0_0 : up_ok E81 a0 (zfxc27_0_0.toInt) := up_ok_fr TH hst84 hm0 hk0 (by decide) (by decide) hzgxc27_0_0
                  refine lv_aload_n hx hb dX10_readFrom_109 rfl (lv_at hl 5 rfl) ?_
                  refine tw_Vc (o := a1) (ci := 9) (n := 0) (post := (fun v kq Lq Eq => v = none ∧ kp = kq ∧ L = Lq ∧ tw_fr kp L [(9, 2), (9, 3), (9, 4)] [] E81 Eq ∧ (∃ z0 z1 : Int32, tw_fv Eq a1 3 = .int z0 ∧ tw_fv Eq a1 4 = .int z1 ∧ (z0.toInt ≤ z1.toInt)))) (As := []) (rest := []) ⟨hx, hb, hml, hown, hB⟩ (fun sz => tX9_advance l D cs a1 hm1 hk1 sz) cg_10_50_X9_advance rfl rfl (by decide +kernel) ⟨Nat.le_of_ble_eq_true rfl, Nat.le_of_ble_eq_true rfl⟩ hK hN TH hS hA rfl hm1 hk1 (by decide) rfl hl.1 rfl (Nat.le_of_ble_eq_true rfl) dX10_readFrom_110 ⟨Nat.le_of_ble_eq_true rfl, Nat.le_of_ble_eq_true rfl⟩ (fun v90 kp90 L90 E90 H locs hq90 hx90 TH hS => ?_)
                  obtain ⟨rfl, rfl, rfl, hst90, ⟨zfxc91_0_0, zfxc91_0_1, hzfxc91_0_0, hzfxc91_0_1, hzpxc91_0⟩⟩ := hq90
                  have hF := hF.tr hst90 (fun _ h => ⟨h, rfl⟩) (by decide) (by decide)
                  have hG20 := hG20.tr hst90 (fun _ h => ⟨h, rfl⟩) (by decide) (by decide)
                  have hG113 := hG113.tr hst90 (fun _ h => ⟨h, rfl⟩) (by decide) (by decide)
                  have hmf92 : tw_fv E90 a0 0 = .int zfxc27_0_0 := (hst90.1 a0 0 hm0 (by rw [hk0]; decide)).trans hmf85
                  have hmf93 : tw_fv E90 a0 6 = .ref xr78 := (hst90.1 a0 6 hm0 (by rw [hk0]; decide)).trans hmf89
                  have hzgxc27_0_0 : up_ok E90 a0 (zfxc27_0_0.toInt) := up_ok_fr TH hst90 hm0 hk0 (by decide) (by decide) hzgxc27_0_0
                  obtain ⟨qzfxc91_0_0, hqzfxc91_0_0, hqzfxc91_0_0a, hqzfxc91_0_0b⟩ := tw_rd TH hm1 hk1 (by decide) (by decide) (k := 3) rfl
                  have eqzfxc91_0_0 : qzfxc91_0_0 = zfxc91_0_0 := by have q := hqzfxc91_0_0.symm.trans hzfxc91_0_0; injection q
                  rw [eqzfxc91_0_0] at hqzfxc91_0_0a hqzfxc91_0_0b
                  obtain ⟨qzfxc91_0_1, hqzfxc91_0_1, hqzfxc91_0_1a, hqzfxc91_0_1b⟩ := tw_rd TH hm1 hk1 (by decide) (by decide) (k := 4) rfl
                  have eqzfxc91_0_1 : qzfxc91_0_1 = zfxc91_0_1 := by have q := hqzfxc91_0_1.symm.trans hzfxc91_0_1; injection q
                  rw [eqzfxc91_0_1] at hqzfxc91_0_1a hqzfxc91_0_1b
                  refine W.eq (g2 := F0 m 113 ls []) rfl ?_
                  exact hJ113  _ _ _ ls hG113 hzgxc27_0_0 TH hS (lv_sub hl [1, 2, 3, 4, 5, 6] rfl)
              · have hf94 : xi32.toInt = 5 := by have z := (fa_eq _ _).mp hc33; have : ((5 : Int32).toInt) = 5 := (by decide); omega
                refine lv_aload_n hx hb dX10_readFrom_85 rfl (lv_at hl 5 rfl) ?_
                refine tw_get (ci := 9) (C := RX9) (T := TX9) (N := 5) hx hb hB cx_inX9 hown hK TH hm1 hk1 rfl ⟨by decide, rfl⟩ 1 (by decide) cw_39 (fun _ h9 => h9) dX10_readFrom_86 (fun hv => ?_)
                obtain ⟨xi95, hxi95, hxi95a, hxi95b⟩ : ∃ x : Int32, tw_fv E29 a1 1 = .int x ∧ 0 ≤ x.toInt ∧ x.toInt ≤ 500 := hv
                rw [hxi95]
                exact tw_iret hx hb hr hlocks TH hS hex ⟨⟨_, rfl, (show (-1) ≤ Int32.toInt xi95 from by  omega), (show Int32.toInt xi95 ≤ 500 from by  omega)⟩, rfl, rfl, hF⟩ (Nat.le_of_ble_eq_true rfl) (Nat.le_of_ble_eq_true rfl) dX10_readFrom_89
            · have hf96 : xc14.toInt = (-1) := by have z := (fa_eq _ _).mp hc24; have : (((-1) : Int32).toInt) = (-1) := (by decide); omega
              refine lv_aload_n hx hb dX10_readFrom_57 rfl (lv_at hl 5 rfl) ?_
              refine tw_get (ci := 9) (C := RX9) (T := TX9) (N := 5) hx hb hB cx_inX9 hown hK TH hm1 hk1 rfl ⟨by decide, rfl⟩ 3 (by decide) cw_45 (fun _ h9 => h9) dX10_readFrom_58 (fun hv => ?_)
              obtain ⟨xi97, hxi97, hxi97a, hxi97b⟩ : ∃ x : Int32, tw_fv Eg20 a1 3 = .int x ∧ 0 ≤ x.toInt ∧ x.toInt ≤ 500 := hv
              rw [hxi97]
              exact tw_iret hx hb hr hlocks TH hS hex ⟨⟨_, rfl, (show (-1) ≤ Int32.toInt xi97 from by  omega), (show Int32.toInt xi97 ≤ 500 from by  omega)⟩, rfl, rfl, hF⟩ (Nat.le_of_ble_eq_true rfl) (Nat.le_of_ble_eq_true rfl) dX10_readFrom_61
  exact hJ20 26 (0 : Int32) ((-1) : Int32) (1 : Int32) zfxc2_0_0 _ _ _ ls (by have : ((0 : Int32).toInt) = 0 := (by decide); omega) (by have : ((0 : Int32).toInt) = 0 := (by decide); omega) (by have : (((-1) : Int32).toInt) = (-1) := (by decide); omega) (by have : (((-1) : Int32).toInt) = (-1) := (by decide); omega) (by have : ((1 : Int32).toInt) = 1 := (by decide); omega) (by have : ((1 : Int32).toInt) = 1 := (by decide); omega) (by omega) (by omega) (by have : (((-1) : Int32).toInt) = (-1) := (by decide); have : ((0 : Int32).toInt) = 0 := (by decide); have : ((1 : Int32).toInt) = 1 := (by decide); omega) (by have : (((-1) : Int32).toInt) = (-1) := (by decide); have : ((0 : Int32).toInt) = 0 := (by decide); have : ((1 : Int32).toInt) = 1 := (by decide); omega) (by have : (((-1) : Int32).toInt) = (-1) := (by decide); have : ((0 : Int32).toInt) = 0 := (by decide); have : ((1 : Int32).toInt) = 1 := (by decide);  omega) hmf8 tw_fr.rf (up_ok_cast (by have : (((-1) : Int32).toInt) = (-1) := (by decide); have : ((0 : Int32).toInt) = 0 := (by decide); have : ((1 : Int32).toInt) = 1 := (by decide); omega) hup) TH hS (lv_sub hl [0, 1, 2, 3, 4, 5] rfl)
set_option maxHeartbeats 4000000 in
set_option maxRecDepth 100000 in
theorem tX2_readItems (l : Launch) (D : va_G) (cs : Nat → ClassId) {kp : Nat → Nat} {L : List Nat} {E : Nat → va_E} (a0 : Nat) (a1 : Nat) (x2 : Int32) (fv1_3 : Int32) (fv1_4 : Int32) (fv0_7 : Int32) (hm0 : a0 ∈ L) (hk0 : kp a0 = 2) (hm1 : a1 ∈ L) (hk1 : kp a1 = 9) (hp2a : 0 ≤ x2.toInt) (hp2b : x2.toInt ≤ 1) (hfv1_3 : tw_fv E a1 3 = .int fv1_3) (hfv1_4 : tw_fv E a1 4 = .int fv1_4) (hfv0_7 : tw_fv E a0 7 = .int fv0_7) (hpre0 : fv1_3.toInt ≤ fv1_4.toInt) (sz : Nat) : Met l yX2_readItems (.code yX2_readItems cX2_readItems 3 none :: cx_big) { frames := 7, cells := 0, slots := 0, locals := 147 } (tw_P D cs kp L E [.ref a0, .ref a1, .int x2] sz) (tw_Q D cs kp L (fun v kq Lq Eq => v = none ∧ kp = kq ∧ L = Lq ∧ tw_fr kp L [(2, 7), (9, 2), (9, 3), (9, 4)] [132, 134, 139] E Eq ∧ (∃ z0 : Int32, tw_fv Eq a0 7 = .int z0 ∧ (fv0_7.toInt ≤ z0.toInt)) ∧ (∃ z0 z1 : Int32, tw_fv Eq a1 3 = .int z0 ∧ tw_fv Eq a1 4 = .int z1 ∧ (z0.toInt ≤ z1.toInt))) (va_A (va_pl L E) sz)) 0 0 (va_A (va_pl L E) sz) := by
  refine tw_ofW (by decide) (Nat.le_of_ble_eq_true rfl) ?_
  intro p e s m below meth c A ls hx hb hr hml hB hown hlocks hK hN hA TH hS hl
  have hown : s.vm.findClass "TreeMerge$Grammar" = some m.cls := hown
  have hl : lv_has ls 3 [(0, .ref a0), (1, .ref a1), (2, .int x2)] := hl
  obtain ⟨kp0, ekp⟩ : ∃ z, z = kp := ⟨_, rfl⟩
  obtain ⟨L0, eL⟩ : ∃ z, z = L := ⟨_, rfl⟩
  rw [show tw_Q D cs kp L = tw_Q D cs kp0 L0 by rw [ekp, eL]]
  have hex : ∀ a : Nat, a ∈ L0 → a ∈ L ∧ kp a = kp0 a := fun a h => ⟨by rw [← eL]; exact h, by rw [ekp]⟩
  have hF : tw_fr kp L [(2, 7), (9, 2), (9, 3), (9, 4)] [132, 134, 139] E E := tw_fr.rf
  obtain ⟨qfv1_3, hqfv1_3, hqfv1_3a, hqfv1_3b⟩ := tw_rd TH hm1 hk1 (by decide) (by decide) (k := 3) rfl
  have eqfv1_3 : qfv1_3 = fv1_3 := by have q := hqfv1_3.symm.trans hfv1_3; injection q
  rw [eqfv1_3] at hqfv1_3a hqfv1_3b
  obtain ⟨qfv1_4, hqfv1_4, hqfv1_4a, hqfv1_4b⟩ := tw_rd TH hm1 hk1 (by decide) (by decide) (k := 4) rfl
  have eqfv1_4 : qfv1_4 = fv1_4 := by have q := hqfv1_4.symm.trans hfv1_4; injection q
  rw [eqfv1_4] at hqfv1_4a hqfv1_4b
  obtain ⟨qfv0_7, hqfv0_7, hqfv0_7a, hqfv0_7b⟩ := tw_rd TH hm0 hk0 (by decide) (by decide) (k := 7) rfl
  have eqfv0_7 : qfv0_7 = fv0_7 := by have q := hqfv0_7.symm.trans hfv0_7; injection q
  rw [eqfv0_7] at hqfv0_7a hqfv0_7b
  have hJ0 : ∀ (n0 : Nat) (u0_0_7 : Int32) (u0_1_3 : Int32) (u0_1_4 : Int32) (Eg0 : Nat → va_E) (H : Heap) (locs : List Loc) (ls : Array Slot), 0 ≤ u0_0_7.toInt → u0_0_7.toInt ≤ 500 → 0 ≤ u0_1_3.toInt → u0_1_3.toInt ≤ 500 → 0 ≤ u0_1_4.toInt → u0_1_4.toInt ≤ 500 → (fv0_7.toInt ≤ u0_0_7.toInt) → (u0_1_3.toInt ≤ u0_1_4.toInt) → 500 - u0_0_7.toInt ≤ (n0 : Int) → tw_fv Eg0 a0 7 = .int u0_0_7 → tw_fv Eg0 a1 3 = .int u0_1_3 → tw_fv Eg0 a1 4 = .int u0_1_4 → tw_fr kp L [(2, 7), (9, 2), (9, 3), (9, 4)] [132, 134, 139] E Eg0 → tw_H D cs kp L Eg0 A H → va_S A s.heap H locs → lv_has ls 3 [(0, .ref a0), (1, .ref a1), (2, .int x2)] → W p l e { frames := 7, cells := 0, slots := 0, locals := 147 } s m [.ref a0, .ref a1, .int x2].toArray below meth c H locs 0 0 (MQ below (tw_Q D cs kp0 L0 (fun v kq Lq Eq => v = none ∧ kp = kq ∧ L = Lq ∧ tw_fr kp L [(2, 7), (9, 2), (9, 3), (9, 4)] [132, 134, 139] E Eq ∧ (∃ z0 : Int32, tw_fv Eq a0 7 = .int z0 ∧ (fv0_7.toInt ≤ z0.toInt)) ∧ (∃ z0 z1 : Int32, tw_fv Eq a1 3 = .int z0 ∧ tw_fv Eq a1 4 = .int z1 ∧ (z0.toInt ≤ z1.toInt))) A) [.ref a0, .ref a1, .int x2].toArray s 0 0 A) (F0 m 0 ls []) := by
    intro n0
    induction n0 using Nat.strongRecOn with
    | _ n0 ih0 =>
      intro u0_0_7 u0_1_3 u0_1_4 Eg0 H locs ls hu0_0_7a hu0_0_7b hu0_1_3a hu0_1_3b hu0_1_4a hu0_1_4b hin0_0 hin0_1 hmeas0 hfm0_0 hfm0_1 hfm0_2 hG0 TH hS hl
      have hF := hF.tr hG0 (fun _ h => ⟨h, rfl⟩) (by decide) (by decide)
      refine lv_aload_n hx hb dX2_readItems_0 rfl (lv_at hl 1 rfl) ?_
      refine tw_get (ci := 9) (C := RX9) (T := TX9) (N := 5) hx hb hB cx_inX9 hown hK TH hm1 hk1 rfl ⟨by decide, rfl⟩ 2 (by decide) cw_40 (fun _ h9 => h9) dX2_readItems_1 (fun hv => ?_)
      obtain ⟨xi1, hxi1, hxi1a, hxi1b⟩ : ∃ x : Int32, tw_fv Eg0 a1 2 = .int x ∧ 0 ≤ x.toInt ∧ x.toInt ≤ 255 := hv
      rw [hxi1]
      refine lv_iconst (v := 1) hx hb dX2_readItems_4 (by decide) ?_
      refine lv_icmp_ne (tgt := 110) hx hb dX2_readItems_5 (by decide) (fun hc2 => ?_) (fun hc2 => ?_)
      · have hf3 : ¬ (xi1.toInt = 1) := fun q => hc2 ((fa_eq _ _).mpr (by have : ((1 : Int32).toInt) = 1 := (by decide); omega))
        exact tw_vret hx hb hr hlocks TH hS hex ⟨rfl, rfl, rfl, hF, ⟨u0_0_7, hfm0_0, by  omega⟩, ⟨u0_1_3, u0_1_4, hfm0_1, hfm0_2, by  omega⟩⟩ (Nat.le_of_ble_eq_true rfl) (Nat.le_of_ble_eq_true rfl) dX2_readItems_110
      · have hf4 : xi1.toInt = 1 := by have z := (fa_eq _ _).mp hc2; have : ((1 : Int32).toInt) = 1 := (by decide); omega
        refine lv_aload_n hx hb dX2_readItems_8 rfl (lv_at hl 0 rfl) ?_
        refine tw_get (ci := 2) (C := RX2) (T := TX2) (N := 13) hx hb hB cx_inX2 hown hK TH hm0 hk0 rfl ⟨by decide, rfl⟩ 7 (by decide) cw_77 (fun _ h9 => h9) dX2_readItems_9 (fun hv => ?_)
        rw [hfm0_0]
        refine lv_sipush (v := 500) hx hb dX2_readItems_12 (by decide) ?_
        refine lv_icmp_ge (tgt := 110) hx hb dX2_readItems_15 (by decide) (fun hc5 => ?_) (fun hc5 => ?_)
        · have hf6 : 500 ≤ u0_0_7.toInt := by have z := (fa_le _ _).mp hc5; have : ((500 : Int32).toInt) = 500 := (by decide); omega
          exact tw_vret hx hb hr hlocks TH hS hex ⟨rfl, rfl, rfl, hF, ⟨u0_0_7, hfm0_0, by  omega⟩, ⟨u0_1_3, u0_1_4, hfm0_1, hfm0_2, by  omega⟩⟩ (Nat.le_of_ble_eq_true rfl) (Nat.le_of_ble_eq_true rfl) dX2_readItems_110
        · have hf7 : ¬ (500 ≤ u0_0_7.toInt) := fun q => hc5 ((fa_le _ _).mpr (by have : ((500 : Int32).toInt) = 500 := (by decide); omega))
          refine lv_aload_n hx hb dX2_readItems_18 rfl (lv_at hl 0 rfl) ?_
          refine tw_get (ci := 2) (C := RX2) (T := TX2) (N := 13) hx hb hB cx_inX2 hown hK TH hm0 hk0 rfl ⟨by decide, rfl⟩ 8 (by decide) cw_78 (fun _ h9 => h9) dX2_readItems_19 (fun hv => ?_)
          obtain ⟨xr8, hxr8, hmxr8, hkxr8⟩ : ∃ a : Nat, tw_fv Eg0 a0 8 = .ref a ∧ a ∈ L ∧ kp a = 132 := hv
          rw [hxr8]
          refine lv_aload_n hx hb dX2_readItems_22 rfl (lv_at hl 0 rfl) ?_
          refine tw_get (ci := 2) (C := RX2) (T := TX2) (N := 13) hx hb hB cx_inX2 hown hK TH hm0 hk0 rfl ⟨by decide, rfl⟩ 7 (by decide) cw_77 (fun _ h9 => h9) dX2_readItems_23 (fun hv => ?_)
          rw [hfm0_0]
          refine lv_aload_n hx hb dX2_readItems_26 rfl (lv_at hl 1 rfl) ?_
          refine tw_get (ci := 9) (C := RX9) (T := TX9) (N := 5) hx hb hB cx_inX9 hown hK TH hm1 hk1 rfl ⟨by decide, rfl⟩ 3 (by decide) cw_44 (fun _ h9 => h9) dX2_readItems_27 (fun hv => ?_)
          rw [hfm0_1]
          refine tw_iast (k := 132) (n := 500) (lo := 0) (hi := 500) hx hb hK TH hS hmxr8 hkxr8 (by decide) rfl (i := u0_0_7) (x := u0_1_3) (vp_in_iff.mpr ⟨by  omega, by  omega⟩) (by omega) (by omega) dX2_readItems_30 (fun H locs E9 TH hS hp10 hp11 hp12 => ?_)
          have hst13 : tw_fr kp L [] [132] Eg0 E9 := tw_fr.ast tw_fr.rf (fun _ => hkxr8) hp10 hp11 (by decide)
          have hF := hF.tr hst13 (fun _ h => ⟨h, rfl⟩) (by decide) (by decide)
          have hG0 := hG0.tr hst13 (fun _ h => ⟨h, rfl⟩) (by decide) (by decide)
          have hmf14 : tw_fv E9 a0 7 = .int u0_0_7 := (hst13.1 a0 7 hm0 (by rw [hk0]; decide)).trans hfm0_0
          have hmf15 : tw_fv E9 a1 3 = .int u0_1_3 := (hst13.1 a1 3 hm1 (by rw [hk1]; decide)).trans hfm0_1
          have hmf16 : tw_fv E9 a1 4 = .int u0_1_4 := (hst13.1 a1 4 hm1 (by rw [hk1]; decide)).trans hfm0_2
          have hmf17 : tw_fv E9 a1 2 = .int xi1 := (hst13.1 a1 2 hm1 (by rw [hk1]; decide)).trans hxi1
          have hmf18 : tw_fv E9 a0 8 = .ref xr8 := (hst13.1 a0 8 hm0 (by rw [hk0]; decide)).trans hxr8
          refine lv_aload_n hx hb dX2_readItems_31 rfl (lv_at hl 0 rfl) ?_
          refine tw_get (ci := 2) (C := RX2) (T := TX2) (N := 13) hx hb hB cx_inX2 hown hK TH hm0 hk0 rfl ⟨by decide, rfl⟩ 9 (by decide) cw_79 (fun _ h9 => h9) dX2_readItems_32 (fun hv => ?_)
          obtain ⟨xr19, hxr19, hmxr19, hkxr19⟩ : ∃ a : Nat, tw_fv E9 a0 9 = .ref a ∧ a ∈ L ∧ kp a = 139 := hv
          rw [hxr19]
          refine lv_aload_n hx hb dX2_readItems_35 rfl (lv_at hl 0 rfl) ?_
          refine tw_get (ci := 2) (C := RX2) (T := TX2) (N := 13) hx hb hB cx_inX2 hown hK TH hm0 hk0 rfl ⟨by decide, rfl⟩ 7 (by decide) cw_77 (fun _ h9 => h9) dX2_readItems_36 (fun hv => ?_)
          rw [hmf14]
          refine lv_aload_n hx hb dX2_readItems_39 rfl (lv_at hl 1 rfl) ?_
          refine tw_get (ci := 9) (C := RX9) (T := TX9) (N := 5) hx hb hB cx_inX9 hown hK TH hm1 hk1 rfl ⟨by decide, rfl⟩ 4 (by decide) cw_47 (fun _ h9 => h9) dX2_readItems_40 (fun hv => ?_)
          rw [hmf16]
          refine tw_iast (k := 139) (n := 500) (lo := 0) (hi := 500) hx hb hK TH hS hmxr19 hkxr19 (by decide) rfl (i := u0_0_7) (x := u0_1_4) (vp_in_iff.mpr ⟨by  omega, by  omega⟩) (by omega) (by omega) dX2_readItems_43 (fun H locs E20 TH hS hp21 hp22 hp23 => ?_)
          have hst24 : tw_fr kp L [] [139] E9 E20 := tw_fr.ast tw_fr.rf (fun _ => hkxr19) hp21 hp22 (by decide)
          have hF := hF.tr hst24 (fun _ h => ⟨h, rfl⟩) (by decide) (by decide)
          have hG0 := hG0.tr hst24 (fun _ h => ⟨h, rfl⟩) (by decide) (by decide)
          have hmf25 : tw_fv E20 a0 7 = .int u0_0_7 := (hst24.1 a0 7 hm0 (by rw [hk0]; decide)).trans hmf14
          have hmf26 : tw_fv E20 a1 3 = .int u0_1_3 := (hst24.1 a1 3 hm1 (by rw [hk1]; decide)).trans hmf15
          have hmf27 : tw_fv E20 a1 4 = .int u0_1_4 := (hst24.1 a1 4 hm1 (by rw [hk1]; decide)).trans hmf16
          have hmf28 : tw_fv E20 a1 2 = .int xi1 := (hst24.1 a1 2 hm1 (by rw [hk1]; decide)).trans hmf17
          have hmf29 : tw_fv E20 a0 8 = .ref xr8 := (hst24.1 a0 8 hm0 (by rw [hk0]; decide)).trans hmf18
          have hmf30 : tw_fv E20 a0 9 = .ref xr19 := (hst24.1 a0 9 hm0 (by rw [hk0]; decide)).trans hxr19
          refine lv_aload_n hx hb dX2_readItems_44 rfl (lv_at hl 0 rfl) ?_
          refine tw_get (ci := 2) (C := RX2) (T := TX2) (N := 13) hx hb hB cx_inX2 hown hK TH hm0 hk0 rfl ⟨by decide, rfl⟩ 11 (by decide) cw_81 (fun _ h9 => h9) dX2_readItems_45 (fun hv => ?_)
          obtain ⟨xr31, hxr31, hmxr31, hkxr31⟩ : ∃ a : Nat, tw_fv E20 a0 11 = .ref a ∧ a ∈ L ∧ kp a = 134 := hv
          rw [hxr31]
          refine lv_aload_n hx hb dX2_readItems_48 rfl (lv_at hl 0 rfl) ?_
          refine tw_get (ci := 2) (C := RX2) (T := TX2) (N := 13) hx hb hB cx_inX2 hown hK TH hm0 hk0 rfl ⟨by decide, rfl⟩ 7 (by decide) cw_77 (fun _ h9 => h9) dX2_readItems_49 (fun hv => ?_)
          rw [hmf25]
          refine lv_iconst (v := 0) hx hb dX2_readItems_52 (by decide) ?_
          refine tw_iast (k := 134) (n := 500) (lo := 0) (hi := 255) hx hb hK TH hS hmxr31 hkxr31 (by decide) rfl (i := u0_0_7) (x := 0) (vp_in_iff.mpr ⟨by  omega, by  omega⟩) (by have : ((0 : Int32).toInt) = 0 := (by decide); omega) (by have : ((0 : Int32).toInt) = 0 := (by decide); omega) dX2_readItems_53 (fun H locs E32 TH hS hp33 hp34 hp35 => ?_)
          have hst36 : tw_fr kp L [] [134] E20 E32 := tw_fr.ast tw_fr.rf (fun _ => hkxr31) hp33 hp34 (by decide)
          have hF := hF.tr hst36 (fun _ h => ⟨h, rfl⟩) (by decide) (by decide)
          have hG0 := hG0.tr hst36 (fun _ h => ⟨h, rfl⟩) (by decide) (by decide)
          have hmf37 : tw_fv E32 a0 7 = .int u0_0_7 := (hst36.1 a0 7 hm0 (by rw [hk0]; decide)).trans hmf25
          have hmf38 : tw_fv E32 a1 3 = .int u0_1_3 := (hst36.1 a1 3 hm1 (by rw [hk1]; decide)).trans hmf26
          have hmf39 : tw_fv E32 a1 4 = .int u0_1_4 := (hst36.1 a1 4 hm1 (by rw [hk1]; decide)).trans hmf27
          have hmf40 : tw_fv E32 a1 2 = .int xi1 := (hst36.1 a1 2 hm1 (by rw [hk1]; decide)).trans hmf28
          have hmf41 : tw_fv E32 a0 8 = .ref xr8 := (hst36.1 a0 8 hm0 (by rw [hk0]; decide)).trans hmf29
          have hmf42 : tw_fv E32 a0 9 = .ref xr19 := (hst36.1 a0 9 hm0 (by rw [hk0]; decide)).trans hmf30
          have hmf43 : tw_fv E32 a0 11 = .ref xr31 := (hst36.1 a0 11 hm0 (by rw [hk0]; decide)).trans hxr31
          refine lv_aload_n hx hb dX2_readItems_54 rfl (lv_at hl 1 rfl) ?_
          refine tw_Vc (o := a1) (ci := 9) (n := 0) (post := (fun v kq Lq Eq => v = none ∧ kp = kq ∧ L = Lq ∧ tw_fr kp L [(9, 2), (9, 3), (9, 4)] [] E32 Eq ∧ (∃ z0 z1 : Int32, tw_fv Eq a1 3 = .int z0 ∧ tw_fv Eq a1 4 = .int z1 ∧ (z0.toInt ≤ z1.toInt)))) (As := []) (rest := []) ⟨hx, hb, hml, hown, hB⟩ (fun sz => tX9_advance l D cs a1 hm1 hk1 sz) cg_2_71_X9_advance rfl rfl (by decide +kernel) ⟨Nat.le_of_ble_eq_true rfl, Nat.le_of_ble_eq_true rfl⟩ hK hN TH hS hA rfl hm1 hk1 (by decide) rfl hl.1 rfl (Nat.le_of_ble_eq_true rfl) dX2_readItems_55 ⟨Nat.le_of_ble_eq_true rfl, Nat.le_of_ble_eq_true rfl⟩ (fun v44 kp44 L44 E44 H locs hq44 hx44 TH hS => ?_)
          obtain ⟨rfl, rfl, rfl, hst44, ⟨zfxc45_0_0, zfxc45_0_1, hzfxc45_0_0, hzfxc45_0_1, hzpxc45_0⟩⟩ := hq44
          have hF := hF.tr hst44 (fun _ h => ⟨h, rfl⟩) (by decide) (by decide)
          have hG0 := hG0.tr hst44 (fun _ h => ⟨h, rfl⟩) (by decide) (by decide)
          have hmf46 : tw_fv E44 a0 7 = .int u0_0_7 := (hst44.1 a0 7 hm0 (by rw [hk0]; decide)).trans hmf37
          have hmf47 : tw_fv E44 a0 8 = .ref xr8 := (hst44.1 a0 8 hm0 (by rw [hk0]; decide)).trans hmf41
          have hmf48 : tw_fv E44 a0 9 = .ref xr19 := (hst44.1 a0 9 hm0 (by rw [hk0]; decide)).trans hmf42
          have hmf49 : tw_fv E44 a0 11 = .ref xr31 := (hst44.1 a0 11 hm0 (by rw [hk0]; decide)).trans hmf43
          obtain ⟨qzfxc45_0_0, hqzfxc45_0_0, hqzfxc45_0_0a, hqzfxc45_0_0b⟩ := tw_rd TH hm1 hk1 (by decide) (by decide) (k := 3) rfl
          have eqzfxc45_0_0 : qzfxc45_0_0 = zfxc45_0_0 := by have q := hqzfxc45_0_0.symm.trans hzfxc45_0_0; injection q
          rw [eqzfxc45_0_0] at hqzfxc45_0_0a hqzfxc45_0_0b
          obtain ⟨qzfxc45_0_1, hqzfxc45_0_1, hqzfxc45_0_1a, hqzfxc45_0_1b⟩ := tw_rd TH hm1 hk1 (by decide) (by decide) (k := 4) rfl
          have eqzfxc45_0_1 : qzfxc45_0_1 = zfxc45_0_1 := by have q := hqzfxc45_0_1.symm.trans hzfxc45_0_1; injection q
          rw [eqzfxc45_0_1] at hqzfxc45_0_1a hqzfxc45_0_1b
          refine W.eq (g2 := F0 m 58 ls []) rfl ?_
          refine lv_iload_n hx hb dX2_readItems_58 rfl (lv_at hl 2 rfl) ?_
          have hJ97 : ∀ (u97_1_3 : Int32) (u97_1_4 : Int32) (Eg97 : Nat → va_E) (H : Heap) (locs : List Loc) (ls : Array Slot), 0 ≤ u97_1_3.toInt → u97_1_3.toInt ≤ 500 → 0 ≤ u97_1_4.toInt → u97_1_4.toInt ≤ 500 → (u97_1_3.toInt ≤ u97_1_4.toInt) → tw_fv Eg97 a1 3 = .int u97_1_3 → tw_fv Eg97 a1 4 = .int u97_1_4 → tw_fr kp L [(9, 2), (9, 3), (9, 4)] [134] E44 Eg97 → tw_H D cs kp L Eg97 A H → va_S A s.heap H locs → lv_has ls 3 [(0, .ref a0), (1, .ref a1), (2, .int x2)] → W p l e { frames := 7, cells := 0, slots := 0, locals := 147 } s m [.ref a0, .ref a1, .int x2].toArray below meth c H locs 0 0 (MQ below (tw_Q D cs kp0 L0 (fun v kq Lq Eq => v = none ∧ kp = kq ∧ L = Lq ∧ tw_fr kp L [(2, 7), (9, 2), (9, 3), (9, 4)] [132, 134, 139] E Eq ∧ (∃ z0 : Int32, tw_fv Eq a0 7 = .int z0 ∧ (fv0_7.toInt ≤ z0.toInt)) ∧ (∃ z0 z1 : Int32, tw_fv Eq a1 3 = .int z0 ∧ tw_fv Eq a1 4 = .int z1 ∧ (z0.toInt ≤ z1.toInt))) A) [.ref a0, .ref a1, .int x2].toArray s 0 0 A) (F0 m 97 ls []) := by
            intro u97_1_3 u97_1_4 Eg97 H locs ls hu97_1_3a hu97_1_3b hu97_1_4a hu97_1_4b hin97_0 hfm97_0 hfm97_1 hG97 TH hS hl
            have hF := hF.tr hG97 (fun _ h => ⟨h, rfl⟩) (by decide) (by decide)
            have hG0 := hG0.tr hG97 (fun _ h => ⟨h, rfl⟩) (by decide) (by decide)
            have hmf50 : tw_fv Eg97 a0 7 = .int u0_0_7 := (hG97.1 a0 7 hm0 (by rw [hk0]; decide)).trans hmf46
            have hmf51 : tw_fv Eg97 a0 8 = .ref xr8 := (hG97.1 a0 8 hm0 (by rw [hk0]; decide)).trans hmf47
            have hmf52 : tw_fv Eg97 a0 9 = .ref xr19 := (hG97.1 a0 9 hm0 (by rw [hk0]; decide)).trans hmf48
            have hmf53 : tw_fv Eg97 a0 11 = .ref xr31 := (hG97.1 a0 11 hm0 (by rw [hk0]; decide)).trans hmf49
            refine lv_aload_n hx hb dX2_readItems_97 rfl (lv_at hl 0 rfl) ?_
            refine lv_dup hx hb dX2_readItems_98 rfl ?_
            refine tw_get (ci := 2) (C := RX2) (T := TX2) (N := 13) hx hb hB cx_inX2 hown hK TH hm0 hk0 rfl ⟨by decide, rfl⟩ 7 (by decide) cw_77 (fun _ h9 => h9) dX2_readItems_99 (fun hv => ?_)
            rw [hmf50]
            refine lv_iconst (v := 1) hx hb dX2_readItems_102 (by decide) ?_
            refine lv_iadd hx hb dX2_readItems_103 ?_
            refine lv_topi (fun zi54 ezi54 => ?_)
            have hzi54 : zi54.toInt = u0_0_7.toInt + 1 := by rw [ezi54]; have : ((1 : Int32).toInt) = 1 := (by decide); have := ia_lo u0_0_7; have := ia_hi u0_0_7; exact (ia_add (by omega) (by omega)).trans (by omega)
            refine tw_put (ci := 2) (v := .int zi54) (ty := .int) (C := RX2) (T := TX2) (N := 13) hx hb hB cx_inX2 tyX2 tyX2_ok nmX2 hown hK TH hS hm0 hk0 rfl ⟨by decide, rfl⟩ 7 (by decide) cw_77 (fun _ h9 => h9) rfl (by decide +kernel) rfl rfl ⟨_, rfl, (show 0 ≤ Int32.toInt zi54 from by  omega), (show Int32.toInt zi54 ≤ 500 from by  omega)⟩ dX2_readItems_104 (fun H locs E55 TH hS hmf59 hp56 hp57 => ?_)
            have hst58 : tw_fr kp L [(2, 7)] [] Eg97 E55 := tw_fr.put tw_fr.rf (fun _ => hk0) (by decide) hp56 hp57 (by decide)
            have hF := hF.tr hst58 (fun _ h => ⟨h, rfl⟩) (by decide) (by decide)
            have hG0 := hG0.tr hst58 (fun _ h => ⟨h, rfl⟩) (by decide) (by decide)
            have hmf60 : tw_fv E55 a0 8 = .ref xr8 := (hst58.1 a0 8 hm0 (by rw [hk0]; decide)).trans hmf51
            have hmf61 : tw_fv E55 a0 9 = .ref xr19 := (hst58.1 a0 9 hm0 (by rw [hk0]; decide)).trans hmf52
            have hmf62 : tw_fv E55 a0 11 = .ref xr31 := (hst58.1 a0 11 hm0 (by rw [hk0]; decide)).trans hmf53
            have hmf63 : tw_fv E55 a1 3 = .int u97_1_3 := (hst58.1 a1 3 hm1 (by rw [hk1]; decide)).trans hfm97_0
            have hmf64 : tw_fv E55 a1 4 = .int u97_1_4 := (hst58.1 a1 4 hm1 (by rw [hk1]; decide)).trans hfm97_1
            refine lv_goto (tgt := 0) hx hb dX2_readItems_107 (by decide) ?_
            exact ih0 (n0 - 1) (by   omega) zi54 u97_1_3 u97_1_4 _ _ _ ls (by omega) (by omega) (by omega) (by omega) (by omega) (by omega) (by  omega) (by  omega) (by   omega) hmf59 hmf63 hmf64 hG0 TH hS (lv_sub hl [0, 1, 2] rfl)
          have hG97 : tw_fr kp L [(9, 2), (9, 3), (9, 4)] [134] E44 E44 := tw_fr.rf
          refine lv_if_eq (tgt := 97) hx hb dX2_readItems_59 (by decide) (fun hc65 => ?_) (fun hc65 => ?_)
          · have hf66 : x2.toInt = 0 := by have z := (fa_eq _ _).mp hc65; have : ((0 : Int32).toInt) = 0 := (by decide); omega
            exact hJ97 zfxc45_0_0 zfxc45_0_1 _ _ _ ls (by omega) (by omega) (by omega) (by omega) (by  omega) hzfxc45_0_0 hzfxc45_0_1 hG97 TH hS (lv_sub hl [0, 1, 2] rfl)
          · have hf67 : ¬ (x2.toInt = 0) := fun q => hc65 ((fa_eq _ _).mpr (by have : ((0 : Int32).toInt) = 0 := (by decide); omega))
            refine lv_aload_n hx hb dX2_readItems_62 rfl (lv_at hl 1 rfl) ?_
            refine tw_get (ci := 9) (C := RX9) (T := TX9) (N := 5) hx hb hB cx_inX9 hown hK TH hm1 hk1 rfl ⟨by decide, rfl⟩ 2 (by decide) cw_40 (fun _ h9 => h9) dX2_readItems_63 (fun hv => ?_)
            obtain ⟨xi68, hxi68, hxi68a, hxi68b⟩ : ∃ x : Int32, tw_fv E44 a1 2 = .int x ∧ 0 ≤ x.toInt ∧ x.toInt ≤ 255 := hv
            rw [hxi68]
            refine lv_bipush (v := 63) hx hb dX2_readItems_66 (by decide) ?_
            have hJ80 : ∀  (H : Heap) (locs : List Loc) (ls : Array Slot), tw_H D cs kp L E44 A H → va_S A s.heap H locs → lv_has ls 3 [(0, .ref a0), (1, .ref a1), (2, .int x2)] → W p l e { frames := 7, cells := 0, slots := 0, locals := 147 } s m [.ref a0, .ref a1, .int x2].toArray below meth c H locs 0 0 (MQ below (tw_Q D cs kp0 L0 (fun v kq Lq Eq => v = none ∧ kp = kq ∧ L = Lq ∧ tw_fr kp L [(2, 7), (9, 2), (9, 3), (9, 4)] [132, 134, 139] E Eq ∧ (∃ z0 : Int32, tw_fv Eq a0 7 = .int z0 ∧ (fv0_7.toInt ≤ z0.toInt)) ∧ (∃ z0 z1 : Int32, tw_fv Eq a1 3 = .int z0 ∧ tw_fv Eq a1 4 = .int z1 ∧ (z0.toInt ≤ z1.toInt))) A) [.ref a0, .ref a1, .int x2].toArray s 0 0 A) (F0 m 80 ls []) := by
              intro H locs ls TH hS hl
              refine lv_aload_n hx hb dX2_readItems_80 rfl (lv_at hl 0 rfl) ?_
              refine tw_get (ci := 2) (C := RX2) (T := TX2) (N := 13) hx hb hB cx_inX2 hown hK TH hm0 hk0 rfl ⟨by decide, rfl⟩ 11 (by decide) cw_81 (fun _ h9 => h9) dX2_readItems_81 (fun hv => ?_)
              rw [hmf49]
              refine lv_aload_n hx hb dX2_readItems_84 rfl (lv_at hl 0 rfl) ?_
              refine tw_get (ci := 2) (C := RX2) (T := TX2) (N := 13) hx hb hB cx_inX2 hown hK TH hm0 hk0 rfl ⟨by decide, rfl⟩ 7 (by decide) cw_77 (fun _ h9 => h9) dX2_readItems_85 (fun hv => ?_)
              rw [hmf46]
              refine lv_aload_n hx hb dX2_readItems_88 rfl (lv_at hl 1 rfl) ?_
              refine tw_get (ci := 9) (C := RX9) (T := TX9) (N := 5) hx hb hB cx_inX9 hown hK TH hm1 hk1 rfl ⟨by decide, rfl⟩ 2 (by decide) cw_40 (fun _ h9 => h9) dX2_readItems_89 (fun hv => ?_)
              rw [hxi68]
              refine tw_iast (k := 134) (n := 500) (lo := 0) (hi := 255) hx hb hK TH hS hmxr31 hkxr31 (by decide) rfl (i := u0_0_7) (x := xi68) (vp_in_iff.mpr ⟨by  omega, by  omega⟩) (by omega) (by omega) dX2_readItems_92 (fun H locs E69 TH hS hp70 hp71 hp72 => ?_)
              have hst73 : tw_fr kp L [] [134] E44 E69 := tw_fr.ast tw_fr.rf (fun _ => hkxr31) hp70 hp71 (by decide)
              have hF := hF.tr hst73 (fun _ h => ⟨h, rfl⟩) (by decide) (by decide)
              have hG0 := hG0.tr hst73 (fun _ h => ⟨h, rfl⟩) (by decide) (by decide)
              have hG97 := hG97.tr hst73 (fun _ h => ⟨h, rfl⟩) (by decide) (by decide)
              have hmf74 : tw_fv E69 a0 7 = .int u0_0_7 := (hst73.1 a0 7 hm0 (by rw [hk0]; decide)).trans hmf46
              have hmf75 : tw_fv E69 a0 8 = .ref xr8 := (hst73.1 a0 8 hm0 (by rw [hk0]; decide)).trans hmf47
              have hmf76 : tw_fv E69 a0 9 = .ref xr19 := (hst73.1 a0 9 hm0 (by rw [hk0]; decide)).trans hmf48
              have hmf77 : tw_fv E69 a0 11 = .ref xr31 := (hst73.1 a0 11 hm0 (by rw [hk0]; decide)).trans hmf49
              have hmf78 : tw_fv E69 a1 3 = .int zfxc45_0_0 := (hst73.1 a1 3 hm1 (by rw [hk1]; decide)).trans hzfxc45_0_0
              have hmf79 : tw_fv E69 a1 4 = .int zfxc45_0_1 := (hst73.1 a1 4 hm1 (by rw [hk1]; decide)).trans hzfxc45_0_1
              have hmf80 : tw_fv E69 a1 2 = .int xi68 := (hst73.1 a1 2 hm1 (by rw [hk1]; decide)).trans hxi68
              refine lv_aload_n hx hb dX2_readItems_93 rfl (lv_at hl 1 rfl) ?_
              refine tw_Vc (o := a1) (ci := 9) (n := 0) (post := (fun v kq Lq Eq => v = none ∧ kp = kq ∧ L = Lq ∧ tw_fr kp L [(9, 2), (9, 3), (9, 4)] [] E69 Eq ∧ (∃ z0 z1 : Int32, tw_fv Eq a1 3 = .int z0 ∧ tw_fv Eq a1 4 = .int z1 ∧ (z0.toInt ≤ z1.toInt)))) (As := []) (rest := []) ⟨hx, hb, hml, hown, hB⟩ (fun sz => tX9_advance l D cs a1 hm1 hk1 sz) cg_2_71_X9_advance rfl rfl (by decide +kernel) ⟨Nat.le_of_ble_eq_true rfl, Nat.le_of_ble_eq_true rfl⟩ hK hN TH hS hA rfl hm1 hk1 (by decide) rfl hl.1 rfl (Nat.le_of_ble_eq_true rfl) dX2_readItems_94 ⟨Nat.le_of_ble_eq_true rfl, Nat.le_of_ble_eq_true rfl⟩ (fun v81 kp81 L81 E81 H locs hq81 hx81 TH hS => ?_)
              obtain ⟨rfl, rfl, rfl, hst81, ⟨zfxc82_0_0, zfxc82_0_1, hzfxc82_0_0, hzfxc82_0_1, hzpxc82_0⟩⟩ := hq81
              have hF := hF.tr hst81 (fun _ h => ⟨h, rfl⟩) (by decide) (by decide)
              have hG0 := hG0.tr hst81 (fun _ h => ⟨h, rfl⟩) (by decide) (by decide)
              have hG97 := hG97.tr hst81 (fun _ h => ⟨h, rfl⟩) (by decide) (by decide)
              have hmf83 : tw_fv E81 a0 7 = .int u0_0_7 := (hst81.1 a0 7 hm0 (by rw [hk0]; decide)).trans hmf74
              have hmf84 : tw_fv E81 a0 8 = .ref xr8 := (hst81.1 a0 8 hm0 (by rw [hk0]; decide)).trans hmf75
              have hmf85 : tw_fv E81 a0 9 = .ref xr19 := (hst81.1 a0 9 hm0 (by rw [hk0]; decide)).trans hmf76
              have hmf86 : tw_fv E81 a0 11 = .ref xr31 := (hst81.1 a0 11 hm0 (by rw [hk0]; decide)).trans hmf77
              obtain ⟨qzfxc82_0_0, hqzfxc82_0_0, hqzfxc82_0_0a, hqzfxc82_0_0b⟩ := tw_rd TH hm1 hk1 (by decide) (by decide) (k := 3) rfl
              have eqzfxc82_0_0 : qzfxc82_0_0 = zfxc82_0_0 := by have q := hqzfxc82_0_0.symm.trans hzfxc82_0_0; injection q
              rw [eqzfxc82_0_0] at hqzfxc82_0_0a hqzfxc82_0_0b
              obtain ⟨qzfxc82_0_1, hqzfxc82_0_1, hqzfxc82_0_1a, hqzfxc82_0_1b⟩ := tw_rd TH hm1 hk1 (by decide) (by decide) (k := 4) rfl
              have eqzfxc82_0_1 : qzfxc82_0_1 = zfxc82_0_1 := by have q := hqzfxc82_0_1.symm.trans hzfxc82_0_1; injection q
              rw [eqzfxc82_0_1] at hqzfxc82_0_1a hqzfxc82_0_1b
              refine W.eq (g2 := F0 m 97 ls []) rfl ?_
              exact hJ97 zfxc82_0_0 zfxc82_0_1 _ _ _ ls (by omega) (by omega) (by omega) (by omega) (by  omega) hzfxc82_0_0 hzfxc82_0_1 hG97 TH hS (lv_sub hl [0, 1, 2] rfl)
            refine lv_icmp_eq (tgt := 80) hx hb dX2_readItems_68 (by decide) (fun hc87 => ?_) (fun hc87 => ?_)
            · have hf88 : xi68.toInt = 63 := by have z := (fa_eq _ _).mp hc87; have : ((63 : Int32).toInt) = 63 := (by decide); omega
              exact hJ80  _ _ ls  TH hS (lv_sub hl [0, 1, 2] rfl)
            · have hf89 : ¬ (xi68.toInt = 63) := fun q => hc87 ((fa_eq _ _).mpr (by have : ((63 : Int32).toInt) = 63 := (by decide); omega))
              refine lv_aload_n hx hb dX2_readItems_71 rfl (lv_at hl 1 rfl) ?_
              refine tw_get (ci := 9) (C := RX9) (T := TX9) (N := 5) hx hb hB cx_inX9 hown hK TH hm1 hk1 rfl ⟨by decide, rfl⟩ 2 (by decide) cw_40 (fun _ h9 => h9) dX2_readItems_72 (fun hv => ?_)
              rw [hxi68]
              refine lv_bipush (v := 42) hx hb dX2_readItems_75 (by decide) ?_
              refine lv_icmp_ne (tgt := 97) hx hb dX2_readItems_77 (by decide) (fun hc90 => ?_) (fun hc90 => ?_)
              · have hf91 : ¬ (xi68.toInt = 42) := fun q => hc90 ((fa_eq _ _).mpr (by have : ((42 : Int32).toInt) = 42 := (by decide); omega))
                exact hJ97 zfxc45_0_0 zfxc45_0_1 _ _ _ ls (by omega) (by omega) (by omega) (by omega) (by  omega) hzfxc45_0_0 hzfxc45_0_1 hG97 TH hS (lv_sub hl [0, 1, 2] rfl)
              · have hf92 : xi68.toInt = 42 := by have z := (fa_eq _ _).mp hc90; have : ((42 : Int32).toInt) = 42 := (by decide); omega
                exact hJ80  _ _ ls  TH hS (lv_sub hl [0, 1, 2] rfl)
  exact hJ0 501 fv0_7 fv1_3 fv1_4 _ _ _ ls (by omega) (by omega) (by omega) (by omega) (by omega) (by omega) (by  omega) (by  omega) (by   omega) hfv0_7 hfv1_3 hfv1_4 tw_fr.rf TH hS (lv_sub hl [0, 1, 2] rfl)
