set_option maxHeartbeats 4000000 in
set_option maxRecDepth 100000 in
theorem tX10_cut (l : Launch) (D : va_G) (cs : Nat → ClassId) {kp : Nat → Nat} {L : List Nat} {E : Nat → va_E} (a0 : Nat) (x1 : Int32) (hm0 : a0 ∈ L) (hk0 : kp a0 = 10) (sz : Nat) : Met l yX10_cut (.code yX10_cut cX10_cut 3 none :: cx_big) { frames := 1, cells := 0, slots := 0, locals := 22 } (tw_P D cs kp L E [.ref a0, .int x1] sz) (tw_Q D cs kp L (fun v kq Lq Eq => v = none ∧ kp = kq ∧ L = Lq ∧ tw_fr kp L [(10, 0)] [102, 110, 111, 114] E Eq) (va_A (va_pl L E) sz)) 0 0 (va_A (va_pl L E) sz) := by
  refine tw_ofW (by decide) (Nat.le_of_ble_eq_true rfl) ?_
  intro p e s m below meth c A ls hx hb hr hml hB hown hlocks hK hN hA TH hS hl
  have hown : s.vm.findClass "TreeMerge$Tree" = some m.cls := hown
  have hl : lv_has ls 3 [(0, .ref a0), (1, .int x1)] := hl
  obtain ⟨kp0, ekp⟩ : ∃ z, z = kp := ⟨_, rfl⟩
  obtain ⟨L0, eL⟩ : ∃ z, z = L := ⟨_, rfl⟩
  rw [show tw_Q D cs kp L = tw_Q D cs kp0 L0 by rw [ekp, eL]]
  have hex : ∀ a : Nat, a ∈ L0 → a ∈ L ∧ kp a = kp0 a := fun a h => ⟨by rw [← eL]; exact h, by rw [ekp]⟩
  have hF : tw_fr kp L [(10, 0)] [102, 110, 111, 114] E E := tw_fr.rf
  refine lv_iload_n hx hb dX10_cut_0 rfl (lv_at hl 1 rfl) ?_
  refine lv_if_lt (tgt := 12) hx hb dX10_cut_1 (by decide) (fun hc1 => ?_) (fun hc1 => ?_)
  · have hf2 : x1.toInt < 0 := by have z := (fa_lt _ _).mp hc1; have : ((0 : Int32).toInt) = 0 := (by decide); omega
    exact tw_vret hx hb hr hlocks TH hS hex ⟨rfl, rfl, rfl, hF⟩ (Nat.le_of_ble_eq_true rfl) (Nat.le_of_ble_eq_true rfl) dX10_cut_12
  · have hf3 : ¬ (x1.toInt < 0) := fun q => hc1 ((fa_lt _ _).mpr (by have : ((0 : Int32).toInt) = 0 := (by decide); omega))
    refine lv_iload_n hx hb dX10_cut_4 rfl (lv_at hl 1 rfl) ?_
    refine lv_aload_n hx hb dX10_cut_5 rfl (lv_at hl 0 rfl) ?_
    refine tw_get (ci := 10) (C := RX10) (T := TX10) (N := 8) hx hb hB cx_inX10 hown hK TH hm0 hk0 rfl ⟨by decide, rfl⟩ 0 (by decide) cw_116 (fun _ h9 => h9) dX10_cut_6 (fun hv => ?_)
    obtain ⟨xi4, hxi4, hxi4a, hxi4b⟩ : ∃ x : Int32, tw_fv E a0 0 = .int x ∧ 0 ≤ x.toInt ∧ x.toInt ≤ 40 := hv
    rw [hxi4]
    refine lv_icmp_lt (tgt := 13) hx hb dX10_cut_9 (by decide) (fun hc5 => ?_) (fun hc5 => ?_)
    · have hf6 : x1.toInt < xi4.toInt := by have z := (fa_lt _ _).mp hc5;  omega
      refine lv_iload_n hx hb dX10_cut_13 rfl (lv_at hl 1 rfl) ?_
      refine lv_iconst (v := 1) hx hb dX10_cut_14 (by decide) ?_
      refine lv_iadd hx hb dX10_cut_15 ?_
      refine lv_topi (fun zi7 ezi7 => ?_)
      have hzi7 : zi7.toInt = x1.toInt + 1 := by rw [ezi7]; have : ((1 : Int32).toInt) = 1 := (by decide); have := ia_lo x1; have := ia_hi x1; exact (ia_add (by omega) (by omega)).trans (by omega)
      refine lv_istore_n (lv' := [(2, .int zi7), (0, .ref a0), (1, .int x1)]) hx hb dX10_cut_16 rfl hl (by decide) rfl (fun ls hl => ?_)
      have hJ17 : ∀ (n17 : Nat) (y17_2 : Int32) (Eg17 : Nat → va_E) (H : Heap) (locs : List Loc) (ls : Array Slot), 1 ≤ y17_2.toInt → y17_2.toInt ≤ 40 → 40 - y17_2.toInt ≤ (n17 : Int) → tw_fr kp L [] [102, 110, 111, 114] E Eg17 → tw_H D cs kp L Eg17 A H → va_S A s.heap H locs → lv_has ls 3 [(2, .int y17_2), (0, .ref a0)] → W p l e { frames := 1, cells := 0, slots := 0, locals := 22 } s m [.ref a0, .int x1].toArray below meth c H locs 0 0 (MQ below (tw_Q D cs kp0 L0 (fun v kq Lq Eq => v = none ∧ kp = kq ∧ L = Lq ∧ tw_fr kp L [(10, 0)] [102, 110, 111, 114] E Eq) A) [.ref a0, .int x1].toArray s 0 0 A) (F0 m 17 ls []) := by
        intro n17
        induction n17 using Nat.strongRecOn with
        | _ n17 ih17 =>
          intro y17_2 Eg17 H locs ls hy17_2a hy17_2b hmeas17 hG17 TH hS hl
          have hF := hF.tr hG17 (fun _ h => ⟨h, rfl⟩) (by decide) (by decide)
          have hmf8 : tw_fv Eg17 a0 0 = .int xi4 := (hG17.1 a0 0 hm0 (by rw [hk0]; decide)).trans hxi4
          refine lv_iload_n hx hb dX10_cut_17 rfl (lv_at hl 0 rfl) ?_
          refine lv_aload_n hx hb dX10_cut_18 rfl (lv_at hl 1 rfl) ?_
          refine tw_get (ci := 10) (C := RX10) (T := TX10) (N := 8) hx hb hB cx_inX10 hown hK TH hm0 hk0 rfl ⟨by decide, rfl⟩ 0 (by decide) cw_116 (fun _ h9 => h9) dX10_cut_19 (fun hv => ?_)
          rw [hmf8]
          refine lv_icmp_ge (tgt := 39) hx hb dX10_cut_22 (by decide) (fun hc9 => ?_) (fun hc9 => ?_)
          · have hf10 : xi4.toInt ≤ y17_2.toInt := by have z := (fa_le _ _).mp hc9;  omega
            refine lv_aload_n hx hb dX10_cut_39 rfl (lv_at hl 1 rfl) ?_
            refine lv_dup hx hb dX10_cut_40 rfl ?_
            refine tw_get (ci := 10) (C := RX10) (T := TX10) (N := 8) hx hb hB cx_inX10 hown hK TH hm0 hk0 rfl ⟨by decide, rfl⟩ 0 (by decide) cw_116 (fun _ h9 => h9) dX10_cut_41 (fun hv => ?_)
            rw [hmf8]
            refine lv_iconst (v := 1) hx hb dX10_cut_44 (by decide) ?_
            refine lv_isub hx hb dX10_cut_45 ?_
            refine lv_topi (fun zi11 ezi11 => ?_)
            have hzi11 : zi11.toInt = xi4.toInt - 1 := by rw [ezi11]; have : ((1 : Int32).toInt) = 1 := (by decide); have := ia_lo xi4; have := ia_hi xi4; exact (ia_sub (by omega) (by omega)).trans (by omega)
            refine tw_put (ci := 10) (v := .int zi11) (ty := .int) (C := RX10) (T := TX10) (N := 8) hx hb hB cx_inX10 tyX10 tyX10_ok nmX10 hown hK TH hS hm0 hk0 rfl ⟨by decide, rfl⟩ 0 (by decide) cw_116 (fun _ h9 => h9) rfl (by decide +kernel) rfl rfl ⟨_, rfl, (show 0 ≤ Int32.toInt zi11 from by  omega), (show Int32.toInt zi11 ≤ 40 from by  omega)⟩ dX10_cut_46 (fun H locs E12 TH hS hmf16 hp13 hp14 => ?_)
            have hst15 : tw_fr kp L [(10, 0)] [] Eg17 E12 := tw_fr.put tw_fr.rf (fun _ => hk0) (by decide) hp13 hp14 (by decide)
            have hF := hF.tr hst15 (fun _ h => ⟨h, rfl⟩) (by decide) (by decide)
            exact tw_vret hx hb hr hlocks TH hS hex ⟨rfl, rfl, rfl, hF⟩ (Nat.le_of_ble_eq_true rfl) (Nat.le_of_ble_eq_true rfl) dX10_cut_49
          · have hf17 : ¬ (xi4.toInt ≤ y17_2.toInt) := fun q => hc9 ((fa_le _ _).mpr (by  omega))
            refine lv_aload_n hx hb dX10_cut_25 rfl (lv_at hl 1 rfl) ?_
            refine lv_iload_n hx hb dX10_cut_26 rfl (lv_at hl 0 rfl) ?_
            refine lv_iload_n hx hb dX10_cut_27 rfl (lv_at hl 0 rfl) ?_
            refine lv_iconst (v := 1) hx hb dX10_cut_28 (by decide) ?_
            refine lv_isub hx hb dX10_cut_29 ?_
            refine lv_topi (fun zi18 ezi18 => ?_)
            have hzi18 : zi18.toInt = y17_2.toInt - 1 := by rw [ezi18]; have : ((1 : Int32).toInt) = 1 := (by decide); have := ia_lo y17_2; have := ia_hi y17_2; exact (ia_sub (by omega) (by omega)).trans (by omega)
            refine tw_Vc (o := a0) (ci := 10) (n := 2) (post := (fun v kq Lq Eq => v = none ∧ kp = kq ∧ L = Lq ∧ tw_fr kp L [] [102, 110, 111, 114] Eg17 Eq)) (As := [.int y17_2, .int zi18]) (rest := []) ⟨hx, hb, hml, hown, hB⟩ (fun sz => tX10_moveEntry l D cs a0 y17_2 zi18 hm0 hk0 (by omega) (by omega) (by omega) (by omega) sz) cg_10_38_X10_moveEntry rfl rfl (by decide +kernel) ⟨Nat.le_of_ble_eq_true rfl, Nat.le_of_ble_eq_true rfl⟩ hK hN TH hS hA rfl hm0 hk0 (by decide) rfl hl.1 rfl (Nat.le_of_ble_eq_true rfl) dX10_cut_30 ⟨Nat.le_of_ble_eq_true rfl, Nat.le_of_ble_eq_true rfl⟩ (fun v19 kp19 L19 E19 H locs hq19 hx19 TH hS => ?_)
            obtain ⟨rfl, rfl, rfl, hst19⟩ := hq19
            have hF := hF.tr hst19 (fun _ h => ⟨h, rfl⟩) (by decide) (by decide)
            have hG17 := hG17.tr hst19 (fun _ h => ⟨h, rfl⟩) (by decide) (by decide)
            have hmf21 : tw_fv E19 a0 0 = .int xi4 := (hst19.1 a0 0 hm0 (by rw [hk0]; decide)).trans hmf8
            refine W.eq (g2 := F0 m 33 ls []) rfl ?_
            obtain ⟨zi22, ezi22⟩ : ∃ z : Int32, z = y17_2 + Int32.ofInt 1 := ⟨_, rfl⟩
            have hzi22 : zi22.toInt = y17_2.toInt + 1 := by rw [ezi22]; have : ((Int32.ofInt 1).toInt) = 1 := (by decide);  exact (ia_add (by omega) (by omega)).trans (by omega)
            refine lv_iinc (v := zi22) (lv' := [(2, .int zi22), (0, .ref a0)]) hx hb dX10_cut_33 hl (k := 0) rfl ezi22.symm (by decide) rfl (fun ls hl => ?_)
            refine lv_goto (tgt := 17) hx hb dX10_cut_36 (by decide) ?_
            exact ih17 (n17 - 1) (by   omega) zi22 _ _ _ ls (by omega) (by omega) (by   omega) hG17 TH hS (lv_sub hl [0, 1] rfl)
      exact hJ17 40 zi7 _ _ _ ls (by omega) (by omega) (by   omega) tw_fr.rf TH hS (lv_sub hl [0, 1] rfl)
    · have hf23 : ¬ (x1.toInt < xi4.toInt) := fun q => hc5 ((fa_lt _ _).mpr (by  omega))
      exact tw_vret hx hb hr hlocks TH hS hex ⟨rfl, rfl, rfl, hF⟩ (Nat.le_of_ble_eq_true rfl) (Nat.le_of_ble_eq_true rfl) dX10_cut_12
set_option maxHeartbeats 4000000 in
set_option maxRecDepth 100000 in
theorem tX10_copy (l : Launch) (D : va_G) (cs : Nat → ClassId) {kp : Nat → Nat} {L : List Nat} {E : Nat → va_E} (a0 : Nat) (a1 : Nat) (hm0 : a0 ∈ L) (hk0 : kp a0 = 10) (hm1 : a1 ∈ L) (hk1 : kp a1 = 10) (sz : Nat) : Met l yX10_copy (.code yX10_copy cX10_copy 3 none :: cx_big) { frames := 0, cells := 0, slots := 0, locals := 0 } (tw_P D cs kp L E [.ref a0, .ref a1] sz) (tw_Q D cs kp L (fun v kq Lq Eq => v = none ∧ kp = kq ∧ L = Lq ∧ tw_fr kp L [(10, 0)] [102, 110, 111, 112, 113, 114, 115] E Eq) (va_A (va_pl L E) sz)) 0 0 (va_A (va_pl L E) sz) := by
  refine tw_ofW (by decide) (Nat.le_of_ble_eq_true rfl) ?_
  intro p e s m below meth c A ls hx hb hr hml hB hown hlocks hK hN hA TH hS hl
  have hown : s.vm.findClass "TreeMerge$Tree" = some m.cls := hown
  have hl : lv_has ls 3 [(0, .ref a0), (1, .ref a1)] := hl
  obtain ⟨kp0, ekp⟩ : ∃ z, z = kp := ⟨_, rfl⟩
  obtain ⟨L0, eL⟩ : ∃ z, z = L := ⟨_, rfl⟩
  rw [show tw_Q D cs kp L = tw_Q D cs kp0 L0 by rw [ekp, eL]]
  have hex : ∀ a : Nat, a ∈ L0 → a ∈ L ∧ kp a = kp0 a := fun a h => ⟨by rw [← eL]; exact h, by rw [ekp]⟩
  have hF : tw_fr kp L [(10, 0)] [102, 110, 111, 112, 113, 114, 115] E E := tw_fr.rf
  refine lv_aload_n hx hb dX10_copy_0 rfl (lv_at hl 0 rfl) ?_
  refine lv_aload_n hx hb dX10_copy_1 rfl (lv_at hl 1 rfl) ?_
  refine tw_get (ci := 10) (C := RX10) (T := TX10) (N := 8) hx hb hB cx_inX10 hown hK TH hm1 hk1 rfl ⟨by decide, rfl⟩ 0 (by decide) cw_116 (fun _ h9 => h9) dX10_copy_2 (fun hv => ?_)
  obtain ⟨xi1, hxi1, hxi1a, hxi1b⟩ : ∃ x : Int32, tw_fv E a1 0 = .int x ∧ 0 ≤ x.toInt ∧ x.toInt ≤ 40 := hv
  rw [hxi1]
  refine tw_put (ci := 10) (v := .int xi1) (ty := .int) (C := RX10) (T := TX10) (N := 8) hx hb hB cx_inX10 tyX10 tyX10_ok nmX10 hown hK TH hS hm0 hk0 rfl ⟨by decide, rfl⟩ 0 (by decide) cw_116 (fun _ h9 => h9) rfl (by decide +kernel) rfl rfl ⟨_, rfl, (show 0 ≤ Int32.toInt xi1 from by  omega), (show Int32.toInt xi1 ≤ 40 from by  omega)⟩ dX10_copy_5 (fun H locs E2 TH hS hmf6 hp3 hp4 => ?_)
  have hst5 : tw_fr kp L [(10, 0)] [] E E2 := tw_fr.put tw_fr.rf (fun _ => hk0) (by decide) hp3 hp4 (by decide)
  have hF := hF.tr hst5 (fun _ h => ⟨h, rfl⟩) (by decide) (by decide)
  refine lv_iconst (v := 0) hx hb dX10_copy_8 (by decide) ?_
  refine lv_istore_n (lv' := [(2, .int 0), (0, .ref a0), (1, .ref a1)]) hx hb dX10_copy_9 rfl hl (by decide) rfl (fun ls hl => ?_)
  have hJ10 : ∀ (n10 : Nat) (y10_2 : Int32) (Eg10 : Nat → va_E) (H : Heap) (locs : List Loc) (ls : Array Slot), 0 ≤ y10_2.toInt → y10_2.toInt ≤ 40 → 40 - y10_2.toInt ≤ (n10 : Int) → tw_fr kp L [] [102, 110, 111, 112, 113, 114, 115] E2 Eg10 → tw_H D cs kp L Eg10 A H → va_S A s.heap H locs → lv_has ls 3 [(2, .int y10_2), (0, .ref a0), (1, .ref a1)] → W p l e { frames := 0, cells := 0, slots := 0, locals := 0 } s m [.ref a0, .ref a1].toArray below meth c H locs 0 0 (MQ below (tw_Q D cs kp0 L0 (fun v kq Lq Eq => v = none ∧ kp = kq ∧ L = Lq ∧ tw_fr kp L [(10, 0)] [102, 110, 111, 112, 113, 114, 115] E Eq) A) [.ref a0, .ref a1].toArray s 0 0 A) (F0 m 10 ls []) := by
    intro n10
    induction n10 using Nat.strongRecOn with
    | _ n10 ih10 =>
      intro y10_2 Eg10 H locs ls hy10_2a hy10_2b hmeas10 hG10 TH hS hl
      have hF := hF.tr hG10 (fun _ h => ⟨h, rfl⟩) (by decide) (by decide)
      have hmf7 : tw_fv Eg10 a0 0 = .int xi1 := (hG10.1 a0 0 hm0 (by rw [hk0]; decide)).trans hmf6
      refine lv_iload_n hx hb dX10_copy_10 rfl (lv_at hl 0 rfl) ?_
      refine lv_aload_n hx hb dX10_copy_11 rfl (lv_at hl 1 rfl) ?_
      refine tw_get (ci := 10) (C := RX10) (T := TX10) (N := 8) hx hb hB cx_inX10 hown hK TH hm0 hk0 rfl ⟨by decide, rfl⟩ 0 (by decide) cw_116 (fun _ h9 => h9) dX10_copy_12 (fun hv => ?_)
      rw [hmf7]
      refine lv_icmp_ge (tgt := 108) hx hb dX10_copy_15 (by decide) (fun hc8 => ?_) (fun hc8 => ?_)
      · have hf9 : xi1.toInt ≤ y10_2.toInt := by have z := (fa_le _ _).mp hc8;  omega
        exact tw_vret hx hb hr hlocks TH hS hex ⟨rfl, rfl, rfl, hF⟩ (Nat.le_of_ble_eq_true rfl) (Nat.le_of_ble_eq_true rfl) dX10_copy_108
      · have hf10 : ¬ (xi1.toInt ≤ y10_2.toInt) := fun q => hc8 ((fa_le _ _).mpr (by  omega))
        refine lv_aload_n hx hb dX10_copy_18 rfl (lv_at hl 1 rfl) ?_
        refine tw_get (ci := 10) (C := RX10) (T := TX10) (N := 8) hx hb hB cx_inX10 hown hK TH hm0 hk0 rfl ⟨by decide, rfl⟩ 1 (by decide) cw_122 (fun _ h9 => h9) dX10_copy_19 (fun hv => ?_)
        obtain ⟨xr11, hxr11, hmxr11, hkxr11⟩ : ∃ a : Nat, tw_fv Eg10 a0 1 = .ref a ∧ a ∈ L ∧ kp a = 110 := hv
        rw [hxr11]
        refine lv_iload_n hx hb dX10_copy_22 rfl (lv_at hl 0 rfl) ?_
        refine lv_aload_n hx hb dX10_copy_23 rfl (lv_at hl 2 rfl) ?_
        refine tw_get (ci := 10) (C := RX10) (T := TX10) (N := 8) hx hb hB cx_inX10 hown hK TH hm1 hk1 rfl ⟨by decide, rfl⟩ 1 (by decide) cw_122 (fun _ h9 => h9) dX10_copy_24 (fun hv => ?_)
        obtain ⟨xr12, hxr12, hmxr12, hkxr12⟩ : ∃ a : Nat, tw_fv Eg10 a1 1 = .ref a ∧ a ∈ L ∧ kp a = 110 := hv
        rw [hxr12]
        refine lv_iload_n hx hb dX10_copy_27 rfl (lv_at hl 0 rfl) ?_
        refine tw_iald (k := 110) (t0 := 0) (n := 40) (lo := (-1)) (hi := 149) hx hb hK TH hmxr12 hkxr12 (by decide) rfl rfl (i := y10_2) (vp_in_iff.mpr ⟨by  omega, by  omega⟩) dX10_copy_28 (fun hxe13a hxe13b => ?_)
        obtain ⟨xe13, exe13⟩ : ∃ z : Int32, tw_iv Eg10 xr12 (Int32.toNatClampNeg y10_2) = z := ⟨_, rfl⟩
        rw [exe13] at hxe13a hxe13b ⊢
        refine tw_iast (k := 110) (n := 40) (lo := (-1)) (hi := 149) hx hb hK TH hS hmxr11 hkxr11 (by decide) rfl (i := y10_2) (x := xe13) (vp_in_iff.mpr ⟨by  omega, by  omega⟩) (by omega) (by omega) dX10_copy_29 (fun H locs E14 TH hS hp15 hp16 hp17 => ?_)
        have hst18 : tw_fr kp L [] [110] Eg10 E14 := tw_fr.ast tw_fr.rf (fun _ => hkxr11) hp15 hp16 (by decide)
        have hF := hF.tr hst18 (fun _ h => ⟨h, rfl⟩) (by decide) (by decide)
        have hG10 := hG10.tr hst18 (fun _ h => ⟨h, rfl⟩) (by decide) (by decide)
        have hmf19 : tw_fv E14 a0 0 = .int xi1 := (hst18.1 a0 0 hm0 (by rw [hk0]; decide)).trans hmf7
        have hmf20 : tw_fv E14 a0 1 = .ref xr11 := (hst18.1 a0 1 hm0 (by rw [hk0]; decide)).trans hxr11
        have hmf21 : tw_fv E14 a1 1 = .ref xr12 := (hst18.1 a1 1 hm1 (by rw [hk1]; decide)).trans hxr12
        refine lv_aload_n hx hb dX10_copy_30 rfl (lv_at hl 1 rfl) ?_
        refine tw_get (ci := 10) (C := RX10) (T := TX10) (N := 8) hx hb hB cx_inX10 hown hK TH hm0 hk0 rfl ⟨by decide, rfl⟩ 2 (by decide) cw_127 (fun _ h9 => h9) dX10_copy_31 (fun hv => ?_)
        obtain ⟨xr22, hxr22, hmxr22, hkxr22⟩ : ∃ a : Nat, tw_fv E14 a0 2 = .ref a ∧ a ∈ L ∧ kp a = 111 := hv
        rw [hxr22]
        refine lv_iload_n hx hb dX10_copy_34 rfl (lv_at hl 0 rfl) ?_
        refine lv_aload_n hx hb dX10_copy_35 rfl (lv_at hl 2 rfl) ?_
        refine tw_get (ci := 10) (C := RX10) (T := TX10) (N := 8) hx hb hB cx_inX10 hown hK TH hm1 hk1 rfl ⟨by decide, rfl⟩ 2 (by decide) cw_127 (fun _ h9 => h9) dX10_copy_36 (fun hv => ?_)
        obtain ⟨xr23, hxr23, hmxr23, hkxr23⟩ : ∃ a : Nat, tw_fv E14 a1 2 = .ref a ∧ a ∈ L ∧ kp a = 111 := hv
        rw [hxr23]
        refine lv_iload_n hx hb dX10_copy_39 rfl (lv_at hl 0 rfl) ?_
        refine tw_iald (k := 111) (t0 := 0) (n := 40) (lo := (-1)) (hi := 149) hx hb hK TH hmxr23 hkxr23 (by decide) rfl rfl (i := y10_2) (vp_in_iff.mpr ⟨by  omega, by  omega⟩) dX10_copy_40 (fun hxe24a hxe24b => ?_)
        obtain ⟨xe24, exe24⟩ : ∃ z : Int32, tw_iv E14 xr23 (Int32.toNatClampNeg y10_2) = z := ⟨_, rfl⟩
        rw [exe24] at hxe24a hxe24b ⊢
        refine tw_iast (k := 111) (n := 40) (lo := (-1)) (hi := 149) hx hb hK TH hS hmxr22 hkxr22 (by decide) rfl (i := y10_2) (x := xe24) (vp_in_iff.mpr ⟨by  omega, by  omega⟩) (by omega) (by omega) dX10_copy_41 (fun H locs E25 TH hS hp26 hp27 hp28 => ?_)
        have hst29 : tw_fr kp L [] [111] E14 E25 := tw_fr.ast tw_fr.rf (fun _ => hkxr22) hp26 hp27 (by decide)
        have hF := hF.tr hst29 (fun _ h => ⟨h, rfl⟩) (by decide) (by decide)
        have hG10 := hG10.tr hst29 (fun _ h => ⟨h, rfl⟩) (by decide) (by decide)
        have hmf30 : tw_fv E25 a0 0 = .int xi1 := (hst29.1 a0 0 hm0 (by rw [hk0]; decide)).trans hmf19
        have hmf31 : tw_fv E25 a0 1 = .ref xr11 := (hst29.1 a0 1 hm0 (by rw [hk0]; decide)).trans hmf20
        have hmf32 : tw_fv E25 a1 1 = .ref xr12 := (hst29.1 a1 1 hm1 (by rw [hk1]; decide)).trans hmf21
        have hmf33 : tw_fv E25 a0 2 = .ref xr22 := (hst29.1 a0 2 hm0 (by rw [hk0]; decide)).trans hxr22
        have hmf34 : tw_fv E25 a1 2 = .ref xr23 := (hst29.1 a1 2 hm1 (by rw [hk1]; decide)).trans hxr23
        refine lv_aload_n hx hb dX10_copy_42 rfl (lv_at hl 1 rfl) ?_
        refine tw_get (ci := 10) (C := RX10) (T := TX10) (N := 8) hx hb hB cx_inX10 hown hK TH hm0 hk0 rfl ⟨by decide, rfl⟩ 3 (by decide) cw_130 (fun _ h9 => h9) dX10_copy_43 (fun hv => ?_)
        obtain ⟨xr35, hxr35, hmxr35, hkxr35⟩ : ∃ a : Nat, tw_fv E25 a0 3 = .ref a ∧ a ∈ L ∧ kp a = 112 := hv
        rw [hxr35]
        refine lv_iload_n hx hb dX10_copy_46 rfl (lv_at hl 0 rfl) ?_
        refine lv_aload_n hx hb dX10_copy_47 rfl (lv_at hl 2 rfl) ?_
        refine tw_get (ci := 10) (C := RX10) (T := TX10) (N := 8) hx hb hB cx_inX10 hown hK TH hm1 hk1 rfl ⟨by decide, rfl⟩ 3 (by decide) cw_130 (fun _ h9 => h9) dX10_copy_48 (fun hv => ?_)
        obtain ⟨xr36, hxr36, hmxr36, hkxr36⟩ : ∃ a : Nat, tw_fv E25 a1 3 = .ref a ∧ a ∈ L ∧ kp a = 112 := hv
        rw [hxr36]
        refine lv_iload_n hx hb dX10_copy_51 rfl (lv_at hl 0 rfl) ?_
        refine tw_iald (k := 112) (t0 := 0) (n := 40) (lo := (-1)) (hi := 39) hx hb hK TH hmxr36 hkxr36 (by decide) rfl rfl (i := y10_2) (vp_in_iff.mpr ⟨by  omega, by  omega⟩) dX10_copy_52 (fun hxe37a hxe37b => ?_)
        obtain ⟨xe37, exe37⟩ : ∃ z : Int32, tw_iv E25 xr36 (Int32.toNatClampNeg y10_2) = z := ⟨_, rfl⟩
        rw [exe37] at hxe37a hxe37b ⊢
        refine tw_iast (k := 112) (n := 40) (lo := (-1)) (hi := 39) hx hb hK TH hS hmxr35 hkxr35 (by decide) rfl (i := y10_2) (x := xe37) (vp_in_iff.mpr ⟨by  omega, by  omega⟩) (by omega) (by omega) dX10_copy_53 (fun H locs E38 TH hS hp39 hp40 hp41 => ?_)
        have hst42 : tw_fr kp L [] [112] E25 E38 := tw_fr.ast tw_fr.rf (fun _ => hkxr35) hp39 hp40 (by decide)
        have hF := hF.tr hst42 (fun _ h => ⟨h, rfl⟩) (by decide) (by decide)
        have hG10 := hG10.tr hst42 (fun _ h => ⟨h, rfl⟩) (by decide) (by decide)
        have hmf43 : tw_fv E38 a0 0 = .int xi1 := (hst42.1 a0 0 hm0 (by rw [hk0]; decide)).trans hmf30
        have hmf44 : tw_fv E38 a0 1 = .ref xr11 := (hst42.1 a0 1 hm0 (by rw [hk0]; decide)).trans hmf31
        have hmf45 : tw_fv E38 a1 1 = .ref xr12 := (hst42.1 a1 1 hm1 (by rw [hk1]; decide)).trans hmf32
        have hmf46 : tw_fv E38 a0 2 = .ref xr22 := (hst42.1 a0 2 hm0 (by rw [hk0]; decide)).trans hmf33
        have hmf47 : tw_fv E38 a1 2 = .ref xr23 := (hst42.1 a1 2 hm1 (by rw [hk1]; decide)).trans hmf34
        have hmf48 : tw_fv E38 a0 3 = .ref xr35 := (hst42.1 a0 3 hm0 (by rw [hk0]; decide)).trans hxr35
        have hmf49 : tw_fv E38 a1 3 = .ref xr36 := (hst42.1 a1 3 hm1 (by rw [hk1]; decide)).trans hxr36
        refine lv_aload_n hx hb dX10_copy_54 rfl (lv_at hl 1 rfl) ?_
        refine tw_get (ci := 10) (C := RX10) (T := TX10) (N := 8) hx hb hB cx_inX10 hown hK TH hm0 hk0 rfl ⟨by decide, rfl⟩ 4 (by decide) cw_135 (fun _ h9 => h9) dX10_copy_55 (fun hv => ?_)
        obtain ⟨xr50, hxr50, hmxr50, hkxr50⟩ : ∃ a : Nat, tw_fv E38 a0 4 = .ref a ∧ a ∈ L ∧ kp a = 113 := hv
        rw [hxr50]
        refine lv_iload_n hx hb dX10_copy_58 rfl (lv_at hl 0 rfl) ?_
        refine lv_aload_n hx hb dX10_copy_59 rfl (lv_at hl 2 rfl) ?_
        refine tw_get (ci := 10) (C := RX10) (T := TX10) (N := 8) hx hb hB cx_inX10 hown hK TH hm1 hk1 rfl ⟨by decide, rfl⟩ 4 (by decide) cw_135 (fun _ h9 => h9) dX10_copy_60 (fun hv => ?_)
        obtain ⟨xr51, hxr51, hmxr51, hkxr51⟩ : ∃ a : Nat, tw_fv E38 a1 4 = .ref a ∧ a ∈ L ∧ kp a = 113 := hv
        rw [hxr51]
        refine lv_iload_n hx hb dX10_copy_63 rfl (lv_at hl 0 rfl) ?_
        refine tw_iald (k := 113) (t0 := 0) (n := 40) (lo := 0) (hi := 40) hx hb hK TH hmxr51 hkxr51 (by decide) rfl rfl (i := y10_2) (vp_in_iff.mpr ⟨by  omega, by  omega⟩) dX10_copy_64 (fun hxe52a hxe52b => ?_)
        obtain ⟨xe52, exe52⟩ : ∃ z : Int32, tw_iv E38 xr51 (Int32.toNatClampNeg y10_2) = z := ⟨_, rfl⟩
        rw [exe52] at hxe52a hxe52b ⊢
        refine tw_iast (k := 113) (n := 40) (lo := 0) (hi := 40) hx hb hK TH hS hmxr50 hkxr50 (by decide) rfl (i := y10_2) (x := xe52) (vp_in_iff.mpr ⟨by  omega, by  omega⟩) (by omega) (by omega) dX10_copy_65 (fun H locs E53 TH hS hp54 hp55 hp56 => ?_)
        have hst57 : tw_fr kp L [] [113] E38 E53 := tw_fr.ast tw_fr.rf (fun _ => hkxr50) hp54 hp55 (by decide)
        have hF := hF.tr hst57 (fun _ h => ⟨h, rfl⟩) (by decide) (by decide)
        have hG10 := hG10.tr hst57 (fun _ h => ⟨h, rfl⟩) (by decide) (by decide)
        have hmf58 : tw_fv E53 a0 0 = .int xi1 := (hst57.1 a0 0 hm0 (by rw [hk0]; decide)).trans hmf43
        have hmf59 : tw_fv E53 a0 1 = .ref xr11 := (hst57.1 a0 1 hm0 (by rw [hk0]; decide)).trans hmf44
        have hmf60 : tw_fv E53 a1 1 = .ref xr12 := (hst57.1 a1 1 hm1 (by rw [hk1]; decide)).trans hmf45
        have hmf61 : tw_fv E53 a0 2 = .ref xr22 := (hst57.1 a0 2 hm0 (by rw [hk0]; decide)).trans hmf46
        have hmf62 : tw_fv E53 a1 2 = .ref xr23 := (hst57.1 a1 2 hm1 (by rw [hk1]; decide)).trans hmf47
        have hmf63 : tw_fv E53 a0 3 = .ref xr35 := (hst57.1 a0 3 hm0 (by rw [hk0]; decide)).trans hmf48
        have hmf64 : tw_fv E53 a1 3 = .ref xr36 := (hst57.1 a1 3 hm1 (by rw [hk1]; decide)).trans hmf49
        have hmf65 : tw_fv E53 a0 4 = .ref xr50 := (hst57.1 a0 4 hm0 (by rw [hk0]; decide)).trans hxr50
        have hmf66 : tw_fv E53 a1 4 = .ref xr51 := (hst57.1 a1 4 hm1 (by rw [hk1]; decide)).trans hxr51
        refine lv_aload_n hx hb dX10_copy_66 rfl (lv_at hl 1 rfl) ?_
        refine tw_get (ci := 10) (C := RX10) (T := TX10) (N := 8) hx hb hB cx_inX10 hown hK TH hm0 hk0 rfl ⟨by decide, rfl⟩ 5 (by decide) cw_138 (fun _ h9 => h9) dX10_copy_67 (fun hv => ?_)
        obtain ⟨xr67, hxr67, hmxr67, hkxr67⟩ : ∃ a : Nat, tw_fv E53 a0 5 = .ref a ∧ a ∈ L ∧ kp a = 114 := hv
        rw [hxr67]
        refine lv_iload_n hx hb dX10_copy_70 rfl (lv_at hl 0 rfl) ?_
        refine lv_aload_n hx hb dX10_copy_71 rfl (lv_at hl 2 rfl) ?_
        refine tw_get (ci := 10) (C := RX10) (T := TX10) (N := 8) hx hb hB cx_inX10 hown hK TH hm1 hk1 rfl ⟨by decide, rfl⟩ 5 (by decide) cw_138 (fun _ h9 => h9) dX10_copy_72 (fun hv => ?_)
        obtain ⟨xr68, hxr68, hmxr68, hkxr68⟩ : ∃ a : Nat, tw_fv E53 a1 5 = .ref a ∧ a ∈ L ∧ kp a = 114 := hv
        rw [hxr68]
        refine lv_iload_n hx hb dX10_copy_75 rfl (lv_at hl 0 rfl) ?_
        refine tw_iald (k := 114) (t0 := 0) (n := 40) (lo := (-1)) (hi := 9) hx hb hK TH hmxr68 hkxr68 (by decide) rfl rfl (i := y10_2) (vp_in_iff.mpr ⟨by  omega, by  omega⟩) dX10_copy_76 (fun hxe69a hxe69b => ?_)
        obtain ⟨xe69, exe69⟩ : ∃ z : Int32, tw_iv E53 xr68 (Int32.toNatClampNeg y10_2) = z := ⟨_, rfl⟩
        rw [exe69] at hxe69a hxe69b ⊢
        refine tw_iast (k := 114) (n := 40) (lo := (-1)) (hi := 9) hx hb hK TH hS hmxr67 hkxr67 (by decide) rfl (i := y10_2) (x := xe69) (vp_in_iff.mpr ⟨by  omega, by  omega⟩) (by omega) (by omega) dX10_copy_77 (fun H locs E70 TH hS hp71 hp72 hp73 => ?_)
        have hst74 : tw_fr kp L [] [114] E53 E70 := tw_fr.ast tw_fr.rf (fun _ => hkxr67) hp71 hp72 (by decide)
        have hF := hF.tr hst74 (fun _ h => ⟨h, rfl⟩) (by decide) (by decide)
        have hG10 := hG10.tr hst74 (fun _ h => ⟨h, rfl⟩) (by decide) (by decide)
        have hmf75 : tw_fv E70 a0 0 = .int xi1 := (hst74.1 a0 0 hm0 (by rw [hk0]; decide)).trans hmf58
        have hmf76 : tw_fv E70 a0 1 = .ref xr11 := (hst74.1 a0 1 hm0 (by rw [hk0]; decide)).trans hmf59
        have hmf77 : tw_fv E70 a1 1 = .ref xr12 := (hst74.1 a1 1 hm1 (by rw [hk1]; decide)).trans hmf60
        have hmf78 : tw_fv E70 a0 2 = .ref xr22 := (hst74.1 a0 2 hm0 (by rw [hk0]; decide)).trans hmf61
        have hmf79 : tw_fv E70 a1 2 = .ref xr23 := (hst74.1 a1 2 hm1 (by rw [hk1]; decide)).trans hmf62
        have hmf80 : tw_fv E70 a0 3 = .ref xr35 := (hst74.1 a0 3 hm0 (by rw [hk0]; decide)).trans hmf63
        have hmf81 : tw_fv E70 a1 3 = .ref xr36 := (hst74.1 a1 3 hm1 (by rw [hk1]; decide)).trans hmf64
        have hmf82 : tw_fv E70 a0 4 = .ref xr50 := (hst74.1 a0 4 hm0 (by rw [hk0]; decide)).trans hmf65
        have hmf83 : tw_fv E70 a1 4 = .ref xr51 := (hst74.1 a1 4 hm1 (by rw [hk1]; decide)).trans hmf66
        have hmf84 : tw_fv E70 a0 5 = .ref xr67 := (hst74.1 a0 5 hm0 (by rw [hk0]; decide)).trans hxr67
        have hmf85 : tw_fv E70 a1 5 = .ref xr68 := (hst74.1 a1 5 hm1 (by rw [hk1]; decide)).trans hxr68
        refine lv_aload_n hx hb dX10_copy_78 rfl (lv_at hl 1 rfl) ?_
        refine tw_get (ci := 10) (C := RX10) (T := TX10) (N := 8) hx hb hB cx_inX10 hown hK TH hm0 hk0 rfl ⟨by decide, rfl⟩ 6 (by decide) cw_144 (fun _ h9 => h9) dX10_copy_79 (fun hv => ?_)
        obtain ⟨xr86, hxr86, hmxr86, hkxr86⟩ : ∃ a : Nat, tw_fv E70 a0 6 = .ref a ∧ a ∈ L ∧ kp a = 102 := hv
        rw [hxr86]
        refine lv_iload_n hx hb dX10_copy_82 rfl (lv_at hl 0 rfl) ?_
        refine lv_aload_n hx hb dX10_copy_83 rfl (lv_at hl 2 rfl) ?_
        refine tw_get (ci := 10) (C := RX10) (T := TX10) (N := 8) hx hb hB cx_inX10 hown hK TH hm1 hk1 rfl ⟨by decide, rfl⟩ 6 (by decide) cw_144 (fun _ h9 => h9) dX10_copy_84 (fun hv => ?_)
        obtain ⟨xr87, hxr87, hmxr87, hkxr87⟩ : ∃ a : Nat, tw_fv E70 a1 6 = .ref a ∧ a ∈ L ∧ kp a = 102 := hv
        rw [hxr87]
        refine lv_iload_n hx hb dX10_copy_87 rfl (lv_at hl 0 rfl) ?_
        refine tw_lald (k := 102) (n := 40) (lo := 0) (hi := 0) hx hb hK TH hmxr87 hkxr87 (by decide) rfl (i := y10_2) (vp_in_iff.mpr ⟨by  omega, by  omega⟩) dX10_copy_88 (fun xl88 => ?_)
        refine tw_last (k := 102) (n := 40) (lo := 0) (hi := 0) hx hb hK TH hS hmxr86 hkxr86 (by decide) rfl (i := y10_2) (x := xl88) (vp_in_iff.mpr ⟨by  omega, by  omega⟩) dX10_copy_89 (fun H locs E89 TH hS hp90 hp91  => ?_)
        have hst92 : tw_fr kp L [] [102] E70 E89 := tw_fr.ast tw_fr.rf (fun _ => hkxr86) hp90 hp91 (by decide)
        have hF := hF.tr hst92 (fun _ h => ⟨h, rfl⟩) (by decide) (by decide)
        have hG10 := hG10.tr hst92 (fun _ h => ⟨h, rfl⟩) (by decide) (by decide)
        have hmf93 : tw_fv E89 a0 0 = .int xi1 := (hst92.1 a0 0 hm0 (by rw [hk0]; decide)).trans hmf75
        have hmf94 : tw_fv E89 a0 1 = .ref xr11 := (hst92.1 a0 1 hm0 (by rw [hk0]; decide)).trans hmf76
        have hmf95 : tw_fv E89 a1 1 = .ref xr12 := (hst92.1 a1 1 hm1 (by rw [hk1]; decide)).trans hmf77
        have hmf96 : tw_fv E89 a0 2 = .ref xr22 := (hst92.1 a0 2 hm0 (by rw [hk0]; decide)).trans hmf78
        have hmf97 : tw_fv E89 a1 2 = .ref xr23 := (hst92.1 a1 2 hm1 (by rw [hk1]; decide)).trans hmf79
        have hmf98 : tw_fv E89 a0 3 = .ref xr35 := (hst92.1 a0 3 hm0 (by rw [hk0]; decide)).trans hmf80
        have hmf99 : tw_fv E89 a1 3 = .ref xr36 := (hst92.1 a1 3 hm1 (by rw [hk1]; decide)).trans hmf81
        have hmf100 : tw_fv E89 a0 4 = .ref xr50 := (hst92.1 a0 4 hm0 (by rw [hk0]; decide)).trans hmf82
        have hmf101 : tw_fv E89 a1 4 = .ref xr51 := (hst92.1 a1 4 hm1 (by rw [hk1]; decide)).trans hmf83
        have hmf102 : tw_fv E89 a0 5 = .ref xr67 := (hst92.1 a0 5 hm0 (by rw [hk0]; decide)).trans hmf84
        have hmf103 : tw_fv E89 a1 5 = .ref xr68 := (hst92.1 a1 5 hm1 (by rw [hk1]; decide)).trans hmf85
        have hmf104 : tw_fv E89 a0 6 = .ref xr86 := (hst92.1 a0 6 hm0 (by rw [hk0]; decide)).trans hxr86
        have hmf105 : tw_fv E89 a1 6 = .ref xr87 := (hst92.1 a1 6 hm1 (by rw [hk1]; decide)).trans hxr87
        refine lv_aload_n hx hb dX10_copy_90 rfl (lv_at hl 1 rfl) ?_
        refine tw_get (ci := 10) (C := RX10) (T := TX10) (N := 8) hx hb hB cx_inX10 hown hK TH hm0 hk0 rfl ⟨by decide, rfl⟩ 7 (by decide) cw_150 (fun _ h9 => h9) dX10_copy_91 (fun hv => ?_)
        obtain ⟨xr106, hxr106, hmxr106, hkxr106⟩ : ∃ a : Nat, tw_fv E89 a0 7 = .ref a ∧ a ∈ L ∧ kp a = 115 := hv
        rw [hxr106]
        refine lv_iload_n hx hb dX10_copy_94 rfl (lv_at hl 0 rfl) ?_
        refine lv_aload_n hx hb dX10_copy_95 rfl (lv_at hl 2 rfl) ?_
        refine tw_get (ci := 10) (C := RX10) (T := TX10) (N := 8) hx hb hB cx_inX10 hown hK TH hm1 hk1 rfl ⟨by decide, rfl⟩ 7 (by decide) cw_150 (fun _ h9 => h9) dX10_copy_96 (fun hv => ?_)
        obtain ⟨xr107, hxr107, hmxr107, hkxr107⟩ : ∃ a : Nat, tw_fv E89 a1 7 = .ref a ∧ a ∈ L ∧ kp a = 115 := hv
        rw [hxr107]
        refine lv_iload_n hx hb dX10_copy_99 rfl (lv_at hl 0 rfl) ?_
        refine tw_iald (k := 115) (t0 := 0) (n := 40) (lo := (-1)) (hi := 11) hx hb hK TH hmxr107 hkxr107 (by decide) rfl rfl (i := y10_2) (vp_in_iff.mpr ⟨by  omega, by  omega⟩) dX10_copy_100 (fun hxe108a hxe108b => ?_)
        obtain ⟨xe108, exe108⟩ : ∃ z : Int32, tw_iv E89 xr107 (Int32.toNatClampNeg y10_2) = z := ⟨_, rfl⟩
        rw [exe108] at hxe108a hxe108b ⊢
        refine tw_iast (k := 115) (n := 40) (lo := (-1)) (hi := 11) hx hb hK TH hS hmxr106 hkxr106 (by decide) rfl (i := y10_2) (x := xe108) (vp_in_iff.mpr ⟨by  omega, by  omega⟩) (by omega) (by omega) dX10_copy_101 (fun H locs E109 TH hS hp110 hp111 hp112 => ?_)
        have hst113 : tw_fr kp L [] [115] E89 E109 := tw_fr.ast tw_fr.rf (fun _ => hkxr106) hp110 hp111 (by decide)
        have hF := hF.tr hst113 (fun _ h => ⟨h, rfl⟩) (by decide) (by decide)
        have hG10 := hG10.tr hst113 (fun _ h => ⟨h, rfl⟩) (by decide) (by decide)
        have hmf114 : tw_fv E109 a0 0 = .int xi1 := (hst113.1 a0 0 hm0 (by rw [hk0]; decide)).trans hmf93
        have hmf115 : tw_fv E109 a0 1 = .ref xr11 := (hst113.1 a0 1 hm0 (by rw [hk0]; decide)).trans hmf94
        have hmf116 : tw_fv E109 a1 1 = .ref xr12 := (hst113.1 a1 1 hm1 (by rw [hk1]; decide)).trans hmf95
        have hmf117 : tw_fv E109 a0 2 = .ref xr22 := (hst113.1 a0 2 hm0 (by rw [hk0]; decide)).trans hmf96
        have hmf118 : tw_fv E109 a1 2 = .ref xr23 := (hst113.1 a1 2 hm1 (by rw [hk1]; decide)).trans hmf97
        have hmf119 : tw_fv E109 a0 3 = .ref xr35 := (hst113.1 a0 3 hm0 (by rw [hk0]; decide)).trans hmf98
        have hmf120 : tw_fv E109 a1 3 = .ref xr36 := (hst113.1 a1 3 hm1 (by rw [hk1]; decide)).trans hmf99
        have hmf121 : tw_fv E109 a0 4 = .ref xr50 := (hst113.1 a0 4 hm0 (by rw [hk0]; decide)).trans hmf100
        have hmf122 : tw_fv E109 a1 4 = .ref xr51 := (hst113.1 a1 4 hm1 (by rw [hk1]; decide)).trans hmf101
        have hmf123 : tw_fv E109 a0 5 = .ref xr67 := (hst113.1 a0 5 hm0 (by rw [hk0]; decide)).trans hmf102
        have hmf124 : tw_fv E109 a1 5 = .ref xr68 := (hst113.1 a1 5 hm1 (by rw [hk1]; decide)).trans hmf103
        have hmf125 : tw_fv E109 a0 6 = .ref xr86 := (hst113.1 a0 6 hm0 (by rw [hk0]; decide)).trans hmf104
        have hmf126 : tw_fv E109 a1 6 = .ref xr87 := (hst113.1 a1 6 hm1 (by rw [hk1]; decide)).trans hmf105
        have hmf127 : tw_fv E109 a0 7 = .ref xr106 := (hst113.1 a0 7 hm0 (by rw [hk0]; decide)).trans hxr106
        have hmf128 : tw_fv E109 a1 7 = .ref xr107 := (hst113.1 a1 7 hm1 (by rw [hk1]; decide)).trans hxr107
        obtain ⟨zi129, ezi129⟩ : ∃ z : Int32, z = y10_2 + Int32.ofInt 1 := ⟨_, rfl⟩
        have hzi129 : zi129.toInt = y10_2.toInt + 1 := by rw [ezi129]; have : ((Int32.ofInt 1).toInt) = 1 := (by decide);  exact (ia_add (by omega) (by omega)).trans (by omega)
        refine lv_iinc (v := zi129) (lv' := [(2, .int zi129), (0, .ref a0), (1, .ref a1)]) hx hb dX10_copy_102 hl (k := 0) rfl ezi129.symm (by decide) rfl (fun ls hl => ?_)
        refine lv_goto (tgt := 10) hx hb dX10_copy_105 (by decide) ?_
        exact ih10 (n10 - 1) (by   omega) zi129 _ _ _ ls (by omega) (by omega) (by   omega) hG10 TH hS (lv_sub hl [0, 1, 2] rfl)
  exact hJ10 41 (0 : Int32) _ _ _ ls (by have : ((0 : Int32).toInt) = 0 := (by decide); omega) (by have : ((0 : Int32).toInt) = 0 := (by decide); omega) (by have : ((0 : Int32).toInt) = 0 := (by decide);  omega) tw_fr.rf TH hS (lv_sub hl [0, 1, 2] rfl)
set_option maxHeartbeats 4000000 in
set_option maxRecDepth 100000 in
theorem tX10_isWithin (l : Launch) (D : va_G) (cs : Nat → ClassId) {kp : Nat → Nat} {L : List Nat} {E : Nat → va_E} (a0 : Nat) (x1 : Int32) (x2 : Int32) (hm0 : a0 ∈ L) (hk0 : kp a0 = 10) (hp1a : 0 ≤ x1.toInt) (hp1b : x1.toInt ≤ 39) (hp2a : 0 ≤ x2.toInt) (hp2b : x2.toInt ≤ 39) (sz : Nat) : Met l yX10_isWithin (.code yX10_isWithin cX10_isWithin 3 (some .boolean) :: cx_big) { frames := 1, cells := 0, slots := 0, locals := 22 } (tw_P D cs kp L E [.ref a0, .int x1, .int x2] sz) (tw_Q D cs kp L (fun v kq Lq Eq => (∃ x : Int32, v = some (.int x) ∧ 0 ≤ x.toInt ∧ x.toInt ≤ 1) ∧ kp = kq ∧ L = Lq ∧ E = Eq) (va_A (va_pl L E) sz)) 0 0 (va_A (va_pl L E) sz) := by
  refine tw_ofW (by decide) (Nat.le_of_ble_eq_true rfl) ?_
  intro p e s m below meth c A ls hx hb hr hml hB hown hlocks hK hN hA TH hS hl
  have hown : s.vm.findClass "TreeMerge$Tree" = some m.cls := hown
  have hl : lv_has ls 3 [(0, .ref a0), (1, .int x1), (2, .int x2)] := hl
  obtain ⟨kp0, ekp⟩ : ∃ z, z = kp := ⟨_, rfl⟩
  obtain ⟨L0, eL⟩ : ∃ z, z = L := ⟨_, rfl⟩
  rw [show tw_Q D cs kp L = tw_Q D cs kp0 L0 by rw [ekp, eL]]
  have hex : ∀ a : Nat, a ∈ L0 → a ∈ L ∧ kp a = kp0 a := fun a h => ⟨by rw [← eL]; exact h, by rw [ekp]⟩
  refine lv_iload_n hx hb dX10_isWithin_0 rfl (lv_at hl 1 rfl) ?_
  refine lv_iload_n hx hb dX10_isWithin_1 rfl (lv_at hl 2 rfl) ?_
  refine lv_icmp_lt (tgt := 20) hx hb dX10_isWithin_2 (by decide) (fun hc1 => ?_) (fun hc1 => ?_)
  · have hf2 : x1.toInt < x2.toInt := by have z := (fa_lt _ _).mp hc1;  omega
    refine lv_iconst (v := 0) hx hb dX10_isWithin_20 (by decide) ?_
    exact tw_zret hx hb hr hlocks (by decide) TH hS hex ⟨⟨_, rfl, (show 0 ≤ Int32.toInt 0 from by have : ((0 : Int32).toInt) = 0 := (by decide); omega), (show Int32.toInt 0 ≤ 1 from by have : ((0 : Int32).toInt) = 0 := (by decide); omega)⟩, rfl, rfl, rfl⟩ (Nat.le_of_ble_eq_true rfl) (Nat.le_of_ble_eq_true rfl) dX10_isWithin_21
  · have hf3 : ¬ (x1.toInt < x2.toInt) := fun q => hc1 ((fa_lt _ _).mpr (by  omega))
    refine lv_iload_n hx hb dX10_isWithin_5 rfl (lv_at hl 1 rfl) ?_
    refine lv_iload_n hx hb dX10_isWithin_6 rfl (lv_at hl 2 rfl) ?_
    refine lv_aload_n hx hb dX10_isWithin_7 rfl (lv_at hl 0 rfl) ?_
    refine lv_iload_n hx hb dX10_isWithin_8 rfl (lv_at hl 2 rfl) ?_
    refine tw_Vc (o := a0) (ci := 10) (n := 1) (post := (fun v kq Lq Eq => (∃ x : Int32, v = some (.int x) ∧ 1 ≤ x.toInt ∧ x.toInt ≤ 40 ∧ (x2.toInt + x.toInt ≤ 40) ∧ (xt_is E a0 x2.toInt x.toInt)) ∧ kp = kq ∧ L = Lq ∧ E = Eq)) (As := [.int x2]) (rest := [.int x2, .int x1]) ⟨hx, hb, hml, hown, hB⟩ (fun sz => tX10_extent l D cs a0 x2 hm0 hk0 (by omega) (by omega) sz) cg_10_96_X10_extent rfl rfl (by decide +kernel) ⟨Nat.le_of_ble_eq_true rfl, Nat.le_of_ble_eq_true rfl⟩ hK hN TH hS hA rfl hm0 hk0 (by decide) rfl hl.1 rfl (Nat.le_of_ble_eq_true rfl) dX10_isWithin_9 ⟨Nat.le_of_ble_eq_true rfl, Nat.le_of_ble_eq_true rfl⟩ (fun v4 kp4 L4 E4 H locs hq4 hx4 TH hS => ?_)
    obtain ⟨⟨xc5, rfl, hxc5a, hxc5b, hpoxc5_0, hpoxc5_1⟩, rfl, rfl, rfl⟩ := hq4
    refine W.eq (g2 := F0 m 12 ls [.int xc5, .int x2, .int x1]) rfl ?_
    refine lv_iadd hx hb dX10_isWithin_12 ?_
    refine lv_topi (fun zi6 ezi6 => ?_)
    have hzi6 : zi6.toInt = x2.toInt + xc5.toInt := by rw [ezi6];  have := ia_lo x2; have := ia_hi x2; have := ia_lo xc5; have := ia_hi xc5; exact (ia_add (by omega) (by omega)).trans (by omega)
    refine lv_icmp_ge (tgt := 20) hx hb dX10_isWithin_13 (by decide) (fun hc7 => ?_) (fun hc7 => ?_)
    · have hf8 : zi6.toInt ≤ x1.toInt := by have z := (fa_le _ _).mp hc7;  omega
      refine lv_iconst (v := 0) hx hb dX10_isWithin_20 (by decide) ?_
      exact tw_zret hx hb hr hlocks (by decide) TH hS hex ⟨⟨_, rfl, (show 0 ≤ Int32.toInt 0 from by have : ((0 : Int32).toInt) = 0 := (by decide); omega), (show Int32.toInt 0 ≤ 1 from by have : ((0 : Int32).toInt) = 0 := (by decide); omega)⟩, rfl, rfl, rfl⟩ (Nat.le_of_ble_eq_true rfl) (Nat.le_of_ble_eq_true rfl) dX10_isWithin_21
    · have hf9 : ¬ (zi6.toInt ≤ x1.toInt) := fun q => hc7 ((fa_le _ _).mpr (by  omega))
      refine lv_iconst (v := 1) hx hb dX10_isWithin_16 (by decide) ?_
      refine lv_goto (tgt := 21) hx hb dX10_isWithin_17 (by decide) ?_
      exact tw_zret hx hb hr hlocks (by decide) TH hS hex ⟨⟨_, rfl, (show 0 ≤ Int32.toInt 1 from by have : ((1 : Int32).toInt) = 1 := (by decide); omega), (show Int32.toInt 1 ≤ 1 from by have : ((1 : Int32).toInt) = 1 := (by decide); omega)⟩, rfl, rfl, rfl⟩ (Nat.le_of_ble_eq_true rfl) (Nat.le_of_ble_eq_true rfl) dX10_isWithin_21
set_option maxHeartbeats 4000000 in
set_option maxRecDepth 100000 in
theorem tX2_hasKind (l : Launch) (D : va_G) (cs : Nat → ClassId) {kp : Nat → Nat} {L : List Nat} {E : Nat → va_E} (a0 : Nat) (x1 : Int32) (hm0 : a0 ∈ L) (hk0 : kp a0 = 2) (sz : Nat) : Met l yX2_hasKind (.code yX2_hasKind cX2_hasKind 2 (some .boolean) :: cx_big) { frames := 0, cells := 0, slots := 0, locals := 0 } (tw_P D cs kp L E [.ref a0, .int x1] sz) (tw_Q D cs kp L (fun v kq Lq Eq => (∃ x : Int32, v = some (.int x) ∧ 0 ≤ x.toInt ∧ x.toInt ≤ 1 ∧ (x.toInt ≠ 0 → 0 ≤ x1.toInt ∧ x1.toInt ≤ 9) ∧ (∃ z0 : Int32, tw_fv Eq a0 1 = .int z0 ∧ (x.toInt ≠ 0 → 0 ≤ x1.toInt ∧ x1.toInt < z0.toInt))) ∧ kp = kq ∧ L = Lq ∧ E = Eq) (va_A (va_pl L E) sz)) 0 0 (va_A (va_pl L E) sz) := by
  refine tw_ofW (by decide) (Nat.le_of_ble_eq_true rfl) ?_
  intro p e s m below meth c A ls hx hb hr hml hB hown hlocks hK hN hA TH hS hl
  have hown : s.vm.findClass "TreeMerge$Grammar" = some m.cls := hown
  have hl : lv_has ls 2 [(0, .ref a0), (1, .int x1)] := hl
  obtain ⟨kp0, ekp⟩ : ∃ z, z = kp := ⟨_, rfl⟩
  obtain ⟨L0, eL⟩ : ∃ z, z = L := ⟨_, rfl⟩
  rw [show tw_Q D cs kp L = tw_Q D cs kp0 L0 by rw [ekp, eL]]
  have hex : ∀ a : Nat, a ∈ L0 → a ∈ L ∧ kp a = kp0 a := fun a h => ⟨by rw [← eL]; exact h, by rw [ekp]⟩
  refine lv_iload_n hx hb dX2_hasKind_0 rfl (lv_at hl 1 rfl) ?_
  refine lv_if_lt (tgt := 16) hx hb dX2_hasKind_1 (by decide) (fun hc1 => ?_) (fun hc1 => ?_)
  · have hf2 : x1.toInt < 0 := by have z := (fa_lt _ _).mp hc1; have : ((0 : Int32).toInt) = 0 := (by decide); omega
    refine lv_iconst (v := 0) hx hb dX2_hasKind_16 (by decide) ?_
    obtain ⟨xi3, hxi3, hxi3a, hxi3b⟩ := tw_rd TH hm0 hk0 (by decide) (by decide) (k := 1) rfl
    exact tw_zret hx hb hr hlocks (by decide) TH hS hex ⟨⟨_, rfl, (show 0 ≤ Int32.toInt 0 from by have : ((0 : Int32).toInt) = 0 := (by decide); omega), (show Int32.toInt 0 ≤ 1 from by have : ((0 : Int32).toInt) = 0 := (by decide); omega), (by have : ((0 : Int32).toInt) = 0 := (by decide); omega), ⟨xi3, hxi3, by have : ((0 : Int32).toInt) = 0 := (by decide); omega⟩⟩, rfl, rfl, rfl⟩ (Nat.le_of_ble_eq_true rfl) (Nat.le_of_ble_eq_true rfl) dX2_hasKind_17
  · have hf4 : ¬ (x1.toInt < 0) := fun q => hc1 ((fa_lt _ _).mpr (by have : ((0 : Int32).toInt) = 0 := (by decide); omega))
    refine lv_iload_n hx hb dX2_hasKind_4 rfl (lv_at hl 1 rfl) ?_
    refine lv_aload_n hx hb dX2_hasKind_5 rfl (lv_at hl 0 rfl) ?_
    refine tw_get (ci := 2) (C := RX2) (T := TX2) (N := 13) hx hb hB cx_inX2 hown hK TH hm0 hk0 rfl ⟨by decide, rfl⟩ 1 (by decide) cw_68 (fun _ h9 => h9) dX2_hasKind_6 (fun hv => ?_)
    obtain ⟨xi5, hxi5, hxi5a, hxi5b⟩ : ∃ x : Int32, tw_fv E a0 1 = .int x ∧ 0 ≤ x.toInt ∧ x.toInt ≤ 10 := hv
    rw [hxi5]
    refine lv_icmp_ge (tgt := 16) hx hb dX2_hasKind_9 (by decide) (fun hc6 => ?_) (fun hc6 => ?_)
    · have hf7 : xi5.toInt ≤ x1.toInt := by have z := (fa_le _ _).mp hc6;  omega
      refine lv_iconst (v := 0) hx hb dX2_hasKind_16 (by decide) ?_
      exact tw_zret hx hb hr hlocks (by decide) TH hS hex ⟨⟨_, rfl, (show 0 ≤ Int32.toInt 0 from by have : ((0 : Int32).toInt) = 0 := (by decide); omega), (show Int32.toInt 0 ≤ 1 from by have : ((0 : Int32).toInt) = 0 := (by decide); omega), (by have : ((0 : Int32).toInt) = 0 := (by decide); omega), ⟨xi5, hxi5, by have : ((0 : Int32).toInt) = 0 := (by decide); omega⟩⟩, rfl, rfl, rfl⟩ (Nat.le_of_ble_eq_true rfl) (Nat.le_of_ble_eq_true rfl) dX2_hasKind_17
    · have hf8 : ¬ (xi5.toInt ≤ x1.toInt) := fun q => hc6 ((fa_le _ _).mpr (by  omega))
      refine lv_iconst (v := 1) hx hb dX2_hasKind_12 (by decide) ?_
      refine lv_goto (tgt := 17) hx hb dX2_hasKind_13 (by decide) ?_
      exact tw_zret hx hb hr hlocks (by decide) TH hS hex ⟨⟨_, rfl, (show 0 ≤ Int32.toInt 1 from by have : ((1 : Int32).toInt) = 1 := (by decide); omega), (show Int32.toInt 1 ≤ 1 from by have : ((1 : Int32).toInt) = 1 := (by decide); omega), (by have : ((1 : Int32).toInt) = 1 := (by decide); omega), ⟨xi5, hxi5, by have : ((1 : Int32).toInt) = 1 := (by decide); omega⟩⟩, rfl, rfl, rfl⟩ (Nat.le_of_ble_eq_true rfl) (Nat.le_of_ble_eq_true rfl) dX2_hasKind_17
set_option maxHeartbeats 4000000 in
set_option maxRecDepth 100000 in
theorem tX2_isSet (l : Launch) (D : va_G) (cs : Nat → ClassId) {kp : Nat → Nat} {L : List Nat} {E : Nat → va_E} (a0 : Nat) (x1 : Int32) (hm0 : a0 ∈ L) (hk0 : kp a0 = 2) (sz : Nat) : Met l yX2_isSet (.code yX2_isSet cX2_isSet 2 (some .boolean) :: cx_big) { frames := 1, cells := 0, slots := 0, locals := 21 } (tw_P D cs kp L E [.ref a0, .int x1] sz) (tw_Q D cs kp L (fun v kq Lq Eq => (∃ x : Int32, v = some (.int x) ∧ 0 ≤ x.toInt ∧ x.toInt ≤ 1) ∧ kp = kq ∧ L = Lq ∧ E = Eq) (va_A (va_pl L E) sz)) 0 0 (va_A (va_pl L E) sz) := by
  refine tw_ofW (by decide) (Nat.le_of_ble_eq_true rfl) ?_
  intro p e s m below meth c A ls hx hb hr hml hB hown hlocks hK hN hA TH hS hl
  have hown : s.vm.findClass "TreeMerge$Grammar" = some m.cls := hown
  have hl : lv_has ls 2 [(0, .ref a0), (1, .int x1)] := hl
  obtain ⟨kp0, ekp⟩ : ∃ z, z = kp := ⟨_, rfl⟩
  obtain ⟨L0, eL⟩ : ∃ z, z = L := ⟨_, rfl⟩
  rw [show tw_Q D cs kp L = tw_Q D cs kp0 L0 by rw [ekp, eL]]
  have hex : ∀ a : Nat, a ∈ L0 → a ∈ L ∧ kp a = kp0 a := fun a h => ⟨by rw [← eL]; exact h, by rw [ekp]⟩
  refine lv_aload_n hx hb dX2_isSet_0 rfl (lv_at hl 0 rfl) ?_
  refine lv_iload_n hx hb dX2_isSet_1 rfl (lv_at hl 1 rfl) ?_
  refine tw_Vc (o := a0) (ci := 2) (n := 1) (post := (fun v kq Lq Eq => (∃ x : Int32, v = some (.int x) ∧ 0 ≤ x.toInt ∧ x.toInt ≤ 1 ∧ (x.toInt ≠ 0 → 0 ≤ x1.toInt ∧ x1.toInt ≤ 9) ∧ (∃ z0 : Int32, tw_fv Eq a0 1 = .int z0 ∧ (x.toInt ≠ 0 → 0 ≤ x1.toInt ∧ x1.toInt < z0.toInt))) ∧ kp = kq ∧ L = Lq ∧ E = Eq)) (As := [.int x1]) (rest := []) ⟨hx, hb, hml, hown, hB⟩ (fun sz => tX2_hasKind l D cs a0 x1 hm0 hk0 sz) cg_2_49_X2_hasKind rfl rfl (by decide +kernel) ⟨Nat.le_of_ble_eq_true rfl, Nat.le_of_ble_eq_true rfl⟩ hK hN TH hS hA rfl hm0 hk0 (by decide) rfl hl.1 rfl (Nat.le_of_ble_eq_true rfl) dX2_isSet_2 ⟨Nat.le_of_ble_eq_true rfl, Nat.le_of_ble_eq_true rfl⟩ (fun v1 kp1 L1 E1 H locs hq1 hx1 TH hS => ?_)
  obtain ⟨⟨xc2, rfl, hxc2a, hxc2b, hpoxc2_0, ⟨zfxc2_0_0, hzfxc2_0_0, hzpxc2_0⟩⟩, rfl, rfl, rfl⟩ := hq1
  obtain ⟨qzfxc2_0_0, hqzfxc2_0_0, hqzfxc2_0_0a, hqzfxc2_0_0b⟩ := tw_rd TH hm0 hk0 (by decide) (by decide) (k := 1) rfl
  have eqzfxc2_0_0 : qzfxc2_0_0 = zfxc2_0_0 := by have q := hqzfxc2_0_0.symm.trans hzfxc2_0_0; injection q
  rw [eqzfxc2_0_0] at hqzfxc2_0_0a hqzfxc2_0_0b
  refine W.eq (g2 := F0 m 5 ls [.int xc2]) rfl ?_
  refine lv_if_eq (tgt := 22) hx hb dX2_isSet_5 (by decide) (fun hc3 => ?_) (fun hc3 => ?_)
  · have hf4 : xc2.toInt = 0 := by have z := (fa_eq _ _).mp hc3; have : ((0 : Int32).toInt) = 0 := (by decide); omega
    refine lv_iconst (v := 0) hx hb dX2_isSet_22 (by decide) ?_
    exact tw_zret hx hb hr hlocks (by decide) TH hS hex ⟨⟨_, rfl, (show 0 ≤ Int32.toInt 0 from by have : ((0 : Int32).toInt) = 0 := (by decide); omega), (show Int32.toInt 0 ≤ 1 from by have : ((0 : Int32).toInt) = 0 := (by decide); omega)⟩, rfl, rfl, rfl⟩ (Nat.le_of_ble_eq_true rfl) (Nat.le_of_ble_eq_true rfl) dX2_isSet_23
  · have hf5 : ¬ (xc2.toInt = 0) := fun q => hc3 ((fa_eq _ _).mpr (by have : ((0 : Int32).toInt) = 0 := (by decide); omega))
    refine lv_aload_n hx hb dX2_isSet_8 rfl (lv_at hl 0 rfl) ?_
    refine tw_get (ci := 2) (C := RX2) (T := TX2) (N := 13) hx hb hB cx_inX2 hown hK TH hm0 hk0 rfl ⟨by decide, rfl⟩ 4 (by decide) cw_74 (fun _ h9 => h9) dX2_isSet_9 (fun hv => ?_)
    obtain ⟨xr6, hxr6, hmxr6, hkxr6⟩ : ∃ a : Nat, tw_fv E a0 4 = .ref a ∧ a ∈ L ∧ kp a = 131 := hv
    rw [hxr6]
    refine lv_iload_n hx hb dX2_isSet_12 rfl (lv_at hl 1 rfl) ?_
    refine tw_iald (k := 131) (t0 := 0) (n := 10) (lo := 0) (hi := 255) hx hb hK TH hmxr6 hkxr6 (by decide) rfl rfl (i := x1) (vp_in_iff.mpr ⟨by  omega, by  omega⟩) dX2_isSet_13 (fun hxe7a hxe7b => ?_)
    obtain ⟨xe7, exe7⟩ : ∃ z : Int32, tw_iv E xr6 (Int32.toNatClampNeg x1) = z := ⟨_, rfl⟩
    rw [exe7] at hxe7a hxe7b ⊢
    refine lv_iconst (v := 3) hx hb dX2_isSet_14 (by decide) ?_
    refine lv_icmp_ne (tgt := 22) hx hb dX2_isSet_15 (by decide) (fun hc8 => ?_) (fun hc8 => ?_)
    · have hf9 : ¬ (xe7.toInt = 3) := fun q => hc8 ((fa_eq _ _).mpr (by have : ((3 : Int32).toInt) = 3 := (by decide); omega))
      refine lv_iconst (v := 0) hx hb dX2_isSet_22 (by decide) ?_
      exact tw_zret hx hb hr hlocks (by decide) TH hS hex ⟨⟨_, rfl, (show 0 ≤ Int32.toInt 0 from by have : ((0 : Int32).toInt) = 0 := (by decide); omega), (show Int32.toInt 0 ≤ 1 from by have : ((0 : Int32).toInt) = 0 := (by decide); omega)⟩, rfl, rfl, rfl⟩ (Nat.le_of_ble_eq_true rfl) (Nat.le_of_ble_eq_true rfl) dX2_isSet_23
    · have hf10 : xe7.toInt = 3 := by have z := (fa_eq _ _).mp hc8; have : ((3 : Int32).toInt) = 3 := (by decide); omega
      refine lv_iconst (v := 1) hx hb dX2_isSet_18 (by decide) ?_
      refine lv_goto (tgt := 23) hx hb dX2_isSet_19 (by decide) ?_
      exact tw_zret hx hb hr hlocks (by decide) TH hS hex ⟨⟨_, rfl, (show 0 ≤ Int32.toInt 1 from by have : ((1 : Int32).toInt) = 1 := (by decide); omega), (show Int32.toInt 1 ≤ 1 from by have : ((1 : Int32).toInt) = 1 := (by decide); omega)⟩, rfl, rfl, rfl⟩ (Nat.le_of_ble_eq_true rfl) (Nat.le_of_ble_eq_true rfl) dX2_isSet_23
set_option maxHeartbeats 4000000 in
set_option maxRecDepth 100000 in
theorem tX2_namesAll (l : Launch) (D : va_G) (cs : Nat → ClassId) {kp : Nat → Nat} {L : List Nat} {E : Nat → va_E} (a0 : Nat) (x1 : Int32) (a2 : Nat) (hm0 : a0 ∈ L) (hk0 : kp a0 = 2) (hp1a : 0 ≤ x1.toInt) (hp1b : x1.toInt ≤ 9) (hm2 : a2 ∈ L) (hk2 : kp a2 = 3) (sz : Nat) : Met l yX2_namesAll (.code yX2_namesAll cX2_namesAll 6 (some .boolean) :: cx_big) { frames := 0, cells := 0, slots := 0, locals := 0 } (tw_P D cs kp L E [.ref a0, .int x1, .ref a2] sz) (tw_Q D cs kp L (fun v kq Lq Eq => (∃ x : Int32, v = some (.int x) ∧ 0 ≤ x.toInt ∧ x.toInt ≤ 1) ∧ kp = kq ∧ L = Lq ∧ E = Eq) (va_A (va_pl L E) sz)) 0 0 (va_A (va_pl L E) sz) := by
  refine tw_ofW (by decide) (Nat.le_of_ble_eq_true rfl) ?_
  intro p e s m below meth c A ls hx hb hr hml hB hown hlocks hK hN hA TH hS hl
  have hown : s.vm.findClass "TreeMerge$Grammar" = some m.cls := hown
  have hl : lv_has ls 6 [(0, .ref a0), (1, .int x1), (2, .ref a2)] := hl
  obtain ⟨kp0, ekp⟩ : ∃ z, z = kp := ⟨_, rfl⟩
  obtain ⟨L0, eL⟩ : ∃ z, z = L := ⟨_, rfl⟩
  rw [show tw_Q D cs kp L = tw_Q D cs kp0 L0 by rw [ekp, eL]]
  have hex : ∀ a : Nat, a ∈ L0 → a ∈ L ∧ kp a = kp0 a := fun a h => ⟨by rw [← eL]; exact h, by rw [ekp]⟩
  refine lv_iconst (v := 0) hx hb dX2_namesAll_0 (by decide) ?_
  refine lv_istore_n (lv' := [(3, .int 0), (0, .ref a0), (1, .int x1), (2, .ref a2)]) hx hb dX2_namesAll_1 rfl hl (by decide) rfl (fun ls hl => ?_)
  have hJ2 : ∀ (n2 : Nat) (y2_3 : Int32) (H : Heap) (locs : List Loc) (ls : Array Slot), 0 ≤ y2_3.toInt → y2_3.toInt ≤ 40 → 40 - y2_3.toInt ≤ (n2 : Int) → tw_H D cs kp L E A H → va_S A s.heap H locs → lv_has ls 6 [(3, .int y2_3), (0, .ref a0), (1, .int x1), (2, .ref a2)] → W p l e { frames := 0, cells := 0, slots := 0, locals := 0 } s m [.ref a0, .int x1, .ref a2].toArray below meth c H locs 0 0 (MQ below (tw_Q D cs kp0 L0 (fun v kq Lq Eq => (∃ x : Int32, v = some (.int x) ∧ 0 ≤ x.toInt ∧ x.toInt ≤ 1) ∧ kp = kq ∧ L = Lq ∧ E = Eq) A) [.ref a0, .int x1, .ref a2].toArray s 0 0 A) (F0 m 2 ls []) := by
    intro n2
    induction n2 using Nat.strongRecOn with
    | _ n2 ih2 =>
      intro y2_3 H locs ls hy2_3a hy2_3b hmeas2 TH hS hl
      refine lv_iload_n hx hb dX2_namesAll_2 rfl (lv_at hl 0 rfl) ?_
      refine lv_aload_n hx hb dX2_namesAll_3 rfl (lv_at hl 3 rfl) ?_
      refine tw_get (ci := 3) (C := RX3) (T := TX3) (N := 3) hx hb hB cx_inX3 hown hK TH hm2 hk2 rfl ⟨by decide, rfl⟩ 0 (by decide) cw_178 (fun _ h9 => h9) dX2_namesAll_4 (fun hv => ?_)
      obtain ⟨xi1, hxi1, hxi1a, hxi1b⟩ : ∃ x : Int32, tw_fv E a2 0 = .int x ∧ 0 ≤ x.toInt ∧ x.toInt ≤ 40 := hv
      rw [hxi1]
      refine lv_icmp_ge (tgt := 79) hx hb dX2_namesAll_7 (by decide) (fun hc2 => ?_) (fun hc2 => ?_)
      · have hf3 : xi1.toInt ≤ y2_3.toInt := by have z := (fa_le _ _).mp hc2;  omega
        refine lv_iconst (v := 1) hx hb dX2_namesAll_79 (by decide) ?_
        exact tw_zret hx hb hr hlocks (by decide) TH hS hex ⟨⟨_, rfl, (show 0 ≤ Int32.toInt 1 from by have : ((1 : Int32).toInt) = 1 := (by decide); omega), (show Int32.toInt 1 ≤ 1 from by have : ((1 : Int32).toInt) = 1 := (by decide); omega)⟩, rfl, rfl, rfl⟩ (Nat.le_of_ble_eq_true rfl) (Nat.le_of_ble_eq_true rfl) dX2_namesAll_80
      · have hf4 : ¬ (xi1.toInt ≤ y2_3.toInt) := fun q => hc2 ((fa_le _ _).mpr (by  omega))
        refine lv_iconst (v := 0) hx hb dX2_namesAll_10 (by decide) ?_
        refine lv_istore (lv' := [(4, .int 0), (3, .int y2_3), (0, .ref a0), (1, .int x1), (2, .ref a2)]) hx hb dX2_namesAll_11 hl (by decide) rfl (fun ls hl => ?_)
        refine lv_aload_n hx hb dX2_namesAll_13 rfl (lv_at hl 2 rfl) ?_
        refine tw_get (ci := 2) (C := RX2) (T := TX2) (N := 13) hx hb hB cx_inX2 hown hK TH hm0 hk0 rfl ⟨by decide, rfl⟩ 5 (by decide) cw_75 (fun _ h9 => h9) dX2_namesAll_14 (fun hv => ?_)
        obtain ⟨xr5, hxr5, hmxr5, hkxr5⟩ : ∃ a : Nat, tw_fv E a0 5 = .ref a ∧ a ∈ L ∧ kp a = 136 := hv
        rw [hxr5]
        refine lv_iload_n hx hb dX2_namesAll_17 rfl (lv_at hl 3 rfl) ?_
        refine tw_iald (k := 136) (t0 := 0) (n := 10) (lo := 0) (hi := 500) hx hb hK TH hmxr5 hkxr5 (by decide) rfl rfl (i := x1) (vp_in_iff.mpr ⟨by  omega, by  omega⟩) dX2_namesAll_18 (fun hxe6a hxe6b => ?_)
        obtain ⟨xe6, exe6⟩ : ∃ z : Int32, tw_iv E xr5 (Int32.toNatClampNeg x1) = z := ⟨_, rfl⟩
        rw [exe6] at hxe6a hxe6b ⊢
        refine lv_istore (lv' := [(5, .int xe6), (4, .int 0), (3, .int y2_3), (0, .ref a0), (1, .int x1), (2, .ref a2)]) hx hb dX2_namesAll_19 hl (by decide) rfl (fun ls hl => ?_)
        have hJ21 : ∀ (n21 : Nat) (y21_5 : Int32) (y21_4 : Int32) (H : Heap) (locs : List Loc) (ls : Array Slot), 0 ≤ y21_5.toInt → y21_5.toInt ≤ 500 → 0 ≤ y21_4.toInt → y21_4.toInt ≤ 1 → 500 - y21_5.toInt ≤ (n21 : Int) → tw_H D cs kp L E A H → va_S A s.heap H locs → lv_has ls 6 [(5, .int y21_5), (4, .int y21_4), (3, .int y2_3), (0, .ref a0), (1, .int x1), (2, .ref a2)] → W p l e { frames := 0, cells := 0, slots := 0, locals := 0 } s m [.ref a0, .int x1, .ref a2].toArray below meth c H locs 0 0 (MQ below (tw_Q D cs kp0 L0 (fun v kq Lq Eq => (∃ x : Int32, v = some (.int x) ∧ 0 ≤ x.toInt ∧ x.toInt ≤ 1) ∧ kp = kq ∧ L = Lq ∧ E = Eq) A) [.ref a0, .int x1, .ref a2].toArray s 0 0 A) (F0 m 21 ls []) := by
          intro n21
          induction n21 using Nat.strongRecOn with
          | _ n21 ih21 =>
            intro y21_5 y21_4 H locs ls hy21_5a hy21_5b hy21_4a hy21_4b hmeas21 TH hS hl
            refine lv_iload hx hb dX2_namesAll_21 (lv_at hl 0 rfl) ?_
            refine lv_aload_n hx hb dX2_namesAll_23 rfl (lv_at hl 3 rfl) ?_
            refine tw_get (ci := 2) (C := RX2) (T := TX2) (N := 13) hx hb hB cx_inX2 hown hK TH hm0 hk0 rfl ⟨by decide, rfl⟩ 6 (by decide) cw_76 (fun _ h9 => h9) dX2_namesAll_24 (fun hv => ?_)
            obtain ⟨xr7, hxr7, hmxr7, hkxr7⟩ : ∃ a : Nat, tw_fv E a0 6 = .ref a ∧ a ∈ L ∧ kp a = 138 := hv
            rw [hxr7]
            refine lv_iload_n hx hb dX2_namesAll_27 rfl (lv_at hl 4 rfl) ?_
            refine tw_iald (k := 138) (t0 := 0) (n := 10) (lo := 0) (hi := 500) hx hb hK TH hmxr7 hkxr7 (by decide) rfl rfl (i := x1) (vp_in_iff.mpr ⟨by  omega, by  omega⟩) dX2_namesAll_28 (fun hxe8a hxe8b => ?_)
            obtain ⟨xe8, exe8⟩ : ∃ z : Int32, tw_iv E xr7 (Int32.toNatClampNeg x1) = z := ⟨_, rfl⟩
            rw [exe8] at hxe8a hxe8b ⊢
            refine lv_icmp_ge (tgt := 66) hx hb dX2_namesAll_29 (by decide) (fun hc9 => ?_) (fun hc9 => ?_)
            · have hf10 : xe8.toInt ≤ y21_5.toInt := by have z := (fa_le _ _).mp hc9;  omega
              refine lv_iload hx hb dX2_namesAll_66 (lv_at hl 1 rfl) ?_
              refine lv_if_ne (tgt := 73) hx hb dX2_namesAll_68 (by decide) (fun hc11 => ?_) (fun hc11 => ?_)
              · have hf12 : ¬ (y21_4.toInt = 0) := fun q => hc11 ((fa_eq _ _).mpr (by have : ((0 : Int32).toInt) = 0 := (by decide); omega))
                obtain ⟨zi13, ezi13⟩ : ∃ z : Int32, z = y2_3 + Int32.ofInt 1 := ⟨_, rfl⟩
                have hzi13 : zi13.toInt = y2_3.toInt + 1 := by rw [ezi13]; have : ((Int32.ofInt 1).toInt) = 1 := (by decide);  exact (ia_add (by omega) (by omega)).trans (by omega)
                refine lv_iinc (v := zi13) (lv' := [(3, .int zi13), (5, .int y21_5), (4, .int y21_4), (0, .ref a0), (1, .int x1), (2, .ref a2)]) hx hb dX2_namesAll_73 hl (k := 2) rfl ezi13.symm (by decide) rfl (fun ls hl => ?_)
                refine lv_goto (tgt := 2) hx hb dX2_namesAll_76 (by decide) ?_
                exact ih2 (n2 - 1) (by   omega) zi13 _ _ ls (by omega) (by omega) (by   omega) TH hS (lv_sub hl [0, 3, 4, 5] rfl)
              · have hf14 : y21_4.toInt = 0 := by have z := (fa_eq _ _).mp hc11; have : ((0 : Int32).toInt) = 0 := (by decide); omega
                refine lv_iconst (v := 0) hx hb dX2_namesAll_71 (by decide) ?_
                exact tw_zret hx hb hr hlocks (by decide) TH hS hex ⟨⟨_, rfl, (show 0 ≤ Int32.toInt 0 from by have : ((0 : Int32).toInt) = 0 := (by decide); omega), (show Int32.toInt 0 ≤ 1 from by have : ((0 : Int32).toInt) = 0 := (by decide); omega)⟩, rfl, rfl, rfl⟩ (Nat.le_of_ble_eq_true rfl) (Nat.le_of_ble_eq_true rfl) dX2_namesAll_72
            · have hf15 : ¬ (xe8.toInt ≤ y21_5.toInt) := fun q => hc9 ((fa_le _ _).mpr (by  omega))
              refine lv_iload hx hb dX2_namesAll_32 (lv_at hl 1 rfl) ?_
              have hJ58 : ∀ (z58_0 : Int32) (H : Heap) (locs : List Loc) (ls : Array Slot), 0 ≤ z58_0.toInt → z58_0.toInt ≤ 1 → tw_H D cs kp L E A H → va_S A s.heap H locs → lv_has ls 6 [(5, .int y21_5), (3, .int y2_3), (0, .ref a0), (1, .int x1), (2, .ref a2)] → W p l e { frames := 0, cells := 0, slots := 0, locals := 0 } s m [.ref a0, .int x1, .ref a2].toArray below meth c H locs 0 0 (MQ below (tw_Q D cs kp0 L0 (fun v kq Lq Eq => (∃ x : Int32, v = some (.int x) ∧ 0 ≤ x.toInt ∧ x.toInt ≤ 1) ∧ kp = kq ∧ L = Lq ∧ E = Eq) A) [.ref a0, .int x1, .ref a2].toArray s 0 0 A) (F0 m 58 ls [.int z58_0]) := by
                intro z58_0 H locs ls hz58_0a hz58_0b TH hS hl
                refine lv_istore (lv' := [(4, .int z58_0), (5, .int y21_5), (3, .int y2_3), (0, .ref a0), (1, .int x1), (2, .ref a2)]) hx hb dX2_namesAll_58 hl (by decide) rfl (fun ls hl => ?_)
                obtain ⟨zi16, ezi16⟩ : ∃ z : Int32, z = y21_5 + Int32.ofInt 1 := ⟨_, rfl⟩
                have hzi16 : zi16.toInt = y21_5.toInt + 1 := by rw [ezi16]; have : ((Int32.ofInt 1).toInt) = 1 := (by decide);  exact (ia_add (by omega) (by omega)).trans (by omega)
                refine lv_iinc (v := zi16) (lv' := [(5, .int zi16), (4, .int z58_0), (3, .int y2_3), (0, .ref a0), (1, .int x1), (2, .ref a2)]) hx hb dX2_namesAll_60 hl (k := 1) rfl ezi16.symm (by decide) rfl (fun ls hl => ?_)
                refine lv_goto (tgt := 21) hx hb dX2_namesAll_63 (by decide) ?_
                exact ih21 (n21 - 1) (by   omega) zi16 z58_0 _ _ ls (by omega) (by omega) (by omega) (by omega) (by   omega) TH hS (lv_sub hl [0, 1, 2, 3, 4, 5] rfl)
              have hJ53 : ∀  (H : Heap) (locs : List Loc) (ls : Array Slot), tw_H D cs kp L E A H → va_S A s.heap H locs → lv_has ls 6 [(5, .int y21_5), (3, .int y2_3), (0, .ref a0), (1, .int x1), (2, .ref a2)] → W p l e { frames := 0, cells := 0, slots := 0, locals := 0 } s m [.ref a0, .int x1, .ref a2].toArray below meth c H locs 0 0 (MQ below (tw_Q D cs kp0 L0 (fun v kq Lq Eq => (∃ x : Int32, v = some (.int x) ∧ 0 ≤ x.toInt ∧ x.toInt ≤ 1) ∧ kp = kq ∧ L = Lq ∧ E = Eq) A) [.ref a0, .int x1, .ref a2].toArray s 0 0 A) (F0 m 53 ls []) := by
                intro H locs ls TH hS hl
                refine lv_iconst (v := 1) hx hb dX2_namesAll_53 (by decide) ?_
                refine lv_goto (tgt := 58) hx hb dX2_namesAll_54 (by decide) ?_
                exact hJ58 (1 : Int32) _ _ ls (by have : ((1 : Int32).toInt) = 1 := (by decide); omega) (by have : ((1 : Int32).toInt) = 1 := (by decide); omega) TH hS (lv_sub hl [0, 1, 2, 3, 4] rfl)
              refine lv_if_ne (tgt := 53) hx hb dX2_namesAll_34 (by decide) (fun hc17 => ?_) (fun hc17 => ?_)
              · have hf18 : ¬ (y21_4.toInt = 0) := fun q => hc17 ((fa_eq _ _).mpr (by have : ((0 : Int32).toInt) = 0 := (by decide); omega))
                exact hJ53  _ _ ls  TH hS (lv_sub hl [0, 2, 3, 4, 5] rfl)
              · have hf19 : y21_4.toInt = 0 := by have z := (fa_eq _ _).mp hc17; have : ((0 : Int32).toInt) = 0 := (by decide); omega
                refine lv_aload_n hx hb dX2_namesAll_37 rfl (lv_at hl 3 rfl) ?_
                refine tw_get (ci := 2) (C := RX2) (T := TX2) (N := 13) hx hb hB cx_inX2 hown hK TH hm0 hk0 rfl ⟨by decide, rfl⟩ 10 (by decide) cw_80 (fun _ h9 => h9) dX2_namesAll_38 (fun hv => ?_)
                obtain ⟨xr20, hxr20, hmxr20, hkxr20⟩ : ∃ a : Nat, tw_fv E a0 10 = .ref a ∧ a ∈ L ∧ kp a = 133 := hv
                rw [hxr20]
                refine lv_iload hx hb dX2_namesAll_41 (lv_at hl 0 rfl) ?_
                refine tw_iald (k := 133) (t0 := 0) (n := 500) (lo := (-1)) (hi := 9) hx hb hK TH hmxr20 hkxr20 (by decide) rfl rfl (i := y21_5) (vp_in_iff.mpr ⟨by  omega, by  omega⟩) dX2_namesAll_43 (fun hxe21a hxe21b => ?_)
                obtain ⟨xe21, exe21⟩ : ∃ z : Int32, tw_iv E xr20 (Int32.toNatClampNeg y21_5) = z := ⟨_, rfl⟩
                rw [exe21] at hxe21a hxe21b ⊢
                refine lv_aload_n hx hb dX2_namesAll_44 rfl (lv_at hl 5 rfl) ?_
                refine tw_get (ci := 3) (C := RX3) (T := TX3) (N := 3) hx hb hB cx_inX3 hown hK TH hm2 hk2 rfl ⟨by decide, rfl⟩ 1 (by decide) cw_180 (fun _ h9 => h9) dX2_namesAll_45 (fun hv => ?_)
                obtain ⟨xr22, hxr22, hmxr22, hkxr22⟩ : ∃ a : Nat, tw_fv E a2 1 = .ref a ∧ a ∈ L ∧ kp a = 101 := hv
                rw [hxr22]
                refine lv_iload_n hx hb dX2_namesAll_48 rfl (lv_at hl 2 rfl) ?_
                refine tw_iald (k := 101) (t0 := 0) (n := 40) (lo := (-1)) (hi := 9) hx hb hK TH hmxr22 hkxr22 (by decide) rfl rfl (i := y2_3) (vp_in_iff.mpr ⟨by  omega, by  omega⟩) dX2_namesAll_49 (fun hxe23a hxe23b => ?_)
                obtain ⟨xe23, exe23⟩ : ∃ z : Int32, tw_iv E xr22 (Int32.toNatClampNeg y2_3) = z := ⟨_, rfl⟩
                rw [exe23] at hxe23a hxe23b ⊢
                refine lv_icmp_ne (tgt := 57) hx hb dX2_namesAll_50 (by decide) (fun hc24 => ?_) (fun hc24 => ?_)
                · have hf25 : ¬ (xe21.toInt = xe23.toInt) := fun q => hc24 ((fa_eq _ _).mpr (by  omega))
                  refine lv_iconst (v := 0) hx hb dX2_namesAll_57 (by decide) ?_
                  exact hJ58 (0 : Int32) _ _ ls (by have : ((0 : Int32).toInt) = 0 := (by decide); omega) (by have : ((0 : Int32).toInt) = 0 := (by decide); omega) TH hS (lv_sub hl [0, 2, 3, 4, 5] rfl)
                · have hf26 : xe21.toInt = xe23.toInt := by have z := (fa_eq _ _).mp hc24;  omega
                  exact hJ53  _ _ ls  TH hS (lv_sub hl [0, 2, 3, 4, 5] rfl)
        exact hJ21 501 xe6 (0 : Int32) _ _ ls (by omega) (by omega) (by have : ((0 : Int32).toInt) = 0 := (by decide); omega) (by have : ((0 : Int32).toInt) = 0 := (by decide); omega) (by have : ((0 : Int32).toInt) = 0 := (by decide);  omega) TH hS (lv_sub hl [0, 1, 2, 3, 4, 5] rfl)
  exact hJ2 41 (0 : Int32) _ _ ls (by have : ((0 : Int32).toInt) = 0 := (by decide); omega) (by have : ((0 : Int32).toInt) = 0 := (by decide); omega) (by have : ((0 : Int32).toInt) = 0 := (by decide);  omega) TH hS (lv_sub hl [0, 1, 2, 3] rfl)
set_option maxHeartbeats 4000000 in
set_option maxRecDepth 100000 in
theorem tX1_has (l : Launch) (D : va_G) (cs : Nat → ClassId) {kp : Nat → Nat} {L : List Nat} {E : Nat → va_E} (a0 : Nat) (x1 : Int32) (hm0 : a0 ∈ L) (hk0 : kp a0 = 1) (sz : Nat) : Met l yX1_has (.code yX1_has cX1_has 2 (some .boolean) :: cx_big) { frames := 0, cells := 0, slots := 0, locals := 0 } (tw_P D cs kp L E [.ref a0, .int x1] sz) (tw_Q D cs kp L (fun v kq Lq Eq => (∃ x : Int32, v = some (.int x) ∧ 0 ≤ x.toInt ∧ x.toInt ≤ 1 ∧ (x.toInt ≠ 0 → 0 ≤ x1.toInt ∧ x1.toInt ≤ 11)) ∧ kp = kq ∧ L = Lq ∧ E = Eq) (va_A (va_pl L E) sz)) 0 0 (va_A (va_pl L E) sz) := by
  refine tw_ofW (by decide) (Nat.le_of_ble_eq_true rfl) ?_
  intro p e s m below meth c A ls hx hb hr hml hB hown hlocks hK hN hA TH hS hl
  have hown : s.vm.findClass "TreeMerge$Editions" = some m.cls := hown
  have hl : lv_has ls 2 [(0, .ref a0), (1, .int x1)] := hl
  obtain ⟨kp0, ekp⟩ : ∃ z, z = kp := ⟨_, rfl⟩
  obtain ⟨L0, eL⟩ : ∃ z, z = L := ⟨_, rfl⟩
  rw [show tw_Q D cs kp L = tw_Q D cs kp0 L0 by rw [ekp, eL]]
  have hex : ∀ a : Nat, a ∈ L0 → a ∈ L ∧ kp a = kp0 a := fun a h => ⟨by rw [← eL]; exact h, by rw [ekp]⟩
  refine lv_iload_n hx hb dX1_has_0 rfl (lv_at hl 1 rfl) ?_
  refine lv_if_lt (tgt := 16) hx hb dX1_has_1 (by decide) (fun hc1 => ?_) (fun hc1 => ?_)
  · have hf2 : x1.toInt < 0 := by have z := (fa_lt _ _).mp hc1; have : ((0 : Int32).toInt) = 0 := (by decide); omega
    refine lv_iconst (v := 0) hx hb dX1_has_16 (by decide) ?_
    exact tw_zret hx hb hr hlocks (by decide) TH hS hex ⟨⟨_, rfl, (show 0 ≤ Int32.toInt 0 from by have : ((0 : Int32).toInt) = 0 := (by decide); omega), (show Int32.toInt 0 ≤ 1 from by have : ((0 : Int32).toInt) = 0 := (by decide); omega), (by have : ((0 : Int32).toInt) = 0 := (by decide); omega)⟩, rfl, rfl, rfl⟩ (Nat.le_of_ble_eq_true rfl) (Nat.le_of_ble_eq_true rfl) dX1_has_17
  · have hf3 : ¬ (x1.toInt < 0) := fun q => hc1 ((fa_lt _ _).mpr (by have : ((0 : Int32).toInt) = 0 := (by decide); omega))
    refine lv_iload_n hx hb dX1_has_4 rfl (lv_at hl 1 rfl) ?_
    refine lv_aload_n hx hb dX1_has_5 rfl (lv_at hl 0 rfl) ?_
    refine tw_get (ci := 1) (C := RX1) (T := TX1) (N := 5) hx hb hB cx_inX1 hown hK TH hm0 hk0 rfl ⟨by decide, rfl⟩ 0 (by decide) cw_229 (fun _ h9 => h9) dX1_has_6 (fun hv => ?_)
    obtain ⟨xi4, hxi4, hxi4a, hxi4b⟩ : ∃ x : Int32, tw_fv E a0 0 = .int x ∧ 0 ≤ x.toInt ∧ x.toInt ≤ 12 := hv
    rw [hxi4]
    refine lv_icmp_ge (tgt := 16) hx hb dX1_has_9 (by decide) (fun hc5 => ?_) (fun hc5 => ?_)
    · have hf6 : xi4.toInt ≤ x1.toInt := by have z := (fa_le _ _).mp hc5;  omega
      refine lv_iconst (v := 0) hx hb dX1_has_16 (by decide) ?_
      exact tw_zret hx hb hr hlocks (by decide) TH hS hex ⟨⟨_, rfl, (show 0 ≤ Int32.toInt 0 from by have : ((0 : Int32).toInt) = 0 := (by decide); omega), (show Int32.toInt 0 ≤ 1 from by have : ((0 : Int32).toInt) = 0 := (by decide); omega), (by have : ((0 : Int32).toInt) = 0 := (by decide); omega)⟩, rfl, rfl, rfl⟩ (Nat.le_of_ble_eq_true rfl) (Nat.le_of_ble_eq_true rfl) dX1_has_17
    · have hf7 : ¬ (xi4.toInt ≤ x1.toInt) := fun q => hc5 ((fa_le _ _).mpr (by  omega))
      refine lv_iconst (v := 1) hx hb dX1_has_12 (by decide) ?_
      refine lv_goto (tgt := 17) hx hb dX1_has_13 (by decide) ?_
      exact tw_zret hx hb hr hlocks (by decide) TH hS hex ⟨⟨_, rfl, (show 0 ≤ Int32.toInt 1 from by have : ((1 : Int32).toInt) = 1 := (by decide); omega), (show Int32.toInt 1 ≤ 1 from by have : ((1 : Int32).toInt) = 1 := (by decide); omega), (by have : ((1 : Int32).toInt) = 1 := (by decide); omega)⟩, rfl, rfl, rfl⟩ (Nat.le_of_ble_eq_true rfl) (Nat.le_of_ble_eq_true rfl) dX1_has_17
set_option maxHeartbeats 4000000 in
set_option maxRecDepth 100000 in
theorem tX1_isFull (l : Launch) (D : va_G) (cs : Nat → ClassId) {kp : Nat → Nat} {L : List Nat} {E : Nat → va_E} (a0 : Nat) (hm0 : a0 ∈ L) (hk0 : kp a0 = 1) (sz : Nat) : Met l yX1_isFull (.code yX1_isFull cX1_isFull 1 (some .boolean) :: cx_big) { frames := 0, cells := 0, slots := 0, locals := 0 } (tw_P D cs kp L E [.ref a0] sz) (tw_Q D cs kp L (fun v kq Lq Eq => (∃ x : Int32, v = some (.int x) ∧ 0 ≤ x.toInt ∧ x.toInt ≤ 1 ∧ (∃ z0 : Int32, tw_fv Eq a0 0 = .int z0 ∧ (x.toInt = 0 → z0.toInt ≤ 11))) ∧ kp = kq ∧ L = Lq ∧ E = Eq) (va_A (va_pl L E) sz)) 0 0 (va_A (va_pl L E) sz) := by
  refine tw_ofW (by decide) (Nat.le_of_ble_eq_true rfl) ?_
  intro p e s m below meth c A ls hx hb hr hml hB hown hlocks hK hN hA TH hS hl
  have hown : s.vm.findClass "TreeMerge$Editions" = some m.cls := hown
  have hl : lv_has ls 1 [(0, .ref a0)] := hl
  obtain ⟨kp0, ekp⟩ : ∃ z, z = kp := ⟨_, rfl⟩
  obtain ⟨L0, eL⟩ : ∃ z, z = L := ⟨_, rfl⟩
  rw [show tw_Q D cs kp L = tw_Q D cs kp0 L0 by rw [ekp, eL]]
  have hex : ∀ a : Nat, a ∈ L0 → a ∈ L ∧ kp a = kp0 a := fun a h => ⟨by rw [← eL]; exact h, by rw [ekp]⟩
  refine lv_aload_n hx hb dX1_isFull_0 rfl (lv_at hl 0 rfl) ?_
  refine tw_get (ci := 1) (C := RX1) (T := TX1) (N := 5) hx hb hB cx_inX1 hown hK TH hm0 hk0 rfl ⟨by decide, rfl⟩ 0 (by decide) cw_229 (fun _ h9 => h9) dX1_isFull_1 (fun hv => ?_)
  obtain ⟨xi1, hxi1, hxi1a, hxi1b⟩ : ∃ x : Int32, tw_fv E a0 0 = .int x ∧ 0 ≤ x.toInt ∧ x.toInt ≤ 12 := hv
  rw [hxi1]
  refine lv_bipush (v := 12) hx hb dX1_isFull_4 (by decide) ?_
  refine lv_icmp_lt (tgt := 13) hx hb dX1_isFull_6 (by decide) (fun hc2 => ?_) (fun hc2 => ?_)
  · have hf3 : xi1.toInt < 12 := by have z := (fa_lt _ _).mp hc2; have : ((12 : Int32).toInt) = 12 := (by decide); omega
    refine lv_iconst (v := 0) hx hb dX1_isFull_13 (by decide) ?_
    exact tw_zret hx hb hr hlocks (by decide) TH hS hex ⟨⟨_, rfl, (show 0 ≤ Int32.toInt 0 from by have : ((0 : Int32).toInt) = 0 := (by decide); omega), (show Int32.toInt 0 ≤ 1 from by have : ((0 : Int32).toInt) = 0 := (by decide); omega), ⟨xi1, hxi1, by have : ((0 : Int32).toInt) = 0 := (by decide); omega⟩⟩, rfl, rfl, rfl⟩ (Nat.le_of_ble_eq_true rfl) (Nat.le_of_ble_eq_true rfl) dX1_isFull_14
  · have hf4 : ¬ (xi1.toInt < 12) := fun q => hc2 ((fa_lt _ _).mpr (by have : ((12 : Int32).toInt) = 12 := (by decide); omega))
    refine lv_iconst (v := 1) hx hb dX1_isFull_9 (by decide) ?_
    refine lv_goto (tgt := 14) hx hb dX1_isFull_10 (by decide) ?_
    exact tw_zret hx hb hr hlocks (by decide) TH hS hex ⟨⟨_, rfl, (show 0 ≤ Int32.toInt 1 from by have : ((1 : Int32).toInt) = 1 := (by decide); omega), (show Int32.toInt 1 ≤ 1 from by have : ((1 : Int32).toInt) = 1 := (by decide); omega), ⟨xi1, hxi1, by have : ((1 : Int32).toInt) = 1 := (by decide); omega⟩⟩, rfl, rfl, rfl⟩ (Nat.le_of_ble_eq_true rfl) (Nat.le_of_ble_eq_true rfl) dX1_isFull_14
set_option maxHeartbeats 4000000 in
set_option maxRecDepth 100000 in
theorem tX1_fromsOf (l : Launch) (D : va_G) (cs : Nat → ClassId) {kp : Nat → Nat} {L : List Nat} {E : Nat → va_E} (a0 : Nat) (x1 : Int32) (hm0 : a0 ∈ L) (hk0 : kp a0 = 1) (sz : Nat) : Met l yX1_fromsOf (.code yX1_fromsOf cX1_fromsOf 2 (some .int) :: cx_big) { frames := 1, cells := 0, slots := 0, locals := 21 } (tw_P D cs kp L E [.ref a0, .int x1] sz) (tw_Q D cs kp L (fun v kq Lq Eq => (∃ x : Int32, v = some (.int x)) ∧ kp = kq ∧ L = Lq ∧ E = Eq) (va_A (va_pl L E) sz)) 0 0 (va_A (va_pl L E) sz) := by
  refine tw_ofW (by decide) (Nat.le_of_ble_eq_true rfl) ?_
  intro p e s m below meth c A ls hx hb hr hml hB hown hlocks hK hN hA TH hS hl
  have hown : s.vm.findClass "TreeMerge$Editions" = some m.cls := hown
  have hl : lv_has ls 2 [(0, .ref a0), (1, .int x1)] := hl
  obtain ⟨kp0, ekp⟩ : ∃ z, z = kp := ⟨_, rfl⟩
  obtain ⟨L0, eL⟩ : ∃ z, z = L := ⟨_, rfl⟩
  rw [show tw_Q D cs kp L = tw_Q D cs kp0 L0 by rw [ekp, eL]]
  have hex : ∀ a : Nat, a ∈ L0 → a ∈ L ∧ kp a = kp0 a := fun a h => ⟨by rw [← eL]; exact h, by rw [ekp]⟩
  refine lv_aload_n hx hb dX1_fromsOf_0 rfl (lv_at hl 0 rfl) ?_
  refine lv_iload_n hx hb dX1_fromsOf_1 rfl (lv_at hl 1 rfl) ?_
  refine tw_Vc (o := a0) (ci := 1) (n := 1) (post := (fun v kq Lq Eq => (∃ x : Int32, v = some (.int x) ∧ 0 ≤ x.toInt ∧ x.toInt ≤ 1 ∧ (x.toInt ≠ 0 → 0 ≤ x1.toInt ∧ x1.toInt ≤ 11)) ∧ kp = kq ∧ L = Lq ∧ E = Eq)) (As := [.int x1]) (rest := []) ⟨hx, hb, hml, hown, hB⟩ (fun sz => tX1_has l D cs a0 x1 hm0 hk0 sz) cg_1_31_X1_has rfl rfl (by decide +kernel) ⟨Nat.le_of_ble_eq_true rfl, Nat.le_of_ble_eq_true rfl⟩ hK hN TH hS hA rfl hm0 hk0 (by decide) rfl hl.1 rfl (Nat.le_of_ble_eq_true rfl) dX1_fromsOf_2 ⟨Nat.le_of_ble_eq_true rfl, Nat.le_of_ble_eq_true rfl⟩ (fun v1 kp1 L1 E1 H locs hq1 hx1 TH hS => ?_)
  obtain ⟨⟨xc2, rfl, hxc2a, hxc2b, hpoxc2_0⟩, rfl, rfl, rfl⟩ := hq1
  refine W.eq (g2 := F0 m 5 ls [.int xc2]) rfl ?_
  refine lv_if_eq (tgt := 17) hx hb dX1_fromsOf_5 (by decide) (fun hc3 => ?_) (fun hc3 => ?_)
  · have hf4 : xc2.toInt = 0 := by have z := (fa_eq _ _).mp hc3; have : ((0 : Int32).toInt) = 0 := (by decide); omega
    refine lv_iconst (v := 0) hx hb dX1_fromsOf_17 (by decide) ?_
    exact tw_iret hx hb hr hlocks TH hS hex ⟨⟨_, rfl⟩, rfl, rfl, rfl⟩ (Nat.le_of_ble_eq_true rfl) (Nat.le_of_ble_eq_true rfl) dX1_fromsOf_18
  · have hf5 : ¬ (xc2.toInt = 0) := fun q => hc3 ((fa_eq _ _).mpr (by have : ((0 : Int32).toInt) = 0 := (by decide); omega))
    refine lv_aload_n hx hb dX1_fromsOf_8 rfl (lv_at hl 0 rfl) ?_
    refine tw_get (ci := 1) (C := RX1) (T := TX1) (N := 5) hx hb hB cx_inX1 hown hK TH hm0 hk0 rfl ⟨by decide, rfl⟩ 4 (by decide) cw_236 (fun _ h9 => h9) dX1_fromsOf_9 (fun hv => ?_)
    obtain ⟨xr6, hxr6, hmxr6, hkxr6⟩ : ∃ a : Nat, tw_fv E a0 4 = .ref a ∧ a ∈ L ∧ kp a = 142 := hv
    rw [hxr6]
    refine lv_iload_n hx hb dX1_fromsOf_12 rfl (lv_at hl 1 rfl) ?_
    refine tw_iald (k := 142) (t0 := 0) (n := 12) (lo := (-2147483648)) (hi := 2147483647) hx hb hK TH hmxr6 hkxr6 (by decide) rfl rfl (i := x1) (vp_in_iff.mpr ⟨by  omega, by  omega⟩) dX1_fromsOf_13 (fun hxe7a hxe7b => ?_)
    obtain ⟨xe7, exe7⟩ : ∃ z : Int32, tw_iv E xr6 (Int32.toNatClampNeg x1) = z := ⟨_, rfl⟩
    rw [exe7] at hxe7a hxe7b ⊢
    refine lv_goto (tgt := 18) hx hb dX1_fromsOf_14 (by decide) ?_
    exact tw_iret hx hb hr hlocks TH hS hex ⟨⟨_, rfl⟩, rfl, rfl, rfl⟩ (Nat.le_of_ble_eq_true rfl) (Nat.le_of_ble_eq_true rfl) dX1_fromsOf_18
set_option maxHeartbeats 4000000 in
set_option maxRecDepth 100000 in
theorem tX1_onlyParent (l : Launch) (D : va_G) (cs : Nat → ClassId) {kp : Nat → Nat} {L : List Nat} {E : Nat → va_E} (a0 : Nat) (x1 : Int32) (hm0 : a0 ∈ L) (hk0 : kp a0 = 1) (sz : Nat) : Met l yX1_onlyParent (.code yX1_onlyParent cX1_onlyParent 2 (some .int) :: cx_big) { frames := 1, cells := 0, slots := 0, locals := 21 } (tw_P D cs kp L E [.ref a0, .int x1] sz) (tw_Q D cs kp L (fun v kq Lq Eq => (∃ x : Int32, v = some (.int x)) ∧ kp = kq ∧ L = Lq ∧ E = Eq) (va_A (va_pl L E) sz)) 0 0 (va_A (va_pl L E) sz) := by
  refine tw_ofW (by decide) (Nat.le_of_ble_eq_true rfl) ?_
  intro p e s m below meth c A ls hx hb hr hml hB hown hlocks hK hN hA TH hS hl
  have hown : s.vm.findClass "TreeMerge$Editions" = some m.cls := hown
  have hl : lv_has ls 2 [(0, .ref a0), (1, .int x1)] := hl
  obtain ⟨kp0, ekp⟩ : ∃ z, z = kp := ⟨_, rfl⟩
  obtain ⟨L0, eL⟩ : ∃ z, z = L := ⟨_, rfl⟩
  rw [show tw_Q D cs kp L = tw_Q D cs kp0 L0 by rw [ekp, eL]]
  have hex : ∀ a : Nat, a ∈ L0 → a ∈ L ∧ kp a = kp0 a := fun a h => ⟨by rw [← eL]; exact h, by rw [ekp]⟩
  refine lv_aload_n hx hb dX1_onlyParent_0 rfl (lv_at hl 0 rfl) ?_
  refine lv_iload_n hx hb dX1_onlyParent_1 rfl (lv_at hl 1 rfl) ?_
  refine tw_Vc (o := a0) (ci := 1) (n := 1) (post := (fun v kq Lq Eq => (∃ x : Int32, v = some (.int x) ∧ 0 ≤ x.toInt ∧ x.toInt ≤ 1 ∧ (x.toInt ≠ 0 → 0 ≤ x1.toInt ∧ x1.toInt ≤ 11)) ∧ kp = kq ∧ L = Lq ∧ E = Eq)) (As := [.int x1]) (rest := []) ⟨hx, hb, hml, hown, hB⟩ (fun sz => tX1_has l D cs a0 x1 hm0 hk0 sz) cg_1_31_X1_has rfl rfl (by decide +kernel) ⟨Nat.le_of_ble_eq_true rfl, Nat.le_of_ble_eq_true rfl⟩ hK hN TH hS hA rfl hm0 hk0 (by decide) rfl hl.1 rfl (Nat.le_of_ble_eq_true rfl) dX1_onlyParent_2 ⟨Nat.le_of_ble_eq_true rfl, Nat.le_of_ble_eq_true rfl⟩ (fun v1 kp1 L1 E1 H locs hq1 hx1 TH hS => ?_)
  obtain ⟨⟨xc2, rfl, hxc2a, hxc2b, hpoxc2_0⟩, rfl, rfl, rfl⟩ := hq1
  refine W.eq (g2 := F0 m 5 ls [.int xc2]) rfl ?_
  refine lv_if_eq (tgt := 27) hx hb dX1_onlyParent_5 (by decide) (fun hc3 => ?_) (fun hc3 => ?_)
  · have hf4 : xc2.toInt = 0 := by have z := (fa_eq _ _).mp hc3; have : ((0 : Int32).toInt) = 0 := (by decide); omega
    refine lv_iconst (v := (-1)) hx hb dX1_onlyParent_27 (by decide) ?_
    exact tw_iret hx hb hr hlocks TH hS hex ⟨⟨_, rfl⟩, rfl, rfl, rfl⟩ (Nat.le_of_ble_eq_true rfl) (Nat.le_of_ble_eq_true rfl) dX1_onlyParent_28
  · have hf5 : ¬ (xc2.toInt = 0) := fun q => hc3 ((fa_eq _ _).mpr (by have : ((0 : Int32).toInt) = 0 := (by decide); omega))
    refine lv_aload_n hx hb dX1_onlyParent_8 rfl (lv_at hl 0 rfl) ?_
    refine tw_get (ci := 1) (C := RX1) (T := TX1) (N := 5) hx hb hB cx_inX1 hown hK TH hm0 hk0 rfl ⟨by decide, rfl⟩ 3 (by decide) cw_234 (fun _ h9 => h9) dX1_onlyParent_9 (fun hv => ?_)
    obtain ⟨xr6, hxr6, hmxr6, hkxr6⟩ : ∃ a : Nat, tw_fv E a0 3 = .ref a ∧ a ∈ L ∧ kp a = 141 := hv
    rw [hxr6]
    refine lv_iload_n hx hb dX1_onlyParent_12 rfl (lv_at hl 1 rfl) ?_
    refine tw_iald (k := 141) (t0 := 0) (n := 12) (lo := (-2147483648)) (hi := 2147483647) hx hb hK TH hmxr6 hkxr6 (by decide) rfl rfl (i := x1) (vp_in_iff.mpr ⟨by  omega, by  omega⟩) dX1_onlyParent_13 (fun hxe7a hxe7b => ?_)
    obtain ⟨xe7, exe7⟩ : ∃ z : Int32, tw_iv E xr6 (Int32.toNatClampNeg x1) = z := ⟨_, rfl⟩
    rw [exe7] at hxe7a hxe7b ⊢
    refine lv_iconst (v := (-1)) hx hb dX1_onlyParent_14 (by decide) ?_
    refine lv_icmp_ne (tgt := 27) hx hb dX1_onlyParent_15 (by decide) (fun hc8 => ?_) (fun hc8 => ?_)
    · have hf9 : ¬ (xe7.toInt = (-1)) := fun q => hc8 ((fa_eq _ _).mpr (by have : (((-1) : Int32).toInt) = (-1) := (by decide); omega))
      refine lv_iconst (v := (-1)) hx hb dX1_onlyParent_27 (by decide) ?_
      exact tw_iret hx hb hr hlocks TH hS hex ⟨⟨_, rfl⟩, rfl, rfl, rfl⟩ (Nat.le_of_ble_eq_true rfl) (Nat.le_of_ble_eq_true rfl) dX1_onlyParent_28
    · have hf10 : xe7.toInt = (-1) := by have z := (fa_eq _ _).mp hc8; have : (((-1) : Int32).toInt) = (-1) := (by decide); omega
      refine lv_aload_n hx hb dX1_onlyParent_18 rfl (lv_at hl 0 rfl) ?_
      refine tw_get (ci := 1) (C := RX1) (T := TX1) (N := 5) hx hb hB cx_inX1 hown hK TH hm0 hk0 rfl ⟨by decide, rfl⟩ 2 (by decide) cw_232 (fun _ h9 => h9) dX1_onlyParent_19 (fun hv => ?_)
      obtain ⟨xr11, hxr11, hmxr11, hkxr11⟩ : ∃ a : Nat, tw_fv E a0 2 = .ref a ∧ a ∈ L ∧ kp a = 141 := hv
      rw [hxr11]
      refine lv_iload_n hx hb dX1_onlyParent_22 rfl (lv_at hl 1 rfl) ?_
      refine tw_iald (k := 141) (t0 := 0) (n := 12) (lo := (-2147483648)) (hi := 2147483647) hx hb hK TH hmxr11 hkxr11 (by decide) rfl rfl (i := x1) (vp_in_iff.mpr ⟨by  omega, by  omega⟩) dX1_onlyParent_23 (fun hxe12a hxe12b => ?_)
      obtain ⟨xe12, exe12⟩ : ∃ z : Int32, tw_iv E xr11 (Int32.toNatClampNeg x1) = z := ⟨_, rfl⟩
      rw [exe12] at hxe12a hxe12b ⊢
      refine lv_goto (tgt := 28) hx hb dX1_onlyParent_24 (by decide) ?_
      exact tw_iret hx hb hr hlocks TH hS hex ⟨⟨_, rfl⟩, rfl, rfl, rfl⟩ (Nat.le_of_ble_eq_true rfl) (Nat.le_of_ble_eq_true rfl) dX1_onlyParent_28
set_option maxHeartbeats 4000000 in
set_option maxRecDepth 100000 in
theorem tX1_comesFrom (l : Launch) (D : va_G) (cs : Nat → ClassId) {kp : Nat → Nat} {L : List Nat} {E : Nat → va_E} (a0 : Nat) (x1 : Int32) (x2 : Int32) (hm0 : a0 ∈ L) (hk0 : kp a0 = 1) (sz : Nat) : Met l yX1_comesFrom (.code yX1_comesFrom cX1_comesFrom 3 (some .boolean) :: cx_big) { frames := 2, cells := 0, slots := 0, locals := 42 } (tw_P D cs kp L E [.ref a0, .int x1, .int x2] sz) (tw_Q D cs kp L (fun v kq Lq Eq => (∃ x : Int32, v = some (.int x) ∧ 0 ≤ x.toInt ∧ x.toInt ≤ 1) ∧ kp = kq ∧ L = Lq ∧ E = Eq) (va_A (va_pl L E) sz)) 0 0 (va_A (va_pl L E) sz) := by
  refine tw_ofW (by decide) (Nat.le_of_ble_eq_true rfl) ?_
  intro p e s m below meth c A ls hx hb hr hml hB hown hlocks hK hN hA TH hS hl
  have hown : s.vm.findClass "TreeMerge$Editions" = some m.cls := hown
  have hl : lv_has ls 3 [(0, .ref a0), (1, .int x1), (2, .int x2)] := hl
  obtain ⟨kp0, ekp⟩ : ∃ z, z = kp := ⟨_, rfl⟩
  obtain ⟨L0, eL⟩ : ∃ z, z = L := ⟨_, rfl⟩
  rw [show tw_Q D cs kp L = tw_Q D cs kp0 L0 by rw [ekp, eL]]
  have hex : ∀ a : Nat, a ∈ L0 → a ∈ L ∧ kp a = kp0 a := fun a h => ⟨by rw [← eL]; exact h, by rw [ekp]⟩
  refine lv_aload_n hx hb dX1_comesFrom_0 rfl (lv_at hl 0 rfl) ?_
  refine lv_iload_n hx hb dX1_comesFrom_1 rfl (lv_at hl 2 rfl) ?_
  refine tw_Vc (o := a0) (ci := 1) (n := 1) (post := (fun v kq Lq Eq => (∃ x : Int32, v = some (.int x) ∧ 0 ≤ x.toInt ∧ x.toInt ≤ 1 ∧ (x.toInt ≠ 0 → 0 ≤ x2.toInt ∧ x2.toInt ≤ 11)) ∧ kp = kq ∧ L = Lq ∧ E = Eq)) (As := [.int x2]) (rest := []) ⟨hx, hb, hml, hown, hB⟩ (fun sz => tX1_has l D cs a0 x2 hm0 hk0 sz) cg_1_31_X1_has rfl rfl (by decide +kernel) ⟨Nat.le_of_ble_eq_true rfl, Nat.le_of_ble_eq_true rfl⟩ hK hN TH hS hA rfl hm0 hk0 (by decide) rfl hl.1 rfl (Nat.le_of_ble_eq_true rfl) dX1_comesFrom_2 ⟨Nat.le_of_ble_eq_true rfl, Nat.le_of_ble_eq_true rfl⟩ (fun v1 kp1 L1 E1 H locs hq1 hx1 TH hS => ?_)
  obtain ⟨⟨xc2, rfl, hxc2a, hxc2b, hpoxc2_0⟩, rfl, rfl, rfl⟩ := hq1
  refine W.eq (g2 := F0 m 5 ls [.int xc2]) rfl ?_
  refine lv_if_eq (tgt := 24) hx hb dX1_comesFrom_5 (by decide) (fun hc3 => ?_) (fun hc3 => ?_)
  · have hf4 : xc2.toInt = 0 := by have z := (fa_eq _ _).mp hc3; have : ((0 : Int32).toInt) = 0 := (by decide); omega
    refine lv_iconst (v := 0) hx hb dX1_comesFrom_24 (by decide) ?_
    exact tw_zret hx hb hr hlocks (by decide) TH hS hex ⟨⟨_, rfl, (show 0 ≤ Int32.toInt 0 from by have : ((0 : Int32).toInt) = 0 := (by decide); omega), (show Int32.toInt 0 ≤ 1 from by have : ((0 : Int32).toInt) = 0 := (by decide); omega)⟩, rfl, rfl, rfl⟩ (Nat.le_of_ble_eq_true rfl) (Nat.le_of_ble_eq_true rfl) dX1_comesFrom_25
  · have hf5 : ¬ (xc2.toInt = 0) := fun q => hc3 ((fa_eq _ _).mpr (by have : ((0 : Int32).toInt) = 0 := (by decide); omega))
    refine lv_aload_n hx hb dX1_comesFrom_8 rfl (lv_at hl 0 rfl) ?_
    refine lv_iload_n hx hb dX1_comesFrom_9 rfl (lv_at hl 1 rfl) ?_
    refine tw_Vc (o := a0) (ci := 1) (n := 1) (post := (fun v kq Lq Eq => (∃ x : Int32, v = some (.int x)) ∧ kp = kq ∧ L = Lq ∧ E = Eq)) (As := [.int x1]) (rest := []) ⟨hx, hb, hml, hown, hB⟩ (fun sz => tX1_fromsOf l D cs a0 x1 hm0 hk0 sz) cg_1_59_X1_fromsOf rfl rfl (by decide +kernel) ⟨Nat.le_of_ble_eq_true rfl, Nat.le_of_ble_eq_true rfl⟩ hK hN TH hS hA rfl hm0 hk0 (by decide) rfl hl.1 rfl (Nat.le_of_ble_eq_true rfl) dX1_comesFrom_10 ⟨Nat.le_of_ble_eq_true rfl, Nat.le_of_ble_eq_true rfl⟩ (fun v6 kp6 L6 E6 H locs hq6 hx6 TH hS => ?_)
    obtain ⟨⟨xc7, rfl⟩, rfl, rfl, rfl⟩ := hq6
    refine W.eq (g2 := F0 m 13 ls [.int xc7]) rfl ?_
    refine lv_iconst (v := 1) hx hb dX1_comesFrom_13 (by decide) ?_
    refine lv_iload_n hx hb dX1_comesFrom_14 rfl (lv_at hl 2 rfl) ?_
    refine lv_ishl hx hb dX1_comesFrom_15 ?_
    refine lv_topi (fun zi8 ezi8 => ?_)
    refine lv_iand hx hb dX1_comesFrom_16 ?_
    refine lv_topi (fun zi9 ezi9 => ?_)
    refine lv_if_eq (tgt := 24) hx hb dX1_comesFrom_17 (by decide) (fun hc10 => ?_) (fun hc10 => ?_)
    · have hf11 : zi9.toInt = 0 := by have z := (fa_eq _ _).mp hc10; have : ((0 : Int32).toInt) = 0 := (by decide); omega
      refine lv_iconst (v := 0) hx hb dX1_comesFrom_24 (by decide) ?_
      exact tw_zret hx hb hr hlocks (by decide) TH hS hex ⟨⟨_, rfl, (show 0 ≤ Int32.toInt 0 from by have : ((0 : Int32).toInt) = 0 := (by decide); omega), (show Int32.toInt 0 ≤ 1 from by have : ((0 : Int32).toInt) = 0 := (by decide); omega)⟩, rfl, rfl, rfl⟩ (Nat.le_of_ble_eq_true rfl) (Nat.le_of_ble_eq_true rfl) dX1_comesFrom_25
    · have hf12 : ¬ (zi9.toInt = 0) := fun q => hc10 ((fa_eq _ _).mpr (by have : ((0 : Int32).toInt) = 0 := (by decide); omega))
      refine lv_iconst (v := 1) hx hb dX1_comesFrom_20 (by decide) ?_
      refine lv_goto (tgt := 25) hx hb dX1_comesFrom_21 (by decide) ?_
      exact tw_zret hx hb hr hlocks (by decide) TH hS hex ⟨⟨_, rfl, (show 0 ≤ Int32.toInt 1 from by have : ((1 : Int32).toInt) = 1 := (by decide); omega), (show Int32.toInt 1 ≤ 1 from by have : ((1 : Int32).toInt) = 1 := (by decide); omega)⟩, rfl, rfl, rfl⟩ (Nat.le_of_ble_eq_true rfl) (Nat.le_of_ble_eq_true rfl) dX1_comesFrom_25
set_option maxHeartbeats 4000000 in
set_option maxRecDepth 100000 in
theorem tX1_common (l : Launch) (D : va_G) (cs : Nat → ClassId) {kp : Nat → Nat} {L : List Nat} {E : Nat → va_E} (a0 : Nat) (x1 : Int32) (x2 : Int32) (hm0 : a0 ∈ L) (hk0 : kp a0 = 1) (sz : Nat) : Met l yX1_common (.code yX1_common cX1_common 3 (some .int) :: cx_big) { frames := 2, cells := 0, slots := 0, locals := 42 } (tw_P D cs kp L E [.ref a0, .int x1, .int x2] sz) (tw_Q D cs kp L (fun v kq Lq Eq => (∃ x : Int32, v = some (.int x)) ∧ kp = kq ∧ L = Lq ∧ E = Eq) (va_A (va_pl L E) sz)) 0 0 (va_A (va_pl L E) sz) := by
  refine tw_ofW (by decide) (Nat.le_of_ble_eq_true rfl) ?_
  intro p e s m below meth c A ls hx hb hr hml hB hown hlocks hK hN hA TH hS hl
  have hown : s.vm.findClass "TreeMerge$Editions" = some m.cls := hown
  have hl : lv_has ls 3 [(0, .ref a0), (1, .int x1), (2, .int x2)] := hl
  obtain ⟨kp0, ekp⟩ : ∃ z, z = kp := ⟨_, rfl⟩
  obtain ⟨L0, eL⟩ : ∃ z, z = L := ⟨_, rfl⟩
  rw [show tw_Q D cs kp L = tw_Q D cs kp0 L0 by rw [ekp, eL]]
  have hex : ∀ a : Nat, a ∈ L0 → a ∈ L ∧ kp a = kp0 a := fun a h => ⟨by rw [← eL]; exact h, by rw [ekp]⟩
  refine lv_aload_n hx hb dX1_common_0 rfl (lv_at hl 0 rfl) ?_
  refine lv_iload_n hx hb dX1_common_1 rfl (lv_at hl 1 rfl) ?_
  refine tw_Vc (o := a0) (ci := 1) (n := 1) (post := (fun v kq Lq Eq => (∃ x : Int32, v = some (.int x)) ∧ kp = kq ∧ L = Lq ∧ E = Eq)) (As := [.int x1]) (rest := []) ⟨hx, hb, hml, hown, hB⟩ (fun sz => tX1_fromsOf l D cs a0 x1 hm0 hk0 sz) cg_1_59_X1_fromsOf rfl rfl (by decide +kernel) ⟨Nat.le_of_ble_eq_true rfl, Nat.le_of_ble_eq_true rfl⟩ hK hN TH hS hA rfl hm0 hk0 (by decide) rfl hl.1 rfl (Nat.le_of_ble_eq_true rfl) dX1_common_2 ⟨Nat.le_of_ble_eq_true rfl, Nat.le_of_ble_eq_true rfl⟩ (fun v1 kp1 L1 E1 H locs hq1 hx1 TH hS => ?_)
  obtain ⟨⟨xc2, rfl⟩, rfl, rfl, rfl⟩ := hq1
  refine W.eq (g2 := F0 m 5 ls [.int xc2]) rfl ?_
  refine lv_aload_n hx hb dX1_common_5 rfl (lv_at hl 0 rfl) ?_
  refine lv_iload_n hx hb dX1_common_6 rfl (lv_at hl 2 rfl) ?_
  refine tw_Vc (o := a0) (ci := 1) (n := 1) (post := (fun v kq Lq Eq => (∃ x : Int32, v = some (.int x)) ∧ kp = kq ∧ L = Lq ∧ E = Eq)) (As := [.int x2]) (rest := [.int xc2]) ⟨hx, hb, hml, hown, hB⟩ (fun sz => tX1_fromsOf l D cs a0 x2 hm0 hk0 sz) cg_1_59_X1_fromsOf rfl rfl (by decide +kernel) ⟨Nat.le_of_ble_eq_true rfl, Nat.le_of_ble_eq_true rfl⟩ hK hN TH hS hA rfl hm0 hk0 (by decide) rfl hl.1 rfl (Nat.le_of_ble_eq_true rfl) dX1_common_7 ⟨Nat.le_of_ble_eq_true rfl, Nat.le_of_ble_eq_true rfl⟩ (fun v3 kp3 L3 E3 H locs hq3 hx3 TH hS => ?_)
  obtain ⟨⟨xc4, rfl⟩, rfl, rfl, rfl⟩ := hq3
  refine W.eq (g2 := F0 m 10 ls [.int xc4, .int xc2]) rfl ?_
  refine lv_iand hx hb dX1_common_10 ?_
  refine lv_topi (fun zi5 ezi5 => ?_)
  exact tw_iret hx hb hr hlocks TH hS hex ⟨⟨_, rfl⟩, rfl, rfl, rfl⟩ (Nat.le_of_ble_eq_true rfl) (Nat.le_of_ble_eq_true rfl) dX1_common_11
set_option maxHeartbeats 4000000 in
set_option maxRecDepth 100000 in
theorem tX1_latest (l : Launch) (D : va_G) (cs : Nat → ClassId) {kp : Nat → Nat} {L : List Nat} {E : Nat → va_E} (a0 : Nat) (x1 : Int32) (hm0 : a0 ∈ L) (hk0 : kp a0 = 1) (sz : Nat) : Met l yX1_latest (.code yX1_latest cX1_latest 4 (some .int) :: cx_big) { frames := 0, cells := 0, slots := 0, locals := 0 } (tw_P D cs kp L E [.ref a0, .int x1] sz) (tw_Q D cs kp L (fun v kq Lq Eq => (∃ x : Int32, v = some (.int x)) ∧ kp = kq ∧ L = Lq ∧ E = Eq) (va_A (va_pl L E) sz)) 0 0 (va_A (va_pl L E) sz) := by
  refine tw_ofW (by decide) (Nat.le_of_ble_eq_true rfl) ?_
  intro p e s m below meth c A ls hx hb hr hml hB hown hlocks hK hN hA TH hS hl
  have hown : s.vm.findClass "TreeMerge$Editions" = some m.cls := hown
  have hl : lv_has ls 4 [(0, .ref a0), (1, .int x1)] := hl
  obtain ⟨kp0, ekp⟩ : ∃ z, z = kp := ⟨_, rfl⟩
  obtain ⟨L0, eL⟩ : ∃ z, z = L := ⟨_, rfl⟩
  rw [show tw_Q D cs kp L = tw_Q D cs kp0 L0 by rw [ekp, eL]]
  have hex : ∀ a : Nat, a ∈ L0 → a ∈ L ∧ kp a = kp0 a := fun a h => ⟨by rw [← eL]; exact h, by rw [ekp]⟩
  refine lv_iload_n hx hb dX1_latest_0 rfl (lv_at hl 1 rfl) ?_
  refine lv_istore_n (lv' := [(2, .int x1), (0, .ref a0), (1, .int x1)]) hx hb dX1_latest_1 rfl hl (by decide) rfl (fun ls hl => ?_)
  refine lv_iconst (v := 0) hx hb dX1_latest_2 (by decide) ?_
  refine lv_istore_n (lv' := [(3, .int 0), (2, .int x1), (0, .ref a0), (1, .int x1)]) hx hb dX1_latest_3 rfl hl (by decide) rfl (fun ls hl => ?_)
  have hJ4 : ∀ (n4 : Nat) (y4_3 : Int32) (y4_2 : Int32) (H : Heap) (locs : List Loc) (ls : Array Slot), 0 ≤ y4_3.toInt → y4_3.toInt ≤ 12 → 12 - y4_3.toInt ≤ (n4 : Int) → tw_H D cs kp L E A H → va_S A s.heap H locs → lv_has ls 4 [(3, .int y4_3), (2, .int y4_2), (0, .ref a0), (1, .int x1)] → W p l e { frames := 0, cells := 0, slots := 0, locals := 0 } s m [.ref a0, .int x1].toArray below meth c H locs 0 0 (MQ below (tw_Q D cs kp0 L0 (fun v kq Lq Eq => (∃ x : Int32, v = some (.int x)) ∧ kp = kq ∧ L = Lq ∧ E = Eq) A) [.ref a0, .int x1].toArray s 0 0 A) (F0 m 4 ls []) := by
    intro n4
    induction n4 using Nat.strongRecOn with
    | _ n4 ih4 =>
      intro y4_3 y4_2 H locs ls hy4_3a hy4_3b hmeas4 TH hS hl
      refine lv_iload_n hx hb dX1_latest_4 rfl (lv_at hl 0 rfl) ?_
      refine lv_aload_n hx hb dX1_latest_5 rfl (lv_at hl 2 rfl) ?_
      refine tw_get (ci := 1) (C := RX1) (T := TX1) (N := 5) hx hb hB cx_inX1 hown hK TH hm0 hk0 rfl ⟨by decide, rfl⟩ 0 (by decide) cw_229 (fun _ h9 => h9) dX1_latest_6 (fun hv => ?_)
      obtain ⟨xi1, hxi1, hxi1a, hxi1b⟩ : ∃ x : Int32, tw_fv E a0 0 = .int x ∧ 0 ≤ x.toInt ∧ x.toInt ≤ 12 := hv
      rw [hxi1]
      refine lv_icmp_ge (tgt := 43) hx hb dX1_latest_9 (by decide) (fun hc2 => ?_) (fun hc2 => ?_)
      · have hf3 : xi1.toInt ≤ y4_3.toInt := by have z := (fa_le _ _).mp hc2;  omega
        refine lv_iload_n hx hb dX1_latest_43 rfl (lv_at hl 1 rfl) ?_
        exact tw_iret hx hb hr hlocks TH hS hex ⟨⟨_, rfl⟩, rfl, rfl, rfl⟩ (Nat.le_of_ble_eq_true rfl) (Nat.le_of_ble_eq_true rfl) dX1_latest_44
      · have hf4 : ¬ (xi1.toInt ≤ y4_3.toInt) := fun q => hc2 ((fa_le _ _).mpr (by  omega))
        refine lv_iload_n hx hb dX1_latest_12 rfl (lv_at hl 3 rfl) ?_
        refine lv_iconst (v := 1) hx hb dX1_latest_13 (by decide) ?_
        refine lv_iload_n hx hb dX1_latest_14 rfl (lv_at hl 0 rfl) ?_
        refine lv_ishl hx hb dX1_latest_15 ?_
        refine lv_topi (fun zi5 ezi5 => ?_)
        refine lv_iand hx hb dX1_latest_16 ?_
        refine lv_topi (fun zi6 ezi6 => ?_)
        have hJ37 : ∀ (y37_2 : Int32) (H : Heap) (locs : List Loc) (ls : Array Slot), tw_H D cs kp L E A H → va_S A s.heap H locs → lv_has ls 4 [(3, .int y4_3), (2, .int y37_2), (0, .ref a0), (1, .int x1)] → W p l e { frames := 0, cells := 0, slots := 0, locals := 0 } s m [.ref a0, .int x1].toArray below meth c H locs 0 0 (MQ below (tw_Q D cs kp0 L0 (fun v kq Lq Eq => (∃ x : Int32, v = some (.int x)) ∧ kp = kq ∧ L = Lq ∧ E = Eq) A) [.ref a0, .int x1].toArray s 0 0 A) (F0 m 37 ls []) := by
          intro y37_2 H locs ls TH hS hl
          obtain ⟨zi7, ezi7⟩ : ∃ z : Int32, z = y4_3 + Int32.ofInt 1 := ⟨_, rfl⟩
          have hzi7 : zi7.toInt = y4_3.toInt + 1 := by rw [ezi7]; have : ((Int32.ofInt 1).toInt) = 1 := (by decide);  exact (ia_add (by omega) (by omega)).trans (by omega)
          refine lv_iinc (v := zi7) (lv' := [(3, .int zi7), (2, .int y37_2), (0, .ref a0), (1, .int x1)]) hx hb dX1_latest_37 hl (k := 0) rfl ezi7.symm (by decide) rfl (fun ls hl => ?_)
          refine lv_goto (tgt := 4) hx hb dX1_latest_40 (by decide) ?_
          exact ih4 (n4 - 1) (by   omega) zi7 y37_2 _ _ ls (by omega) (by omega) (by   omega) TH hS (lv_sub hl [0, 1, 2, 3] rfl)
        refine lv_if_eq (tgt := 37) hx hb dX1_latest_17 (by decide) (fun hc8 => ?_) (fun hc8 => ?_)
        · have hf9 : zi6.toInt = 0 := by have z := (fa_eq _ _).mp hc8; have : ((0 : Int32).toInt) = 0 := (by decide); omega
          exact hJ37 y4_2 _ _ ls  TH hS (lv_sub hl [0, 1, 2, 3] rfl)
        · have hf10 : ¬ (zi6.toInt = 0) := fun q => hc8 ((fa_eq _ _).mpr (by have : ((0 : Int32).toInt) = 0 := (by decide); omega))
          refine lv_iload_n hx hb dX1_latest_20 rfl (lv_at hl 1 rfl) ?_
          refine lv_aload_n hx hb dX1_latest_21 rfl (lv_at hl 2 rfl) ?_
          refine tw_get (ci := 1) (C := RX1) (T := TX1) (N := 5) hx hb hB cx_inX1 hown hK TH hm0 hk0 rfl ⟨by decide, rfl⟩ 4 (by decide) cw_236 (fun _ h9 => h9) dX1_latest_22 (fun hv => ?_)
          obtain ⟨xr11, hxr11, hmxr11, hkxr11⟩ : ∃ a : Nat, tw_fv E a0 4 = .ref a ∧ a ∈ L ∧ kp a = 142 := hv
          rw [hxr11]
          refine lv_iload_n hx hb dX1_latest_25 rfl (lv_at hl 0 rfl) ?_
          refine tw_iald (k := 142) (t0 := 0) (n := 12) (lo := (-2147483648)) (hi := 2147483647) hx hb hK TH hmxr11 hkxr11 (by decide) rfl rfl (i := y4_3) (vp_in_iff.mpr ⟨by  omega, by  omega⟩) dX1_latest_26 (fun hxe12a hxe12b => ?_)
          obtain ⟨xe12, exe12⟩ : ∃ z : Int32, tw_iv E xr11 (Int32.toNatClampNeg y4_3) = z := ⟨_, rfl⟩
          rw [exe12] at hxe12a hxe12b ⊢
          refine lv_iconst (v := 1) hx hb dX1_latest_27 (by decide) ?_
          refine lv_iload_n hx hb dX1_latest_28 rfl (lv_at hl 0 rfl) ?_
          refine lv_ishl hx hb dX1_latest_29 ?_
          refine lv_topi (fun zi13 ezi13 => ?_)
          refine lv_iconst (v := (-1)) hx hb dX1_latest_30 (by decide) ?_
          refine lv_ixor hx hb dX1_latest_31 ?_
          refine lv_topi (fun zi14 ezi14 => ?_)
          refine lv_iand hx hb dX1_latest_32 ?_
          refine lv_topi (fun zi15 ezi15 => ?_)
          refine lv_iconst (v := (-1)) hx hb dX1_latest_33 (by decide) ?_
          refine lv_ixor hx hb dX1_latest_34 ?_
          refine lv_topi (fun zi16 ezi16 => ?_)
          refine lv_iand hx hb dX1_latest_35 ?_
          refine lv_topi (fun zi17 ezi17 => ?_)
          refine lv_istore_n (lv' := [(2, .int zi17), (3, .int y4_3), (0, .ref a0), (1, .int x1)]) hx hb dX1_latest_36 rfl hl (by decide) rfl (fun ls hl => ?_)
          exact hJ37 zi17 _ _ ls  TH hS (lv_sub hl [1, 0, 2, 3] rfl)
  exact hJ4 13 (0 : Int32) x1 _ _ ls (by have : ((0 : Int32).toInt) = 0 := (by decide); omega) (by have : ((0 : Int32).toInt) = 0 := (by decide); omega) (by have : ((0 : Int32).toInt) = 0 := (by decide);  omega) TH hS (lv_sub hl [0, 1, 2, 3] rfl)
set_option maxHeartbeats 4000000 in
set_option maxRecDepth 100000 in
theorem tX1_leastOf (l : Launch) (D : va_G) (cs : Nat → ClassId) {kp : Nat → Nat} {L : List Nat} {E : Nat → va_E} (a0 : Nat) (x1 : Int32) (hm0 : a0 ∈ L) (hk0 : kp a0 = 1) (sz : Nat) : Met l yX1_leastOf (.code yX1_leastOf cX1_leastOf 3 (some .int) :: cx_big) { frames := 0, cells := 0, slots := 0, locals := 0 } (tw_P D cs kp L E [.ref a0, .int x1] sz) (tw_Q D cs kp L (fun v kq Lq Eq => (∃ x : Int32, v = some (.int x) ∧ (-1) ≤ x.toInt ∧ x.toInt ≤ 11) ∧ kp = kq ∧ L = Lq ∧ E = Eq) (va_A (va_pl L E) sz)) 0 0 (va_A (va_pl L E) sz) := by
  refine tw_ofW (by decide) (Nat.le_of_ble_eq_true rfl) ?_
  intro p e s m below meth c A ls hx hb hr hml hB hown hlocks hK hN hA TH hS hl
  have hown : s.vm.findClass "TreeMerge$Editions" = some m.cls := hown
  have hl : lv_has ls 3 [(0, .ref a0), (1, .int x1)] := hl
  obtain ⟨kp0, ekp⟩ : ∃ z, z = kp := ⟨_, rfl⟩
  obtain ⟨L0, eL⟩ : ∃ z, z = L := ⟨_, rfl⟩
  rw [show tw_Q D cs kp L = tw_Q D cs kp0 L0 by rw [ekp, eL]]
  have hex : ∀ a : Nat, a ∈ L0 → a ∈ L ∧ kp a = kp0 a := fun a h => ⟨by rw [← eL]; exact h, by rw [ekp]⟩
  refine lv_iconst (v := 0) hx hb dX1_leastOf_0 (by decide) ?_
  refine lv_istore_n (lv' := [(2, .int 0), (0, .ref a0), (1, .int x1)]) hx hb dX1_leastOf_1 rfl hl (by decide) rfl (fun ls hl => ?_)
  have hJ2 : ∀ (n2 : Nat) (y2_2 : Int32) (H : Heap) (locs : List Loc) (ls : Array Slot), 0 ≤ y2_2.toInt → y2_2.toInt ≤ 12 → 12 - y2_2.toInt ≤ (n2 : Int) → tw_H D cs kp L E A H → va_S A s.heap H locs → lv_has ls 3 [(2, .int y2_2), (0, .ref a0), (1, .int x1)] → W p l e { frames := 0, cells := 0, slots := 0, locals := 0 } s m [.ref a0, .int x1].toArray below meth c H locs 0 0 (MQ below (tw_Q D cs kp0 L0 (fun v kq Lq Eq => (∃ x : Int32, v = some (.int x) ∧ (-1) ≤ x.toInt ∧ x.toInt ≤ 11) ∧ kp = kq ∧ L = Lq ∧ E = Eq) A) [.ref a0, .int x1].toArray s 0 0 A) (F0 m 2 ls []) := by
    intro n2
    induction n2 using Nat.strongRecOn with
    | _ n2 ih2 =>
      intro y2_2 H locs ls hy2_2a hy2_2b hmeas2 TH hS hl
      refine lv_iload_n hx hb dX1_leastOf_2 rfl (lv_at hl 0 rfl) ?_
      refine lv_aload_n hx hb dX1_leastOf_3 rfl (lv_at hl 1 rfl) ?_
      refine tw_get (ci := 1) (C := RX1) (T := TX1) (N := 5) hx hb hB cx_inX1 hown hK TH hm0 hk0 rfl ⟨by decide, rfl⟩ 0 (by decide) cw_229 (fun _ h9 => h9) dX1_leastOf_4 (fun hv => ?_)
      obtain ⟨xi1, hxi1, hxi1a, hxi1b⟩ : ∃ x : Int32, tw_fv E a0 0 = .int x ∧ 0 ≤ x.toInt ∧ x.toInt ≤ 12 := hv
      rw [hxi1]
      refine lv_icmp_ge (tgt := 26) hx hb dX1_leastOf_7 (by decide) (fun hc2 => ?_) (fun hc2 => ?_)
      · have hf3 : xi1.toInt ≤ y2_2.toInt := by have z := (fa_le _ _).mp hc2;  omega
        refine lv_iconst (v := (-1)) hx hb dX1_leastOf_26 (by decide) ?_
        exact tw_iret hx hb hr hlocks TH hS hex ⟨⟨_, rfl, (show (-1) ≤ Int32.toInt (-1) from by have : (((-1) : Int32).toInt) = (-1) := (by decide); omega), (show Int32.toInt (-1) ≤ 11 from by have : (((-1) : Int32).toInt) = (-1) := (by decide); omega)⟩, rfl, rfl, rfl⟩ (Nat.le_of_ble_eq_true rfl) (Nat.le_of_ble_eq_true rfl) dX1_leastOf_27
      · have hf4 : ¬ (xi1.toInt ≤ y2_2.toInt) := fun q => hc2 ((fa_le _ _).mpr (by  omega))
        refine lv_iload_n hx hb dX1_leastOf_10 rfl (lv_at hl 2 rfl) ?_
        refine lv_iconst (v := 1) hx hb dX1_leastOf_11 (by decide) ?_
        refine lv_iload_n hx hb dX1_leastOf_12 rfl (lv_at hl 0 rfl) ?_
        refine lv_ishl hx hb dX1_leastOf_13 ?_
        refine lv_topi (fun zi5 ezi5 => ?_)
        refine lv_iand hx hb dX1_leastOf_14 ?_
        refine lv_topi (fun zi6 ezi6 => ?_)
        refine lv_if_eq (tgt := 20) hx hb dX1_leastOf_15 (by decide) (fun hc7 => ?_) (fun hc7 => ?_)
        · have hf8 : zi6.toInt = 0 := by have z := (fa_eq _ _).mp hc7; have : ((0 : Int32).toInt) = 0 := (by decide); omega
          obtain ⟨zi9, ezi9⟩ : ∃ z : Int32, z = y2_2 + Int32.ofInt 1 := ⟨_, rfl⟩
          have hzi9 : zi9.toInt = y2_2.toInt + 1 := by rw [ezi9]; have : ((Int32.ofInt 1).toInt) = 1 := (by decide);  exact (ia_add (by omega) (by omega)).trans (by omega)
          refine lv_iinc (v := zi9) (lv' := [(2, .int zi9), (0, .ref a0), (1, .int x1)]) hx hb dX1_leastOf_20 hl (k := 0) rfl ezi9.symm (by decide) rfl (fun ls hl => ?_)
          refine lv_goto (tgt := 2) hx hb dX1_leastOf_23 (by decide) ?_
          exact ih2 (n2 - 1) (by   omega) zi9 _ _ ls (by omega) (by omega) (by   omega) TH hS (lv_sub hl [0, 1, 2] rfl)
        · have hf10 : ¬ (zi6.toInt = 0) := fun q => hc7 ((fa_eq _ _).mpr (by have : ((0 : Int32).toInt) = 0 := (by decide); omega))
          refine lv_iload_n hx hb dX1_leastOf_18 rfl (lv_at hl 0 rfl) ?_
          exact tw_iret hx hb hr hlocks TH hS hex ⟨⟨_, rfl, (show (-1) ≤ Int32.toInt y2_2 from by  omega), (show Int32.toInt y2_2 ≤ 11 from by  omega)⟩, rfl, rfl, rfl⟩ (Nat.le_of_ble_eq_true rfl) (Nat.le_of_ble_eq_true rfl) dX1_leastOf_19
  exact hJ2 13 (0 : Int32) _ _ ls (by have : ((0 : Int32).toInt) = 0 := (by decide); omega) (by have : ((0 : Int32).toInt) = 0 := (by decide); omega) (by have : ((0 : Int32).toInt) = 0 := (by decide);  omega) TH hS (lv_sub hl [0, 1, 2] rfl)
set_option maxHeartbeats 4000000 in
set_option maxRecDepth 100000 in
theorem tX1_treeOf (l : Launch) (D : va_G) (cs : Nat → ClassId) {kp : Nat → Nat} {L : List Nat} {E : Nat → va_E} (a0 : Nat) (x1 : Int32) (hm0 : a0 ∈ L) (hk0 : kp a0 = 1) (sz : Nat) : Met l yX1_treeOf (.code yX1_treeOf cX1_treeOf 2 (some (.object "TreeMerge$Tree")) :: cx_big) { frames := 1, cells := 0, slots := 0, locals := 21 } (tw_P D cs kp L E [.ref a0, .int x1] sz) (tw_Q D cs kp L (fun v kq Lq Eq => (v = some .null ∨ ∃ a : Nat, v = some (.ref a) ∧ a ∈ Lq ∧ kq a = 10 ∧ (0 ≤ x1.toInt ∧ x1.toInt ≤ 11)) ∧ kp = kq ∧ L = Lq ∧ E = Eq) (va_A (va_pl L E) sz)) 0 0 (va_A (va_pl L E) sz) := by
  refine tw_ofW (by decide) (Nat.le_of_ble_eq_true rfl) ?_
  intro p e s m below meth c A ls hx hb hr hml hB hown hlocks hK hN hA TH hS hl
  have hown : s.vm.findClass "TreeMerge$Editions" = some m.cls := hown
  have hl : lv_has ls 2 [(0, .ref a0), (1, .int x1)] := hl
  obtain ⟨kp0, ekp⟩ : ∃ z, z = kp := ⟨_, rfl⟩
  obtain ⟨L0, eL⟩ : ∃ z, z = L := ⟨_, rfl⟩
  rw [show tw_Q D cs kp L = tw_Q D cs kp0 L0 by rw [ekp, eL]]
  have hex : ∀ a : Nat, a ∈ L0 → a ∈ L ∧ kp a = kp0 a := fun a h => ⟨by rw [← eL]; exact h, by rw [ekp]⟩
  refine lv_aload_n hx hb dX1_treeOf_0 rfl (lv_at hl 0 rfl) ?_
  refine lv_iload_n hx hb dX1_treeOf_1 rfl (lv_at hl 1 rfl) ?_
  refine tw_Vc (o := a0) (ci := 1) (n := 1) (post := (fun v kq Lq Eq => (∃ x : Int32, v = some (.int x) ∧ 0 ≤ x.toInt ∧ x.toInt ≤ 1 ∧ (x.toInt ≠ 0 → 0 ≤ x1.toInt ∧ x1.toInt ≤ 11)) ∧ kp = kq ∧ L = Lq ∧ E = Eq)) (As := [.int x1]) (rest := []) ⟨hx, hb, hml, hown, hB⟩ (fun sz => tX1_has l D cs a0 x1 hm0 hk0 sz) cg_1_31_X1_has rfl rfl (by decide +kernel) ⟨Nat.le_of_ble_eq_true rfl, Nat.le_of_ble_eq_true rfl⟩ hK hN TH hS hA rfl hm0 hk0 (by decide) rfl hl.1 rfl (Nat.le_of_ble_eq_true rfl) dX1_treeOf_2 ⟨Nat.le_of_ble_eq_true rfl, Nat.le_of_ble_eq_true rfl⟩ (fun v1 kp1 L1 E1 H locs hq1 hx1 TH hS => ?_)
  obtain ⟨⟨xc2, rfl, hxc2a, hxc2b, hpoxc2_0⟩, rfl, rfl, rfl⟩ := hq1
  refine W.eq (g2 := F0 m 5 ls [.int xc2]) rfl ?_
  refine lv_if_eq (tgt := 17) hx hb dX1_treeOf_5 (by decide) (fun hc3 => ?_) (fun hc3 => ?_)
  · have hf4 : xc2.toInt = 0 := by have z := (fa_eq _ _).mp hc3; have : ((0 : Int32).toInt) = 0 := (by decide); omega
    refine lv_null hx hb dX1_treeOf_17 ?_
    exact tw_aret hx hb hr hlocks (Or.inl rfl) TH hS hex ⟨(Or.inl rfl), rfl, rfl, rfl⟩ (Nat.le_of_ble_eq_true rfl) (Nat.le_of_ble_eq_true rfl) dX1_treeOf_18
  · have hf5 : ¬ (xc2.toInt = 0) := fun q => hc3 ((fa_eq _ _).mpr (by have : ((0 : Int32).toInt) = 0 := (by decide); omega))
    refine lv_aload_n hx hb dX1_treeOf_8 rfl (lv_at hl 0 rfl) ?_
    refine tw_get (ci := 1) (C := RX1) (T := TX1) (N := 5) hx hb hB cx_inX1 hown hK TH hm0 hk0 rfl ⟨by decide, rfl⟩ 1 (by decide) cw_231 (fun _ h9 => h9) dX1_treeOf_9 (fun hv => ?_)
    obtain ⟨xr6, hxr6, hmxr6, hkxr6⟩ : ∃ a : Nat, tw_fv E a0 1 = .ref a ∧ a ∈ L ∧ kp a = 140 := hv
    rw [hxr6]
    refine lv_iload_n hx hb dX1_treeOf_12 rfl (lv_at hl 1 rfl) ?_
    refine tw_naald (k := 140) (t0 := 7) (n := 12) (lo := 10) (hi := 0) (C := "TreeMerge$Tree") hx hb hK TH hmxr6 hkxr6 (by decide) rfl rfl (i := x1) (vp_in_iff.mpr ⟨by  omega, by  omega⟩) dX1_treeOf_13 ?_ (fun xr7 hmxr7 hkxr7 => ?_)
    · have hnull := trivial
      refine lv_goto (tgt := 18) hx hb dX1_treeOf_14 (by decide) ?_
      exact tw_aret hx hb hr hlocks (Or.inl rfl) TH hS hex ⟨(Or.inl rfl), rfl, rfl, rfl⟩ (Nat.le_of_ble_eq_true rfl) (Nat.le_of_ble_eq_true rfl) dX1_treeOf_18
    · have hkxr7 : kp xr7 = 10 := hkxr7
      refine lv_goto (tgt := 18) hx hb dX1_treeOf_14 (by decide) ?_
      exact tw_aret hx hb hr hlocks (Or.inr ⟨_, rfl⟩) TH hS hex ⟨(Or.inr ⟨_, rfl, hmxr7, hkxr7, by omega⟩), rfl, rfl, rfl⟩ (Nat.le_of_ble_eq_true rfl) (Nat.le_of_ble_eq_true rfl) dX1_treeOf_18
set_option maxHeartbeats 4000000 in
set_option maxRecDepth 100000 in
theorem tX1_writerIn (l : Launch) (D : va_G) (cs : Nat → ClassId) {kp : Nat → Nat} {L : List Nat} {E : Nat → va_E} (a0 : Nat) (x1 : Int32) (x2 : Int32) (x3 : Int64) (hm0 : a0 ∈ L) (hk0 : kp a0 = 1) (sz : Nat) : Met l yX1_writerIn (.code yX1_writerIn cX1_writerIn 7 (some .int) :: cx_big) { frames := 2, cells := 0, slots := 0, locals := 42 } (tw_P D cs kp L E [.ref a0, .int x1, .int x2, .long x3] sz) (tw_Q D cs kp L (fun v kq Lq Eq => (∃ x : Int32, v = some (.int x) ∧ (-1) ≤ x.toInt ∧ x.toInt ≤ 11) ∧ kp = kq ∧ L = Lq ∧ E = Eq) (va_A (va_pl L E) sz)) 0 0 (va_A (va_pl L E) sz) := by
  refine tw_ofW (by decide) (Nat.le_of_ble_eq_true rfl) ?_
  intro p e s m below meth c A ls hx hb hr hml hB hown hlocks hK hN hA TH hS hl
  have hown : s.vm.findClass "TreeMerge$Editions" = some m.cls := hown
  have hl : lv_has ls 7 [(0, .ref a0), (1, .int x1), (2, .int x2), (3, .long x3)] := hl
  obtain ⟨kp0, ekp⟩ : ∃ z, z = kp := ⟨_, rfl⟩
  obtain ⟨L0, eL⟩ : ∃ z, z = L := ⟨_, rfl⟩
  rw [show tw_Q D cs kp L = tw_Q D cs kp0 L0 by rw [ekp, eL]]
  have hex : ∀ a : Nat, a ∈ L0 → a ∈ L ∧ kp a = kp0 a := fun a h => ⟨by rw [← eL]; exact h, by rw [ekp]⟩
  refine lv_aload_n hx hb dX1_writerIn_0 rfl (lv_at hl 0 rfl) ?_
  refine lv_iload_n hx hb dX1_writerIn_1 rfl (lv_at hl 1 rfl) ?_
  refine tw_Vc (o := a0) (ci := 1) (n := 1) (post := (fun v kq Lq Eq => (v = some .null ∨ ∃ a : Nat, v = some (.ref a) ∧ a ∈ Lq ∧ kq a = 10 ∧ (0 ≤ x1.toInt ∧ x1.toInt ≤ 11)) ∧ kp = kq ∧ L = Lq ∧ E = Eq)) (As := [.int x1]) (rest := []) ⟨hx, hb, hml, hown, hB⟩ (fun sz => tX1_treeOf l D cs a0 x1 hm0 hk0 sz) cg_1_63_X1_treeOf rfl rfl (by decide +kernel) ⟨Nat.le_of_ble_eq_true rfl, Nat.le_of_ble_eq_true rfl⟩ hK hN TH hS hA rfl hm0 hk0 (by decide) rfl hl.1 rfl (Nat.le_of_ble_eq_true rfl) dX1_writerIn_2 ⟨Nat.le_of_ble_eq_true rfl, Nat.le_of_ble_eq_true rfl⟩ (fun v1 kp1 L1 E1 H locs hq1 hx1 TH hS => ?_)
  obtain ⟨hnxc2, rfl, rfl, rfl⟩ := hq1
  rcases hnxc2 with rfl | ⟨xc2, rfl, hmxc2, hkxc2, hnpxc2⟩
  · refine W.eq (g2 := F0 m 5 ls [.null]) rfl ?_
    refine lv_astoreN (lv' := [(5, .null), (0, .ref a0), (1, .int x1), (2, .int x2), (3, .long x3)]) hx hb dX1_writerIn_5 hl (by decide) rfl (fun ls hl => ?_)
    refine lv_aloadN hx hb dX1_writerIn_7 (lv_at hl 0 rfl) ?_
    refine lv_ifnonnullN hx hb dX1_writerIn_9 ?_
    refine lv_iconst (v := (-1)) hx hb dX1_writerIn_12 (by decide) ?_
    refine lv_goto (tgt := 22) hx hb dX1_writerIn_13 (by decide) ?_
    refine lv_istore (lv' := [(6, .int (-1)), (5, .null), (0, .ref a0), (1, .int x1), (2, .int x2), (3, .long x3)]) hx hb dX1_writerIn_22 hl (by decide) rfl (fun ls hl => ?_)
    refine lv_iload hx hb dX1_writerIn_24 (lv_at hl 0 rfl) ?_
    refine lv_iconst (v := (-1)) hx hb dX1_writerIn_26 (by decide) ?_
    refine lv_icmp_eq (tgt := 43) hx hb dX1_writerIn_27 (by decide) (fun hc3 => ?_) (fun hc3 => ?_)
    · have hf4 : (-1) = (-1) := by have z := (fa_eq _ _).mp hc3; have : (((-1) : Int32).toInt) = (-1) := (by decide); omega
      refine lv_iconst (v := (-1)) hx hb dX1_writerIn_43 (by decide) ?_
      refine lv_goto (tgt := 55) hx hb dX1_writerIn_44 (by decide) ?_
      exact tw_iret hx hb hr hlocks TH hS hex ⟨⟨_, rfl, (show (-1) ≤ Int32.toInt (-1) from by have : (((-1) : Int32).toInt) = (-1) := (by decide); omega), (show Int32.toInt (-1) ≤ 11 from by have : (((-1) : Int32).toInt) = (-1) := (by decide); omega)⟩, rfl, rfl, rfl⟩ (Nat.le_of_ble_eq_true rfl) (Nat.le_of_ble_eq_true rfl) dX1_writerIn_55
    · have hf5 : ¬ ((-1) = (-1)) := fun q => hc3 ((fa_eq _ _).mpr (by have : (((-1) : Int32).toInt) = (-1) := (by decide); omega))
      exfalso; omega
  · refine W.eq (g2 := F0 m 5 ls [.ref xc2]) rfl ?_
    refine lv_astore (lv' := [(5, .ref xc2), (0, .ref a0), (1, .int x1), (2, .int x2), (3, .long x3)]) hx hb dX1_writerIn_5 hl (by decide) rfl (fun ls hl => ?_)
    refine lv_aload hx hb dX1_writerIn_7 (lv_at hl 0 rfl) ?_
    refine lv_ifnonnull (tgt := 16) hx hb dX1_writerIn_9 (by decide) ?_
    refine lv_aload hx hb dX1_writerIn_16 (lv_at hl 0 rfl) ?_
    refine lv_iload_n hx hb dX1_writerIn_18 rfl (lv_at hl 3 rfl) ?_
    refine tw_Vc (o := xc2) (ci := 10) (n := 1) (post := (fun v kq Lq Eq => (∃ x : Int32, v = some (.int x) ∧ (-1) ≤ x.toInt ∧ x.toInt ≤ 39 ∧ (x.toInt ≠ -1 → -1 ≤ x2.toInt ∧ x2.toInt ≤ 149)) ∧ kp = kq ∧ L = Lq ∧ E = Eq)) (As := [.int x2]) (rest := []) ⟨hx, hb, hml, hown, hB⟩ (fun sz => tX10_find l D cs xc2 x2 hmxc2 hkxc2 sz) cg_1_67_X10_find rfl rfl (by decide +kernel) ⟨Nat.le_of_ble_eq_true rfl, Nat.le_of_ble_eq_true rfl⟩ hK hN TH hS hA rfl hmxc2 hkxc2 (by decide) rfl hl.1 rfl (Nat.le_of_ble_eq_true rfl) dX1_writerIn_19 ⟨Nat.le_of_ble_eq_true rfl, Nat.le_of_ble_eq_true rfl⟩ (fun v6 kp6 L6 E6 H locs hq6 hx6 TH hS => ?_)
    obtain ⟨⟨xc7, rfl, hxc7a, hxc7b, hpoxc7_0⟩, rfl, rfl, rfl⟩ := hq6
    refine W.eq (g2 := F0 m 22 ls [.int xc7]) rfl ?_
    refine lv_istore (lv' := [(6, .int xc7), (5, .ref xc2), (0, .ref a0), (1, .int x1), (2, .int x2), (3, .long x3)]) hx hb dX1_writerIn_22 hl (by decide) rfl (fun ls hl => ?_)
    refine lv_iload hx hb dX1_writerIn_24 (lv_at hl 0 rfl) ?_
    refine lv_iconst (v := (-1)) hx hb dX1_writerIn_26 (by decide) ?_
    refine lv_icmp_eq (tgt := 43) hx hb dX1_writerIn_27 (by decide) (fun hc8 => ?_) (fun hc8 => ?_)
    · have hf9 : xc7.toInt = (-1) := by have z := (fa_eq _ _).mp hc8; have : (((-1) : Int32).toInt) = (-1) := (by decide); omega
      refine lv_iconst (v := (-1)) hx hb dX1_writerIn_43 (by decide) ?_
      refine lv_goto (tgt := 55) hx hb dX1_writerIn_44 (by decide) ?_
      exact tw_iret hx hb hr hlocks TH hS hex ⟨⟨_, rfl, (show (-1) ≤ Int32.toInt (-1) from by have : (((-1) : Int32).toInt) = (-1) := (by decide); omega), (show Int32.toInt (-1) ≤ 11 from by have : (((-1) : Int32).toInt) = (-1) := (by decide); omega)⟩, rfl, rfl, rfl⟩ (Nat.le_of_ble_eq_true rfl) (Nat.le_of_ble_eq_true rfl) dX1_writerIn_55
    · have hf10 : ¬ (xc7.toInt = (-1)) := fun q => hc8 ((fa_eq _ _).mpr (by have : (((-1) : Int32).toInt) = (-1) := (by decide); omega))
      refine lv_aload hx hb dX1_writerIn_30 (lv_at hl 1 rfl) ?_
      refine tw_get (ci := 10) (C := RX10) (T := TX10) (N := 8) hx hb hB cx_inX10 hown hK TH hmxc2 hkxc2 rfl ⟨by decide, rfl⟩ 6 (by decide) cw_146 (fun _ h9 => h9) dX1_writerIn_32 (fun hv => ?_)
      obtain ⟨xr11, hxr11, hmxr11, hkxr11⟩ : ∃ a : Nat, tw_fv E xc2 6 = .ref a ∧ a ∈ L ∧ kp a = 102 := hv
      rw [hxr11]
      refine lv_iload hx hb dX1_writerIn_35 (lv_at hl 0 rfl) ?_
      refine tw_lald (k := 102) (n := 40) (lo := 0) (hi := 0) hx hb hK TH hmxr11 hkxr11 (by decide) rfl (i := xc7) (vp_in_iff.mpr ⟨by  omega, by  omega⟩) dX1_writerIn_37 (fun xl12 => ?_)
      refine lv_lload_n hx hb dX1_writerIn_38 rfl (lv_at hl 5 rfl) ?_
      refine W.lcmp hx hb dX1_writerIn_39 ?_
      have hzi13 := ia_lcmp xl12 x3
      generalize lg_cmp xl12 x3 = zi13 at hzi13 ⊢
      refine lv_if_eq (tgt := 47) hx hb dX1_writerIn_40 (by decide) (fun hc14 => ?_) (fun hc14 => ?_)
      · have hf15 : zi13.toInt = 0 := by have z := (fa_eq _ _).mp hc14; have : ((0 : Int32).toInt) = 0 := (by decide); omega
        refine lv_aload hx hb dX1_writerIn_47 (lv_at hl 1 rfl) ?_
        refine tw_get (ci := 10) (C := RX10) (T := TX10) (N := 8) hx hb hB cx_inX10 hown hK TH hmxc2 hkxc2 rfl ⟨by decide, rfl⟩ 7 (by decide) cw_151 (fun _ h9 => h9) dX1_writerIn_49 (fun hv => ?_)
        obtain ⟨xr16, hxr16, hmxr16, hkxr16⟩ : ∃ a : Nat, tw_fv E xc2 7 = .ref a ∧ a ∈ L ∧ kp a = 115 := hv
        rw [hxr16]
        refine lv_iload hx hb dX1_writerIn_52 (lv_at hl 0 rfl) ?_
        refine tw_iald (k := 115) (t0 := 0) (n := 40) (lo := (-1)) (hi := 11) hx hb hK TH hmxr16 hkxr16 (by decide) rfl rfl (i := xc7) (vp_in_iff.mpr ⟨by  omega, by  omega⟩) dX1_writerIn_54 (fun hxe17a hxe17b => ?_)
        obtain ⟨xe17, exe17⟩ : ∃ z : Int32, tw_iv E xr16 (Int32.toNatClampNeg xc7) = z := ⟨_, rfl⟩
        rw [exe17] at hxe17a hxe17b ⊢
        exact tw_iret hx hb hr hlocks TH hS hex ⟨⟨_, rfl, (show (-1) ≤ Int32.toInt xe17 from by  omega), (show Int32.toInt xe17 ≤ 11 from by  omega)⟩, rfl, rfl, rfl⟩ (Nat.le_of_ble_eq_true rfl) (Nat.le_of_ble_eq_true rfl) dX1_writerIn_55
      · have hf18 : ¬ (zi13.toInt = 0) := fun q => hc14 ((fa_eq _ _).mpr (by have : ((0 : Int32).toInt) = 0 := (by decide); omega))
        refine lv_iconst (v := (-1)) hx hb dX1_writerIn_43 (by decide) ?_
        refine lv_goto (tgt := 55) hx hb dX1_writerIn_44 (by decide) ?_
        exact tw_iret hx hb hr hlocks TH hS hex ⟨⟨_, rfl, (show (-1) ≤ Int32.toInt (-1) from by have : (((-1) : Int32).toInt) = (-1) := (by decide); omega), (show Int32.toInt (-1) ≤ 11 from by have : (((-1) : Int32).toInt) = (-1) := (by decide); omega)⟩, rfl, rfl, rfl⟩ (Nat.le_of_ble_eq_true rfl) (Nat.le_of_ble_eq_true rfl) dX1_writerIn_55
set_option maxHeartbeats 4000000 in
set_option maxRecDepth 100000 in
theorem tX4_pairNothing (l : Launch) (D : va_G) (cs : Nat → ClassId) {kp : Nat → Nat} {L : List Nat} {E : Nat → va_E} (a0 : Nat) (hm0 : a0 ∈ L) (hk0 : kp a0 = 4) (sz : Nat) : Met l yX4_pairNothing (.code yX4_pairNothing cX4_pairNothing 2 none :: cx_big) { frames := 0, cells := 0, slots := 0, locals := 0 } (tw_P D cs kp L E [.ref a0] sz) (tw_Q D cs kp L (fun v kq Lq Eq => v = none ∧ kp = kq ∧ L = Lq ∧ tw_fr kp L [] [150, 151] E Eq) (va_A (va_pl L E) sz)) 0 0 (va_A (va_pl L E) sz) := by
  refine tw_ofW (by decide) (Nat.le_of_ble_eq_true rfl) ?_
  intro p e s m below meth c A ls hx hb hr hml hB hown hlocks hK hN hA TH hS hl
  have hown : s.vm.findClass "TreeMerge$Matcher" = some m.cls := hown
  have hl : lv_has ls 2 [(0, .ref a0)] := hl
  obtain ⟨kp0, ekp⟩ : ∃ z, z = kp := ⟨_, rfl⟩
  obtain ⟨L0, eL⟩ : ∃ z, z = L := ⟨_, rfl⟩
  rw [show tw_Q D cs kp L = tw_Q D cs kp0 L0 by rw [ekp, eL]]
  have hex : ∀ a : Nat, a ∈ L0 → a ∈ L ∧ kp a = kp0 a := fun a h => ⟨by rw [← eL]; exact h, by rw [ekp]⟩
  have hF : tw_fr kp L [] [150, 151] E E := tw_fr.rf
  refine lv_iconst (v := 0) hx hb dX4_pairNothing_0 (by decide) ?_
  refine lv_istore_n (lv' := [(1, .int 0), (0, .ref a0)]) hx hb dX4_pairNothing_1 rfl hl (by decide) rfl (fun ls hl => ?_)
  have hJ2 : ∀ (n2 : Nat) (y2_1 : Int32) (Eg2 : Nat → va_E) (H : Heap) (locs : List Loc) (ls : Array Slot), 0 ≤ y2_1.toInt → y2_1.toInt ≤ 40 → 40 - y2_1.toInt ≤ (n2 : Int) → tw_fr kp L [] [150, 151] E Eg2 → tw_H D cs kp L Eg2 A H → va_S A s.heap H locs → lv_has ls 2 [(1, .int y2_1), (0, .ref a0)] → W p l e { frames := 0, cells := 0, slots := 0, locals := 0 } s m [.ref a0].toArray below meth c H locs 0 0 (MQ below (tw_Q D cs kp0 L0 (fun v kq Lq Eq => v = none ∧ kp = kq ∧ L = Lq ∧ tw_fr kp L [] [150, 151] E Eq) A) [.ref a0].toArray s 0 0 A) (F0 m 2 ls []) := by
    intro n2
    induction n2 using Nat.strongRecOn with
    | _ n2 ih2 =>
      intro y2_1 Eg2 H locs ls hy2_1a hy2_1b hmeas2 hG2 TH hS hl
      have hF := hF.tr hG2 (fun _ h => ⟨h, rfl⟩) (by decide) (by decide)
      refine lv_iload_n hx hb dX4_pairNothing_2 rfl (lv_at hl 0 rfl) ?_
      refine lv_bipush (v := 40) hx hb dX4_pairNothing_3 (by decide) ?_
      refine lv_icmp_ge (tgt := 28) hx hb dX4_pairNothing_5 (by decide) (fun hc1 => ?_) (fun hc1 => ?_)
      · have hf2 : 40 ≤ y2_1.toInt := by have z := (fa_le _ _).mp hc1; have : ((40 : Int32).toInt) = 40 := (by decide); omega
        exact tw_vret hx hb hr hlocks TH hS hex ⟨rfl, rfl, rfl, hF⟩ (Nat.le_of_ble_eq_true rfl) (Nat.le_of_ble_eq_true rfl) dX4_pairNothing_28
      · have hf3 : ¬ (40 ≤ y2_1.toInt) := fun q => hc1 ((fa_le _ _).mpr (by have : ((40 : Int32).toInt) = 40 := (by decide); omega))
        refine lv_aload_n hx hb dX4_pairNothing_8 rfl (lv_at hl 1 rfl) ?_
        refine tw_get (ci := 4) (C := RX4) (T := TX4) (N := 7) hx hb hB cx_inX4 hown hK TH hm0 hk0 rfl ⟨by decide, rfl⟩ 2 (by decide) cw_199 (fun _ h9 => h9) dX4_pairNothing_9 (fun hv => ?_)
        obtain ⟨xr4, hxr4, hmxr4, hkxr4⟩ : ∃ a : Nat, tw_fv Eg2 a0 2 = .ref a ∧ a ∈ L ∧ kp a = 150 := hv
        rw [hxr4]
        refine lv_iload_n hx hb dX4_pairNothing_12 rfl (lv_at hl 0 rfl) ?_
        refine lv_iconst (v := (-1)) hx hb dX4_pairNothing_13 (by decide) ?_
        refine tw_iast (k := 150) (n := 40) (lo := (-1)) (hi := 39) hx hb hK TH hS hmxr4 hkxr4 (by decide) rfl (i := y2_1) (x := (-1)) (vp_in_iff.mpr ⟨by  omega, by  omega⟩) (by have : (((-1) : Int32).toInt) = (-1) := (by decide); omega) (by have : (((-1) : Int32).toInt) = (-1) := (by decide); omega) dX4_pairNothing_14 (fun H locs E5 TH hS hp6 hp7 hp8 => ?_)
        have hst9 : tw_fr kp L [] [150] Eg2 E5 := tw_fr.ast tw_fr.rf (fun _ => hkxr4) hp6 hp7 (by decide)
        have hF := hF.tr hst9 (fun _ h => ⟨h, rfl⟩) (by decide) (by decide)
        have hG2 := hG2.tr hst9 (fun _ h => ⟨h, rfl⟩) (by decide) (by decide)
        have hmf10 : tw_fv E5 a0 2 = .ref xr4 := (hst9.1 a0 2 hm0 (by rw [hk0]; decide)).trans hxr4
        refine lv_aload_n hx hb dX4_pairNothing_15 rfl (lv_at hl 1 rfl) ?_
        refine tw_get (ci := 4) (C := RX4) (T := TX4) (N := 7) hx hb hB cx_inX4 hown hK TH hm0 hk0 rfl ⟨by decide, rfl⟩ 3 (by decide) cw_200 (fun _ h9 => h9) dX4_pairNothing_16 (fun hv => ?_)
        obtain ⟨xr11, hxr11, hmxr11, hkxr11⟩ : ∃ a : Nat, tw_fv E5 a0 3 = .ref a ∧ a ∈ L ∧ kp a = 151 := hv
        rw [hxr11]
        refine lv_iload_n hx hb dX4_pairNothing_19 rfl (lv_at hl 0 rfl) ?_
        refine lv_iconst (v := (-1)) hx hb dX4_pairNothing_20 (by decide) ?_
        refine tw_iast (k := 151) (n := 40) (lo := (-1)) (hi := 39) hx hb hK TH hS hmxr11 hkxr11 (by decide) rfl (i := y2_1) (x := (-1)) (vp_in_iff.mpr ⟨by  omega, by  omega⟩) (by have : (((-1) : Int32).toInt) = (-1) := (by decide); omega) (by have : (((-1) : Int32).toInt) = (-1) := (by decide); omega) dX4_pairNothing_21 (fun H locs E12 TH hS hp13 hp14 hp15 => ?_)
        have hst16 : tw_fr kp L [] [151] E5 E12 := tw_fr.ast tw_fr.rf (fun _ => hkxr11) hp13 hp14 (by decide)
        have hF := hF.tr hst16 (fun _ h => ⟨h, rfl⟩) (by decide) (by decide)
        have hG2 := hG2.tr hst16 (fun _ h => ⟨h, rfl⟩) (by decide) (by decide)
        have hmf17 : tw_fv E12 a0 2 = .ref xr4 := (hst16.1 a0 2 hm0 (by rw [hk0]; decide)).trans hmf10
        have hmf18 : tw_fv E12 a0 3 = .ref xr11 := (hst16.1 a0 3 hm0 (by rw [hk0]; decide)).trans hxr11
        obtain ⟨zi19, ezi19⟩ : ∃ z : Int32, z = y2_1 + Int32.ofInt 1 := ⟨_, rfl⟩
        have hzi19 : zi19.toInt = y2_1.toInt + 1 := by rw [ezi19]; have : ((Int32.ofInt 1).toInt) = 1 := (by decide);  exact (ia_add (by omega) (by omega)).trans (by omega)
        refine lv_iinc (v := zi19) (lv' := [(1, .int zi19), (0, .ref a0)]) hx hb dX4_pairNothing_22 hl (k := 0) rfl ezi19.symm (by decide) rfl (fun ls hl => ?_)
        refine lv_goto (tgt := 2) hx hb dX4_pairNothing_25 (by decide) ?_
        exact ih2 (n2 - 1) (by   omega) zi19 _ _ _ ls (by omega) (by omega) (by   omega) hG2 TH hS (lv_sub hl [0, 1] rfl)
  exact hJ2 41 (0 : Int32) _ _ _ ls (by have : ((0 : Int32).toInt) = 0 := (by decide); omega) (by have : ((0 : Int32).toInt) = 0 := (by decide); omega) (by have : ((0 : Int32).toInt) = 0 := (by decide);  omega) tw_fr.rf TH hS (lv_sub hl [0, 1] rfl)
set_option maxHeartbeats 4000000 in
set_option maxRecDepth 100000 in
theorem tX4_link (l : Launch) (D : va_G) (cs : Nat → ClassId) {kp : Nat → Nat} {L : List Nat} {E : Nat → va_E} (a0 : Nat) (x1 : Int32) (x2 : Int32) (hm0 : a0 ∈ L) (hk0 : kp a0 = 4) (hp1a : 0 ≤ x1.toInt) (hp1b : x1.toInt ≤ 39) (hp2a : 0 ≤ x2.toInt) (hp2b : x2.toInt ≤ 39) (sz : Nat) : Met l yX4_link (.code yX4_link cX4_link 3 none :: cx_big) { frames := 0, cells := 0, slots := 0, locals := 0 } (tw_P D cs kp L E [.ref a0, .int x1, .int x2] sz) (tw_Q D cs kp L (fun v kq Lq Eq => v = none ∧ kp = kq ∧ L = Lq ∧ tw_fr kp L [] [150, 151] E Eq) (va_A (va_pl L E) sz)) 0 0 (va_A (va_pl L E) sz) := by
  refine tw_ofW (by decide) (Nat.le_of_ble_eq_true rfl) ?_
  intro p e s m below meth c A ls hx hb hr hml hB hown hlocks hK hN hA TH hS hl
  have hown : s.vm.findClass "TreeMerge$Matcher" = some m.cls := hown
  have hl : lv_has ls 3 [(0, .ref a0), (1, .int x1), (2, .int x2)] := hl
  obtain ⟨kp0, ekp⟩ : ∃ z, z = kp := ⟨_, rfl⟩
  obtain ⟨L0, eL⟩ : ∃ z, z = L := ⟨_, rfl⟩
  rw [show tw_Q D cs kp L = tw_Q D cs kp0 L0 by rw [ekp, eL]]
  have hex : ∀ a : Nat, a ∈ L0 → a ∈ L ∧ kp a = kp0 a := fun a h => ⟨by rw [← eL]; exact h, by rw [ekp]⟩
  have hF : tw_fr kp L [] [150, 151] E E := tw_fr.rf
  refine lv_aload_n hx hb dX4_link_0 rfl (lv_at hl 0 rfl) ?_
  refine tw_get (ci := 4) (C := RX4) (T := TX4) (N := 7) hx hb hB cx_inX4 hown hK TH hm0 hk0 rfl ⟨by decide, rfl⟩ 2 (by decide) cw_199 (fun _ h9 => h9) dX4_link_1 (fun hv => ?_)
  obtain ⟨xr1, hxr1, hmxr1, hkxr1⟩ : ∃ a : Nat, tw_fv E a0 2 = .ref a ∧ a ∈ L ∧ kp a = 150 := hv
  rw [hxr1]
  refine lv_iload_n hx hb dX4_link_4 rfl (lv_at hl 1 rfl) ?_
  refine lv_iload_n hx hb dX4_link_5 rfl (lv_at hl 2 rfl) ?_
  refine tw_iast (k := 150) (n := 40) (lo := (-1)) (hi := 39) hx hb hK TH hS hmxr1 hkxr1 (by decide) rfl (i := x1) (x := x2) (vp_in_iff.mpr ⟨by  omega, by  omega⟩) (by omega) (by omega) dX4_link_6 (fun H locs E2 TH hS hp3 hp4 hp5 => ?_)
  have hst6 : tw_fr kp L [] [150] E E2 := tw_fr.ast tw_fr.rf (fun _ => hkxr1) hp3 hp4 (by decide)
  have hF := hF.tr hst6 (fun _ h => ⟨h, rfl⟩) (by decide) (by decide)
  have hmf7 : tw_fv E2 a0 2 = .ref xr1 := (hst6.1 a0 2 hm0 (by rw [hk0]; decide)).trans hxr1
  refine lv_aload_n hx hb dX4_link_7 rfl (lv_at hl 0 rfl) ?_
  refine tw_get (ci := 4) (C := RX4) (T := TX4) (N := 7) hx hb hB cx_inX4 hown hK TH hm0 hk0 rfl ⟨by decide, rfl⟩ 3 (by decide) cw_200 (fun _ h9 => h9) dX4_link_8 (fun hv => ?_)
  obtain ⟨xr8, hxr8, hmxr8, hkxr8⟩ : ∃ a : Nat, tw_fv E2 a0 3 = .ref a ∧ a ∈ L ∧ kp a = 151 := hv
  rw [hxr8]
  refine lv_iload_n hx hb dX4_link_11 rfl (lv_at hl 2 rfl) ?_
  refine lv_iload_n hx hb dX4_link_12 rfl (lv_at hl 1 rfl) ?_
  refine tw_iast (k := 151) (n := 40) (lo := (-1)) (hi := 39) hx hb hK TH hS hmxr8 hkxr8 (by decide) rfl (i := x2) (x := x1) (vp_in_iff.mpr ⟨by  omega, by  omega⟩) (by omega) (by omega) dX4_link_13 (fun H locs E9 TH hS hp10 hp11 hp12 => ?_)
  have hst13 : tw_fr kp L [] [151] E2 E9 := tw_fr.ast tw_fr.rf (fun _ => hkxr8) hp10 hp11 (by decide)
  have hF := hF.tr hst13 (fun _ h => ⟨h, rfl⟩) (by decide) (by decide)
  have hmf14 : tw_fv E9 a0 2 = .ref xr1 := (hst13.1 a0 2 hm0 (by rw [hk0]; decide)).trans hmf7
  have hmf15 : tw_fv E9 a0 3 = .ref xr8 := (hst13.1 a0 3 hm0 (by rw [hk0]; decide)).trans hxr8
  exact tw_vret hx hb hr hlocks TH hS hex ⟨rfl, rfl, rfl, hF⟩ (Nat.le_of_ble_eq_true rfl) (Nat.le_of_ble_eq_true rfl) dX4_link_14
set_option maxHeartbeats 4000000 in
set_option maxRecDepth 100000 in
theorem tX4_pairs (l : Launch) (D : va_G) (cs : Nat → ClassId) {kp : Nat → Nat} {L : List Nat} {E : Nat → va_E} (a0 : Nat) (hm0 : a0 ∈ L) (hk0 : kp a0 = 4) (sz : Nat) : Met l yX4_pairs (.code yX4_pairs cX4_pairs 3 (some .int) :: cx_big) { frames := 0, cells := 0, slots := 0, locals := 0 } (tw_P D cs kp L E [.ref a0] sz) (tw_Q D cs kp L (fun v kq Lq Eq => (∃ x : Int32, v = some (.int x)) ∧ kp = kq ∧ L = Lq ∧ E = Eq) (va_A (va_pl L E) sz)) 0 0 (va_A (va_pl L E) sz) := by
  refine tw_ofW (by decide) (Nat.le_of_ble_eq_true rfl) ?_
  intro p e s m below meth c A ls hx hb hr hml hB hown hlocks hK hN hA TH hS hl
  have hown : s.vm.findClass "TreeMerge$Matcher" = some m.cls := hown
  have hl : lv_has ls 3 [(0, .ref a0)] := hl
  obtain ⟨kp0, ekp⟩ : ∃ z, z = kp := ⟨_, rfl⟩
  obtain ⟨L0, eL⟩ : ∃ z, z = L := ⟨_, rfl⟩
  rw [show tw_Q D cs kp L = tw_Q D cs kp0 L0 by rw [ekp, eL]]
  have hex : ∀ a : Nat, a ∈ L0 → a ∈ L ∧ kp a = kp0 a := fun a h => ⟨by rw [← eL]; exact h, by rw [ekp]⟩
  refine lv_iconst (v := 0) hx hb dX4_pairs_0 (by decide) ?_
  refine lv_istore_n (lv' := [(1, .int 0), (0, .ref a0)]) hx hb dX4_pairs_1 rfl hl (by decide) rfl (fun ls hl => ?_)
  refine lv_iconst (v := 0) hx hb dX4_pairs_2 (by decide) ?_
  refine lv_istore_n (lv' := [(2, .int 0), (1, .int 0), (0, .ref a0)]) hx hb dX4_pairs_3 rfl hl (by decide) rfl (fun ls hl => ?_)
  have hJ4 : ∀ (n4 : Nat) (y4_2 : Int32) (y4_1 : Int32) (H : Heap) (locs : List Loc) (ls : Array Slot), 0 ≤ y4_2.toInt → y4_2.toInt ≤ 40 → 40 - y4_2.toInt ≤ (n4 : Int) → tw_H D cs kp L E A H → va_S A s.heap H locs → lv_has ls 3 [(2, .int y4_2), (1, .int y4_1), (0, .ref a0)] → W p l e { frames := 0, cells := 0, slots := 0, locals := 0 } s m [.ref a0].toArray below meth c H locs 0 0 (MQ below (tw_Q D cs kp0 L0 (fun v kq Lq Eq => (∃ x : Int32, v = some (.int x)) ∧ kp = kq ∧ L = Lq ∧ E = Eq) A) [.ref a0].toArray s 0 0 A) (F0 m 4 ls []) := by
    intro n4
    induction n4 using Nat.strongRecOn with
    | _ n4 ih4 =>
      intro y4_2 y4_1 H locs ls hy4_2a hy4_2b hmeas4 TH hS hl
      refine lv_iload_n hx hb dX4_pairs_4 rfl (lv_at hl 0 rfl) ?_
      refine lv_bipush (v := 40) hx hb dX4_pairs_5 (by decide) ?_
      refine lv_icmp_ge (tgt := 29) hx hb dX4_pairs_7 (by decide) (fun hc1 => ?_) (fun hc1 => ?_)
      · have hf2 : 40 ≤ y4_2.toInt := by have z := (fa_le _ _).mp hc1; have : ((40 : Int32).toInt) = 40 := (by decide); omega
        refine lv_iload_n hx hb dX4_pairs_29 rfl (lv_at hl 1 rfl) ?_
        exact tw_iret hx hb hr hlocks TH hS hex ⟨⟨_, rfl⟩, rfl, rfl, rfl⟩ (Nat.le_of_ble_eq_true rfl) (Nat.le_of_ble_eq_true rfl) dX4_pairs_30
      · have hf3 : ¬ (40 ≤ y4_2.toInt) := fun q => hc1 ((fa_le _ _).mpr (by have : ((40 : Int32).toInt) = 40 := (by decide); omega))
        refine lv_aload_n hx hb dX4_pairs_10 rfl (lv_at hl 2 rfl) ?_
        refine tw_get (ci := 4) (C := RX4) (T := TX4) (N := 7) hx hb hB cx_inX4 hown hK TH hm0 hk0 rfl ⟨by decide, rfl⟩ 3 (by decide) cw_200 (fun _ h9 => h9) dX4_pairs_11 (fun hv => ?_)
        obtain ⟨xr4, hxr4, hmxr4, hkxr4⟩ : ∃ a : Nat, tw_fv E a0 3 = .ref a ∧ a ∈ L ∧ kp a = 151 := hv
        rw [hxr4]
        refine lv_iload_n hx hb dX4_pairs_14 rfl (lv_at hl 0 rfl) ?_
        refine tw_iald (k := 151) (t0 := 0) (n := 40) (lo := (-1)) (hi := 39) hx hb hK TH hmxr4 hkxr4 (by decide) rfl rfl (i := y4_2) (vp_in_iff.mpr ⟨by  omega, by  omega⟩) dX4_pairs_15 (fun hxe5a hxe5b => ?_)
        obtain ⟨xe5, exe5⟩ : ∃ z : Int32, tw_iv E xr4 (Int32.toNatClampNeg y4_2) = z := ⟨_, rfl⟩
        rw [exe5] at hxe5a hxe5b ⊢
        refine lv_iconst (v := (-1)) hx hb dX4_pairs_16 (by decide) ?_
        have hJ23 : ∀ (y23_1 : Int32) (H : Heap) (locs : List Loc) (ls : Array Slot), tw_H D cs kp L E A H → va_S A s.heap H locs → lv_has ls 3 [(2, .int y4_2), (1, .int y23_1), (0, .ref a0)] → W p l e { frames := 0, cells := 0, slots := 0, locals := 0 } s m [.ref a0].toArray below meth c H locs 0 0 (MQ below (tw_Q D cs kp0 L0 (fun v kq Lq Eq => (∃ x : Int32, v = some (.int x)) ∧ kp = kq ∧ L = Lq ∧ E = Eq) A) [.ref a0].toArray s 0 0 A) (F0 m 23 ls []) := by
          intro y23_1 H locs ls TH hS hl
          obtain ⟨zi6, ezi6⟩ : ∃ z : Int32, z = y4_2 + Int32.ofInt 1 := ⟨_, rfl⟩
          have hzi6 : zi6.toInt = y4_2.toInt + 1 := by rw [ezi6]; have : ((Int32.ofInt 1).toInt) = 1 := (by decide);  exact (ia_add (by omega) (by omega)).trans (by omega)
          refine lv_iinc (v := zi6) (lv' := [(2, .int zi6), (1, .int y23_1), (0, .ref a0)]) hx hb dX4_pairs_23 hl (k := 0) rfl ezi6.symm (by decide) rfl (fun ls hl => ?_)
          refine lv_goto (tgt := 4) hx hb dX4_pairs_26 (by decide) ?_
          exact ih4 (n4 - 1) (by   omega) zi6 y23_1 _ _ ls (by omega) (by omega) (by   omega) TH hS (lv_sub hl [0, 1, 2] rfl)
        refine lv_icmp_eq (tgt := 23) hx hb dX4_pairs_17 (by decide) (fun hc7 => ?_) (fun hc7 => ?_)
        · have hf8 : xe5.toInt = (-1) := by have z := (fa_eq _ _).mp hc7; have : (((-1) : Int32).toInt) = (-1) := (by decide); omega
          exact hJ23 y4_1 _ _ ls  TH hS (lv_sub hl [0, 1, 2] rfl)
        · have hf9 : ¬ (xe5.toInt = (-1)) := fun q => hc7 ((fa_eq _ _).mpr (by have : (((-1) : Int32).toInt) = (-1) := (by decide); omega))
          obtain ⟨zi10, ezi10⟩ : ∃ z : Int32, z = y4_1 + Int32.ofInt 1 := ⟨_, rfl⟩
          refine lv_iinc (v := zi10) (lv' := [(1, .int zi10), (2, .int y4_2), (0, .ref a0)]) hx hb dX4_pairs_20 hl (k := 1) rfl ezi10.symm (by decide) rfl (fun ls hl => ?_)
          exact hJ23 zi10 _ _ ls  TH hS (lv_sub hl [1, 0, 2] rfl)
  exact hJ4 41 (0 : Int32) (0 : Int32) _ _ ls (by have : ((0 : Int32).toInt) = 0 := (by decide); omega) (by have : ((0 : Int32).toInt) = 0 := (by decide); omega) (by have : ((0 : Int32).toInt) = 0 := (by decide);  omega) TH hS (lv_sub hl [0, 1, 2] rfl)
set_option maxHeartbeats 4000000 in
set_option maxRecDepth 100000 in
theorem tX4_haveParentsPaired (l : Launch) (D : va_G) (cs : Nat → ClassId) {kp : Nat → Nat} {L : List Nat} {E : Nat → va_E} (a0 : Nat) (x1 : Int32) (x2 : Int32) (hm0 : a0 ∈ L) (hk0 : kp a0 = 4) (hp1a : 0 ≤ x1.toInt) (hp1b : x1.toInt ≤ 39) (hp2a : 0 ≤ x2.toInt) (hp2b : x2.toInt ≤ 39) (sz : Nat) : Met l yX4_haveParentsPaired (.code yX4_haveParentsPaired cX4_haveParentsPaired 4 (some .boolean) :: cx_big) { frames := 0, cells := 0, slots := 0, locals := 0 } (tw_P D cs kp L E [.ref a0, .int x1, .int x2] sz) (tw_Q D cs kp L (fun v kq Lq Eq => (∃ x : Int32, v = some (.int x) ∧ 0 ≤ x.toInt ∧ x.toInt ≤ 1) ∧ kp = kq ∧ L = Lq ∧ E = Eq) (va_A (va_pl L E) sz)) 0 0 (va_A (va_pl L E) sz) := by
  refine tw_ofW (by decide) (Nat.le_of_ble_eq_true rfl) ?_
  intro p e s m below meth c A ls hx hb hr hml hB hown hlocks hK hN hA TH hS hl
  have hown : s.vm.findClass "TreeMerge$Matcher" = some m.cls := hown
  have hl : lv_has ls 4 [(0, .ref a0), (1, .int x1), (2, .int x2)] := hl
  obtain ⟨kp0, ekp⟩ : ∃ z, z = kp := ⟨_, rfl⟩
  obtain ⟨L0, eL⟩ : ∃ z, z = L := ⟨_, rfl⟩
  rw [show tw_Q D cs kp L = tw_Q D cs kp0 L0 by rw [ekp, eL]]
  have hex : ∀ a : Nat, a ∈ L0 → a ∈ L ∧ kp a = kp0 a := fun a h => ⟨by rw [← eL]; exact h, by rw [ekp]⟩
  refine lv_aload_n hx hb dX4_haveParentsPaired_0 rfl (lv_at hl 0 rfl) ?_
  refine tw_get (ci := 4) (C := RX4) (T := TX4) (N := 7) hx hb hB cx_inX4 hown hK TH hm0 hk0 rfl ⟨by decide, rfl⟩ 0 (by decide) cw_197 (fun _ h9 => h9) dX4_haveParentsPaired_1 (fun hv => ?_)
  obtain ⟨xr1, hxr1, hmxr1, hkxr1⟩ : ∃ a : Nat, tw_fv E a0 0 = .ref a ∧ a ∈ L ∧ kp a = 10 := hv
  rw [hxr1]
  refine tw_get (ci := 10) (C := RX10) (T := TX10) (N := 8) hx hb hB cx_inX10 hown hK TH hmxr1 hkxr1 rfl ⟨by decide, rfl⟩ 3 (by decide) cw_132 (fun _ h9 => h9) dX4_haveParentsPaired_4 (fun hv => ?_)
  obtain ⟨xr2, hxr2, hmxr2, hkxr2⟩ : ∃ a : Nat, tw_fv E xr1 3 = .ref a ∧ a ∈ L ∧ kp a = 112 := hv
  rw [hxr2]
  refine lv_iload_n hx hb dX4_haveParentsPaired_7 rfl (lv_at hl 1 rfl) ?_
  refine tw_iald (k := 112) (t0 := 0) (n := 40) (lo := (-1)) (hi := 39) hx hb hK TH hmxr2 hkxr2 (by decide) rfl rfl (i := x1) (vp_in_iff.mpr ⟨by  omega, by  omega⟩) dX4_haveParentsPaired_8 (fun hxe3a hxe3b => ?_)
  obtain ⟨xe3, exe3⟩ : ∃ z : Int32, tw_iv E xr2 (Int32.toNatClampNeg x1) = z := ⟨_, rfl⟩
  rw [exe3] at hxe3a hxe3b ⊢
  refine lv_istore_n (lv' := [(3, .int xe3), (0, .ref a0), (1, .int x1), (2, .int x2)]) hx hb dX4_haveParentsPaired_9 rfl hl (by decide) rfl (fun ls hl => ?_)
  refine lv_iload_n hx hb dX4_haveParentsPaired_10 rfl (lv_at hl 0 rfl) ?_
  refine lv_if_lt (tgt := 48) hx hb dX4_haveParentsPaired_11 (by decide) (fun hc4 => ?_) (fun hc4 => ?_)
  · have hf5 : xe3.toInt < 0 := by have z := (fa_lt _ _).mp hc4; have : ((0 : Int32).toInt) = 0 := (by decide); omega
    refine lv_iconst (v := 0) hx hb dX4_haveParentsPaired_48 (by decide) ?_
    exact tw_zret hx hb hr hlocks (by decide) TH hS hex ⟨⟨_, rfl, (show 0 ≤ Int32.toInt 0 from by have : ((0 : Int32).toInt) = 0 := (by decide); omega), (show Int32.toInt 0 ≤ 1 from by have : ((0 : Int32).toInt) = 0 := (by decide); omega)⟩, rfl, rfl, rfl⟩ (Nat.le_of_ble_eq_true rfl) (Nat.le_of_ble_eq_true rfl) dX4_haveParentsPaired_49
  · have hf6 : ¬ (xe3.toInt < 0) := fun q => hc4 ((fa_lt _ _).mpr (by have : ((0 : Int32).toInt) = 0 := (by decide); omega))
    refine lv_aload_n hx hb dX4_haveParentsPaired_14 rfl (lv_at hl 1 rfl) ?_
    refine tw_get (ci := 4) (C := RX4) (T := TX4) (N := 7) hx hb hB cx_inX4 hown hK TH hm0 hk0 rfl ⟨by decide, rfl⟩ 1 (by decide) cw_198 (fun _ h9 => h9) dX4_haveParentsPaired_15 (fun hv => ?_)
    obtain ⟨xr7, hxr7, hmxr7, hkxr7⟩ : ∃ a : Nat, tw_fv E a0 1 = .ref a ∧ a ∈ L ∧ kp a = 10 := hv
    rw [hxr7]
    refine tw_get (ci := 10) (C := RX10) (T := TX10) (N := 8) hx hb hB cx_inX10 hown hK TH hmxr7 hkxr7 rfl ⟨by decide, rfl⟩ 3 (by decide) cw_132 (fun _ h9 => h9) dX4_haveParentsPaired_18 (fun hv => ?_)
    obtain ⟨xr8, hxr8, hmxr8, hkxr8⟩ : ∃ a : Nat, tw_fv E xr7 3 = .ref a ∧ a ∈ L ∧ kp a = 112 := hv
    rw [hxr8]
    refine lv_iload_n hx hb dX4_haveParentsPaired_21 rfl (lv_at hl 3 rfl) ?_
    refine tw_iald (k := 112) (t0 := 0) (n := 40) (lo := (-1)) (hi := 39) hx hb hK TH hmxr8 hkxr8 (by decide) rfl rfl (i := x2) (vp_in_iff.mpr ⟨by  omega, by  omega⟩) dX4_haveParentsPaired_22 (fun hxe9a hxe9b => ?_)
    obtain ⟨xe9, exe9⟩ : ∃ z : Int32, tw_iv E xr8 (Int32.toNatClampNeg x2) = z := ⟨_, rfl⟩
    rw [exe9] at hxe9a hxe9b ⊢
    refine lv_if_lt (tgt := 48) hx hb dX4_haveParentsPaired_23 (by decide) (fun hc10 => ?_) (fun hc10 => ?_)
    · have hf11 : xe9.toInt < 0 := by have z := (fa_lt _ _).mp hc10; have : ((0 : Int32).toInt) = 0 := (by decide); omega
      refine lv_iconst (v := 0) hx hb dX4_haveParentsPaired_48 (by decide) ?_
      exact tw_zret hx hb hr hlocks (by decide) TH hS hex ⟨⟨_, rfl, (show 0 ≤ Int32.toInt 0 from by have : ((0 : Int32).toInt) = 0 := (by decide); omega), (show Int32.toInt 0 ≤ 1 from by have : ((0 : Int32).toInt) = 0 := (by decide); omega)⟩, rfl, rfl, rfl⟩ (Nat.le_of_ble_eq_true rfl) (Nat.le_of_ble_eq_true rfl) dX4_haveParentsPaired_49
    · have hf12 : ¬ (xe9.toInt < 0) := fun q => hc10 ((fa_lt _ _).mpr (by have : ((0 : Int32).toInt) = 0 := (by decide); omega))
      refine lv_aload_n hx hb dX4_haveParentsPaired_26 rfl (lv_at hl 1 rfl) ?_
      refine tw_get (ci := 4) (C := RX4) (T := TX4) (N := 7) hx hb hB cx_inX4 hown hK TH hm0 hk0 rfl ⟨by decide, rfl⟩ 2 (by decide) cw_199 (fun _ h9 => h9) dX4_haveParentsPaired_27 (fun hv => ?_)
      obtain ⟨xr13, hxr13, hmxr13, hkxr13⟩ : ∃ a : Nat, tw_fv E a0 2 = .ref a ∧ a ∈ L ∧ kp a = 150 := hv
      rw [hxr13]
      refine lv_iload_n hx hb dX4_haveParentsPaired_30 rfl (lv_at hl 0 rfl) ?_
      refine tw_iald (k := 150) (t0 := 0) (n := 40) (lo := (-1)) (hi := 39) hx hb hK TH hmxr13 hkxr13 (by decide) rfl rfl (i := xe3) (vp_in_iff.mpr ⟨by  omega, by  omega⟩) dX4_haveParentsPaired_31 (fun hxe14a hxe14b => ?_)
      obtain ⟨xe14, exe14⟩ : ∃ z : Int32, tw_iv E xr13 (Int32.toNatClampNeg xe3) = z := ⟨_, rfl⟩
      rw [exe14] at hxe14a hxe14b ⊢
      refine lv_aload_n hx hb dX4_haveParentsPaired_32 rfl (lv_at hl 1 rfl) ?_
      refine tw_get (ci := 4) (C := RX4) (T := TX4) (N := 7) hx hb hB cx_inX4 hown hK TH hm0 hk0 rfl ⟨by decide, rfl⟩ 1 (by decide) cw_198 (fun _ h9 => h9) dX4_haveParentsPaired_33 (fun hv => ?_)
      rw [hxr7]
      refine tw_get (ci := 10) (C := RX10) (T := TX10) (N := 8) hx hb hB cx_inX10 hown hK TH hmxr7 hkxr7 rfl ⟨by decide, rfl⟩ 3 (by decide) cw_132 (fun _ h9 => h9) dX4_haveParentsPaired_36 (fun hv => ?_)
      rw [hxr8]
      refine lv_iload_n hx hb dX4_haveParentsPaired_39 rfl (lv_at hl 3 rfl) ?_
      refine tw_iald (k := 112) (t0 := 0) (n := 40) (lo := (-1)) (hi := 39) hx hb hK TH hmxr8 hkxr8 (by decide) rfl rfl (i := x2) (vp_in_iff.mpr ⟨by  omega, by  omega⟩) dX4_haveParentsPaired_40 (fun hxe15a hxe15b => ?_)
      rw [exe9]
      refine lv_icmp_ne (tgt := 48) hx hb dX4_haveParentsPaired_41 (by decide) (fun hc16 => ?_) (fun hc16 => ?_)
      · have hf17 : ¬ (xe14.toInt = xe9.toInt) := fun q => hc16 ((fa_eq _ _).mpr (by  omega))
        refine lv_iconst (v := 0) hx hb dX4_haveParentsPaired_48 (by decide) ?_
        exact tw_zret hx hb hr hlocks (by decide) TH hS hex ⟨⟨_, rfl, (show 0 ≤ Int32.toInt 0 from by have : ((0 : Int32).toInt) = 0 := (by decide); omega), (show Int32.toInt 0 ≤ 1 from by have : ((0 : Int32).toInt) = 0 := (by decide); omega)⟩, rfl, rfl, rfl⟩ (Nat.le_of_ble_eq_true rfl) (Nat.le_of_ble_eq_true rfl) dX4_haveParentsPaired_49
      · have hf18 : xe14.toInt = xe9.toInt := by have z := (fa_eq _ _).mp hc16;  omega
        refine lv_iconst (v := 1) hx hb dX4_haveParentsPaired_44 (by decide) ?_
        refine lv_goto (tgt := 49) hx hb dX4_haveParentsPaired_45 (by decide) ?_
        exact tw_zret hx hb hr hlocks (by decide) TH hS hex ⟨⟨_, rfl, (show 0 ≤ Int32.toInt 1 from by have : ((1 : Int32).toInt) = 1 := (by decide); omega), (show Int32.toInt 1 ≤ 1 from by have : ((1 : Int32).toInt) = 1 := (by decide); omega)⟩, rfl, rfl, rfl⟩ (Nat.le_of_ble_eq_true rfl) (Nat.le_of_ble_eq_true rfl) dX4_haveParentsPaired_49
set_option maxHeartbeats 4000000 in
set_option maxRecDepth 100000 in
theorem tX4_pairCost (l : Launch) (D : va_G) (cs : Nat → ClassId) {kp : Nat → Nat} {L : List Nat} {E : Nat → va_E} (a0 : Nat) (x1 : Int32) (x2 : Int32) (hm0 : a0 ∈ L) (hk0 : kp a0 = 4) (hp1a : 0 ≤ x1.toInt) (hp1b : x1.toInt ≤ 39) (hp2a : 0 ≤ x2.toInt) (hp2b : x2.toInt ≤ 39) (sz : Nat) : Met l yX4_pairCost (.code yX4_pairCost cX4_pairCost 4 (some .int) :: cx_big) { frames := 1, cells := 0, slots := 0, locals := 23 } (tw_P D cs kp L E [.ref a0, .int x1, .int x2] sz) (tw_Q D cs kp L (fun v kq Lq Eq => (∃ x : Int32, v = some (.int x) ∧ 0 ≤ x.toInt ∧ x.toInt ≤ 2) ∧ kp = kq ∧ L = Lq ∧ E = Eq) (va_A (va_pl L E) sz)) 0 0 (va_A (va_pl L E) sz) := by
  refine tw_ofW (by decide) (Nat.le_of_ble_eq_true rfl) ?_
  intro p e s m below meth c A ls hx hb hr hml hB hown hlocks hK hN hA TH hS hl
  have hown : s.vm.findClass "TreeMerge$Matcher" = some m.cls := hown
  have hl : lv_has ls 4 [(0, .ref a0), (1, .int x1), (2, .int x2)] := hl
  obtain ⟨kp0, ekp⟩ : ∃ z, z = kp := ⟨_, rfl⟩
  obtain ⟨L0, eL⟩ : ∃ z, z = L := ⟨_, rfl⟩
  rw [show tw_Q D cs kp L = tw_Q D cs kp0 L0 by rw [ekp, eL]]
  have hex : ∀ a : Nat, a ∈ L0 → a ∈ L ∧ kp a = kp0 a := fun a h => ⟨by rw [← eL]; exact h, by rw [ekp]⟩
  refine lv_aload_n hx hb dX4_pairCost_0 rfl (lv_at hl 0 rfl) ?_
  refine tw_get (ci := 4) (C := RX4) (T := TX4) (N := 7) hx hb hB cx_inX4 hown hK TH hm0 hk0 rfl ⟨by decide, rfl⟩ 0 (by decide) cw_197 (fun _ h9 => h9) dX4_pairCost_1 (fun hv => ?_)
  obtain ⟨xr1, hxr1, hmxr1, hkxr1⟩ : ∃ a : Nat, tw_fv E a0 0 = .ref a ∧ a ∈ L ∧ kp a = 10 := hv
  rw [hxr1]
  refine tw_get (ci := 10) (C := RX10) (T := TX10) (N := 8) hx hb hB cx_inX10 hown hK TH hmxr1 hkxr1 rfl ⟨by decide, rfl⟩ 6 (by decide) cw_145 (fun _ h9 => h9) dX4_pairCost_4 (fun hv => ?_)
  obtain ⟨xr2, hxr2, hmxr2, hkxr2⟩ : ∃ a : Nat, tw_fv E xr1 6 = .ref a ∧ a ∈ L ∧ kp a = 102 := hv
  rw [hxr2]
  refine lv_iload_n hx hb dX4_pairCost_7 rfl (lv_at hl 1 rfl) ?_
  refine tw_lald (k := 102) (n := 40) (lo := 0) (hi := 0) hx hb hK TH hmxr2 hkxr2 (by decide) rfl (i := x1) (vp_in_iff.mpr ⟨by  omega, by  omega⟩) dX4_pairCost_8 (fun xl3 => ?_)
  refine lv_aload_n hx hb dX4_pairCost_9 rfl (lv_at hl 0 rfl) ?_
  refine tw_get (ci := 4) (C := RX4) (T := TX4) (N := 7) hx hb hB cx_inX4 hown hK TH hm0 hk0 rfl ⟨by decide, rfl⟩ 1 (by decide) cw_198 (fun _ h9 => h9) dX4_pairCost_10 (fun hv => ?_)
  obtain ⟨xr4, hxr4, hmxr4, hkxr4⟩ : ∃ a : Nat, tw_fv E a0 1 = .ref a ∧ a ∈ L ∧ kp a = 10 := hv
  rw [hxr4]
  refine tw_get (ci := 10) (C := RX10) (T := TX10) (N := 8) hx hb hB cx_inX10 hown hK TH hmxr4 hkxr4 rfl ⟨by decide, rfl⟩ 6 (by decide) cw_145 (fun _ h9 => h9) dX4_pairCost_13 (fun hv => ?_)
  obtain ⟨xr5, hxr5, hmxr5, hkxr5⟩ : ∃ a : Nat, tw_fv E xr4 6 = .ref a ∧ a ∈ L ∧ kp a = 102 := hv
  rw [hxr5]
  refine lv_iload_n hx hb dX4_pairCost_16 rfl (lv_at hl 2 rfl) ?_
  refine tw_lald (k := 102) (n := 40) (lo := 0) (hi := 0) hx hb hK TH hmxr5 hkxr5 (by decide) rfl (i := x2) (vp_in_iff.mpr ⟨by  omega, by  omega⟩) dX4_pairCost_17 (fun xl6 => ?_)
  refine W.lcmp hx hb dX4_pairCost_18 ?_
  have hzi7 := ia_lcmp xl3 xl6
  generalize lg_cmp xl3 xl6 = zi7 at hzi7 ⊢
  have hJ27 : ∀ (z27_0 : Int32) (H : Heap) (locs : List Loc) (ls : Array Slot), 0 ≤ z27_0.toInt → z27_0.toInt ≤ 1 → tw_H D cs kp L E A H → va_S A s.heap H locs → lv_has ls 4 [(0, .ref a0), (1, .int x1), (2, .int x2)] → W p l e { frames := 1, cells := 0, slots := 0, locals := 23 } s m [.ref a0, .int x1, .int x2].toArray below meth c H locs 0 0 (MQ below (tw_Q D cs kp0 L0 (fun v kq Lq Eq => (∃ x : Int32, v = some (.int x) ∧ 0 ≤ x.toInt ∧ x.toInt ≤ 2) ∧ kp = kq ∧ L = Lq ∧ E = Eq) A) [.ref a0, .int x1, .int x2].toArray s 0 0 A) (F0 m 27 ls [.int z27_0]) := by
    intro z27_0 H locs ls hz27_0a hz27_0b TH hS hl
    refine lv_istore_n (lv' := [(3, .int z27_0), (0, .ref a0), (1, .int x1), (2, .int x2)]) hx hb dX4_pairCost_27 rfl hl (by decide) rfl (fun ls hl => ?_)
    refine lv_iload_n hx hb dX4_pairCost_28 rfl (lv_at hl 2 rfl) ?_
    refine lv_if_le (tgt := 47) hx hb dX4_pairCost_29 (by decide) (fun hc8 => ?_) (fun hc8 => ?_)
    · have hf9 : x1.toInt ≤ 0 := by have z := (fa_le _ _).mp hc8; have : ((0 : Int32).toInt) = 0 := (by decide); omega
      refine lv_iload_n hx hb dX4_pairCost_47 rfl (lv_at hl 0 rfl) ?_
      exact tw_iret hx hb hr hlocks TH hS hex ⟨⟨_, rfl, (show 0 ≤ Int32.toInt z27_0 from by  omega), (show Int32.toInt z27_0 ≤ 2 from by  omega)⟩, rfl, rfl, rfl⟩ (Nat.le_of_ble_eq_true rfl) (Nat.le_of_ble_eq_true rfl) dX4_pairCost_48
    · have hf10 : ¬ (x1.toInt ≤ 0) := fun q => hc8 ((fa_le _ _).mpr (by have : ((0 : Int32).toInt) = 0 := (by decide); omega))
      refine lv_aload_n hx hb dX4_pairCost_32 rfl (lv_at hl 1 rfl) ?_
      refine lv_iload_n hx hb dX4_pairCost_33 rfl (lv_at hl 2 rfl) ?_
      refine lv_iload_n hx hb dX4_pairCost_34 rfl (lv_at hl 3 rfl) ?_
      refine tw_Vc (o := a0) (ci := 4) (n := 2) (post := (fun v kq Lq Eq => (∃ x : Int32, v = some (.int x) ∧ 0 ≤ x.toInt ∧ x.toInt ≤ 1) ∧ kp = kq ∧ L = Lq ∧ E = Eq)) (As := [.int x1, .int x2]) (rest := []) ⟨hx, hb, hml, hown, hB⟩ (fun sz => tX4_haveParentsPaired l D cs a0 x1 x2 hm0 hk0 (by omega) (by omega) (by omega) (by omega) sz) cg_4_72_X4_haveParentsPaired rfl rfl (by decide +kernel) ⟨Nat.le_of_ble_eq_true rfl, Nat.le_of_ble_eq_true rfl⟩ hK hN TH hS hA rfl hm0 hk0 (by decide) rfl hl.1 rfl (Nat.le_of_ble_eq_true rfl) dX4_pairCost_35 ⟨Nat.le_of_ble_eq_true rfl, Nat.le_of_ble_eq_true rfl⟩ (fun v11 kp11 L11 E11 H locs hq11 hx11 TH hS => ?_)
      obtain ⟨⟨xc12, rfl, hxc12a, hxc12b⟩, rfl, rfl, rfl⟩ := hq11
      refine W.eq (g2 := F0 m 38 ls [.int xc12]) rfl ?_
      refine lv_if_ne (tgt := 47) hx hb dX4_pairCost_38 (by decide) (fun hc13 => ?_) (fun hc13 => ?_)
      · have hf14 : ¬ (xc12.toInt = 0) := fun q => hc13 ((fa_eq _ _).mpr (by have : ((0 : Int32).toInt) = 0 := (by decide); omega))
        refine lv_iload_n hx hb dX4_pairCost_47 rfl (lv_at hl 0 rfl) ?_
        exact tw_iret hx hb hr hlocks TH hS hex ⟨⟨_, rfl, (show 0 ≤ Int32.toInt z27_0 from by  omega), (show Int32.toInt z27_0 ≤ 2 from by  omega)⟩, rfl, rfl, rfl⟩ (Nat.le_of_ble_eq_true rfl) (Nat.le_of_ble_eq_true rfl) dX4_pairCost_48
      · have hf15 : xc12.toInt = 0 := by have z := (fa_eq _ _).mp hc13; have : ((0 : Int32).toInt) = 0 := (by decide); omega
        refine lv_iload_n hx hb dX4_pairCost_41 rfl (lv_at hl 0 rfl) ?_
        refine lv_iconst (v := 1) hx hb dX4_pairCost_42 (by decide) ?_
        refine lv_iadd hx hb dX4_pairCost_43 ?_
        refine lv_topi (fun zi16 ezi16 => ?_)
        have hzi16 : zi16.toInt = z27_0.toInt + 1 := by rw [ezi16]; have : ((1 : Int32).toInt) = 1 := (by decide); have := ia_lo z27_0; have := ia_hi z27_0; exact (ia_add (by omega) (by omega)).trans (by omega)
        refine lv_goto (tgt := 48) hx hb dX4_pairCost_44 (by decide) ?_
        exact tw_iret hx hb hr hlocks TH hS hex ⟨⟨_, rfl, (show 0 ≤ Int32.toInt zi16 from by  omega), (show Int32.toInt zi16 ≤ 2 from by  omega)⟩, rfl, rfl, rfl⟩ (Nat.le_of_ble_eq_true rfl) (Nat.le_of_ble_eq_true rfl) dX4_pairCost_48
  refine lv_if_eq (tgt := 26) hx hb dX4_pairCost_19 (by decide) (fun hc17 => ?_) (fun hc17 => ?_)
  · have hf18 : zi7.toInt = 0 := by have z := (fa_eq _ _).mp hc17; have : ((0 : Int32).toInt) = 0 := (by decide); omega
    refine lv_iconst (v := 0) hx hb dX4_pairCost_26 (by decide) ?_
    exact hJ27 (0 : Int32) _ _ ls (by have : ((0 : Int32).toInt) = 0 := (by decide); omega) (by have : ((0 : Int32).toInt) = 0 := (by decide); omega) TH hS (lv_sub hl [0, 1, 2] rfl)
  · have hf19 : ¬ (zi7.toInt = 0) := fun q => hc17 ((fa_eq _ _).mpr (by have : ((0 : Int32).toInt) = 0 := (by decide); omega))
    refine lv_iconst (v := 1) hx hb dX4_pairCost_22 (by decide) ?_
    refine lv_goto (tgt := 27) hx hb dX4_pairCost_23 (by decide) ?_
    exact hJ27 (1 : Int32) _ _ ls (by have : ((1 : Int32).toInt) = 1 := (by decide); omega) (by have : ((1 : Int32).toInt) = 1 := (by decide); omega) TH hS (lv_sub hl [0, 1, 2] rfl)
set_option maxHeartbeats 4000000 in
set_option maxRecDepth 100000 in
theorem tX4_takeBest (l : Launch) (D : va_G) (cs : Nat → ClassId) {kp : Nat → Nat} {L : List Nat} {E : Nat → va_E} (a0 : Nat) (hm0 : a0 ∈ L) (hk0 : kp a0 = 4) (sz : Nat) : Met l yX4_takeBest (.code yX4_takeBest cX4_takeBest 2 none :: cx_big) { frames := 1, cells := 0, slots := 0, locals := 22 } (tw_P D cs kp L E [.ref a0] sz) (tw_Q D cs kp L (fun v kq Lq Eq => v = none ∧ kp = kq ∧ L = Lq ∧ tw_fr kp L [] [150, 151] E Eq) (va_A (va_pl L E) sz)) 0 0 (va_A (va_pl L E) sz) := by
  refine tw_ofW (by decide) (Nat.le_of_ble_eq_true rfl) ?_
  intro p e s m below meth c A ls hx hb hr hml hB hown hlocks hK hN hA TH hS hl
  have hown : s.vm.findClass "TreeMerge$Matcher" = some m.cls := hown
  have hl : lv_has ls 2 [(0, .ref a0)] := hl
  obtain ⟨kp0, ekp⟩ : ∃ z, z = kp := ⟨_, rfl⟩
  obtain ⟨L0, eL⟩ : ∃ z, z = L := ⟨_, rfl⟩
  rw [show tw_Q D cs kp L = tw_Q D cs kp0 L0 by rw [ekp, eL]]
  have hex : ∀ a : Nat, a ∈ L0 → a ∈ L ∧ kp a = kp0 a := fun a h => ⟨by rw [← eL]; exact h, by rw [ekp]⟩
  have hF : tw_fr kp L [] [150, 151] E E := tw_fr.rf
  refine lv_aload_n hx hb dX4_takeBest_0 rfl (lv_at hl 0 rfl) ?_
  refine tw_Vc (o := a0) (ci := 4) (n := 0) (post := (fun v kq Lq Eq => v = none ∧ kp = kq ∧ L = Lq ∧ tw_fr kp L [] [150, 151] E Eq)) (As := []) (rest := []) ⟨hx, hb, hml, hown, hB⟩ (fun sz => tX4_pairNothing l D cs a0 hm0 hk0 sz) cg_4_31_X4_pairNothing rfl rfl (by decide +kernel) ⟨Nat.le_of_ble_eq_true rfl, Nat.le_of_ble_eq_true rfl⟩ hK hN TH hS hA rfl hm0 hk0 (by decide) rfl hl.1 rfl (Nat.le_of_ble_eq_true rfl) dX4_takeBest_1 ⟨Nat.le_of_ble_eq_true rfl, Nat.le_of_ble_eq_true rfl⟩ (fun v1 kp1 L1 E1 H locs hq1 hx1 TH hS => ?_)
  obtain ⟨rfl, rfl, rfl, hst1⟩ := hq1
  have hF := hF.tr hst1 (fun _ h => ⟨h, rfl⟩) (by decide) (by decide)
  refine W.eq (g2 := F0 m 4 ls []) rfl ?_
  refine lv_iconst (v := 0) hx hb dX4_takeBest_4 (by decide) ?_
  refine lv_istore_n (lv' := [(1, .int 0), (0, .ref a0)]) hx hb dX4_takeBest_5 rfl hl (by decide) rfl (fun ls hl => ?_)
  have hJ6 : ∀ (n6 : Nat) (y6_1 : Int32) (Eg6 : Nat → va_E) (H : Heap) (locs : List Loc) (ls : Array Slot), 0 ≤ y6_1.toInt → y6_1.toInt ≤ 40 → 40 - y6_1.toInt ≤ (n6 : Int) → tw_fr kp L [] [150, 151] E1 Eg6 → tw_H D cs kp L Eg6 A H → va_S A s.heap H locs → lv_has ls 2 [(1, .int y6_1), (0, .ref a0)] → W p l e { frames := 1, cells := 0, slots := 0, locals := 22 } s m [.ref a0].toArray below meth c H locs 0 0 (MQ below (tw_Q D cs kp0 L0 (fun v kq Lq Eq => v = none ∧ kp = kq ∧ L = Lq ∧ tw_fr kp L [] [150, 151] E Eq) A) [.ref a0].toArray s 0 0 A) (F0 m 6 ls []) := by
    intro n6
    induction n6 using Nat.strongRecOn with
    | _ n6 ih6 =>
      intro y6_1 Eg6 H locs ls hy6_1a hy6_1b hmeas6 hG6 TH hS hl
      have hF := hF.tr hG6 (fun _ h => ⟨h, rfl⟩) (by decide) (by decide)
      refine lv_iload_n hx hb dX4_takeBest_6 rfl (lv_at hl 0 rfl) ?_
      refine lv_aload_n hx hb dX4_takeBest_7 rfl (lv_at hl 1 rfl) ?_
      refine tw_get (ci := 4) (C := RX4) (T := TX4) (N := 7) hx hb hB cx_inX4 hown hK TH hm0 hk0 rfl ⟨by decide, rfl⟩ 0 (by decide) cw_197 (fun _ h9 => h9) dX4_takeBest_8 (fun hv => ?_)
      obtain ⟨xr3, hxr3, hmxr3, hkxr3⟩ : ∃ a : Nat, tw_fv Eg6 a0 0 = .ref a ∧ a ∈ L ∧ kp a = 10 := hv
      rw [hxr3]
      refine tw_get (ci := 10) (C := RX10) (T := TX10) (N := 8) hx hb hB cx_inX10 hown hK TH hmxr3 hkxr3 rfl ⟨by decide, rfl⟩ 0 (by decide) cw_118 (fun _ h9 => h9) dX4_takeBest_11 (fun hv => ?_)
      obtain ⟨xi4, hxi4, hxi4a, hxi4b⟩ : ∃ x : Int32, tw_fv Eg6 xr3 0 = .int x ∧ 0 ≤ x.toInt ∧ x.toInt ≤ 40 := hv
      rw [hxi4]
      refine lv_icmp_ge (tgt := 43) hx hb dX4_takeBest_14 (by decide) (fun hc5 => ?_) (fun hc5 => ?_)
      · have hf6 : xi4.toInt ≤ y6_1.toInt := by have z := (fa_le _ _).mp hc5;  omega
        exact tw_vret hx hb hr hlocks TH hS hex ⟨rfl, rfl, rfl, hF⟩ (Nat.le_of_ble_eq_true rfl) (Nat.le_of_ble_eq_true rfl) dX4_takeBest_43
      · have hf7 : ¬ (xi4.toInt ≤ y6_1.toInt) := fun q => hc5 ((fa_le _ _).mpr (by  omega))
        refine lv_aload_n hx hb dX4_takeBest_17 rfl (lv_at hl 1 rfl) ?_
        refine tw_get (ci := 4) (C := RX4) (T := TX4) (N := 7) hx hb hB cx_inX4 hown hK TH hm0 hk0 rfl ⟨by decide, rfl⟩ 4 (by decide) cw_201 (fun _ h9 => h9) dX4_takeBest_18 (fun hv => ?_)
        obtain ⟨xr8, hxr8, hmxr8, hkxr8⟩ : ∃ a : Nat, tw_fv Eg6 a0 4 = .ref a ∧ a ∈ L ∧ kp a = 152 := hv
        rw [hxr8]
        refine lv_iload_n hx hb dX4_takeBest_21 rfl (lv_at hl 0 rfl) ?_
        refine tw_iald (k := 152) (t0 := 0) (n := 40) (lo := (-1)) (hi := 39) hx hb hK TH hmxr8 hkxr8 (by decide) rfl rfl (i := y6_1) (vp_in_iff.mpr ⟨by  omega, by  omega⟩) dX4_takeBest_22 (fun hxe9a hxe9b => ?_)
        obtain ⟨xe9, exe9⟩ : ∃ z : Int32, tw_iv Eg6 xr8 (Int32.toNatClampNeg y6_1) = z := ⟨_, rfl⟩
        rw [exe9] at hxe9a hxe9b ⊢
        have hJ37 : ∀  (Eg37 : Nat → va_E) (H : Heap) (locs : List Loc) (ls : Array Slot), tw_fr kp L [] [150, 151] Eg6 Eg37 → tw_H D cs kp L Eg37 A H → va_S A s.heap H locs → lv_has ls 2 [(1, .int y6_1), (0, .ref a0)] → W p l e { frames := 1, cells := 0, slots := 0, locals := 22 } s m [.ref a0].toArray below meth c H locs 0 0 (MQ below (tw_Q D cs kp0 L0 (fun v kq Lq Eq => v = none ∧ kp = kq ∧ L = Lq ∧ tw_fr kp L [] [150, 151] E Eq) A) [.ref a0].toArray s 0 0 A) (F0 m 37 ls []) := by
          intro Eg37 H locs ls hG37 TH hS hl
          have hF := hF.tr hG37 (fun _ h => ⟨h, rfl⟩) (by decide) (by decide)
          have hG6 := hG6.tr hG37 (fun _ h => ⟨h, rfl⟩) (by decide) (by decide)
          have hmf10 : tw_fv Eg37 a0 0 = .ref xr3 := (hG37.1 a0 0 hm0 (by rw [hk0]; decide)).trans hxr3
          have hmf11 : tw_fv Eg37 xr3 0 = .int xi4 := (hG37.1 xr3 0 hmxr3 (by rw [hkxr3]; decide)).trans hxi4
          have hmf12 : tw_fv Eg37 a0 4 = .ref xr8 := (hG37.1 a0 4 hm0 (by rw [hk0]; decide)).trans hxr8
          obtain ⟨zi13, ezi13⟩ : ∃ z : Int32, z = y6_1 + Int32.ofInt 1 := ⟨_, rfl⟩
          have hzi13 : zi13.toInt = y6_1.toInt + 1 := by rw [ezi13]; have : ((Int32.ofInt 1).toInt) = 1 := (by decide);  exact (ia_add (by omega) (by omega)).trans (by omega)
          refine lv_iinc (v := zi13) (lv' := [(1, .int zi13), (0, .ref a0)]) hx hb dX4_takeBest_37 hl (k := 0) rfl ezi13.symm (by decide) rfl (fun ls hl => ?_)
          refine lv_goto (tgt := 6) hx hb dX4_takeBest_40 (by decide) ?_
          exact ih6 (n6 - 1) (by   omega) zi13 _ _ _ ls (by omega) (by omega) (by   omega) hG6 TH hS (lv_sub hl [0, 1] rfl)
        have hG37 : tw_fr kp L [] [150, 151] Eg6 Eg6 := tw_fr.rf
        refine lv_if_lt (tgt := 37) hx hb dX4_takeBest_23 (by decide) (fun hc14 => ?_) (fun hc14 => ?_)
        · have hf15 : xe9.toInt < 0 := by have z := (fa_lt _ _).mp hc14; have : ((0 : Int32).toInt) = 0 := (by decide); omega
          exact hJ37  _ _ _ ls hG37 TH hS (lv_sub hl [0, 1] rfl)
        · have hf16 : ¬ (xe9.toInt < 0) := fun q => hc14 ((fa_lt _ _).mpr (by have : ((0 : Int32).toInt) = 0 := (by decide); omega))
          refine lv_aload_n hx hb dX4_takeBest_26 rfl (lv_at hl 1 rfl) ?_
          refine lv_iload_n hx hb dX4_takeBest_27 rfl (lv_at hl 0 rfl) ?_
          refine lv_aload_n hx hb dX4_takeBest_28 rfl (lv_at hl 1 rfl) ?_
          refine tw_get (ci := 4) (C := RX4) (T := TX4) (N := 7) hx hb hB cx_inX4 hown hK TH hm0 hk0 rfl ⟨by decide, rfl⟩ 4 (by decide) cw_201 (fun _ h9 => h9) dX4_takeBest_29 (fun hv => ?_)
          rw [hxr8]
          refine lv_iload_n hx hb dX4_takeBest_32 rfl (lv_at hl 0 rfl) ?_
          refine tw_iald (k := 152) (t0 := 0) (n := 40) (lo := (-1)) (hi := 39) hx hb hK TH hmxr8 hkxr8 (by decide) rfl rfl (i := y6_1) (vp_in_iff.mpr ⟨by  omega, by  omega⟩) dX4_takeBest_33 (fun hxe17a hxe17b => ?_)
          rw [exe9]
          refine tw_Vc (o := a0) (ci := 4) (n := 2) (post := (fun v kq Lq Eq => v = none ∧ kp = kq ∧ L = Lq ∧ tw_fr kp L [] [150, 151] Eg6 Eq)) (As := [.int y6_1, .int xe9]) (rest := []) ⟨hx, hb, hml, hown, hB⟩ (fun sz => tX4_link l D cs a0 y6_1 xe9 hm0 hk0 (by omega) (by omega) (by omega) (by omega) sz) cg_4_34_X4_link rfl rfl (by decide +kernel) ⟨Nat.le_of_ble_eq_true rfl, Nat.le_of_ble_eq_true rfl⟩ hK hN TH hS hA rfl hm0 hk0 (by decide) rfl hl.1 rfl (Nat.le_of_ble_eq_true rfl) dX4_takeBest_34 ⟨Nat.le_of_ble_eq_true rfl, Nat.le_of_ble_eq_true rfl⟩ (fun v18 kp18 L18 E18 H locs hq18 hx18 TH hS => ?_)
          obtain ⟨rfl, rfl, rfl, hst18⟩ := hq18
          have hF := hF.tr hst18 (fun _ h => ⟨h, rfl⟩) (by decide) (by decide)
          have hG6 := hG6.tr hst18 (fun _ h => ⟨h, rfl⟩) (by decide) (by decide)
          have hG37 := hG37.tr hst18 (fun _ h => ⟨h, rfl⟩) (by decide) (by decide)
          have hmf20 : tw_fv E18 a0 0 = .ref xr3 := (hst18.1 a0 0 hm0 (by rw [hk0]; decide)).trans hxr3
          have hmf21 : tw_fv E18 xr3 0 = .int xi4 := (hst18.1 xr3 0 hmxr3 (by rw [hkxr3]; decide)).trans hxi4
          have hmf22 : tw_fv E18 a0 4 = .ref xr8 := (hst18.1 a0 4 hm0 (by rw [hk0]; decide)).trans hxr8
          refine W.eq (g2 := F0 m 37 ls []) rfl ?_
          exact hJ37  _ _ _ ls hG37 TH hS (lv_sub hl [0, 1] rfl)
  exact hJ6 41 (0 : Int32) _ _ _ ls (by have : ((0 : Int32).toInt) = 0 := (by decide); omega) (by have : ((0 : Int32).toInt) = 0 := (by decide); omega) (by have : ((0 : Int32).toInt) = 0 := (by decide);  omega) tw_fr.rf TH hS (lv_sub hl [0, 1] rfl)
set_option maxHeartbeats 4000000 in
set_option maxRecDepth 100000 in
theorem tX4_areAllFree (l : Launch) (D : va_G) (cs : Nat → ClassId) {kp : Nat → Nat} {L : List Nat} {E : Nat → va_E} (a0 : Nat) (x1 : Int32) (x2 : Int32) (x3 : Int32) (hm0 : a0 ∈ L) (hk0 : kp a0 = 4) (hp1a : 0 ≤ x1.toInt) (hp1b : x1.toInt ≤ 39) (hp2a : 0 ≤ x2.toInt) (hp2b : x2.toInt ≤ 39) (hp3a : 1 ≤ x3.toInt) (hp3b : x3.toInt ≤ 40) (hpre0 : x1.toInt + x3.toInt ≤ 40) (hpre1 : x2.toInt + x3.toInt ≤ 40) (sz : Nat) : Met l yX4_areAllFree (.code yX4_areAllFree cX4_areAllFree 5 (some .boolean) :: cx_big) { frames := 0, cells := 0, slots := 0, locals := 0 } (tw_P D cs kp L E [.ref a0, .int x1, .int x2, .int x3] sz) (tw_Q D cs kp L (fun v kq Lq Eq => (∃ x : Int32, v = some (.int x) ∧ 0 ≤ x.toInt ∧ x.toInt ≤ 1) ∧ kp = kq ∧ L = Lq ∧ E = Eq) (va_A (va_pl L E) sz)) 0 0 (va_A (va_pl L E) sz) := by
  refine tw_ofW (by decide) (Nat.le_of_ble_eq_true rfl) ?_
  intro p e s m below meth c A ls hx hb hr hml hB hown hlocks hK hN hA TH hS hl
  have hown : s.vm.findClass "TreeMerge$Matcher" = some m.cls := hown
  have hl : lv_has ls 5 [(0, .ref a0), (1, .int x1), (2, .int x2), (3, .int x3)] := hl
  obtain ⟨kp0, ekp⟩ : ∃ z, z = kp := ⟨_, rfl⟩
  obtain ⟨L0, eL⟩ : ∃ z, z = L := ⟨_, rfl⟩
  rw [show tw_Q D cs kp L = tw_Q D cs kp0 L0 by rw [ekp, eL]]
  have hex : ∀ a : Nat, a ∈ L0 → a ∈ L ∧ kp a = kp0 a := fun a h => ⟨by rw [← eL]; exact h, by rw [ekp]⟩
  refine lv_iconst (v := 0) hx hb dX4_areAllFree_0 (by decide) ?_
  refine lv_istore (lv' := [(4, .int 0), (0, .ref a0), (1, .int x1), (2, .int x2), (3, .int x3)]) hx hb dX4_areAllFree_1 hl (by decide) rfl (fun ls hl => ?_)
  have hJ3 : ∀ (n3 : Nat) (y3_4 : Int32) (H : Heap) (locs : List Loc) (ls : Array Slot), 0 ≤ y3_4.toInt → y3_4.toInt ≤ 40 → 40 - y3_4.toInt ≤ (n3 : Int) → tw_H D cs kp L E A H → va_S A s.heap H locs → lv_has ls 5 [(4, .int y3_4), (0, .ref a0), (1, .int x1), (2, .int x2), (3, .int x3)] → W p l e { frames := 0, cells := 0, slots := 0, locals := 0 } s m [.ref a0, .int x1, .int x2, .int x3].toArray below meth c H locs 0 0 (MQ below (tw_Q D cs kp0 L0 (fun v kq Lq Eq => (∃ x : Int32, v = some (.int x) ∧ 0 ≤ x.toInt ∧ x.toInt ≤ 1) ∧ kp = kq ∧ L = Lq ∧ E = Eq) A) [.ref a0, .int x1, .int x2, .int x3].toArray s 0 0 A) (F0 m 3 ls []) := by
    intro n3
    induction n3 using Nat.strongRecOn with
    | _ n3 ih3 =>
      intro y3_4 H locs ls hy3_4a hy3_4b hmeas3 TH hS hl
      refine lv_iload hx hb dX4_areAllFree_3 (lv_at hl 0 rfl) ?_
      refine lv_iload_n hx hb dX4_areAllFree_5 rfl (lv_at hl 4 rfl) ?_
      refine lv_icmp_ge (tgt := 43) hx hb dX4_areAllFree_6 (by decide) (fun hc1 => ?_) (fun hc1 => ?_)
      · have hf2 : x3.toInt ≤ y3_4.toInt := by have z := (fa_le _ _).mp hc1;  omega
        refine lv_iconst (v := 1) hx hb dX4_areAllFree_43 (by decide) ?_
        exact tw_zret hx hb hr hlocks (by decide) TH hS hex ⟨⟨_, rfl, (show 0 ≤ Int32.toInt 1 from by have : ((1 : Int32).toInt) = 1 := (by decide); omega), (show Int32.toInt 1 ≤ 1 from by have : ((1 : Int32).toInt) = 1 := (by decide); omega)⟩, rfl, rfl, rfl⟩ (Nat.le_of_ble_eq_true rfl) (Nat.le_of_ble_eq_true rfl) dX4_areAllFree_44
      · have hf3 : ¬ (x3.toInt ≤ y3_4.toInt) := fun q => hc1 ((fa_le _ _).mpr (by  omega))
        refine lv_aload_n hx hb dX4_areAllFree_9 rfl (lv_at hl 1 rfl) ?_
        refine tw_get (ci := 4) (C := RX4) (T := TX4) (N := 7) hx hb hB cx_inX4 hown hK TH hm0 hk0 rfl ⟨by decide, rfl⟩ 2 (by decide) cw_199 (fun _ h9 => h9) dX4_areAllFree_10 (fun hv => ?_)
        obtain ⟨xr4, hxr4, hmxr4, hkxr4⟩ : ∃ a : Nat, tw_fv E a0 2 = .ref a ∧ a ∈ L ∧ kp a = 150 := hv
        rw [hxr4]
        refine lv_iload_n hx hb dX4_areAllFree_13 rfl (lv_at hl 2 rfl) ?_
        refine lv_iload hx hb dX4_areAllFree_14 (lv_at hl 0 rfl) ?_
        refine lv_iadd hx hb dX4_areAllFree_16 ?_
        refine lv_topi (fun zi5 ezi5 => ?_)
        have hzi5 : zi5.toInt = x1.toInt + y3_4.toInt := by rw [ezi5];  have := ia_lo x1; have := ia_hi x1; have := ia_lo y3_4; have := ia_hi y3_4; exact (ia_add (by omega) (by omega)).trans (by omega)
        refine tw_iald (k := 150) (t0 := 0) (n := 40) (lo := (-1)) (hi := 39) hx hb hK TH hmxr4 hkxr4 (by decide) rfl rfl (i := zi5) (vp_in_iff.mpr ⟨by  omega, by  omega⟩) dX4_areAllFree_17 (fun hxe6a hxe6b => ?_)
        obtain ⟨xe6, exe6⟩ : ∃ z : Int32, tw_iv E xr4 (Int32.toNatClampNeg zi5) = z := ⟨_, rfl⟩
        rw [exe6] at hxe6a hxe6b ⊢
        refine lv_iconst (v := (-1)) hx hb dX4_areAllFree_18 (by decide) ?_
        refine lv_icmp_ne (tgt := 35) hx hb dX4_areAllFree_19 (by decide) (fun hc7 => ?_) (fun hc7 => ?_)
        · have hf8 : ¬ (xe6.toInt = (-1)) := fun q => hc7 ((fa_eq _ _).mpr (by have : (((-1) : Int32).toInt) = (-1) := (by decide); omega))
          refine lv_iconst (v := 0) hx hb dX4_areAllFree_35 (by decide) ?_
          exact tw_zret hx hb hr hlocks (by decide) TH hS hex ⟨⟨_, rfl, (show 0 ≤ Int32.toInt 0 from by have : ((0 : Int32).toInt) = 0 := (by decide); omega), (show Int32.toInt 0 ≤ 1 from by have : ((0 : Int32).toInt) = 0 := (by decide); omega)⟩, rfl, rfl, rfl⟩ (Nat.le_of_ble_eq_true rfl) (Nat.le_of_ble_eq_true rfl) dX4_areAllFree_36
        · have hf9 : xe6.toInt = (-1) := by have z := (fa_eq _ _).mp hc7; have : (((-1) : Int32).toInt) = (-1) := (by decide); omega
          refine lv_aload_n hx hb dX4_areAllFree_22 rfl (lv_at hl 1 rfl) ?_
          refine tw_get (ci := 4) (C := RX4) (T := TX4) (N := 7) hx hb hB cx_inX4 hown hK TH hm0 hk0 rfl ⟨by decide, rfl⟩ 3 (by decide) cw_200 (fun _ h9 => h9) dX4_areAllFree_23 (fun hv => ?_)
          obtain ⟨xr10, hxr10, hmxr10, hkxr10⟩ : ∃ a : Nat, tw_fv E a0 3 = .ref a ∧ a ∈ L ∧ kp a = 151 := hv
          rw [hxr10]
          refine lv_iload_n hx hb dX4_areAllFree_26 rfl (lv_at hl 3 rfl) ?_
          refine lv_iload hx hb dX4_areAllFree_27 (lv_at hl 0 rfl) ?_
          refine lv_iadd hx hb dX4_areAllFree_29 ?_
          refine lv_topi (fun zi11 ezi11 => ?_)
          have hzi11 : zi11.toInt = x2.toInt + y3_4.toInt := by rw [ezi11];  have := ia_lo x2; have := ia_hi x2; have := ia_lo y3_4; have := ia_hi y3_4; exact (ia_add (by omega) (by omega)).trans (by omega)
          refine tw_iald (k := 151) (t0 := 0) (n := 40) (lo := (-1)) (hi := 39) hx hb hK TH hmxr10 hkxr10 (by decide) rfl rfl (i := zi11) (vp_in_iff.mpr ⟨by  omega, by  omega⟩) dX4_areAllFree_30 (fun hxe12a hxe12b => ?_)
          obtain ⟨xe12, exe12⟩ : ∃ z : Int32, tw_iv E xr10 (Int32.toNatClampNeg zi11) = z := ⟨_, rfl⟩
          rw [exe12] at hxe12a hxe12b ⊢
          refine lv_iconst (v := (-1)) hx hb dX4_areAllFree_31 (by decide) ?_
          refine lv_icmp_eq (tgt := 37) hx hb dX4_areAllFree_32 (by decide) (fun hc13 => ?_) (fun hc13 => ?_)
          · have hf14 : xe12.toInt = (-1) := by have z := (fa_eq _ _).mp hc13; have : (((-1) : Int32).toInt) = (-1) := (by decide); omega
            obtain ⟨zi15, ezi15⟩ : ∃ z : Int32, z = y3_4 + Int32.ofInt 1 := ⟨_, rfl⟩
            have hzi15 : zi15.toInt = y3_4.toInt + 1 := by rw [ezi15]; have : ((Int32.ofInt 1).toInt) = 1 := (by decide);  exact (ia_add (by omega) (by omega)).trans (by omega)
            refine lv_iinc (v := zi15) (lv' := [(4, .int zi15), (0, .ref a0), (1, .int x1), (2, .int x2), (3, .int x3)]) hx hb dX4_areAllFree_37 hl (k := 0) rfl ezi15.symm (by decide) rfl (fun ls hl => ?_)
            refine lv_goto (tgt := 3) hx hb dX4_areAllFree_40 (by decide) ?_
            exact ih3 (n3 - 1) (by   omega) zi15 _ _ ls (by omega) (by omega) (by   omega) TH hS (lv_sub hl [0, 1, 2, 3, 4] rfl)
          · have hf16 : ¬ (xe12.toInt = (-1)) := fun q => hc13 ((fa_eq _ _).mpr (by have : (((-1) : Int32).toInt) = (-1) := (by decide); omega))
            refine lv_iconst (v := 0) hx hb dX4_areAllFree_35 (by decide) ?_
            exact tw_zret hx hb hr hlocks (by decide) TH hS hex ⟨⟨_, rfl, (show 0 ≤ Int32.toInt 0 from by have : ((0 : Int32).toInt) = 0 := (by decide); omega), (show Int32.toInt 0 ≤ 1 from by have : ((0 : Int32).toInt) = 0 := (by decide); omega)⟩, rfl, rfl, rfl⟩ (Nat.le_of_ble_eq_true rfl) (Nat.le_of_ble_eq_true rfl) dX4_areAllFree_36
  exact hJ3 41 (0 : Int32) _ _ ls (by have : ((0 : Int32).toInt) = 0 := (by decide); omega) (by have : ((0 : Int32).toInt) = 0 := (by decide); omega) (by have : ((0 : Int32).toInt) = 0 := (by decide);  omega) TH hS (lv_sub hl [0, 1, 2, 3, 4] rfl)
