set_option maxHeartbeats 4000000 in
set_option maxRecDepth 100000 in
theorem tX12_leadsBack (l : Launch) (D : va_G) (cs : Nat → ClassId) {kp : Nat → Nat} {L : List Nat} {E : Nat → va_E} (a0 : Nat) (x1 : Int32) (hm0 : a0 ∈ L) (hk0 : kp a0 = 12) (hp1a : 0 ≤ x1.toInt) (hp1b : x1.toInt ≤ 149) (sz : Nat) : Met l yX12_leadsBack (.code yX12_leadsBack cX12_leadsBack 4 (some .boolean) :: cx_big) { frames := 0, cells := 0, slots := 0, locals := 0 } (tw_P D cs kp L E [.ref a0, .int x1] sz) (tw_Q D cs kp L (fun v kq Lq Eq => (∃ x : Int32, v = some (.int x) ∧ 0 ≤ x.toInt ∧ x.toInt ≤ 1) ∧ kp = kq ∧ L = Lq ∧ E = Eq) (va_A (va_pl L E) sz)) 0 0 (va_A (va_pl L E) sz) := by
  refine tw_ofW (by decide) (Nat.le_of_ble_eq_true rfl) ?_
  intro p e s m below meth c A ls hx hb hr hml hB hown hlocks hK hN hA TH hS hl
  have hown : s.vm.findClass "TreeMergeModel" = some m.cls := hown
  have hl : lv_has ls 4 [(0, .ref a0), (1, .int x1)] := hl
  obtain ⟨kp0, ekp⟩ : ∃ z, z = kp := ⟨_, rfl⟩
  obtain ⟨L0, eL⟩ : ∃ z, z = L := ⟨_, rfl⟩
  rw [show tw_Q D cs kp L = tw_Q D cs kp0 L0 by rw [ekp, eL]]
  have hex : ∀ a : Nat, a ∈ L0 → a ∈ L ∧ kp a = kp0 a := fun a h => ⟨by rw [← eL]; exact h, by rw [ekp]⟩
  refine lv_aload_n hx hb dX12_leadsBack_0 rfl (lv_at hl 0 rfl) ?_
  refine tw_get (ci := 12) (C := RX12) (T := TX12) (N := 64) hx hb hB cx_inX12 hown hK TH hm0 hk0 rfl ⟨by decide, rfl⟩ 18 (by decide) cw_1211 (fun _ h9 => h9) dX12_leadsBack_1 (fun hv => ?_)
  obtain ⟨xr1, hxr1, hmxr1, hkxr1⟩ : ∃ a : Nat, tw_fv E a0 18 = .ref a ∧ a ∈ L ∧ kp a = 318 := hv
  rw [hxr1]
  refine lv_bipush (v := 13) hx hb dX12_leadsBack_4 (by decide) ?_
  refine tw_aald (k := 318) (t0 := 4) (n := 16) (lo := 328) (hi := 0) (ty := .int) hx hb hK TH hmxr1 hkxr1 (by decide) rfl rfl (i := 13) (vp_in_iff.mpr ⟨by have : ((13 : Int32).toInt) = 13 := (by decide); omega, by have : ((13 : Int32).toInt) = 13 := (by decide); omega⟩) dX12_leadsBack_6 (fun xr2 exr2 hmxr2 hkxr2 => ?_)
  have hkxr2 : kp xr2 = 328 := hkxr2
  refine lv_iload_n hx hb dX12_leadsBack_7 rfl (lv_at hl 1 rfl) ?_
  refine tw_iald (k := 328) (t0 := 0) (n := 150) (lo := (-1)) (hi := 149) hx hb hK TH hmxr2 hkxr2 (by decide) rfl rfl (i := x1) (vp_in_iff.mpr ⟨by  omega, by  omega⟩) dX12_leadsBack_8 (fun hxe3a hxe3b => ?_)
  obtain ⟨xe3, exe3⟩ : ∃ z : Int32, tw_iv E xr2 (Int32.toNatClampNeg x1) = z := ⟨_, rfl⟩
  rw [exe3] at hxe3a hxe3b ⊢
  refine lv_istore_n (lv' := [(2, .int xe3), (0, .ref a0), (1, .int x1)]) hx hb dX12_leadsBack_9 rfl hl (by decide) rfl (fun ls hl => ?_)
  refine lv_iconst (v := 0) hx hb dX12_leadsBack_10 (by decide) ?_
  refine lv_istore_n (lv' := [(3, .int 0), (2, .int xe3), (0, .ref a0), (1, .int x1)]) hx hb dX12_leadsBack_11 rfl hl (by decide) rfl (fun ls hl => ?_)
  have hJ12 : ∀ (n12 : Nat) (y12_3 : Int32) (y12_2 : Int32) (H : Heap) (locs : List Loc) (ls : Array Slot), 0 ≤ y12_3.toInt → y12_3.toInt ≤ 150 → (-1) ≤ y12_2.toInt → y12_2.toInt ≤ 149 → 150 - y12_3.toInt ≤ (n12 : Int) → tw_H D cs kp L E A H → va_S A s.heap H locs → lv_has ls 4 [(3, .int y12_3), (2, .int y12_2), (0, .ref a0), (1, .int x1)] → W p l e { frames := 0, cells := 0, slots := 0, locals := 0 } s m [.ref a0, .int x1].toArray below meth c H locs 0 0 (MQ below (tw_Q D cs kp0 L0 (fun v kq Lq Eq => (∃ x : Int32, v = some (.int x) ∧ 0 ≤ x.toInt ∧ x.toInt ≤ 1) ∧ kp = kq ∧ L = Lq ∧ E = Eq) A) [.ref a0, .int x1].toArray s 0 0 A) (F0 m 12 ls []) := by
    intro n12
    induction n12 using Nat.strongRecOn with
    | _ n12 ih12 =>
      intro y12_3 y12_2 H locs ls hy12_3a hy12_3b hy12_2a hy12_2b hmeas12 TH hS hl
      refine lv_iload_n hx hb dX12_leadsBack_12 rfl (lv_at hl 0 rfl) ?_
      refine lv_sipush (v := 150) hx hb dX12_leadsBack_13 (by decide) ?_
      refine lv_icmp_ge (tgt := 45) hx hb dX12_leadsBack_16 (by decide) (fun hc4 => ?_) (fun hc4 => ?_)
      · have hf5 : 150 ≤ y12_3.toInt := by have z := (fa_le _ _).mp hc4; have : ((150 : Int32).toInt) = 150 := (by decide); omega
        refine lv_iload_n hx hb dX12_leadsBack_45 rfl (lv_at hl 1 rfl) ?_
        refine lv_iload_n hx hb dX12_leadsBack_46 rfl (lv_at hl 3 rfl) ?_
        refine lv_icmp_ne (tgt := 54) hx hb dX12_leadsBack_47 (by decide) (fun hc6 => ?_) (fun hc6 => ?_)
        · have hf7 : ¬ (y12_2.toInt = x1.toInt) := fun q => hc6 ((fa_eq _ _).mpr (by  omega))
          refine lv_iconst (v := 0) hx hb dX12_leadsBack_54 (by decide) ?_
          exact tw_zret hx hb hr hlocks (by decide) TH hS hex ⟨⟨_, rfl, (show 0 ≤ Int32.toInt 0 from by have : ((0 : Int32).toInt) = 0 := (by decide); omega), (show Int32.toInt 0 ≤ 1 from by have : ((0 : Int32).toInt) = 0 := (by decide); omega)⟩, rfl, rfl, rfl⟩ (Nat.le_of_ble_eq_true rfl) (Nat.le_of_ble_eq_true rfl) dX12_leadsBack_55
        · have hf8 : y12_2.toInt = x1.toInt := by have z := (fa_eq _ _).mp hc6;  omega
          refine lv_iconst (v := 1) hx hb dX12_leadsBack_50 (by decide) ?_
          refine lv_goto (tgt := 55) hx hb dX12_leadsBack_51 (by decide) ?_
          exact tw_zret hx hb hr hlocks (by decide) TH hS hex ⟨⟨_, rfl, (show 0 ≤ Int32.toInt 1 from by have : ((1 : Int32).toInt) = 1 := (by decide); omega), (show Int32.toInt 1 ≤ 1 from by have : ((1 : Int32).toInt) = 1 := (by decide); omega)⟩, rfl, rfl, rfl⟩ (Nat.le_of_ble_eq_true rfl) (Nat.le_of_ble_eq_true rfl) dX12_leadsBack_55
      · have hf9 : ¬ (150 ≤ y12_3.toInt) := fun q => hc4 ((fa_le _ _).mpr (by have : ((150 : Int32).toInt) = 150 := (by decide); omega))
        refine lv_iload_n hx hb dX12_leadsBack_19 rfl (lv_at hl 1 rfl) ?_
        refine lv_iconst (v := (-1)) hx hb dX12_leadsBack_20 (by decide) ?_
        refine lv_icmp_eq (tgt := 45) hx hb dX12_leadsBack_21 (by decide) (fun hc10 => ?_) (fun hc10 => ?_)
        · have hf11 : y12_2.toInt = (-1) := by have z := (fa_eq _ _).mp hc10; have : (((-1) : Int32).toInt) = (-1) := (by decide); omega
          refine lv_iload_n hx hb dX12_leadsBack_45 rfl (lv_at hl 1 rfl) ?_
          refine lv_iload_n hx hb dX12_leadsBack_46 rfl (lv_at hl 3 rfl) ?_
          refine lv_icmp_ne (tgt := 54) hx hb dX12_leadsBack_47 (by decide) (fun hc12 => ?_) (fun hc12 => ?_)
          · have hf13 : ¬ (y12_2.toInt = x1.toInt) := fun q => hc12 ((fa_eq _ _).mpr (by  omega))
            refine lv_iconst (v := 0) hx hb dX12_leadsBack_54 (by decide) ?_
            exact tw_zret hx hb hr hlocks (by decide) TH hS hex ⟨⟨_, rfl, (show 0 ≤ Int32.toInt 0 from by have : ((0 : Int32).toInt) = 0 := (by decide); omega), (show Int32.toInt 0 ≤ 1 from by have : ((0 : Int32).toInt) = 0 := (by decide); omega)⟩, rfl, rfl, rfl⟩ (Nat.le_of_ble_eq_true rfl) (Nat.le_of_ble_eq_true rfl) dX12_leadsBack_55
          · have hf14 : y12_2.toInt = x1.toInt := by have z := (fa_eq _ _).mp hc12;  omega
            exfalso; omega
        · have hf15 : ¬ (y12_2.toInt = (-1)) := fun q => hc10 ((fa_eq _ _).mpr (by have : (((-1) : Int32).toInt) = (-1) := (by decide); omega))
          refine lv_iload_n hx hb dX12_leadsBack_24 rfl (lv_at hl 1 rfl) ?_
          refine lv_iload_n hx hb dX12_leadsBack_25 rfl (lv_at hl 3 rfl) ?_
          refine lv_icmp_eq (tgt := 45) hx hb dX12_leadsBack_26 (by decide) (fun hc16 => ?_) (fun hc16 => ?_)
          · have hf17 : y12_2.toInt = x1.toInt := by have z := (fa_eq _ _).mp hc16;  omega
            refine lv_iload_n hx hb dX12_leadsBack_45 rfl (lv_at hl 1 rfl) ?_
            refine lv_iload_n hx hb dX12_leadsBack_46 rfl (lv_at hl 3 rfl) ?_
            refine lv_icmp_ne (tgt := 54) hx hb dX12_leadsBack_47 (by decide) (fun hc18 => ?_) (fun hc18 => ?_)
            · have hf19 : ¬ (y12_2.toInt = x1.toInt) := fun q => hc18 ((fa_eq _ _).mpr (by  omega))
              refine lv_iconst (v := 0) hx hb dX12_leadsBack_54 (by decide) ?_
              exact tw_zret hx hb hr hlocks (by decide) TH hS hex ⟨⟨_, rfl, (show 0 ≤ Int32.toInt 0 from by have : ((0 : Int32).toInt) = 0 := (by decide); omega), (show Int32.toInt 0 ≤ 1 from by have : ((0 : Int32).toInt) = 0 := (by decide); omega)⟩, rfl, rfl, rfl⟩ (Nat.le_of_ble_eq_true rfl) (Nat.le_of_ble_eq_true rfl) dX12_leadsBack_55
            · have hf20 : y12_2.toInt = x1.toInt := by have z := (fa_eq _ _).mp hc18;  omega
              refine lv_iconst (v := 1) hx hb dX12_leadsBack_50 (by decide) ?_
              refine lv_goto (tgt := 55) hx hb dX12_leadsBack_51 (by decide) ?_
              exact tw_zret hx hb hr hlocks (by decide) TH hS hex ⟨⟨_, rfl, (show 0 ≤ Int32.toInt 1 from by have : ((1 : Int32).toInt) = 1 := (by decide); omega), (show Int32.toInt 1 ≤ 1 from by have : ((1 : Int32).toInt) = 1 := (by decide); omega)⟩, rfl, rfl, rfl⟩ (Nat.le_of_ble_eq_true rfl) (Nat.le_of_ble_eq_true rfl) dX12_leadsBack_55
          · have hf21 : ¬ (y12_2.toInt = x1.toInt) := fun q => hc16 ((fa_eq _ _).mpr (by  omega))
            refine lv_aload_n hx hb dX12_leadsBack_29 rfl (lv_at hl 2 rfl) ?_
            refine tw_get (ci := 12) (C := RX12) (T := TX12) (N := 64) hx hb hB cx_inX12 hown hK TH hm0 hk0 rfl ⟨by decide, rfl⟩ 18 (by decide) cw_1211 (fun _ h9 => h9) dX12_leadsBack_30 (fun hv => ?_)
            rw [hxr1]
            refine lv_bipush (v := 13) hx hb dX12_leadsBack_33 (by decide) ?_
            refine tw_aald (k := 318) (t0 := 4) (n := 16) (lo := 328) (hi := 0) (ty := .int) hx hb hK TH hmxr1 hkxr1 (by decide) rfl rfl (i := 13) (vp_in_iff.mpr ⟨by have : ((13 : Int32).toInt) = 13 := (by decide); omega, by have : ((13 : Int32).toInt) = 13 := (by decide); omega⟩) dX12_leadsBack_35 (fun xr22 exr22 hmxr22 hkxr22 => ?_)
            have ezxr22 : xr2 = xr22 := exr2.symm.trans exr22
            subst ezxr22
            refine lv_iload_n hx hb dX12_leadsBack_36 rfl (lv_at hl 1 rfl) ?_
            refine tw_iald (k := 328) (t0 := 0) (n := 150) (lo := (-1)) (hi := 149) hx hb hK TH hmxr2 hkxr2 (by decide) rfl rfl (i := y12_2) (vp_in_iff.mpr ⟨by  omega, by  omega⟩) dX12_leadsBack_37 (fun hxe23a hxe23b => ?_)
            obtain ⟨xe23, exe23⟩ : ∃ z : Int32, tw_iv E xr2 (Int32.toNatClampNeg y12_2) = z := ⟨_, rfl⟩
            rw [exe23] at hxe23a hxe23b ⊢
            refine lv_istore_n (lv' := [(2, .int xe23), (3, .int y12_3), (0, .ref a0), (1, .int x1)]) hx hb dX12_leadsBack_38 rfl hl (by decide) rfl (fun ls hl => ?_)
            obtain ⟨zi24, ezi24⟩ : ∃ z : Int32, z = y12_3 + Int32.ofInt 1 := ⟨_, rfl⟩
            have hzi24 : zi24.toInt = y12_3.toInt + 1 := by rw [ezi24]; have : ((Int32.ofInt 1).toInt) = 1 := (by decide);  exact (ia_add (by omega) (by omega)).trans (by omega)
            refine lv_iinc (v := zi24) (lv' := [(3, .int zi24), (2, .int xe23), (0, .ref a0), (1, .int x1)]) hx hb dX12_leadsBack_39 hl (k := 1) rfl ezi24.symm (by decide) rfl (fun ls hl => ?_)
            refine lv_goto (tgt := 12) hx hb dX12_leadsBack_42 (by decide) ?_
            exact ih12 (n12 - 1) (by   omega) zi24 xe23 _ _ ls (by omega) (by omega) (by omega) (by omega) (by   omega) TH hS (lv_sub hl [0, 1, 2, 3] rfl)
  exact hJ12 151 (0 : Int32) xe3 _ _ ls (by have : ((0 : Int32).toInt) = 0 := (by decide); omega) (by have : ((0 : Int32).toInt) = 0 := (by decide); omega) (by omega) (by omega) (by have : ((0 : Int32).toInt) = 0 := (by decide);  omega) TH hS (lv_sub hl [0, 1, 2, 3] rfl)
set_option maxHeartbeats 4000000 in
set_option maxRecDepth 100000 in
theorem tX12_isLeastOfRing (l : Launch) (D : va_G) (cs : Nat → ClassId) {kp : Nat → Nat} {L : List Nat} {E : Nat → va_E} (a0 : Nat) (x1 : Int32) (hm0 : a0 ∈ L) (hk0 : kp a0 = 12) (hp1a : 0 ≤ x1.toInt) (hp1b : x1.toInt ≤ 149) (sz : Nat) : Met l yX12_isLeastOfRing (.code yX12_isLeastOfRing cX12_isLeastOfRing 4 (some .boolean) :: cx_big) { frames := 1, cells := 0, slots := 0, locals := 23 } (tw_P D cs kp L E [.ref a0, .int x1] sz) (tw_Q D cs kp L (fun v kq Lq Eq => (∃ x : Int32, v = some (.int x) ∧ 0 ≤ x.toInt ∧ x.toInt ≤ 1 ∧ (x.toInt = 0 → ¬ lr_ring (rw_p E a0 13) x1.toInt)) ∧ kp = kq ∧ L = Lq ∧ E = Eq) (va_A (va_pl L E) sz)) 0 0 (va_A (va_pl L E) sz) := by
  refine tw_ofW (by decide) (Nat.le_of_ble_eq_true rfl) ?_
  intro p e s m below meth c A ls hx hb hr hml hB hown hlocks hK hN hA TH hS hl
  have hown : s.vm.findClass "TreeMergeModel" = some m.cls := hown
  have hl : lv_has ls 4 [(0, .ref a0), (1, .int x1)] := hl
  obtain ⟨kp0, ekp⟩ : ∃ z, z = kp := ⟨_, rfl⟩
  obtain ⟨L0, eL⟩ : ∃ z, z = L := ⟨_, rfl⟩
  rw [show tw_Q D cs kp L = tw_Q D cs kp0 L0 by rw [ekp, eL]]
  have hex : ∀ a : Nat, a ∈ L0 → a ∈ L ∧ kp a = kp0 a := fun a h => ⟨by rw [← eL]; exact h, by rw [ekp]⟩
  refine lv_aload_n hx hb dX12_isLeastOfRing_0 rfl (lv_at hl 0 rfl) ?_
  refine tw_get (ci := 12) (C := RX12) (T := TX12) (N := 64) hx hb hB cx_inX12 hown hK TH hm0 hk0 rfl ⟨by decide, rfl⟩ 18 (by decide) cw_1211 (fun _ h9 => h9) dX12_isLeastOfRing_1 (fun hv => ?_)
  obtain ⟨xr1, hxr1, hmxr1, hkxr1⟩ : ∃ a : Nat, tw_fv E a0 18 = .ref a ∧ a ∈ L ∧ kp a = 318 := hv
  rw [hxr1]
  refine lv_bipush (v := 13) hx hb dX12_isLeastOfRing_4 (by decide) ?_
  refine tw_aald (k := 318) (t0 := 4) (n := 16) (lo := 328) (hi := 0) (ty := .int) hx hb hK TH hmxr1 hkxr1 (by decide) rfl rfl (i := 13) (vp_in_iff.mpr ⟨by have : ((13 : Int32).toInt) = 13 := (by decide); omega, by have : ((13 : Int32).toInt) = 13 := (by decide); omega⟩) dX12_isLeastOfRing_6 (fun xr2 exr2 hmxr2 hkxr2 => ?_)
  have hkxr2 : kp xr2 = 328 := hkxr2
  refine lv_iload_n hx hb dX12_isLeastOfRing_7 rfl (lv_at hl 1 rfl) ?_
  refine tw_iald (k := 328) (t0 := 0) (n := 150) (lo := (-1)) (hi := 149) hx hb hK TH hmxr2 hkxr2 (by decide) rfl rfl (i := x1) (vp_in_iff.mpr ⟨by  omega, by  omega⟩) dX12_isLeastOfRing_8 (fun hxe3a hxe3b => ?_)
  obtain ⟨xe3, exe3⟩ : ∃ z : Int32, tw_iv E xr2 (Int32.toNatClampNeg x1) = z := ⟨_, rfl⟩
  rw [exe3] at hxe3a hxe3b ⊢
  refine lv_istore_n (lv' := [(2, .int xe3), (0, .ref a0), (1, .int x1)]) hx hb dX12_isLeastOfRing_9 rfl hl (by decide) rfl (fun ls hl => ?_)
  refine lv_iconst (v := 0) hx hb dX12_isLeastOfRing_10 (by decide) ?_
  refine lv_istore_n (lv' := [(3, .int 0), (2, .int xe3), (0, .ref a0), (1, .int x1)]) hx hb dX12_isLeastOfRing_11 rfl hl (by decide) rfl (fun ls hl => ?_)
  have hJ12 : ∀ (n12 : Nat) (y12_3 : Int32) (y12_2 : Int32) (H : Heap) (locs : List Loc) (ls : Array Slot), 0 ≤ y12_3.toInt → y12_3.toInt ≤ 150 → (-1) ≤ y12_2.toInt → y12_2.toInt ≤ 149 → (lr_inv (rw_p E a0 13) (x1.toInt) (y12_2.toInt) (y12_3.toInt)) → 150 - y12_3.toInt ≤ (n12 : Int) → tw_H D cs kp L E A H → va_S A s.heap H locs → lv_has ls 4 [(3, .int y12_3), (2, .int y12_2), (0, .ref a0), (1, .int x1)] → W p l e { frames := 1, cells := 0, slots := 0, locals := 23 } s m [.ref a0, .int x1].toArray below meth c H locs 0 0 (MQ below (tw_Q D cs kp0 L0 (fun v kq Lq Eq => (∃ x : Int32, v = some (.int x) ∧ 0 ≤ x.toInt ∧ x.toInt ≤ 1 ∧ (x.toInt = 0 → ¬ lr_ring (rw_p E a0 13) x1.toInt)) ∧ kp = kq ∧ L = Lq ∧ E = Eq) A) [.ref a0, .int x1].toArray s 0 0 A) (F0 m 12 ls []) := by
    intro n12
    induction n12 using Nat.strongRecOn with
    | _ n12 ih12 =>
      intro y12_3 y12_2 H locs ls hy12_3a hy12_3b hy12_2a hy12_2b hin12_0 hmeas12 TH hS hl
      refine lv_iload_n hx hb dX12_isLeastOfRing_12 rfl (lv_at hl 1 rfl) ?_
      refine lv_iconst (v := (-1)) hx hb dX12_isLeastOfRing_13 (by decide) ?_
      refine lv_icmp_eq (tgt := 60) hx hb dX12_isLeastOfRing_14 (by decide) (fun hc4 => ?_) (fun hc4 => ?_)
      · have hf5 : y12_2.toInt = (-1) := by have z := (fa_eq _ _).mp hc4; have : (((-1) : Int32).toInt) = (-1) := (by decide); omega
        refine lv_iload_n hx hb dX12_isLeastOfRing_60 rfl (lv_at hl 1 rfl) ?_
        refine lv_iload_n hx hb dX12_isLeastOfRing_61 rfl (lv_at hl 3 rfl) ?_
        refine lv_icmp_ne (tgt := 69) hx hb dX12_isLeastOfRing_62 (by decide) (fun hc6 => ?_) (fun hc6 => ?_)
        · have hf7 : ¬ (y12_2.toInt = x1.toInt) := fun q => hc6 ((fa_eq _ _).mpr (by  omega))
          refine lv_iconst (v := 0) hx hb dX12_isLeastOfRing_69 (by decide) ?_
          exact tw_zret hx hb hr hlocks (by decide) TH hS hex ⟨⟨_, rfl, (show 0 ≤ Int32.toInt 0 from by have : ((0 : Int32).toInt) = 0 := (by decide); omega), (show Int32.toInt 0 ≤ 1 from by have : ((0 : Int32).toInt) = 0 := (by decide); omega), (by have : ((0 : Int32).toInt) = 0 := (by decide); intro _; exact lr_done hin12_0 (by omega) (by omega) (by omega))⟩, rfl, rfl, rfl⟩ (Nat.le_of_ble_eq_true rfl) (Nat.le_of_ble_eq_true rfl) dX12_isLeastOfRing_70
        · have hf8 : y12_2.toInt = x1.toInt := by have z := (fa_eq _ _).mp hc6;  omega
          exfalso; omega
      · have hf9 : ¬ (y12_2.toInt = (-1)) := fun q => hc4 ((fa_eq _ _).mpr (by have : (((-1) : Int32).toInt) = (-1) := (by decide); omega))
        refine lv_iload_n hx hb dX12_isLeastOfRing_17 rfl (lv_at hl 1 rfl) ?_
        refine lv_iload_n hx hb dX12_isLeastOfRing_18 rfl (lv_at hl 3 rfl) ?_
        refine lv_icmp_eq (tgt := 60) hx hb dX12_isLeastOfRing_19 (by decide) (fun hc10 => ?_) (fun hc10 => ?_)
        · have hf11 : y12_2.toInt = x1.toInt := by have z := (fa_eq _ _).mp hc10;  omega
          refine lv_iload_n hx hb dX12_isLeastOfRing_60 rfl (lv_at hl 1 rfl) ?_
          refine lv_iload_n hx hb dX12_isLeastOfRing_61 rfl (lv_at hl 3 rfl) ?_
          refine lv_icmp_ne (tgt := 69) hx hb dX12_isLeastOfRing_62 (by decide) (fun hc12 => ?_) (fun hc12 => ?_)
          · have hf13 : ¬ (y12_2.toInt = x1.toInt) := fun q => hc12 ((fa_eq _ _).mpr (by  omega))
            refine lv_iconst (v := 0) hx hb dX12_isLeastOfRing_69 (by decide) ?_
            exact tw_zret hx hb hr hlocks (by decide) TH hS hex ⟨⟨_, rfl, (show 0 ≤ Int32.toInt 0 from by have : ((0 : Int32).toInt) = 0 := (by decide); omega), (show Int32.toInt 0 ≤ 1 from by have : ((0 : Int32).toInt) = 0 := (by decide); omega), (by have : ((0 : Int32).toInt) = 0 := (by decide); intro _; exact lr_done hin12_0 (by omega) (by omega) (by omega))⟩, rfl, rfl, rfl⟩ (Nat.le_of_ble_eq_true rfl) (Nat.le_of_ble_eq_true rfl) dX12_isLeastOfRing_70
          · have hf14 : y12_2.toInt = x1.toInt := by have z := (fa_eq _ _).mp hc12;  omega
            refine lv_iconst (v := 1) hx hb dX12_isLeastOfRing_65 (by decide) ?_
            refine lv_goto (tgt := 70) hx hb dX12_isLeastOfRing_66 (by decide) ?_
            exact tw_zret hx hb hr hlocks (by decide) TH hS hex ⟨⟨_, rfl, (show 0 ≤ Int32.toInt 1 from by have : ((1 : Int32).toInt) = 1 := (by decide); omega), (show Int32.toInt 1 ≤ 1 from by have : ((1 : Int32).toInt) = 1 := (by decide); omega), (by have : ((1 : Int32).toInt) = 1 := (by decide); intro q; exact absurd q (by decide))⟩, rfl, rfl, rfl⟩ (Nat.le_of_ble_eq_true rfl) (Nat.le_of_ble_eq_true rfl) dX12_isLeastOfRing_70
        · have hf15 : ¬ (y12_2.toInt = x1.toInt) := fun q => hc10 ((fa_eq _ _).mpr (by  omega))
          refine lv_iload_n hx hb dX12_isLeastOfRing_22 rfl (lv_at hl 0 rfl) ?_
          refine lv_sipush (v := 150) hx hb dX12_isLeastOfRing_23 (by decide) ?_
          refine lv_icmp_ge (tgt := 60) hx hb dX12_isLeastOfRing_26 (by decide) (fun hc16 => ?_) (fun hc16 => ?_)
          · have hf17 : 150 ≤ y12_3.toInt := by have z := (fa_le _ _).mp hc16; have : ((150 : Int32).toInt) = 150 := (by decide); omega
            refine lv_iload_n hx hb dX12_isLeastOfRing_60 rfl (lv_at hl 1 rfl) ?_
            refine lv_iload_n hx hb dX12_isLeastOfRing_61 rfl (lv_at hl 3 rfl) ?_
            refine lv_icmp_ne (tgt := 69) hx hb dX12_isLeastOfRing_62 (by decide) (fun hc18 => ?_) (fun hc18 => ?_)
            · have hf19 : ¬ (y12_2.toInt = x1.toInt) := fun q => hc18 ((fa_eq _ _).mpr (by  omega))
              refine lv_iconst (v := 0) hx hb dX12_isLeastOfRing_69 (by decide) ?_
              exact tw_zret hx hb hr hlocks (by decide) TH hS hex ⟨⟨_, rfl, (show 0 ≤ Int32.toInt 0 from by have : ((0 : Int32).toInt) = 0 := (by decide); omega), (show Int32.toInt 0 ≤ 1 from by have : ((0 : Int32).toInt) = 0 := (by decide); omega), (by have : ((0 : Int32).toInt) = 0 := (by decide); intro _; exact lr_done hin12_0 (by omega) (by omega) (by omega))⟩, rfl, rfl, rfl⟩ (Nat.le_of_ble_eq_true rfl) (Nat.le_of_ble_eq_true rfl) dX12_isLeastOfRing_70
            · have hf20 : y12_2.toInt = x1.toInt := by have z := (fa_eq _ _).mp hc18;  omega
              refine lv_iconst (v := 1) hx hb dX12_isLeastOfRing_65 (by decide) ?_
              refine lv_goto (tgt := 70) hx hb dX12_isLeastOfRing_66 (by decide) ?_
              exact tw_zret hx hb hr hlocks (by decide) TH hS hex ⟨⟨_, rfl, (show 0 ≤ Int32.toInt 1 from by have : ((1 : Int32).toInt) = 1 := (by decide); omega), (show Int32.toInt 1 ≤ 1 from by have : ((1 : Int32).toInt) = 1 := (by decide); omega), (by have : ((1 : Int32).toInt) = 1 := (by decide); intro q; exact absurd q (by decide))⟩, rfl, rfl, rfl⟩ (Nat.le_of_ble_eq_true rfl) (Nat.le_of_ble_eq_true rfl) dX12_isLeastOfRing_70
          · have hf21 : ¬ (150 ≤ y12_3.toInt) := fun q => hc16 ((fa_le _ _).mpr (by have : ((150 : Int32).toInt) = 150 := (by decide); omega))
            refine lv_iload_n hx hb dX12_isLeastOfRing_29 rfl (lv_at hl 1 rfl) ?_
            refine lv_iload_n hx hb dX12_isLeastOfRing_30 rfl (lv_at hl 3 rfl) ?_
            have hJ44 : ∀  (H : Heap) (locs : List Loc) (ls : Array Slot), tw_H D cs kp L E A H → va_S A s.heap H locs → lv_has ls 4 [(3, .int y12_3), (2, .int y12_2), (0, .ref a0), (1, .int x1)] → W p l e { frames := 1, cells := 0, slots := 0, locals := 23 } s m [.ref a0, .int x1].toArray below meth c H locs 0 0 (MQ below (tw_Q D cs kp0 L0 (fun v kq Lq Eq => (∃ x : Int32, v = some (.int x) ∧ 0 ≤ x.toInt ∧ x.toInt ≤ 1 ∧ (x.toInt = 0 → ¬ lr_ring (rw_p E a0 13) x1.toInt)) ∧ kp = kq ∧ L = Lq ∧ E = Eq) A) [.ref a0, .int x1].toArray s 0 0 A) (F0 m 44 ls []) := by
              intro H locs ls TH hS hl
              refine lv_aload_n hx hb dX12_isLeastOfRing_44 rfl (lv_at hl 2 rfl) ?_
              refine tw_get (ci := 12) (C := RX12) (T := TX12) (N := 64) hx hb hB cx_inX12 hown hK TH hm0 hk0 rfl ⟨by decide, rfl⟩ 18 (by decide) cw_1211 (fun _ h9 => h9) dX12_isLeastOfRing_45 (fun hv => ?_)
              rw [hxr1]
              refine lv_bipush (v := 13) hx hb dX12_isLeastOfRing_48 (by decide) ?_
              refine tw_aald (k := 318) (t0 := 4) (n := 16) (lo := 328) (hi := 0) (ty := .int) hx hb hK TH hmxr1 hkxr1 (by decide) rfl rfl (i := 13) (vp_in_iff.mpr ⟨by have : ((13 : Int32).toInt) = 13 := (by decide); omega, by have : ((13 : Int32).toInt) = 13 := (by decide); omega⟩) dX12_isLeastOfRing_50 (fun xr22 exr22 hmxr22 hkxr22 => ?_)
              have ezxr22 : xr2 = xr22 := exr2.symm.trans exr22
              subst ezxr22
              refine lv_iload_n hx hb dX12_isLeastOfRing_51 rfl (lv_at hl 1 rfl) ?_
              refine tw_iald (k := 328) (t0 := 0) (n := 150) (lo := (-1)) (hi := 149) hx hb hK TH hmxr2 hkxr2 (by decide) rfl rfl (i := y12_2) (vp_in_iff.mpr ⟨by  omega, by  omega⟩) dX12_isLeastOfRing_52 (fun hxe23a hxe23b => ?_)
              obtain ⟨xe23, exe23⟩ : ∃ z : Int32, tw_iv E xr2 (Int32.toNatClampNeg y12_2) = z := ⟨_, rfl⟩
              rw [exe23] at hxe23a hxe23b ⊢
              refine lv_istore_n (lv' := [(2, .int xe23), (3, .int y12_3), (0, .ref a0), (1, .int x1)]) hx hb dX12_isLeastOfRing_53 rfl hl (by decide) rfl (fun ls hl => ?_)
              obtain ⟨zi24, ezi24⟩ : ∃ z : Int32, z = y12_3 + Int32.ofInt 1 := ⟨_, rfl⟩
              have hzi24 : zi24.toInt = y12_3.toInt + 1 := by rw [ezi24]; have : ((Int32.ofInt 1).toInt) = 1 := (by decide);  exact (ia_add (by omega) (by omega)).trans (by omega)
              refine lv_iinc (v := zi24) (lv' := [(3, .int zi24), (2, .int xe23), (0, .ref a0), (1, .int x1)]) hx hb dX12_isLeastOfRing_54 hl (k := 1) rfl ezi24.symm (by decide) rfl (fun ls hl => ?_)
              refine lv_goto (tgt := 12) hx hb dX12_isLeastOfRing_57 (by decide) ?_
              exact ih12 (n12 - 1) (by   omega) zi24 xe23 _ _ ls (by omega) (by omega) (by omega) (by omega) (by  have rf_xe3 : rw_p E a0 (13) (x1.toInt).toNat = xe3.toInt := (by have q := rw_p_of (m := a0) (i := (13 : Int32)) (c := x1) hxr1 exr2 exe3; rw [show ((13 : Int32).toInt) = 13 from (by decide)] at q; exact q); have rf_xe23 : rw_p E a0 (13) (y12_2.toInt).toNat = xe23.toInt := (by have q := rw_p_of (m := a0) (i := (13 : Int32)) (c := y12_2) hxr1 exr2 exe23; rw [show ((13 : Int32).toInt) = 13 from (by decide)] at q; exact q); exact lr_step hin12_0 (by omega) (by omega) (by omega) (by omega) rf_xe23) (by   omega) TH hS (lv_sub hl [0, 1, 2, 3] rfl)
            refine lv_icmp_ge (tgt := 44) hx hb dX12_isLeastOfRing_31 (by decide) (fun hc25 => ?_) (fun hc25 => ?_)
            · have hf26 : x1.toInt ≤ y12_2.toInt := by have z := (fa_le _ _).mp hc25;  omega
              exact hJ44  _ _ ls  TH hS (lv_sub hl [0, 1, 2, 3] rfl)
            · have hf27 : ¬ (x1.toInt ≤ y12_2.toInt) := fun q => hc25 ((fa_le _ _).mpr (by  omega))
              refine lv_aload_n hx hb dX12_isLeastOfRing_34 rfl (lv_at hl 2 rfl) ?_
              refine lv_iload_n hx hb dX12_isLeastOfRing_35 rfl (lv_at hl 1 rfl) ?_
              refine tw_Vc (o := a0) (ci := 12) (n := 1) (post := (fun v kq Lq Eq => (∃ x : Int32, v = some (.int x) ∧ 0 ≤ x.toInt ∧ x.toInt ≤ 1) ∧ kp = kq ∧ L = Lq ∧ E = Eq)) (As := [.int y12_2]) (rest := []) ⟨hx, hb, hml, hown, hB⟩ (fun sz => tX12_leadsBack l D cs a0 y12_2 hm0 hk0 (by omega) (by omega) sz) cg_12_477_X12_leadsBack rfl rfl (by decide +kernel) ⟨Nat.le_of_ble_eq_true rfl, Nat.le_of_ble_eq_true rfl⟩ hK hN TH hS hA rfl hm0 hk0 (by decide) rfl hl.1 rfl (Nat.le_of_ble_eq_true rfl) dX12_isLeastOfRing_36 ⟨Nat.le_of_ble_eq_true rfl, Nat.le_of_ble_eq_true rfl⟩ (fun v28 kp28 L28 E28 H locs hq28 hx28 TH hS => ?_)
              obtain ⟨⟨xc29, rfl, hxc29a, hxc29b⟩, rfl, rfl, rfl⟩ := hq28
              refine W.eq (g2 := F0 m 39 ls [.int xc29]) rfl ?_
              refine lv_if_eq (tgt := 44) hx hb dX12_isLeastOfRing_39 (by decide) (fun hc30 => ?_) (fun hc30 => ?_)
              · have hf31 : xc29.toInt = 0 := by have z := (fa_eq _ _).mp hc30; have : ((0 : Int32).toInt) = 0 := (by decide); omega
                exact hJ44  _ _ ls  TH hS (lv_sub hl [0, 1, 2, 3] rfl)
              · have hf32 : ¬ (xc29.toInt = 0) := fun q => hc30 ((fa_eq _ _).mpr (by have : ((0 : Int32).toInt) = 0 := (by decide); omega))
                refine lv_iconst (v := 0) hx hb dX12_isLeastOfRing_42 (by decide) ?_
                exact tw_zret hx hb hr hlocks (by decide) TH hS hex ⟨⟨_, rfl, (show 0 ≤ Int32.toInt 0 from by have : ((0 : Int32).toInt) = 0 := (by decide); omega), (show Int32.toInt 0 ≤ 1 from by have : ((0 : Int32).toInt) = 0 := (by decide); omega), (by have : ((0 : Int32).toInt) = 0 := (by decide); intro _; exact lr_done hin12_0 (by omega) (by omega) (by omega))⟩, rfl, rfl, rfl⟩ (Nat.le_of_ble_eq_true rfl) (Nat.le_of_ble_eq_true rfl) dX12_isLeastOfRing_43
  exact hJ12 151 (0 : Int32) xe3 _ _ ls (by have : ((0 : Int32).toInt) = 0 := (by decide); omega) (by have : ((0 : Int32).toInt) = 0 := (by decide); omega) (by omega) (by omega) (by have : ((0 : Int32).toInt) = 0 := (by decide); have rf_xe3 : rw_p E a0 (13) (x1.toInt).toNat = xe3.toInt := (by have q := rw_p_of (m := a0) (i := (13 : Int32)) (c := x1) hxr1 exr2 exe3; rw [show ((13 : Int32).toInt) = 13 from (by decide)] at q; exact q); exact lr_init (by omega) (by decide) rf_xe3) (by have : ((0 : Int32).toInt) = 0 := (by decide);  omega) TH hS (lv_sub hl [0, 1, 2, 3] rfl)
set_option maxHeartbeats 4000000 in
set_option maxRecDepth 100000 in
theorem tX12_outermost (l : Launch) (D : va_G) (cs : Nat → ClassId) {kp : Nat → Nat} {L : List Nat} {E : Nat → va_E} (a0 : Nat) (hm0 : a0 ∈ L) (hk0 : kp a0 = 12) (sz : Nat) : Met l yX12_outermost (.code yX12_outermost cX12_outermost 1 (some .int) :: cx_big) { frames := 1, cells := 0, slots := 0, locals := 22 } (tw_P D cs kp L E [.ref a0] sz) (tw_Q D cs kp L (fun v kq Lq Eq => (∃ x : Int32, v = some (.int x) ∧ 0 ≤ x.toInt ∧ x.toInt ≤ 149) ∧ kp = kq ∧ L = Lq ∧ E = Eq) (va_A (va_pl L E) sz)) 0 0 (va_A (va_pl L E) sz) := by
  refine tw_ofW (by decide) (Nat.le_of_ble_eq_true rfl) ?_
  intro p e s m below meth c A ls hx hb hr hml hB hown hlocks hK hN hA TH hS hl
  have hown : s.vm.findClass "TreeMergeModel" = some m.cls := hown
  have hl : lv_has ls 1 [(0, .ref a0)] := hl
  obtain ⟨kp0, ekp⟩ : ∃ z, z = kp := ⟨_, rfl⟩
  obtain ⟨L0, eL⟩ : ∃ z, z = L := ⟨_, rfl⟩
  rw [show tw_Q D cs kp L = tw_Q D cs kp0 L0 by rw [ekp, eL]]
  have hex : ∀ a : Nat, a ∈ L0 → a ∈ L ∧ kp a = kp0 a := fun a h => ⟨by rw [← eL]; exact h, by rw [ekp]⟩
  refine lv_iconst (v := 0) hx hb dX12_outermost_0 (by decide) ?_
  refine lv_aload_n hx hb dX12_outermost_1 rfl (lv_at hl 0 rfl) ?_
  refine lv_bipush (v := 13) hx hb dX12_outermost_2 (by decide) ?_
  refine tw_Vc (o := a0) (ci := 12) (n := 1) (post := (fun v kq Lq Eq => (∃ x : Int32, v = some (.int x) ∧ (-1) ≤ x.toInt ∧ x.toInt ≤ 149 ∧ ((x.toInt = -1 ∧ rt_nr (rw_h E a0 (13 : Int32).toInt) (rw_p E a0 (13 : Int32).toInt) 150) ∨ (0 ≤ x.toInt ∧ x.toInt < 150 ∧ rw_h E a0 (13 : Int32).toInt (x.toInt).toNat ≠ 0 ∧ rw_p E a0 (13 : Int32).toInt (x.toInt).toNat = -1))) ∧ kp = kq ∧ L = Lq ∧ E = Eq)) (As := [.int 13]) (rest := [.int 0]) ⟨hx, hb, hml, hown, hB⟩ (fun sz => tX12_root l D cs a0 (13 : Int32) hm0 hk0 (by have : ((13 : Int32).toInt) = 13 := (by decide); omega) (by have : ((13 : Int32).toInt) = 13 := (by decide); omega) sz) cg_12_324_X12_root rfl rfl (by decide +kernel) ⟨Nat.le_of_ble_eq_true rfl, Nat.le_of_ble_eq_true rfl⟩ hK hN TH hS hA rfl hm0 hk0 (by decide) rfl hl.1 rfl (Nat.le_of_ble_eq_true rfl) dX12_outermost_4 ⟨Nat.le_of_ble_eq_true rfl, Nat.le_of_ble_eq_true rfl⟩ (fun v1 kp1 L1 E1 H locs hq1 hx1 TH hS => ?_)
  obtain ⟨⟨xc2, rfl, hxc2a, hxc2b, hpoxc2_0⟩, rfl, rfl, rfl⟩ := hq1
  refine W.eq (g2 := F0 m 7 ls [.int xc2, .int 0]) rfl ?_
  refine va_mmax hx hb (hml.trans hl.1.symm) hown (hB _ cw_1720) (hB _ cw_1129) (hB _ cw_19) (hB _ cw_1130) (Nat.le_of_ble_eq_true rfl) (Nat.le_of_ble_eq_true rfl) (Nat.le_of_ble_eq_true rfl) (Nat.le_of_ble_eq_true rfl) dX12_outermost_7 ?_
  refine lv_topi (fun zi3 ezi3 => ?_)
  have hzi3 : 0 ≤ zi3.toInt ∧ xc2.toInt ≤ zi3.toInt ∧ (zi3.toInt = 0 ∨ zi3.toInt = xc2.toInt) := by rw [ezi3]; have : ((0 : Int32).toInt) = 0 := (by decide); have q := ia_max (0 : Int32) xc2; omega
  exact tw_iret hx hb hr hlocks TH hS hex ⟨⟨_, rfl, (show 0 ≤ Int32.toInt zi3 from by  omega), (show Int32.toInt zi3 ≤ 149 from by  omega)⟩, rfl, rfl, rfl⟩ (Nat.le_of_ble_eq_true rfl) (Nat.le_of_ble_eq_true rfl) dX12_outermost_10
set_option maxHeartbeats 4000000 in
set_option maxRecDepth 100000 in
theorem tX12_hasOneParent (l : Launch) (D : va_G) (cs : Nat → ClassId) {kp : Nat → Nat} {L : List Nat} {E : Nat → va_E} (a0 : Nat) (x1 : Int32) (fv0_27 : Int32) (hm0 : a0 ∈ L) (hk0 : kp a0 = 12) (hfv0_27 : tw_fv E a0 27 = .int fv0_27) (sz : Nat) : Met l yX12_hasOneParent (.code yX12_hasOneParent cX12_hasOneParent 2 (some .boolean) :: cx_big) { frames := 2, cells := 0, slots := 0, locals := 46 } (tw_P D cs kp L E [.ref a0, .int x1] sz) (tw_Q D cs kp L (fun v kq Lq Eq => (∃ x : Int32, v = some (.int x) ∧ 0 ≤ x.toInt ∧ x.toInt ≤ 1 ∧ (x.toInt ≠ 0 → 0 ≤ x1.toInt ∧ x1.toInt < fv0_27.toInt) ∧ (x.toInt ≠ 0 → tw_el E a0 24 (x1.toInt).toNat ≠ -1)) ∧ kp = kq ∧ L = Lq ∧ E = Eq) (va_A (va_pl L E) sz)) 0 0 (va_A (va_pl L E) sz) := by
  refine tw_ofW (by decide) (Nat.le_of_ble_eq_true rfl) ?_
  intro p e s m below meth c A ls hx hb hr hml hB hown hlocks hK hN hA TH hS hl
  have hown : s.vm.findClass "TreeMergeModel" = some m.cls := hown
  have hl : lv_has ls 2 [(0, .ref a0), (1, .int x1)] := hl
  obtain ⟨kp0, ekp⟩ : ∃ z, z = kp := ⟨_, rfl⟩
  obtain ⟨L0, eL⟩ : ∃ z, z = L := ⟨_, rfl⟩
  rw [show tw_Q D cs kp L = tw_Q D cs kp0 L0 by rw [ekp, eL]]
  have hex : ∀ a : Nat, a ∈ L0 → a ∈ L ∧ kp a = kp0 a := fun a h => ⟨by rw [← eL]; exact h, by rw [ekp]⟩
  obtain ⟨qfv0_27, hqfv0_27, hqfv0_27a, hqfv0_27b⟩ := tw_rd TH hm0 hk0 (by decide) (by decide) (k := 27) rfl
  have eqfv0_27 : qfv0_27 = fv0_27 := by have q := hqfv0_27.symm.trans hfv0_27; injection q
  rw [eqfv0_27] at hqfv0_27a hqfv0_27b
  refine lv_aload_n hx hb dX12_hasOneParent_0 rfl (lv_at hl 0 rfl) ?_
  refine lv_iload_n hx hb dX12_hasOneParent_1 rfl (lv_at hl 1 rfl) ?_
  refine tw_Vc (o := a0) (ci := 12) (n := 1) (post := (fun v kq Lq Eq => (∃ x : Int32, v = some (.int x) ∧ 0 ≤ x.toInt ∧ x.toInt ≤ 1 ∧ (x.toInt ≠ 0 → 0 ≤ x1.toInt ∧ x1.toInt < fv0_27.toInt)) ∧ kp = kq ∧ L = Lq ∧ E = Eq)) (As := [.int x1]) (rest := []) ⟨hx, hb, hml, hown, hB⟩ (fun sz => tX12_isEdition l D cs a0 x1 fv0_27 hm0 hk0 hfv0_27 sz) cg_12_396_X12_isEdition rfl rfl (by decide +kernel) ⟨Nat.le_of_ble_eq_true rfl, Nat.le_of_ble_eq_true rfl⟩ hK hN TH hS hA rfl hm0 hk0 (by decide) rfl hl.1 rfl (Nat.le_of_ble_eq_true rfl) dX12_hasOneParent_2 ⟨Nat.le_of_ble_eq_true rfl, Nat.le_of_ble_eq_true rfl⟩ (fun v1 kp1 L1 E1 H locs hq1 hx1 TH hS => ?_)
  obtain ⟨⟨xc2, rfl, hxc2a, hxc2b, hpoxc2_0⟩, rfl, rfl, rfl⟩ := hq1
  refine W.eq (g2 := F0 m 5 ls [.int xc2]) rfl ?_
  refine lv_if_eq (tgt := 32) hx hb dX12_hasOneParent_5 (by decide) (fun hc3 => ?_) (fun hc3 => ?_)
  · have hf4 : xc2.toInt = 0 := by have z := (fa_eq _ _).mp hc3; have : ((0 : Int32).toInt) = 0 := (by decide); omega
    refine lv_iconst (v := 0) hx hb dX12_hasOneParent_32 (by decide) ?_
    exact tw_zret hx hb hr hlocks (by decide) TH hS hex ⟨⟨_, rfl, (show 0 ≤ Int32.toInt 0 from by have : ((0 : Int32).toInt) = 0 := (by decide); omega), (show Int32.toInt 0 ≤ 1 from by have : ((0 : Int32).toInt) = 0 := (by decide); omega), (by have : ((0 : Int32).toInt) = 0 := (by decide); omega), (by have : ((0 : Int32).toInt) = 0 := (by decide); intro q; exfalso; exact q (by decide))⟩, rfl, rfl, rfl⟩ (Nat.le_of_ble_eq_true rfl) (Nat.le_of_ble_eq_true rfl) dX12_hasOneParent_33
  · have hf5 : ¬ (xc2.toInt = 0) := fun q => hc3 ((fa_eq _ _).mpr (by have : ((0 : Int32).toInt) = 0 := (by decide); omega))
    refine lv_aload_n hx hb dX12_hasOneParent_8 rfl (lv_at hl 0 rfl) ?_
    refine tw_get (ci := 12) (C := RX12) (T := TX12) (N := 64) hx hb hB cx_inX12 hown hK TH hm0 hk0 rfl ⟨by decide, rfl⟩ 24 (by decide) cw_1217 (fun _ h9 => h9) dX12_hasOneParent_9 (fun hv => ?_)
    obtain ⟨xr6, hxr6, hmxr6, hkxr6⟩ : ∃ a : Nat, tw_fv E a0 24 = .ref a ∧ a ∈ L ∧ kp a = 334 := hv
    rw [hxr6]
    refine lv_iload_n hx hb dX12_hasOneParent_12 rfl (lv_at hl 1 rfl) ?_
    refine tw_iald (k := 334) (t0 := 0) (n := 12) (lo := (-1)) (hi := 11) hx hb hK TH hmxr6 hkxr6 (by decide) rfl rfl (i := x1) (vp_in_iff.mpr ⟨by  omega, by  omega⟩) dX12_hasOneParent_13 (fun hxe7a hxe7b => ?_)
    obtain ⟨xe7, exe7⟩ : ∃ z : Int32, tw_iv E xr6 (Int32.toNatClampNeg x1) = z := ⟨_, rfl⟩
    rw [exe7] at hxe7a hxe7b ⊢
    refine lv_iconst (v := (-1)) hx hb dX12_hasOneParent_14 (by decide) ?_
    refine lv_icmp_eq (tgt := 32) hx hb dX12_hasOneParent_15 (by decide) (fun hc8 => ?_) (fun hc8 => ?_)
    · have hf9 : xe7.toInt = (-1) := by have z := (fa_eq _ _).mp hc8; have : (((-1) : Int32).toInt) = (-1) := (by decide); omega
      refine lv_iconst (v := 0) hx hb dX12_hasOneParent_32 (by decide) ?_
      exact tw_zret hx hb hr hlocks (by decide) TH hS hex ⟨⟨_, rfl, (show 0 ≤ Int32.toInt 0 from by have : ((0 : Int32).toInt) = 0 := (by decide); omega), (show Int32.toInt 0 ≤ 1 from by have : ((0 : Int32).toInt) = 0 := (by decide); omega), (by have : ((0 : Int32).toInt) = 0 := (by decide); omega), (by have : ((0 : Int32).toInt) = 0 := (by decide); intro q; exfalso; exact q (by decide))⟩, rfl, rfl, rfl⟩ (Nat.le_of_ble_eq_true rfl) (Nat.le_of_ble_eq_true rfl) dX12_hasOneParent_33
    · have hf10 : ¬ (xe7.toInt = (-1)) := fun q => hc8 ((fa_eq _ _).mpr (by have : (((-1) : Int32).toInt) = (-1) := (by decide); omega))
      refine lv_aload_n hx hb dX12_hasOneParent_18 rfl (lv_at hl 0 rfl) ?_
      refine tw_get (ci := 12) (C := RX12) (T := TX12) (N := 64) hx hb hB cx_inX12 hown hK TH hm0 hk0 rfl ⟨by decide, rfl⟩ 25 (by decide) cw_1218 (fun _ h9 => h9) dX12_hasOneParent_19 (fun hv => ?_)
      obtain ⟨xr11, hxr11, hmxr11, hkxr11⟩ : ∃ a : Nat, tw_fv E a0 25 = .ref a ∧ a ∈ L ∧ kp a = 335 := hv
      rw [hxr11]
      refine lv_iload_n hx hb dX12_hasOneParent_22 rfl (lv_at hl 1 rfl) ?_
      refine tw_iald (k := 335) (t0 := 0) (n := 12) (lo := (-1)) (hi := 11) hx hb hK TH hmxr11 hkxr11 (by decide) rfl rfl (i := x1) (vp_in_iff.mpr ⟨by  omega, by  omega⟩) dX12_hasOneParent_23 (fun hxe12a hxe12b => ?_)
      obtain ⟨xe12, exe12⟩ : ∃ z : Int32, tw_iv E xr11 (Int32.toNatClampNeg x1) = z := ⟨_, rfl⟩
      rw [exe12] at hxe12a hxe12b ⊢
      refine lv_iconst (v := (-1)) hx hb dX12_hasOneParent_24 (by decide) ?_
      refine lv_icmp_ne (tgt := 32) hx hb dX12_hasOneParent_25 (by decide) (fun hc13 => ?_) (fun hc13 => ?_)
      · have hf14 : ¬ (xe12.toInt = (-1)) := fun q => hc13 ((fa_eq _ _).mpr (by have : (((-1) : Int32).toInt) = (-1) := (by decide); omega))
        refine lv_iconst (v := 0) hx hb dX12_hasOneParent_32 (by decide) ?_
        exact tw_zret hx hb hr hlocks (by decide) TH hS hex ⟨⟨_, rfl, (show 0 ≤ Int32.toInt 0 from by have : ((0 : Int32).toInt) = 0 := (by decide); omega), (show Int32.toInt 0 ≤ 1 from by have : ((0 : Int32).toInt) = 0 := (by decide); omega), (by have : ((0 : Int32).toInt) = 0 := (by decide); omega), (by have : ((0 : Int32).toInt) = 0 := (by decide); intro q; exfalso; exact q (by decide))⟩, rfl, rfl, rfl⟩ (Nat.le_of_ble_eq_true rfl) (Nat.le_of_ble_eq_true rfl) dX12_hasOneParent_33
      · have hf15 : xe12.toInt = (-1) := by have z := (fa_eq _ _).mp hc13; have : (((-1) : Int32).toInt) = (-1) := (by decide); omega
        refine lv_iconst (v := 1) hx hb dX12_hasOneParent_28 (by decide) ?_
        refine lv_goto (tgt := 33) hx hb dX12_hasOneParent_29 (by decide) ?_
        exact tw_zret hx hb hr hlocks (by decide) TH hS hex ⟨⟨_, rfl, (show 0 ≤ Int32.toInt 1 from by have : ((1 : Int32).toInt) = 1 := (by decide); omega), (show Int32.toInt 1 ≤ 1 from by have : ((1 : Int32).toInt) = 1 := (by decide); omega), (by have : ((1 : Int32).toInt) = 1 := (by decide); omega), (by have : ((1 : Int32).toInt) = 1 := (by decide); have rf_xe7 : tw_el E a0 24 (x1.toInt).toNat = xe7.toInt := (by rw [tw_el_of hxr6]; exact congrArg Int32.toInt exe7); have rf_xe12 : tw_el E a0 25 (x1.toInt).toNat = xe12.toInt := (by rw [tw_el_of hxr11]; exact congrArg Int32.toInt exe12); intro _; rw [rf_xe7]; omega)⟩, rfl, rfl, rfl⟩ (Nat.le_of_ble_eq_true rfl) (Nat.le_of_ble_eq_true rfl) dX12_hasOneParent_33
set_option maxHeartbeats 4000000 in
set_option maxRecDepth 100000 in
theorem tX12_quarrel (l : Launch) (D : va_G) (cs : Nat → ClassId) {kp : Nat → Nat} {L : List Nat} {E : Nat → va_E} (a0 : Nat) (x1 : Int32) (hm0 : a0 ∈ L) (hk0 : kp a0 = 12) (sz : Nat) : Met l yX12_quarrel (.code yX12_quarrel cX12_quarrel 2 (some .int) :: cx_big) { frames := 1, cells := 0, slots := 0, locals := 25 } (tw_P D cs kp L E [.ref a0, .int x1] sz) (tw_Q D cs kp L (fun v kq Lq Eq => (∃ x : Int32, v = some (.int x)) ∧ kp = kq ∧ L = Lq ∧ E = Eq) (va_A (va_pl L E) sz)) 0 0 (va_A (va_pl L E) sz) := by
  refine tw_ofW (by decide) (Nat.le_of_ble_eq_true rfl) ?_
  intro p e s m below meth c A ls hx hb hr hml hB hown hlocks hK hN hA TH hS hl
  have hown : s.vm.findClass "TreeMergeModel" = some m.cls := hown
  have hl : lv_has ls 2 [(0, .ref a0), (1, .int x1)] := hl
  obtain ⟨kp0, ekp⟩ : ∃ z, z = kp := ⟨_, rfl⟩
  obtain ⟨L0, eL⟩ : ∃ z, z = L := ⟨_, rfl⟩
  rw [show tw_Q D cs kp L = tw_Q D cs kp0 L0 by rw [ekp, eL]]
  have hex : ∀ a : Nat, a ∈ L0 → a ∈ L ∧ kp a = kp0 a := fun a h => ⟨by rw [← eL]; exact h, by rw [ekp]⟩
  refine lv_iload_n hx hb dX12_quarrel_0 rfl (lv_at hl 1 rfl) ?_
  refine lv_iconst (v := (-1)) hx hb dX12_quarrel_1 (by decide) ?_
  refine lv_icmp_ne (tgt := 12) hx hb dX12_quarrel_2 (by decide) (fun hc1 => ?_) (fun hc1 => ?_)
  · have hf2 : ¬ (x1.toInt = (-1)) := fun q => hc1 ((fa_eq _ _).mpr (by have : (((-1) : Int32).toInt) = (-1) := (by decide); omega))
    refine lv_iload_n hx hb dX12_quarrel_12 rfl (lv_at hl 1 rfl) ?_
    refine lv_i2l (v := (x1).toInt64) hx hb dX12_quarrel_13 rfl ?_
    refine tw_topl (fun zl3 ezl3 => ?_)
    have hzl3 : zl3.toInt = x1.toInt := by rw [ezl3];  exact (Int32.toInt_toInt64 _)
    refine lv_lconst (v := 0) hx hb dX12_quarrel_14 (by decide) ?_
    refine tw_topl (fun zl4 ezl4 => ?_)
    have hzl4 : zl4.toInt = 0 := by rw [ezl4]; decide
    refine lv_aload_n hx hb dX12_quarrel_15 rfl (lv_at hl 0 rfl) ?_
    refine tw_get (ci := 12) (C := RX12) (T := TX12) (N := 64) hx hb hB cx_inX12 hown hK TH hm0 hk0 rfl ⟨by decide, rfl⟩ 57 (by decide) cw_1250 (fun _ h9 => h9) dX12_quarrel_16 (fun hv => ?_)
    obtain ⟨xi5, hxi5, hxi5a, hxi5b⟩ : ∃ x : Int32, tw_fv E a0 57 = .int x ∧ 0 ≤ x.toInt ∧ x.toInt ≤ 1200 := hv
    rw [hxi5]
    refine lv_iconst (v := 1) hx hb dX12_quarrel_19 (by decide) ?_
    refine lv_isub hx hb dX12_quarrel_20 ?_
    refine lv_topi (fun zi6 ezi6 => ?_)
    have hzi6 : zi6.toInt = xi5.toInt - 1 := by rw [ezi6]; have : ((1 : Int32).toInt) = 1 := (by decide); have := ia_lo xi5; have := ia_hi xi5; exact (ia_sub (by omega) (by omega)).trans (by omega)
    refine lv_i2l (v := (zi6).toInt64) hx hb dX12_quarrel_21 rfl ?_
    refine tw_topl (fun zl7 ezl7 => ?_)
    have hzl7 : zl7.toInt = zi6.toInt := by rw [ezl7];  exact (Int32.toInt_toInt64 _)
    refine tw_Sc (n := 3) (post := (fun v kq Lq Eq => (∃ x : Int32, v = some (.int x) ∧ 0 ≤ x.toInt ∧ x.toInt ≤ 1 ∧ (x.toInt ≠ 0 → zl4.toInt ≤ zl3.toInt ∧ zl3.toInt ≤ zl7.toInt)) ∧ kp = kq ∧ L = Lq ∧ E = Eq)) (As := [.long zl3, .long zl4, .long zl7]) (rest := []) ⟨hx, hb, hml, hown, hB⟩ (fun sz => tX12_in l D cs zl3 zl4 zl7  sz) cg_12_171_X12_in rfl rfl (by decide +kernel) ⟨Nat.le_of_ble_eq_true rfl, Nat.le_of_ble_eq_true rfl⟩ hK hN TH hS hA rfl hl.1 rfl (Nat.le_of_ble_eq_true rfl) dX12_quarrel_22 ⟨Nat.le_of_ble_eq_true rfl, Nat.le_of_ble_eq_true rfl⟩ (fun v8 kp8 L8 E8 H locs hq8 hx8 TH hS => ?_)
    obtain ⟨⟨xc9, rfl, hxc9a, hxc9b, hpoxc9_0⟩, rfl, rfl, rfl⟩ := hq8
    refine W.eq (g2 := F0 m 25 ls [.int xc9]) rfl ?_
    refine lv_if_eq (tgt := 37) hx hb dX12_quarrel_25 (by decide) (fun hc10 => ?_) (fun hc10 => ?_)
    · have hf11 : xc9.toInt = 0 := by have z := (fa_eq _ _).mp hc10; have : ((0 : Int32).toInt) = 0 := (by decide); omega
      refine lv_iconst (v := (-1)) hx hb dX12_quarrel_37 (by decide) ?_
      exact tw_iret hx hb hr hlocks TH hS hex ⟨⟨_, rfl⟩, rfl, rfl, rfl⟩ (Nat.le_of_ble_eq_true rfl) (Nat.le_of_ble_eq_true rfl) dX12_quarrel_38
    · have hf12 : ¬ (xc9.toInt = 0) := fun q => hc10 ((fa_eq _ _).mpr (by have : ((0 : Int32).toInt) = 0 := (by decide); omega))
      refine lv_aload_n hx hb dX12_quarrel_28 rfl (lv_at hl 0 rfl) ?_
      refine tw_get (ci := 12) (C := RX12) (T := TX12) (N := 64) hx hb hB cx_inX12 hown hK TH hm0 hk0 rfl ⟨by decide, rfl⟩ 53 (by decide) cw_1246 (fun _ h9 => h9) dX12_quarrel_29 (fun hv => ?_)
      obtain ⟨xr13, hxr13, hmxr13, hkxr13⟩ : ∃ a : Nat, tw_fv E a0 53 = .ref a ∧ a ∈ L ∧ kp a = 359 := hv
      rw [hxr13]
      refine lv_iload_n hx hb dX12_quarrel_32 rfl (lv_at hl 1 rfl) ?_
      refine tw_iald (k := 359) (t0 := 0) (n := 1200) (lo := (-2147483648)) (hi := 2147483647) hx hb hK TH hmxr13 hkxr13 (by decide) rfl rfl (i := x1) (vp_in_iff.mpr ⟨by  omega, by  omega⟩) dX12_quarrel_33 (fun hxe14a hxe14b => ?_)
      obtain ⟨xe14, exe14⟩ : ∃ z : Int32, tw_iv E xr13 (Int32.toNatClampNeg x1) = z := ⟨_, rfl⟩
      rw [exe14] at hxe14a hxe14b ⊢
      refine lv_goto (tgt := 38) hx hb dX12_quarrel_34 (by decide) ?_
      exact tw_iret hx hb hr hlocks TH hS hex ⟨⟨_, rfl⟩, rfl, rfl, rfl⟩ (Nat.le_of_ble_eq_true rfl) (Nat.le_of_ble_eq_true rfl) dX12_quarrel_38
  · have hf15 : x1.toInt = (-1) := by have z := (fa_eq _ _).mp hc1; have : (((-1) : Int32).toInt) = (-1) := (by decide); omega
    refine lv_aload_n hx hb dX12_quarrel_5 rfl (lv_at hl 0 rfl) ?_
    refine tw_get (ci := 12) (C := RX12) (T := TX12) (N := 64) hx hb hB cx_inX12 hown hK TH hm0 hk0 rfl ⟨by decide, rfl⟩ 57 (by decide) cw_1250 (fun _ h9 => h9) dX12_quarrel_6 (fun hv => ?_)
    obtain ⟨xi16, hxi16, hxi16a, hxi16b⟩ : ∃ x : Int32, tw_fv E a0 57 = .int x ∧ 0 ≤ x.toInt ∧ x.toInt ≤ 1200 := hv
    rw [hxi16]
    refine lv_goto (tgt := 38) hx hb dX12_quarrel_9 (by decide) ?_
    exact tw_iret hx hb hr hlocks TH hS hex ⟨⟨_, rfl⟩, rfl, rfl, rfl⟩ (Nat.le_of_ble_eq_true rfl) (Nat.le_of_ble_eq_true rfl) dX12_quarrel_38
set_option maxHeartbeats 4000000 in
set_option maxRecDepth 100000 in
theorem tX12_isRow (l : Launch) (D : va_G) (cs : Nat → ClassId) {kp : Nat → Nat} {L : List Nat} {E : Nat → va_E} (a0 : Nat) (x1 : Int32) (hm0 : a0 ∈ L) (hk0 : kp a0 = 12) (sz : Nat) : Met l yX12_isRow (.code yX12_isRow cX12_isRow 2 (some .boolean) :: cx_big) { frames := 2, cells := 0, slots := 0, locals := 46 } (tw_P D cs kp L E [.ref a0, .int x1] sz) (tw_Q D cs kp L (fun v kq Lq Eq => (∃ x : Int32, v = some (.int x) ∧ 0 ≤ x.toInt ∧ x.toInt ≤ 1 ∧ (x.toInt ≠ 0 → 0 ≤ x1.toInt ∧ x1.toInt ≤ 12)) ∧ kp = kq ∧ L = Lq ∧ E = Eq) (va_A (va_pl L E) sz)) 0 0 (va_A (va_pl L E) sz) := by
  refine tw_ofW (by decide) (Nat.le_of_ble_eq_true rfl) ?_
  intro p e s m below meth c A ls hx hb hr hml hB hown hlocks hK hN hA TH hS hl
  have hown : s.vm.findClass "TreeMergeModel" = some m.cls := hown
  have hl : lv_has ls 2 [(0, .ref a0), (1, .int x1)] := hl
  obtain ⟨kp0, ekp⟩ : ∃ z, z = kp := ⟨_, rfl⟩
  obtain ⟨L0, eL⟩ : ∃ z, z = L := ⟨_, rfl⟩
  rw [show tw_Q D cs kp L = tw_Q D cs kp0 L0 by rw [ekp, eL]]
  have hex : ∀ a : Nat, a ∈ L0 → a ∈ L ∧ kp a = kp0 a := fun a h => ⟨by rw [← eL]; exact h, by rw [ekp]⟩
  refine lv_aload_n hx hb dX12_isRow_0 rfl (lv_at hl 0 rfl) ?_
  refine lv_iload_n hx hb dX12_isRow_1 rfl (lv_at hl 1 rfl) ?_
  obtain ⟨xi1, hxi1, hxi1a, hxi1b⟩ := tw_rd TH hm0 hk0 (by decide) (by decide) (k := 27) rfl
  refine tw_Vc (o := a0) (ci := 12) (n := 1) (post := (fun v kq Lq Eq => (∃ x : Int32, v = some (.int x) ∧ 0 ≤ x.toInt ∧ x.toInt ≤ 1 ∧ (x.toInt ≠ 0 → 0 ≤ x1.toInt ∧ x1.toInt < xi1.toInt)) ∧ kp = kq ∧ L = Lq ∧ E = Eq)) (As := [.int x1]) (rest := []) ⟨hx, hb, hml, hown, hB⟩ (fun sz => tX12_isEdition l D cs a0 x1 xi1 hm0 hk0 hxi1 sz) cg_12_396_X12_isEdition rfl rfl (by decide +kernel) ⟨Nat.le_of_ble_eq_true rfl, Nat.le_of_ble_eq_true rfl⟩ hK hN TH hS hA rfl hm0 hk0 (by decide) rfl hl.1 rfl (Nat.le_of_ble_eq_true rfl) dX12_isRow_2 ⟨Nat.le_of_ble_eq_true rfl, Nat.le_of_ble_eq_true rfl⟩ (fun v2 kp2 L2 E2 H locs hq2 hx2 TH hS => ?_)
  obtain ⟨⟨xc3, rfl, hxc3a, hxc3b, hpoxc3_0⟩, rfl, rfl, rfl⟩ := hq2
  refine W.eq (g2 := F0 m 5 ls [.int xc3]) rfl ?_
  refine lv_if_ne (tgt := 21) hx hb dX12_isRow_5 (by decide) (fun hc4 => ?_) (fun hc4 => ?_)
  · have hf5 : ¬ (xc3.toInt = 0) := fun q => hc4 ((fa_eq _ _).mpr (by have : ((0 : Int32).toInt) = 0 := (by decide); omega))
    refine lv_iconst (v := 1) hx hb dX12_isRow_21 (by decide) ?_
    refine lv_goto (tgt := 26) hx hb dX12_isRow_22 (by decide) ?_
    exact tw_zret hx hb hr hlocks (by decide) TH hS hex ⟨⟨_, rfl, (show 0 ≤ Int32.toInt 1 from by have : ((1 : Int32).toInt) = 1 := (by decide); omega), (show Int32.toInt 1 ≤ 1 from by have : ((1 : Int32).toInt) = 1 := (by decide); omega), (by have : ((1 : Int32).toInt) = 1 := (by decide); omega)⟩, rfl, rfl, rfl⟩ (Nat.le_of_ble_eq_true rfl) (Nat.le_of_ble_eq_true rfl) dX12_isRow_26
  · have hf6 : xc3.toInt = 0 := by have z := (fa_eq _ _).mp hc4; have : ((0 : Int32).toInt) = 0 := (by decide); omega
    refine lv_iload_n hx hb dX12_isRow_8 rfl (lv_at hl 1 rfl) ?_
    refine lv_bipush (v := 12) hx hb dX12_isRow_9 (by decide) ?_
    refine lv_icmp_ne (tgt := 25) hx hb dX12_isRow_11 (by decide) (fun hc7 => ?_) (fun hc7 => ?_)
    · have hf8 : ¬ (x1.toInt = 12) := fun q => hc7 ((fa_eq _ _).mpr (by have : ((12 : Int32).toInt) = 12 := (by decide); omega))
      refine lv_iconst (v := 0) hx hb dX12_isRow_25 (by decide) ?_
      exact tw_zret hx hb hr hlocks (by decide) TH hS hex ⟨⟨_, rfl, (show 0 ≤ Int32.toInt 0 from by have : ((0 : Int32).toInt) = 0 := (by decide); omega), (show Int32.toInt 0 ≤ 1 from by have : ((0 : Int32).toInt) = 0 := (by decide); omega), (by have : ((0 : Int32).toInt) = 0 := (by decide); omega)⟩, rfl, rfl, rfl⟩ (Nat.le_of_ble_eq_true rfl) (Nat.le_of_ble_eq_true rfl) dX12_isRow_26
    · have hf9 : x1.toInt = 12 := by have z := (fa_eq _ _).mp hc7; have : ((12 : Int32).toInt) = 12 := (by decide); omega
      refine lv_aload_n hx hb dX12_isRow_14 rfl (lv_at hl 0 rfl) ?_
      refine tw_get (ci := 12) (C := RX12) (T := TX12) (N := 64) hx hb hB cx_inX12 hown hK TH hm0 hk0 rfl ⟨by decide, rfl⟩ 29 (by decide) cw_1222 (fun _ h9 => h9) dX12_isRow_15 (fun hv => ?_)
      obtain ⟨xi10, hxi10, hxi10a, hxi10b⟩ : ∃ x : Int32, tw_fv E a0 29 = .int x ∧ 0 ≤ x.toInt ∧ x.toInt ≤ 1 := hv
      rw [hxi10]
      refine lv_if_eq (tgt := 25) hx hb dX12_isRow_18 (by decide) (fun hc11 => ?_) (fun hc11 => ?_)
      · have hf12 : xi10.toInt = 0 := by have z := (fa_eq _ _).mp hc11; have : ((0 : Int32).toInt) = 0 := (by decide); omega
        refine lv_iconst (v := 0) hx hb dX12_isRow_25 (by decide) ?_
        exact tw_zret hx hb hr hlocks (by decide) TH hS hex ⟨⟨_, rfl, (show 0 ≤ Int32.toInt 0 from by have : ((0 : Int32).toInt) = 0 := (by decide); omega), (show Int32.toInt 0 ≤ 1 from by have : ((0 : Int32).toInt) = 0 := (by decide); omega), (by have : ((0 : Int32).toInt) = 0 := (by decide); omega)⟩, rfl, rfl, rfl⟩ (Nat.le_of_ble_eq_true rfl) (Nat.le_of_ble_eq_true rfl) dX12_isRow_26
      · have hf13 : ¬ (xi10.toInt = 0) := fun q => hc11 ((fa_eq _ _).mpr (by have : ((0 : Int32).toInt) = 0 := (by decide); omega))
        refine lv_iconst (v := 1) hx hb dX12_isRow_21 (by decide) ?_
        refine lv_goto (tgt := 26) hx hb dX12_isRow_22 (by decide) ?_
        exact tw_zret hx hb hr hlocks (by decide) TH hS hex ⟨⟨_, rfl, (show 0 ≤ Int32.toInt 1 from by have : ((1 : Int32).toInt) = 1 := (by decide); omega), (show Int32.toInt 1 ≤ 1 from by have : ((1 : Int32).toInt) = 1 := (by decide); omega), (by have : ((1 : Int32).toInt) = 1 := (by decide); omega)⟩, rfl, rfl, rfl⟩ (Nat.le_of_ble_eq_true rfl) (Nat.le_of_ble_eq_true rfl) dX12_isRow_26
set_option maxHeartbeats 4000000 in
set_option maxRecDepth 100000 in
theorem tX12_isNode (l : Launch) (D : va_G) (cs : Nat → ClassId) {kp : Nat → Nat} {L : List Nat} {E : Nat → va_E} (a0 : Nat) (x1 : Int32) (x2 : Int32) (hm0 : a0 ∈ L) (hk0 : kp a0 = 12) (sz : Nat) : Met l yX12_isNode (.code yX12_isNode cX12_isNode 3 (some .boolean) :: cx_big) { frames := 3, cells := 0, slots := 0, locals := 67 } (tw_P D cs kp L E [.ref a0, .int x1, .int x2] sz) (tw_Q D cs kp L (fun v kq Lq Eq => (∃ x : Int32, v = some (.int x) ∧ 0 ≤ x.toInt ∧ x.toInt ≤ 1 ∧ (x.toInt ≠ 0 → 0 ≤ x1.toInt ∧ x1.toInt ≤ 12 ∧ 0 ≤ x2.toInt ∧ x2.toInt ≤ 149)) ∧ kp = kq ∧ L = Lq ∧ E = Eq) (va_A (va_pl L E) sz)) 0 0 (va_A (va_pl L E) sz) := by
  refine tw_ofW (by decide) (Nat.le_of_ble_eq_true rfl) ?_
  intro p e s m below meth c A ls hx hb hr hml hB hown hlocks hK hN hA TH hS hl
  have hown : s.vm.findClass "TreeMergeModel" = some m.cls := hown
  have hl : lv_has ls 3 [(0, .ref a0), (1, .int x1), (2, .int x2)] := hl
  obtain ⟨kp0, ekp⟩ : ∃ z, z = kp := ⟨_, rfl⟩
  obtain ⟨L0, eL⟩ : ∃ z, z = L := ⟨_, rfl⟩
  rw [show tw_Q D cs kp L = tw_Q D cs kp0 L0 by rw [ekp, eL]]
  have hex : ∀ a : Nat, a ∈ L0 → a ∈ L ∧ kp a = kp0 a := fun a h => ⟨by rw [← eL]; exact h, by rw [ekp]⟩
  refine lv_aload_n hx hb dX12_isNode_0 rfl (lv_at hl 0 rfl) ?_
  refine lv_iload_n hx hb dX12_isNode_1 rfl (lv_at hl 1 rfl) ?_
  refine tw_Vc (o := a0) (ci := 12) (n := 1) (post := (fun v kq Lq Eq => (∃ x : Int32, v = some (.int x) ∧ 0 ≤ x.toInt ∧ x.toInt ≤ 1 ∧ (x.toInt ≠ 0 → 0 ≤ x1.toInt ∧ x1.toInt ≤ 12)) ∧ kp = kq ∧ L = Lq ∧ E = Eq)) (As := [.int x1]) (rest := []) ⟨hx, hb, hml, hown, hB⟩ (fun sz => tX12_isRow l D cs a0 x1 hm0 hk0 sz) cg_12_545_X12_isRow rfl rfl (by decide +kernel) ⟨Nat.le_of_ble_eq_true rfl, Nat.le_of_ble_eq_true rfl⟩ hK hN TH hS hA rfl hm0 hk0 (by decide) rfl hl.1 rfl (Nat.le_of_ble_eq_true rfl) dX12_isNode_2 ⟨Nat.le_of_ble_eq_true rfl, Nat.le_of_ble_eq_true rfl⟩ (fun v1 kp1 L1 E1 H locs hq1 hx1 TH hS => ?_)
  obtain ⟨⟨xc2, rfl, hxc2a, hxc2b, hpoxc2_0⟩, rfl, rfl, rfl⟩ := hq1
  refine W.eq (g2 := F0 m 5 ls [.int xc2]) rfl ?_
  refine lv_if_eq (tgt := 39) hx hb dX12_isNode_5 (by decide) (fun hc3 => ?_) (fun hc3 => ?_)
  · have hf4 : xc2.toInt = 0 := by have z := (fa_eq _ _).mp hc3; have : ((0 : Int32).toInt) = 0 := (by decide); omega
    refine lv_iconst (v := 0) hx hb dX12_isNode_39 (by decide) ?_
    exact tw_zret hx hb hr hlocks (by decide) TH hS hex ⟨⟨_, rfl, (show 0 ≤ Int32.toInt 0 from by have : ((0 : Int32).toInt) = 0 := (by decide); omega), (show Int32.toInt 0 ≤ 1 from by have : ((0 : Int32).toInt) = 0 := (by decide); omega), (by have : ((0 : Int32).toInt) = 0 := (by decide); omega)⟩, rfl, rfl, rfl⟩ (Nat.le_of_ble_eq_true rfl) (Nat.le_of_ble_eq_true rfl) dX12_isNode_40
  · have hf5 : ¬ (xc2.toInt = 0) := fun q => hc3 ((fa_eq _ _).mpr (by have : ((0 : Int32).toInt) = 0 := (by decide); omega))
    refine lv_iload_n hx hb dX12_isNode_8 rfl (lv_at hl 2 rfl) ?_
    refine lv_i2l (v := (x2).toInt64) hx hb dX12_isNode_9 rfl ?_
    refine tw_topl (fun zl6 ezl6 => ?_)
    have hzl6 : zl6.toInt = x2.toInt := by rw [ezl6];  exact (Int32.toInt_toInt64 _)
    refine lv_lconst (v := 0) hx hb dX12_isNode_10 (by decide) ?_
    refine tw_topl (fun zl7 ezl7 => ?_)
    have hzl7 : zl7.toInt = 0 := by rw [ezl7]; decide
    refine lv_aload_n hx hb dX12_isNode_11 rfl (lv_at hl 0 rfl) ?_
    refine tw_get (ci := 12) (C := RX12) (T := TX12) (N := 64) hx hb hB cx_inX12 hown hK TH hm0 hk0 rfl ⟨by decide, rfl⟩ 26 (by decide) cw_1219 (fun _ h9 => h9) dX12_isNode_12 (fun hv => ?_)
    obtain ⟨xi8, hxi8, hxi8a, hxi8b⟩ : ∃ x : Int32, tw_fv E a0 26 = .int x ∧ 0 ≤ x.toInt ∧ x.toInt ≤ 150 := hv
    rw [hxi8]
    refine lv_iconst (v := 1) hx hb dX12_isNode_15 (by decide) ?_
    refine lv_isub hx hb dX12_isNode_16 ?_
    refine lv_topi (fun zi9 ezi9 => ?_)
    have hzi9 : zi9.toInt = xi8.toInt - 1 := by rw [ezi9]; have : ((1 : Int32).toInt) = 1 := (by decide); have := ia_lo xi8; have := ia_hi xi8; exact (ia_sub (by omega) (by omega)).trans (by omega)
    refine lv_i2l (v := (zi9).toInt64) hx hb dX12_isNode_17 rfl ?_
    refine tw_topl (fun zl10 ezl10 => ?_)
    have hzl10 : zl10.toInt = zi9.toInt := by rw [ezl10];  exact (Int32.toInt_toInt64 _)
    refine tw_Sc (n := 3) (post := (fun v kq Lq Eq => (∃ x : Int32, v = some (.int x) ∧ 0 ≤ x.toInt ∧ x.toInt ≤ 1 ∧ (x.toInt ≠ 0 → zl7.toInt ≤ zl6.toInt ∧ zl6.toInt ≤ zl10.toInt)) ∧ kp = kq ∧ L = Lq ∧ E = Eq)) (As := [.long zl6, .long zl7, .long zl10]) (rest := []) ⟨hx, hb, hml, hown, hB⟩ (fun sz => tX12_in l D cs zl6 zl7 zl10  sz) cg_12_171_X12_in rfl rfl (by decide +kernel) ⟨Nat.le_of_ble_eq_true rfl, Nat.le_of_ble_eq_true rfl⟩ hK hN TH hS hA rfl hl.1 rfl (Nat.le_of_ble_eq_true rfl) dX12_isNode_18 ⟨Nat.le_of_ble_eq_true rfl, Nat.le_of_ble_eq_true rfl⟩ (fun v11 kp11 L11 E11 H locs hq11 hx11 TH hS => ?_)
    obtain ⟨⟨xc12, rfl, hxc12a, hxc12b, hpoxc12_0⟩, rfl, rfl, rfl⟩ := hq11
    refine W.eq (g2 := F0 m 21 ls [.int xc12]) rfl ?_
    refine lv_if_eq (tgt := 39) hx hb dX12_isNode_21 (by decide) (fun hc13 => ?_) (fun hc13 => ?_)
    · have hf14 : xc12.toInt = 0 := by have z := (fa_eq _ _).mp hc13; have : ((0 : Int32).toInt) = 0 := (by decide); omega
      refine lv_iconst (v := 0) hx hb dX12_isNode_39 (by decide) ?_
      exact tw_zret hx hb hr hlocks (by decide) TH hS hex ⟨⟨_, rfl, (show 0 ≤ Int32.toInt 0 from by have : ((0 : Int32).toInt) = 0 := (by decide); omega), (show Int32.toInt 0 ≤ 1 from by have : ((0 : Int32).toInt) = 0 := (by decide); omega), (by have : ((0 : Int32).toInt) = 0 := (by decide); omega)⟩, rfl, rfl, rfl⟩ (Nat.le_of_ble_eq_true rfl) (Nat.le_of_ble_eq_true rfl) dX12_isNode_40
    · have hf15 : ¬ (xc12.toInt = 0) := fun q => hc13 ((fa_eq _ _).mpr (by have : ((0 : Int32).toInt) = 0 := (by decide); omega))
      refine lv_aload_n hx hb dX12_isNode_24 rfl (lv_at hl 0 rfl) ?_
      refine tw_get (ci := 12) (C := RX12) (T := TX12) (N := 64) hx hb hB cx_inX12 hown hK TH hm0 hk0 rfl ⟨by decide, rfl⟩ 16 (by decide) cw_1209 (fun _ h9 => h9) dX12_isNode_25 (fun hv => ?_)
      obtain ⟨xr16, hxr16, hmxr16, hkxr16⟩ : ∃ a : Nat, tw_fv E a0 16 = .ref a ∧ a ∈ L ∧ kp a = 316 := hv
      rw [hxr16]
      refine lv_iload_n hx hb dX12_isNode_28 rfl (lv_at hl 1 rfl) ?_
      refine tw_aald (k := 316) (t0 := 5) (n := 16) (lo := 326) (hi := 0) (ty := .boolean) hx hb hK TH hmxr16 hkxr16 (by decide) rfl rfl (i := x1) (vp_in_iff.mpr ⟨by  omega, by  omega⟩) dX12_isNode_29 (fun xr17 exr17 hmxr17 hkxr17 => ?_)
      have hkxr17 : kp xr17 = 326 := hkxr17
      refine lv_iload_n hx hb dX12_isNode_30 rfl (lv_at hl 2 rfl) ?_
      refine tw_zald (k := 326) (t0 := 3) (n := 150) (lo := 0) (hi := 1) hx hb hK TH hmxr17 hkxr17 (by decide) rfl rfl (i := x2) (vp_in_iff.mpr ⟨by  omega, by  omega⟩) dX12_isNode_31 (fun hxe18a hxe18b => ?_)
      obtain ⟨xe18, exe18⟩ : ∃ z : Int32, tw_iv E xr17 (Int32.toNatClampNeg x2) = z := ⟨_, rfl⟩
      rw [exe18] at hxe18a hxe18b ⊢
      refine lv_if_eq (tgt := 39) hx hb dX12_isNode_32 (by decide) (fun hc19 => ?_) (fun hc19 => ?_)
      · have hf20 : xe18.toInt = 0 := by have z := (fa_eq _ _).mp hc19; have : ((0 : Int32).toInt) = 0 := (by decide); omega
        refine lv_iconst (v := 0) hx hb dX12_isNode_39 (by decide) ?_
        exact tw_zret hx hb hr hlocks (by decide) TH hS hex ⟨⟨_, rfl, (show 0 ≤ Int32.toInt 0 from by have : ((0 : Int32).toInt) = 0 := (by decide); omega), (show Int32.toInt 0 ≤ 1 from by have : ((0 : Int32).toInt) = 0 := (by decide); omega), (by have : ((0 : Int32).toInt) = 0 := (by decide); omega)⟩, rfl, rfl, rfl⟩ (Nat.le_of_ble_eq_true rfl) (Nat.le_of_ble_eq_true rfl) dX12_isNode_40
      · have hf21 : ¬ (xe18.toInt = 0) := fun q => hc19 ((fa_eq _ _).mpr (by have : ((0 : Int32).toInt) = 0 := (by decide); omega))
        refine lv_iconst (v := 1) hx hb dX12_isNode_35 (by decide) ?_
        refine lv_goto (tgt := 40) hx hb dX12_isNode_36 (by decide) ?_
        exact tw_zret hx hb hr hlocks (by decide) TH hS hex ⟨⟨_, rfl, (show 0 ≤ Int32.toInt 1 from by have : ((1 : Int32).toInt) = 1 := (by decide); omega), (show Int32.toInt 1 ≤ 1 from by have : ((1 : Int32).toInt) = 1 := (by decide); omega), (by have : ((1 : Int32).toInt) = 1 := (by decide); omega)⟩, rfl, rfl, rfl⟩ (Nat.le_of_ble_eq_true rfl) (Nat.le_of_ble_eq_true rfl) dX12_isNode_40
set_option maxHeartbeats 4000000 in
set_option maxRecDepth 100000 in
theorem tX12_placeOf (l : Launch) (D : va_G) (cs : Nat → ClassId) {kp : Nat → Nat} {L : List Nat} {E : Nat → va_E} (a0 : Nat) (x1 : Int32) (x2 : Int32) (hm0 : a0 ∈ L) (hk0 : kp a0 = 12) (hp1a : 0 ≤ x1.toInt) (hp1b : x1.toInt ≤ 15) (hp2a : 0 ≤ x2.toInt) (hp2b : x2.toInt ≤ 149) (sz : Nat) : Met l yX12_placeOf (.code yX12_placeOf cX12_placeOf 5 (some .int) :: cx_big) { frames := 0, cells := 0, slots := 0, locals := 0 } (tw_P D cs kp L E [.ref a0, .int x1, .int x2] sz) (tw_Q D cs kp L (fun v kq Lq Eq => (∃ x : Int32, v = some (.int x)) ∧ kp = kq ∧ L = Lq ∧ E = Eq) (va_A (va_pl L E) sz)) 0 0 (va_A (va_pl L E) sz) := by
  refine tw_ofW (by decide) (Nat.le_of_ble_eq_true rfl) ?_
  intro p e s m below meth c A ls hx hb hr hml hB hown hlocks hK hN hA TH hS hl
  have hown : s.vm.findClass "TreeMergeModel" = some m.cls := hown
  have hl : lv_has ls 5 [(0, .ref a0), (1, .int x1), (2, .int x2)] := hl
  obtain ⟨kp0, ekp⟩ : ∃ z, z = kp := ⟨_, rfl⟩
  obtain ⟨L0, eL⟩ : ∃ z, z = L := ⟨_, rfl⟩
  rw [show tw_Q D cs kp L = tw_Q D cs kp0 L0 by rw [ekp, eL]]
  have hex : ∀ a : Nat, a ∈ L0 → a ∈ L ∧ kp a = kp0 a := fun a h => ⟨by rw [← eL]; exact h, by rw [ekp]⟩
  refine lv_iconst (v := 0) hx hb dX12_placeOf_0 (by decide) ?_
  refine lv_istore_n (lv' := [(3, .int 0), (0, .ref a0), (1, .int x1), (2, .int x2)]) hx hb dX12_placeOf_1 rfl hl (by decide) rfl (fun ls hl => ?_)
  refine lv_iconst (v := 0) hx hb dX12_placeOf_2 (by decide) ?_
  refine lv_istore (lv' := [(4, .int 0), (3, .int 0), (0, .ref a0), (1, .int x1), (2, .int x2)]) hx hb dX12_placeOf_3 hl (by decide) rfl (fun ls hl => ?_)
  have hJ5 : ∀ (n5 : Nat) (y5_4 : Int32) (y5_3 : Int32) (H : Heap) (locs : List Loc) (ls : Array Slot), 0 ≤ y5_4.toInt → y5_4.toInt ≤ 150 → 150 - y5_4.toInt ≤ (n5 : Int) → tw_H D cs kp L E A H → va_S A s.heap H locs → lv_has ls 5 [(4, .int y5_4), (3, .int y5_3), (0, .ref a0), (1, .int x1), (2, .int x2)] → W p l e { frames := 0, cells := 0, slots := 0, locals := 0 } s m [.ref a0, .int x1, .int x2].toArray below meth c H locs 0 0 (MQ below (tw_Q D cs kp0 L0 (fun v kq Lq Eq => (∃ x : Int32, v = some (.int x)) ∧ kp = kq ∧ L = Lq ∧ E = Eq) A) [.ref a0, .int x1, .int x2].toArray s 0 0 A) (F0 m 5 ls []) := by
    intro n5
    induction n5 using Nat.strongRecOn with
    | _ n5 ih5 =>
      intro y5_4 y5_3 H locs ls hy5_4a hy5_4b hmeas5 TH hS hl
      refine lv_iload hx hb dX12_placeOf_5 (lv_at hl 0 rfl) ?_
      refine lv_sipush (v := 150) hx hb dX12_placeOf_7 (by decide) ?_
      refine lv_icmp_ge (tgt := 91) hx hb dX12_placeOf_10 (by decide) (fun hc1 => ?_) (fun hc1 => ?_)
      · have hf2 : 150 ≤ y5_4.toInt := by have z := (fa_le _ _).mp hc1; have : ((150 : Int32).toInt) = 150 := (by decide); omega
        refine lv_iload_n hx hb dX12_placeOf_91 rfl (lv_at hl 1 rfl) ?_
        exact tw_iret hx hb hr hlocks TH hS hex ⟨⟨_, rfl⟩, rfl, rfl, rfl⟩ (Nat.le_of_ble_eq_true rfl) (Nat.le_of_ble_eq_true rfl) dX12_placeOf_92
      · have hf3 : ¬ (150 ≤ y5_4.toInt) := fun q => hc1 ((fa_le _ _).mpr (by have : ((150 : Int32).toInt) = 150 := (by decide); omega))
        refine lv_iload_n hx hb dX12_placeOf_13 rfl (lv_at hl 1 rfl) ?_
        refine lv_aload_n hx hb dX12_placeOf_14 rfl (lv_at hl 2 rfl) ?_
        refine tw_get (ci := 12) (C := RX12) (T := TX12) (N := 64) hx hb hB cx_inX12 hown hK TH hm0 hk0 rfl ⟨by decide, rfl⟩ 18 (by decide) cw_1211 (fun _ h9 => h9) dX12_placeOf_15 (fun hv => ?_)
        obtain ⟨xr4, hxr4, hmxr4, hkxr4⟩ : ∃ a : Nat, tw_fv E a0 18 = .ref a ∧ a ∈ L ∧ kp a = 318 := hv
        rw [hxr4]
        refine lv_iload_n hx hb dX12_placeOf_18 rfl (lv_at hl 3 rfl) ?_
        refine tw_aald (k := 318) (t0 := 4) (n := 16) (lo := 328) (hi := 0) (ty := .int) hx hb hK TH hmxr4 hkxr4 (by decide) rfl rfl (i := x1) (vp_in_iff.mpr ⟨by  omega, by  omega⟩) dX12_placeOf_19 (fun xr5 exr5 hmxr5 hkxr5 => ?_)
        have hkxr5 : kp xr5 = 328 := hkxr5
        refine lv_iload_n hx hb dX12_placeOf_20 rfl (lv_at hl 4 rfl) ?_
        refine tw_iald (k := 328) (t0 := 0) (n := 150) (lo := (-1)) (hi := 149) hx hb hK TH hmxr5 hkxr5 (by decide) rfl rfl (i := x2) (vp_in_iff.mpr ⟨by  omega, by  omega⟩) dX12_placeOf_21 (fun hxe6a hxe6b => ?_)
        obtain ⟨xe6, exe6⟩ : ∃ z : Int32, tw_iv E xr5 (Int32.toNatClampNeg x2) = z := ⟨_, rfl⟩
        rw [exe6] at hxe6a hxe6b ⊢
        refine lv_iconst (v := (-1)) hx hb dX12_placeOf_22 (by decide) ?_
        have hJ83 : ∀ (z83_0 : Int32) (H : Heap) (locs : List Loc) (ls : Array Slot), 0 ≤ z83_0.toInt → z83_0.toInt ≤ 1 → tw_H D cs kp L E A H → va_S A s.heap H locs → lv_has ls 5 [(4, .int y5_4), (0, .ref a0), (1, .int x1), (2, .int x2)] → W p l e { frames := 0, cells := 0, slots := 0, locals := 0 } s m [.ref a0, .int x1, .int x2].toArray below meth c H locs 0 0 (MQ below (tw_Q D cs kp0 L0 (fun v kq Lq Eq => (∃ x : Int32, v = some (.int x)) ∧ kp = kq ∧ L = Lq ∧ E = Eq) A) [.ref a0, .int x1, .int x2].toArray s 0 0 A) (F0 m 83 ls [.int z83_0, .int y5_3]) := by
          intro z83_0 H locs ls hz83_0a hz83_0b TH hS hl
          refine lv_iadd hx hb dX12_placeOf_83 ?_
          refine lv_topi (fun zi7 ezi7 => ?_)
          refine lv_istore_n (lv' := [(3, .int zi7), (4, .int y5_4), (0, .ref a0), (1, .int x1), (2, .int x2)]) hx hb dX12_placeOf_84 rfl hl (by decide) rfl (fun ls hl => ?_)
          obtain ⟨zi8, ezi8⟩ : ∃ z : Int32, z = y5_4 + Int32.ofInt 1 := ⟨_, rfl⟩
          have hzi8 : zi8.toInt = y5_4.toInt + 1 := by rw [ezi8]; have : ((Int32.ofInt 1).toInt) = 1 := (by decide);  exact (ia_add (by omega) (by omega)).trans (by omega)
          refine lv_iinc (v := zi8) (lv' := [(4, .int zi8), (3, .int zi7), (0, .ref a0), (1, .int x1), (2, .int x2)]) hx hb dX12_placeOf_85 hl (k := 1) rfl ezi8.symm (by decide) rfl (fun ls hl => ?_)
          refine lv_goto (tgt := 5) hx hb dX12_placeOf_88 (by decide) ?_
          exact ih5 (n5 - 1) (by   omega) zi8 zi7 _ _ ls (by omega) (by omega) (by   omega) TH hS (lv_sub hl [0, 1, 2, 3, 4] rfl)
        have hJ82 : ∀  (H : Heap) (locs : List Loc) (ls : Array Slot), tw_H D cs kp L E A H → va_S A s.heap H locs → lv_has ls 5 [(4, .int y5_4), (0, .ref a0), (1, .int x1), (2, .int x2)] → W p l e { frames := 0, cells := 0, slots := 0, locals := 0 } s m [.ref a0, .int x1, .int x2].toArray below meth c H locs 0 0 (MQ below (tw_Q D cs kp0 L0 (fun v kq Lq Eq => (∃ x : Int32, v = some (.int x)) ∧ kp = kq ∧ L = Lq ∧ E = Eq) A) [.ref a0, .int x1, .int x2].toArray s 0 0 A) (F0 m 82 ls [.int y5_3]) := by
          intro H locs ls TH hS hl
          refine lv_iconst (v := 0) hx hb dX12_placeOf_82 (by decide) ?_
          exact hJ83 (0 : Int32) _ _ ls (by have : ((0 : Int32).toInt) = 0 := (by decide); omega) (by have : ((0 : Int32).toInt) = 0 := (by decide); omega) TH hS (lv_sub hl [0, 1, 2, 3] rfl)
        refine lv_icmp_eq (tgt := 82) hx hb dX12_placeOf_23 (by decide) (fun hc9 => ?_) (fun hc9 => ?_)
        · have hf10 : xe6.toInt = (-1) := by have z := (fa_eq _ _).mp hc9; have : (((-1) : Int32).toInt) = (-1) := (by decide); omega
          exact hJ82  _ _ ls  TH hS (lv_sub hl [0, 2, 3, 4] rfl)
        · have hf11 : ¬ (xe6.toInt = (-1)) := fun q => hc9 ((fa_eq _ _).mpr (by have : (((-1) : Int32).toInt) = (-1) := (by decide); omega))
          refine lv_aload_n hx hb dX12_placeOf_26 rfl (lv_at hl 2 rfl) ?_
          refine tw_get (ci := 12) (C := RX12) (T := TX12) (N := 64) hx hb hB cx_inX12 hown hK TH hm0 hk0 rfl ⟨by decide, rfl⟩ 16 (by decide) cw_1209 (fun _ h9 => h9) dX12_placeOf_27 (fun hv => ?_)
          obtain ⟨xr12, hxr12, hmxr12, hkxr12⟩ : ∃ a : Nat, tw_fv E a0 16 = .ref a ∧ a ∈ L ∧ kp a = 316 := hv
          rw [hxr12]
          refine lv_iload_n hx hb dX12_placeOf_30 rfl (lv_at hl 3 rfl) ?_
          refine tw_aald (k := 316) (t0 := 5) (n := 16) (lo := 326) (hi := 0) (ty := .boolean) hx hb hK TH hmxr12 hkxr12 (by decide) rfl rfl (i := x1) (vp_in_iff.mpr ⟨by  omega, by  omega⟩) dX12_placeOf_31 (fun xr13 exr13 hmxr13 hkxr13 => ?_)
          have hkxr13 : kp xr13 = 326 := hkxr13
          refine lv_iload hx hb dX12_placeOf_32 (lv_at hl 0 rfl) ?_
          refine tw_zald (k := 326) (t0 := 3) (n := 150) (lo := 0) (hi := 1) hx hb hK TH hmxr13 hkxr13 (by decide) rfl rfl (i := y5_4) (vp_in_iff.mpr ⟨by  omega, by  omega⟩) dX12_placeOf_34 (fun hxe14a hxe14b => ?_)
          obtain ⟨xe14, exe14⟩ : ∃ z : Int32, tw_iv E xr13 (Int32.toNatClampNeg y5_4) = z := ⟨_, rfl⟩
          rw [exe14] at hxe14a hxe14b ⊢
          refine lv_if_eq (tgt := 82) hx hb dX12_placeOf_35 (by decide) (fun hc15 => ?_) (fun hc15 => ?_)
          · have hf16 : xe14.toInt = 0 := by have z := (fa_eq _ _).mp hc15; have : ((0 : Int32).toInt) = 0 := (by decide); omega
            exact hJ82  _ _ ls  TH hS (lv_sub hl [0, 2, 3, 4] rfl)
          · have hf17 : ¬ (xe14.toInt = 0) := fun q => hc15 ((fa_eq _ _).mpr (by have : ((0 : Int32).toInt) = 0 := (by decide); omega))
            refine lv_aload_n hx hb dX12_placeOf_38 rfl (lv_at hl 2 rfl) ?_
            refine tw_get (ci := 12) (C := RX12) (T := TX12) (N := 64) hx hb hB cx_inX12 hown hK TH hm0 hk0 rfl ⟨by decide, rfl⟩ 18 (by decide) cw_1211 (fun _ h9 => h9) dX12_placeOf_39 (fun hv => ?_)
            rw [hxr4]
            refine lv_iload_n hx hb dX12_placeOf_42 rfl (lv_at hl 3 rfl) ?_
            refine tw_aald (k := 318) (t0 := 4) (n := 16) (lo := 328) (hi := 0) (ty := .int) hx hb hK TH hmxr4 hkxr4 (by decide) rfl rfl (i := x1) (vp_in_iff.mpr ⟨by  omega, by  omega⟩) dX12_placeOf_43 (fun xr18 exr18 hmxr18 hkxr18 => ?_)
            have ezxr18 : xr5 = xr18 := exr5.symm.trans exr18
            subst ezxr18
            refine lv_iload hx hb dX12_placeOf_44 (lv_at hl 0 rfl) ?_
            refine tw_iald (k := 328) (t0 := 0) (n := 150) (lo := (-1)) (hi := 149) hx hb hK TH hmxr5 hkxr5 (by decide) rfl rfl (i := y5_4) (vp_in_iff.mpr ⟨by  omega, by  omega⟩) dX12_placeOf_46 (fun hxe19a hxe19b => ?_)
            obtain ⟨xe19, exe19⟩ : ∃ z : Int32, tw_iv E xr5 (Int32.toNatClampNeg y5_4) = z := ⟨_, rfl⟩
            rw [exe19] at hxe19a hxe19b ⊢
            refine lv_aload_n hx hb dX12_placeOf_47 rfl (lv_at hl 2 rfl) ?_
            refine tw_get (ci := 12) (C := RX12) (T := TX12) (N := 64) hx hb hB cx_inX12 hown hK TH hm0 hk0 rfl ⟨by decide, rfl⟩ 18 (by decide) cw_1211 (fun _ h9 => h9) dX12_placeOf_48 (fun hv => ?_)
            rw [hxr4]
            refine lv_iload_n hx hb dX12_placeOf_51 rfl (lv_at hl 3 rfl) ?_
            refine tw_aald (k := 318) (t0 := 4) (n := 16) (lo := 328) (hi := 0) (ty := .int) hx hb hK TH hmxr4 hkxr4 (by decide) rfl rfl (i := x1) (vp_in_iff.mpr ⟨by  omega, by  omega⟩) dX12_placeOf_52 (fun xr20 exr20 hmxr20 hkxr20 => ?_)
            have ezxr20 : xr5 = xr20 := exr5.symm.trans exr20
            subst ezxr20
            refine lv_iload_n hx hb dX12_placeOf_53 rfl (lv_at hl 4 rfl) ?_
            refine tw_iald (k := 328) (t0 := 0) (n := 150) (lo := (-1)) (hi := 149) hx hb hK TH hmxr5 hkxr5 (by decide) rfl rfl (i := x2) (vp_in_iff.mpr ⟨by  omega, by  omega⟩) dX12_placeOf_54 (fun hxe21a hxe21b => ?_)
            rw [exe6]
            refine lv_icmp_ne (tgt := 82) hx hb dX12_placeOf_55 (by decide) (fun hc22 => ?_) (fun hc22 => ?_)
            · have hf23 : ¬ (xe19.toInt = xe6.toInt) := fun q => hc22 ((fa_eq _ _).mpr (by  omega))
              exact hJ82  _ _ ls  TH hS (lv_sub hl [0, 2, 3, 4] rfl)
            · have hf24 : xe19.toInt = xe6.toInt := by have z := (fa_eq _ _).mp hc22;  omega
              refine lv_aload_n hx hb dX12_placeOf_58 rfl (lv_at hl 2 rfl) ?_
              refine tw_get (ci := 12) (C := RX12) (T := TX12) (N := 64) hx hb hB cx_inX12 hown hK TH hm0 hk0 rfl ⟨by decide, rfl⟩ 19 (by decide) cw_1212 (fun _ h9 => h9) dX12_placeOf_59 (fun hv => ?_)
              obtain ⟨xr25, hxr25, hmxr25, hkxr25⟩ : ∃ a : Nat, tw_fv E a0 19 = .ref a ∧ a ∈ L ∧ kp a = 319 := hv
              rw [hxr25]
              refine lv_iload_n hx hb dX12_placeOf_62 rfl (lv_at hl 3 rfl) ?_
              refine tw_aald (k := 319) (t0 := 4) (n := 16) (lo := 329) (hi := 0) (ty := .int) hx hb hK TH hmxr25 hkxr25 (by decide) rfl rfl (i := x1) (vp_in_iff.mpr ⟨by  omega, by  omega⟩) dX12_placeOf_63 (fun xr26 exr26 hmxr26 hkxr26 => ?_)
              have hkxr26 : kp xr26 = 329 := hkxr26
              refine lv_iload hx hb dX12_placeOf_64 (lv_at hl 0 rfl) ?_
              refine tw_iald (k := 329) (t0 := 0) (n := 150) (lo := (-2147483648)) (hi := 2147483647) hx hb hK TH hmxr26 hkxr26 (by decide) rfl rfl (i := y5_4) (vp_in_iff.mpr ⟨by  omega, by  omega⟩) dX12_placeOf_66 (fun hxe27a hxe27b => ?_)
              obtain ⟨xe27, exe27⟩ : ∃ z : Int32, tw_iv E xr26 (Int32.toNatClampNeg y5_4) = z := ⟨_, rfl⟩
              rw [exe27] at hxe27a hxe27b ⊢
              refine lv_aload_n hx hb dX12_placeOf_67 rfl (lv_at hl 2 rfl) ?_
              refine tw_get (ci := 12) (C := RX12) (T := TX12) (N := 64) hx hb hB cx_inX12 hown hK TH hm0 hk0 rfl ⟨by decide, rfl⟩ 19 (by decide) cw_1212 (fun _ h9 => h9) dX12_placeOf_68 (fun hv => ?_)
              rw [hxr25]
              refine lv_iload_n hx hb dX12_placeOf_71 rfl (lv_at hl 3 rfl) ?_
              refine tw_aald (k := 319) (t0 := 4) (n := 16) (lo := 329) (hi := 0) (ty := .int) hx hb hK TH hmxr25 hkxr25 (by decide) rfl rfl (i := x1) (vp_in_iff.mpr ⟨by  omega, by  omega⟩) dX12_placeOf_72 (fun xr28 exr28 hmxr28 hkxr28 => ?_)
              have ezxr28 : xr26 = xr28 := exr26.symm.trans exr28
              subst ezxr28
              refine lv_iload_n hx hb dX12_placeOf_73 rfl (lv_at hl 4 rfl) ?_
              refine tw_iald (k := 329) (t0 := 0) (n := 150) (lo := (-2147483648)) (hi := 2147483647) hx hb hK TH hmxr26 hkxr26 (by decide) rfl rfl (i := x2) (vp_in_iff.mpr ⟨by  omega, by  omega⟩) dX12_placeOf_74 (fun hxe29a hxe29b => ?_)
              obtain ⟨xe29, exe29⟩ : ∃ z : Int32, tw_iv E xr26 (Int32.toNatClampNeg x2) = z := ⟨_, rfl⟩
              rw [exe29] at hxe29a hxe29b ⊢
              refine lv_icmp_ge (tgt := 82) hx hb dX12_placeOf_75 (by decide) (fun hc30 => ?_) (fun hc30 => ?_)
              · have hf31 : xe29.toInt ≤ xe27.toInt := by have z := (fa_le _ _).mp hc30;  omega
                exact hJ82  _ _ ls  TH hS (lv_sub hl [0, 2, 3, 4] rfl)
              · have hf32 : ¬ (xe29.toInt ≤ xe27.toInt) := fun q => hc30 ((fa_le _ _).mpr (by  omega))
                refine lv_iconst (v := 1) hx hb dX12_placeOf_78 (by decide) ?_
                refine lv_goto (tgt := 83) hx hb dX12_placeOf_79 (by decide) ?_
                exact hJ83 (1 : Int32) _ _ ls (by have : ((1 : Int32).toInt) = 1 := (by decide); omega) (by have : ((1 : Int32).toInt) = 1 := (by decide); omega) TH hS (lv_sub hl [0, 2, 3, 4] rfl)
  exact hJ5 151 (0 : Int32) (0 : Int32) _ _ ls (by have : ((0 : Int32).toInt) = 0 := (by decide); omega) (by have : ((0 : Int32).toInt) = 0 := (by decide); omega) (by have : ((0 : Int32).toInt) = 0 := (by decide);  omega) TH hS (lv_sub hl [0, 1, 2, 3, 4] rfl)
set_option maxHeartbeats 4000000 in
set_option maxRecDepth 100000 in
theorem tX12_word (l : Launch) (D : va_G) (cs : Nat → ClassId) {kp : Nat → Nat} {L : List Nat} {E : Nat → va_E} (a0 : Nat) (x1 : Int32) (x2 : Int32) (hm0 : a0 ∈ L) (hk0 : kp a0 = 12) (sz : Nat) : Met l yX12_word (.code yX12_word cX12_word 3 (some .long) :: cx_big) { frames := 4, cells := 0, slots := 0, locals := 89 } (tw_P D cs kp L E [.ref a0, .int x1, .int x2] sz) (tw_Q D cs kp L (fun v kq Lq Eq => (∃ x : Int64, v = some (.long x)) ∧ kp = kq ∧ L = Lq ∧ E = Eq) (va_A (va_pl L E) sz)) 0 0 (va_A (va_pl L E) sz) := by
  refine tw_ofW (by decide) (Nat.le_of_ble_eq_true rfl) ?_
  intro p e s m below meth c A ls hx hb hr hml hB hown hlocks hK hN hA TH hS hl
  have hown : s.vm.findClass "TreeMergeModel" = some m.cls := hown
  have hl : lv_has ls 3 [(0, .ref a0), (1, .int x1), (2, .int x2)] := hl
  obtain ⟨kp0, ekp⟩ : ∃ z, z = kp := ⟨_, rfl⟩
  obtain ⟨L0, eL⟩ : ∃ z, z = L := ⟨_, rfl⟩
  rw [show tw_Q D cs kp L = tw_Q D cs kp0 L0 by rw [ekp, eL]]
  have hex : ∀ a : Nat, a ∈ L0 → a ∈ L ∧ kp a = kp0 a := fun a h => ⟨by rw [← eL]; exact h, by rw [ekp]⟩
  refine lv_aload_n hx hb dX12_word_0 rfl (lv_at hl 0 rfl) ?_
  refine lv_iload_n hx hb dX12_word_1 rfl (lv_at hl 1 rfl) ?_
  refine lv_iload_n hx hb dX12_word_2 rfl (lv_at hl 2 rfl) ?_
  refine tw_Vc (o := a0) (ci := 12) (n := 2) (post := (fun v kq Lq Eq => (∃ x : Int32, v = some (.int x) ∧ 0 ≤ x.toInt ∧ x.toInt ≤ 1 ∧ (x.toInt ≠ 0 → 0 ≤ x1.toInt ∧ x1.toInt ≤ 12 ∧ 0 ≤ x2.toInt ∧ x2.toInt ≤ 149)) ∧ kp = kq ∧ L = Lq ∧ E = Eq)) (As := [.int x1, .int x2]) (rest := []) ⟨hx, hb, hml, hown, hB⟩ (fun sz => tX12_isNode l D cs a0 x1 x2 hm0 hk0 sz) cg_12_548_X12_isNode rfl rfl (by decide +kernel) ⟨Nat.le_of_ble_eq_true rfl, Nat.le_of_ble_eq_true rfl⟩ hK hN TH hS hA rfl hm0 hk0 (by decide) rfl hl.1 rfl (Nat.le_of_ble_eq_true rfl) dX12_word_3 ⟨Nat.le_of_ble_eq_true rfl, Nat.le_of_ble_eq_true rfl⟩ (fun v1 kp1 L1 E1 H locs hq1 hx1 TH hS => ?_)
  obtain ⟨⟨xc2, rfl, hxc2a, hxc2b, hpoxc2_0⟩, rfl, rfl, rfl⟩ := hq1
  refine W.eq (g2 := F0 m 6 ls [.int xc2]) rfl ?_
  refine lv_if_eq (tgt := 20) hx hb dX12_word_6 (by decide) (fun hc3 => ?_) (fun hc3 => ?_)
  · have hf4 : xc2.toInt = 0 := by have z := (fa_eq _ _).mp hc3; have : ((0 : Int32).toInt) = 0 := (by decide); omega
    refine lv_lconst (v := 0) hx hb dX12_word_20 (by decide) ?_
    refine tw_topl (fun zl5 ezl5 => ?_)
    have hzl5 : zl5.toInt = 0 := by rw [ezl5]; decide
    exact tw_lret hx hb hr hlocks TH hS hex ⟨⟨_, rfl⟩, rfl, rfl, rfl⟩ (Nat.le_of_ble_eq_true rfl) (Nat.le_of_ble_eq_true rfl) dX12_word_21
  · have hf6 : ¬ (xc2.toInt = 0) := fun q => hc3 ((fa_eq _ _).mpr (by have : ((0 : Int32).toInt) = 0 := (by decide); omega))
    refine lv_aload_n hx hb dX12_word_9 rfl (lv_at hl 0 rfl) ?_
    refine tw_get (ci := 12) (C := RX12) (T := TX12) (N := 64) hx hb hB cx_inX12 hown hK TH hm0 hk0 rfl ⟨by decide, rfl⟩ 17 (by decide) cw_1210 (fun _ h9 => h9) dX12_word_10 (fun hv => ?_)
    obtain ⟨xr7, hxr7, hmxr7, hkxr7⟩ : ∃ a : Nat, tw_fv E a0 17 = .ref a ∧ a ∈ L ∧ kp a = 317 := hv
    rw [hxr7]
    refine lv_iload_n hx hb dX12_word_13 rfl (lv_at hl 1 rfl) ?_
    refine tw_aald (k := 317) (t0 := 6) (n := 16) (lo := 327) (hi := 0) (ty := .long) hx hb hK TH hmxr7 hkxr7 (by decide) rfl rfl (i := x1) (vp_in_iff.mpr ⟨by  omega, by  omega⟩) dX12_word_14 (fun xr8 exr8 hmxr8 hkxr8 => ?_)
    have hkxr8 : kp xr8 = 327 := hkxr8
    refine lv_iload_n hx hb dX12_word_15 rfl (lv_at hl 2 rfl) ?_
    refine tw_lald2 (k := 327) (n := 150) (lo := 0) (hi := 0) hx hb hK TH hmxr8 hkxr8 (by decide) rfl (i := x2) (vp_in_iff.mpr ⟨by  omega, by  omega⟩) dX12_word_16 (fun xl9 exl9 => ?_)
    refine lv_goto (tgt := 21) hx hb dX12_word_17 (by decide) ?_
    exact tw_lret hx hb hr hlocks TH hS hex ⟨⟨_, rfl⟩, rfl, rfl, rfl⟩ (Nat.le_of_ble_eq_true rfl) (Nat.le_of_ble_eq_true rfl) dX12_word_21
set_option maxHeartbeats 4000000 in
set_option maxRecDepth 100000 in
theorem tX12_writer (l : Launch) (D : va_G) (cs : Nat → ClassId) {kp : Nat → Nat} {L : List Nat} {E : Nat → va_E} (a0 : Nat) (x1 : Int32) (hm0 : a0 ∈ L) (hk0 : kp a0 = 12) (sz : Nat) : Met l yX12_writer (.code yX12_writer cX12_writer 2 (some .int) :: cx_big) { frames := 1, cells := 0, slots := 0, locals := 25 } (tw_P D cs kp L E [.ref a0, .int x1] sz) (tw_Q D cs kp L (fun v kq Lq Eq => (∃ x : Int32, v = some (.int x)) ∧ kp = kq ∧ L = Lq ∧ E = Eq) (va_A (va_pl L E) sz)) 0 0 (va_A (va_pl L E) sz) := by
  refine tw_ofW (by decide) (Nat.le_of_ble_eq_true rfl) ?_
  intro p e s m below meth c A ls hx hb hr hml hB hown hlocks hK hN hA TH hS hl
  have hown : s.vm.findClass "TreeMergeModel" = some m.cls := hown
  have hl : lv_has ls 2 [(0, .ref a0), (1, .int x1)] := hl
  obtain ⟨kp0, ekp⟩ : ∃ z, z = kp := ⟨_, rfl⟩
  obtain ⟨L0, eL⟩ : ∃ z, z = L := ⟨_, rfl⟩
  rw [show tw_Q D cs kp L = tw_Q D cs kp0 L0 by rw [ekp, eL]]
  have hex : ∀ a : Nat, a ∈ L0 → a ∈ L ∧ kp a = kp0 a := fun a h => ⟨by rw [← eL]; exact h, by rw [ekp]⟩
  refine lv_iload_n hx hb dX12_writer_0 rfl (lv_at hl 1 rfl) ?_
  refine lv_i2l (v := (x1).toInt64) hx hb dX12_writer_1 rfl ?_
  refine tw_topl (fun zl1 ezl1 => ?_)
  have hzl1 : zl1.toInt = x1.toInt := by rw [ezl1];  exact (Int32.toInt_toInt64 _)
  refine lv_lconst (v := 0) hx hb dX12_writer_2 (by decide) ?_
  refine tw_topl (fun zl2 ezl2 => ?_)
  have hzl2 : zl2.toInt = 0 := by rw [ezl2]; decide
  refine lv_aload_n hx hb dX12_writer_3 rfl (lv_at hl 0 rfl) ?_
  refine tw_get (ci := 12) (C := RX12) (T := TX12) (N := 64) hx hb hB cx_inX12 hown hK TH hm0 hk0 rfl ⟨by decide, rfl⟩ 26 (by decide) cw_1219 (fun _ h9 => h9) dX12_writer_4 (fun hv => ?_)
  obtain ⟨xi3, hxi3, hxi3a, hxi3b⟩ : ∃ x : Int32, tw_fv E a0 26 = .int x ∧ 0 ≤ x.toInt ∧ x.toInt ≤ 150 := hv
  rw [hxi3]
  refine lv_iconst (v := 1) hx hb dX12_writer_7 (by decide) ?_
  refine lv_isub hx hb dX12_writer_8 ?_
  refine lv_topi (fun zi4 ezi4 => ?_)
  have hzi4 : zi4.toInt = xi3.toInt - 1 := by rw [ezi4]; have : ((1 : Int32).toInt) = 1 := (by decide); have := ia_lo xi3; have := ia_hi xi3; exact (ia_sub (by omega) (by omega)).trans (by omega)
  refine lv_i2l (v := (zi4).toInt64) hx hb dX12_writer_9 rfl ?_
  refine tw_topl (fun zl5 ezl5 => ?_)
  have hzl5 : zl5.toInt = zi4.toInt := by rw [ezl5];  exact (Int32.toInt_toInt64 _)
  refine tw_Sc (n := 3) (post := (fun v kq Lq Eq => (∃ x : Int32, v = some (.int x) ∧ 0 ≤ x.toInt ∧ x.toInt ≤ 1 ∧ (x.toInt ≠ 0 → zl2.toInt ≤ zl1.toInt ∧ zl1.toInt ≤ zl5.toInt)) ∧ kp = kq ∧ L = Lq ∧ E = Eq)) (As := [.long zl1, .long zl2, .long zl5]) (rest := []) ⟨hx, hb, hml, hown, hB⟩ (fun sz => tX12_in l D cs zl1 zl2 zl5  sz) cg_12_171_X12_in rfl rfl (by decide +kernel) ⟨Nat.le_of_ble_eq_true rfl, Nat.le_of_ble_eq_true rfl⟩ hK hN TH hS hA rfl hl.1 rfl (Nat.le_of_ble_eq_true rfl) dX12_writer_10 ⟨Nat.le_of_ble_eq_true rfl, Nat.le_of_ble_eq_true rfl⟩ (fun v6 kp6 L6 E6 H locs hq6 hx6 TH hS => ?_)
  obtain ⟨⟨xc7, rfl, hxc7a, hxc7b, hpoxc7_0⟩, rfl, rfl, rfl⟩ := hq6
  refine W.eq (g2 := F0 m 13 ls [.int xc7]) rfl ?_
  refine lv_if_eq (tgt := 25) hx hb dX12_writer_13 (by decide) (fun hc8 => ?_) (fun hc8 => ?_)
  · have hf9 : xc7.toInt = 0 := by have z := (fa_eq _ _).mp hc8; have : ((0 : Int32).toInt) = 0 := (by decide); omega
    refine lv_iconst (v := (-1)) hx hb dX12_writer_25 (by decide) ?_
    exact tw_iret hx hb hr hlocks TH hS hex ⟨⟨_, rfl⟩, rfl, rfl, rfl⟩ (Nat.le_of_ble_eq_true rfl) (Nat.le_of_ble_eq_true rfl) dX12_writer_26
  · have hf10 : ¬ (xc7.toInt = 0) := fun q => hc8 ((fa_eq _ _).mpr (by have : ((0 : Int32).toInt) = 0 := (by decide); omega))
    refine lv_aload_n hx hb dX12_writer_16 rfl (lv_at hl 0 rfl) ?_
    refine tw_get (ci := 12) (C := RX12) (T := TX12) (N := 64) hx hb hB cx_inX12 hown hK TH hm0 hk0 rfl ⟨by decide, rfl⟩ 21 (by decide) cw_1214 (fun _ h9 => h9) dX12_writer_17 (fun hv => ?_)
    obtain ⟨xr11, hxr11, hmxr11, hkxr11⟩ : ∃ a : Nat, tw_fv E a0 21 = .ref a ∧ a ∈ L ∧ kp a = 331 := hv
    rw [hxr11]
    refine lv_iload_n hx hb dX12_writer_20 rfl (lv_at hl 1 rfl) ?_
    refine tw_iald (k := 331) (t0 := 0) (n := 150) (lo := (-1)) (hi := 12) hx hb hK TH hmxr11 hkxr11 (by decide) rfl rfl (i := x1) (vp_in_iff.mpr ⟨by  omega, by  omega⟩) dX12_writer_21 (fun hxe12a hxe12b => ?_)
    obtain ⟨xe12, exe12⟩ : ∃ z : Int32, tw_iv E xr11 (Int32.toNatClampNeg x1) = z := ⟨_, rfl⟩
    rw [exe12] at hxe12a hxe12b ⊢
    refine lv_goto (tgt := 26) hx hb dX12_writer_22 (by decide) ?_
    exact tw_iret hx hb hr hlocks TH hS hex ⟨⟨_, rfl⟩, rfl, rfl, rfl⟩ (Nat.le_of_ble_eq_true rfl) (Nat.le_of_ble_eq_true rfl) dX12_writer_26
set_option maxHeartbeats 4000000 in
set_option maxRecDepth 100000 in
theorem tX12_prints (l : Launch) (D : va_G) (cs : Nat → ClassId) {kp : Nat → Nat} {L : List Nat} {E : Nat → va_E} (a0 : Nat) (x1 : Int32) (fv0_63 : Int32) (hm0 : a0 ∈ L) (hk0 : kp a0 = 12) (hfv0_63 : tw_fv E a0 63 = .int fv0_63) (hpre0 : fv0_63.toInt ≤ 20559) (sz : Nat) : Met l yX12_prints (.code yX12_prints cX12_prints 2 none :: cx_big) { frames := 0, cells := 0, slots := 0, locals := 0 } (tw_P D cs kp L E [.ref a0, .int x1] sz) (tw_Q D cs kp L (fun v kq Lq Eq => v = none ∧ kp = kq ∧ L = Lq ∧ tw_fr kp L [(12, 63)] [366] E Eq ∧ (∃ z0 : Int32, tw_fv Eq a0 63 = .int z0 ∧ (z0.toInt = fv0_63.toInt + 1))) (va_A (va_pl L E) sz)) 0 0 (va_A (va_pl L E) sz) := by
  refine tw_ofW (by decide) (Nat.le_of_ble_eq_true rfl) ?_
  intro p e s m below meth c A ls hx hb hr hml hB hown hlocks hK hN hA TH hS hl
  have hown : s.vm.findClass "TreeMergeModel" = some m.cls := hown
  have hl : lv_has ls 2 [(0, .ref a0), (1, .int x1)] := hl
  obtain ⟨kp0, ekp⟩ : ∃ z, z = kp := ⟨_, rfl⟩
  obtain ⟨L0, eL⟩ : ∃ z, z = L := ⟨_, rfl⟩
  rw [show tw_Q D cs kp L = tw_Q D cs kp0 L0 by rw [ekp, eL]]
  have hex : ∀ a : Nat, a ∈ L0 → a ∈ L ∧ kp a = kp0 a := fun a h => ⟨by rw [← eL]; exact h, by rw [ekp]⟩
  have hF : tw_fr kp L [(12, 63)] [366] E E := tw_fr.rf
  obtain ⟨qfv0_63, hqfv0_63, hqfv0_63a, hqfv0_63b⟩ := tw_rd TH hm0 hk0 (by decide) (by decide) (k := 63) rfl
  have eqfv0_63 : qfv0_63 = fv0_63 := by have q := hqfv0_63.symm.trans hfv0_63; injection q
  rw [eqfv0_63] at hqfv0_63a hqfv0_63b
  refine lv_aload_n hx hb dX12_prints_0 rfl (lv_at hl 0 rfl) ?_
  refine tw_get (ci := 12) (C := RX12) (T := TX12) (N := 64) hx hb hB cx_inX12 hown hK TH hm0 hk0 rfl ⟨by decide, rfl⟩ 62 (by decide) cw_1255 (fun _ h9 => h9) dX12_prints_1 (fun hv => ?_)
  obtain ⟨xr1, hxr1, hmxr1, hkxr1⟩ : ∃ a : Nat, tw_fv E a0 62 = .ref a ∧ a ∈ L ∧ kp a = 366 := hv
  rw [hxr1]
  refine lv_aload_n hx hb dX12_prints_4 rfl (lv_at hl 0 rfl) ?_
  refine tw_get (ci := 12) (C := RX12) (T := TX12) (N := 64) hx hb hB cx_inX12 hown hK TH hm0 hk0 rfl ⟨by decide, rfl⟩ 63 (by decide) cw_1256 (fun _ h9 => h9) dX12_prints_5 (fun hv => ?_)
  rw [hfv0_63]
  refine lv_iload_n hx hb dX12_prints_8 rfl (lv_at hl 1 rfl) ?_
  refine lv_i2b (v := (x1).toInt8.toInt32) hx hb dX12_prints_9 rfl ?_
  refine lv_topi (fun zi2 ezi2 => ?_)
  have hzi2 : -128 ≤ zi2.toInt ∧ zi2.toInt ≤ 127 := by rw [ezi2]; exact ia_i2b _
  refine tw_bast (k := 366) (n := 20560) (lo := (-128)) (hi := 127) hx hb hK TH hS hmxr1 hkxr1 (by decide) rfl (i := fv0_63) (x := zi2) (vp_in_iff.mpr ⟨by  omega, by  omega⟩) (by omega) (by omega) (by omega) (by omega) dX12_prints_10 (fun H locs E3 TH hS hp4 hp5 hp6 => ?_)
  have hst7 : tw_fr kp L [] [366] E E3 := tw_fr.ast tw_fr.rf (fun _ => hkxr1) hp4 hp5 (by decide)
  have hF := hF.tr hst7 (fun _ h => ⟨h, rfl⟩) (by decide) (by decide)
  have hmf8 : tw_fv E3 a0 63 = .int fv0_63 := (hst7.1 a0 63 hm0 (by rw [hk0]; decide)).trans hfv0_63
  have hmf9 : tw_fv E3 a0 62 = .ref xr1 := (hst7.1 a0 62 hm0 (by rw [hk0]; decide)).trans hxr1
  refine lv_aload_n hx hb dX12_prints_11 rfl (lv_at hl 0 rfl) ?_
  refine lv_dup hx hb dX12_prints_12 rfl ?_
  refine tw_get (ci := 12) (C := RX12) (T := TX12) (N := 64) hx hb hB cx_inX12 hown hK TH hm0 hk0 rfl ⟨by decide, rfl⟩ 63 (by decide) cw_1256 (fun _ h9 => h9) dX12_prints_13 (fun hv => ?_)
  rw [hmf8]
  refine lv_iconst (v := 1) hx hb dX12_prints_16 (by decide) ?_
  refine lv_iadd hx hb dX12_prints_17 ?_
  refine lv_topi (fun zi10 ezi10 => ?_)
  have hzi10 : zi10.toInt = fv0_63.toInt + 1 := by rw [ezi10]; have : ((1 : Int32).toInt) = 1 := (by decide); have := ia_lo fv0_63; have := ia_hi fv0_63; exact (ia_add (by omega) (by omega)).trans (by omega)
  refine tw_put (ci := 12) (v := .int zi10) (ty := .int) (C := RX12) (T := TX12) (N := 64) hx hb hB cx_inX12 tyX12 tyX12_ok nmX12 hown hK TH hS hm0 hk0 rfl ⟨by decide, rfl⟩ 63 (by decide) cw_1256 (fun _ h9 => h9) rfl (by decide +kernel) rfl rfl ⟨_, rfl, (show 0 ≤ Int32.toInt zi10 from by  omega), (show Int32.toInt zi10 ≤ 20560 from by  omega)⟩ dX12_prints_18 (fun H locs E11 TH hS hmf15 hp12 hp13 => ?_)
  have hst14 : tw_fr kp L [(12, 63)] [] E3 E11 := tw_fr.put tw_fr.rf (fun _ => hk0) (by decide) hp12 hp13 (by decide)
  have hF := hF.tr hst14 (fun _ h => ⟨h, rfl⟩) (by decide) (by decide)
  have hmf16 : tw_fv E11 a0 62 = .ref xr1 := (hst14.1 a0 62 hm0 (by rw [hk0]; decide)).trans hmf9
  exact tw_vret hx hb hr hlocks TH hS hex ⟨rfl, rfl, rfl, hF, ⟨zi10, hmf15, by  omega⟩⟩ (Nat.le_of_ble_eq_true rfl) (Nat.le_of_ble_eq_true rfl) dX12_prints_21
set_option maxHeartbeats 4000000 in
set_option maxRecDepth 100000 in
theorem tX12_parent (l : Launch) (D : va_G) (cs : Nat → ClassId) {kp : Nat → Nat} {L : List Nat} {E : Nat → va_E} (a0 : Nat) (x1 : Int32) (x2 : Int32) (hm0 : a0 ∈ L) (hk0 : kp a0 = 12) (sz : Nat) : Met l yX12_parent (.code yX12_parent cX12_parent 3 (some .int) :: cx_big) { frames := 2, cells := 0, slots := 0, locals := 46 } (tw_P D cs kp L E [.ref a0, .int x1, .int x2] sz) (tw_Q D cs kp L (fun v kq Lq Eq => (∃ x : Int32, v = some (.int x)) ∧ kp = kq ∧ L = Lq ∧ E = Eq) (va_A (va_pl L E) sz)) 0 0 (va_A (va_pl L E) sz) := by
  refine tw_ofW (by decide) (Nat.le_of_ble_eq_true rfl) ?_
  intro p e s m below meth c A ls hx hb hr hml hB hown hlocks hK hN hA TH hS hl
  have hown : s.vm.findClass "TreeMergeModel" = some m.cls := hown
  have hl : lv_has ls 3 [(0, .ref a0), (1, .int x1), (2, .int x2)] := hl
  obtain ⟨kp0, ekp⟩ : ∃ z, z = kp := ⟨_, rfl⟩
  obtain ⟨L0, eL⟩ : ∃ z, z = L := ⟨_, rfl⟩
  rw [show tw_Q D cs kp L = tw_Q D cs kp0 L0 by rw [ekp, eL]]
  have hex : ∀ a : Nat, a ∈ L0 → a ∈ L ∧ kp a = kp0 a := fun a h => ⟨by rw [← eL]; exact h, by rw [ekp]⟩
  refine lv_aload_n hx hb dX12_parent_0 rfl (lv_at hl 0 rfl) ?_
  refine lv_iload_n hx hb dX12_parent_1 rfl (lv_at hl 1 rfl) ?_
  obtain ⟨xi1, hxi1, hxi1a, hxi1b⟩ := tw_rd TH hm0 hk0 (by decide) (by decide) (k := 27) rfl
  refine tw_Vc (o := a0) (ci := 12) (n := 1) (post := (fun v kq Lq Eq => (∃ x : Int32, v = some (.int x) ∧ 0 ≤ x.toInt ∧ x.toInt ≤ 1 ∧ (x.toInt ≠ 0 → 0 ≤ x1.toInt ∧ x1.toInt < xi1.toInt)) ∧ kp = kq ∧ L = Lq ∧ E = Eq)) (As := [.int x1]) (rest := []) ⟨hx, hb, hml, hown, hB⟩ (fun sz => tX12_isEdition l D cs a0 x1 xi1 hm0 hk0 hxi1 sz) cg_12_396_X12_isEdition rfl rfl (by decide +kernel) ⟨Nat.le_of_ble_eq_true rfl, Nat.le_of_ble_eq_true rfl⟩ hK hN TH hS hA rfl hm0 hk0 (by decide) rfl hl.1 rfl (Nat.le_of_ble_eq_true rfl) dX12_parent_2 ⟨Nat.le_of_ble_eq_true rfl, Nat.le_of_ble_eq_true rfl⟩ (fun v2 kp2 L2 E2 H locs hq2 hx2 TH hS => ?_)
  obtain ⟨⟨xc3, rfl, hxc3a, hxc3b, hpoxc3_0⟩, rfl, rfl, rfl⟩ := hq2
  refine W.eq (g2 := F0 m 5 ls [.int xc3]) rfl ?_
  refine lv_if_eq (tgt := 18) hx hb dX12_parent_5 (by decide) (fun hc4 => ?_) (fun hc4 => ?_)
  · have hf5 : xc3.toInt = 0 := by have z := (fa_eq _ _).mp hc4; have : ((0 : Int32).toInt) = 0 := (by decide); omega
    refine lv_iconst (v := (-1)) hx hb dX12_parent_18 (by decide) ?_
    refine lv_goto (tgt := 41) hx hb dX12_parent_19 (by decide) ?_
    exact tw_iret hx hb hr hlocks TH hS hex ⟨⟨_, rfl⟩, rfl, rfl, rfl⟩ (Nat.le_of_ble_eq_true rfl) (Nat.le_of_ble_eq_true rfl) dX12_parent_41
  · have hf6 : ¬ (xc3.toInt = 0) := fun q => hc4 ((fa_eq _ _).mpr (by have : ((0 : Int32).toInt) = 0 := (by decide); omega))
    refine lv_iload_n hx hb dX12_parent_8 rfl (lv_at hl 2 rfl) ?_
    refine lv_i2l (v := (x2).toInt64) hx hb dX12_parent_9 rfl ?_
    refine tw_topl (fun zl7 ezl7 => ?_)
    have hzl7 : zl7.toInt = x2.toInt := by rw [ezl7];  exact (Int32.toInt_toInt64 _)
    refine lv_lconst (v := 0) hx hb dX12_parent_10 (by decide) ?_
    refine tw_topl (fun zl8 ezl8 => ?_)
    have hzl8 : zl8.toInt = 0 := by rw [ezl8]; decide
    refine lv_lconst (v := 1) hx hb dX12_parent_11 (by decide) ?_
    refine tw_topl (fun zl9 ezl9 => ?_)
    have hzl9 : zl9.toInt = 1 := by rw [ezl9]; decide
    refine tw_Sc (n := 3) (post := (fun v kq Lq Eq => (∃ x : Int32, v = some (.int x) ∧ 0 ≤ x.toInt ∧ x.toInt ≤ 1 ∧ (x.toInt ≠ 0 → zl8.toInt ≤ zl7.toInt ∧ zl7.toInt ≤ zl9.toInt)) ∧ kp = kq ∧ L = Lq ∧ E = Eq)) (As := [.long zl7, .long zl8, .long zl9]) (rest := []) ⟨hx, hb, hml, hown, hB⟩ (fun sz => tX12_in l D cs zl7 zl8 zl9  sz) cg_12_171_X12_in rfl rfl (by decide +kernel) ⟨Nat.le_of_ble_eq_true rfl, Nat.le_of_ble_eq_true rfl⟩ hK hN TH hS hA rfl hl.1 rfl (Nat.le_of_ble_eq_true rfl) dX12_parent_12 ⟨Nat.le_of_ble_eq_true rfl, Nat.le_of_ble_eq_true rfl⟩ (fun v10 kp10 L10 E10 H locs hq10 hx10 TH hS => ?_)
    obtain ⟨⟨xc11, rfl, hxc11a, hxc11b, hpoxc11_0⟩, rfl, rfl, rfl⟩ := hq10
    refine W.eq (g2 := F0 m 15 ls [.int xc11]) rfl ?_
    refine lv_if_ne (tgt := 22) hx hb dX12_parent_15 (by decide) (fun hc12 => ?_) (fun hc12 => ?_)
    · have hf13 : ¬ (xc11.toInt = 0) := fun q => hc12 ((fa_eq _ _).mpr (by have : ((0 : Int32).toInt) = 0 := (by decide); omega))
      refine lv_iload_n hx hb dX12_parent_22 rfl (lv_at hl 2 rfl) ?_
      refine lv_if_ne (tgt := 35) hx hb dX12_parent_23 (by decide) (fun hc14 => ?_) (fun hc14 => ?_)
      · have hf15 : ¬ (x2.toInt = 0) := fun q => hc14 ((fa_eq _ _).mpr (by have : ((0 : Int32).toInt) = 0 := (by decide); omega))
        refine lv_aload_n hx hb dX12_parent_35 rfl (lv_at hl 0 rfl) ?_
        refine tw_get (ci := 12) (C := RX12) (T := TX12) (N := 64) hx hb hB cx_inX12 hown hK TH hm0 hk0 rfl ⟨by decide, rfl⟩ 25 (by decide) cw_1218 (fun _ h9 => h9) dX12_parent_36 (fun hv => ?_)
        obtain ⟨xr16, hxr16, hmxr16, hkxr16⟩ : ∃ a : Nat, tw_fv E a0 25 = .ref a ∧ a ∈ L ∧ kp a = 335 := hv
        rw [hxr16]
        refine lv_iload_n hx hb dX12_parent_39 rfl (lv_at hl 1 rfl) ?_
        refine tw_iald (k := 335) (t0 := 0) (n := 12) (lo := (-1)) (hi := 11) hx hb hK TH hmxr16 hkxr16 (by decide) rfl rfl (i := x1) (vp_in_iff.mpr ⟨by  omega, by  omega⟩) dX12_parent_40 (fun hxe17a hxe17b => ?_)
        obtain ⟨xe17, exe17⟩ : ∃ z : Int32, tw_iv E xr16 (Int32.toNatClampNeg x1) = z := ⟨_, rfl⟩
        rw [exe17] at hxe17a hxe17b ⊢
        exact tw_iret hx hb hr hlocks TH hS hex ⟨⟨_, rfl⟩, rfl, rfl, rfl⟩ (Nat.le_of_ble_eq_true rfl) (Nat.le_of_ble_eq_true rfl) dX12_parent_41
      · have hf18 : x2.toInt = 0 := by have z := (fa_eq _ _).mp hc14; have : ((0 : Int32).toInt) = 0 := (by decide); omega
        refine lv_aload_n hx hb dX12_parent_26 rfl (lv_at hl 0 rfl) ?_
        refine tw_get (ci := 12) (C := RX12) (T := TX12) (N := 64) hx hb hB cx_inX12 hown hK TH hm0 hk0 rfl ⟨by decide, rfl⟩ 24 (by decide) cw_1217 (fun _ h9 => h9) dX12_parent_27 (fun hv => ?_)
        obtain ⟨xr19, hxr19, hmxr19, hkxr19⟩ : ∃ a : Nat, tw_fv E a0 24 = .ref a ∧ a ∈ L ∧ kp a = 334 := hv
        rw [hxr19]
        refine lv_iload_n hx hb dX12_parent_30 rfl (lv_at hl 1 rfl) ?_
        refine tw_iald (k := 334) (t0 := 0) (n := 12) (lo := (-1)) (hi := 11) hx hb hK TH hmxr19 hkxr19 (by decide) rfl rfl (i := x1) (vp_in_iff.mpr ⟨by  omega, by  omega⟩) dX12_parent_31 (fun hxe20a hxe20b => ?_)
        obtain ⟨xe20, exe20⟩ : ∃ z : Int32, tw_iv E xr19 (Int32.toNatClampNeg x1) = z := ⟨_, rfl⟩
        rw [exe20] at hxe20a hxe20b ⊢
        refine lv_goto (tgt := 41) hx hb dX12_parent_32 (by decide) ?_
        exact tw_iret hx hb hr hlocks TH hS hex ⟨⟨_, rfl⟩, rfl, rfl, rfl⟩ (Nat.le_of_ble_eq_true rfl) (Nat.le_of_ble_eq_true rfl) dX12_parent_41
    · have hf21 : xc11.toInt = 0 := by have z := (fa_eq _ _).mp hc12; have : ((0 : Int32).toInt) = 0 := (by decide); omega
      refine lv_iconst (v := (-1)) hx hb dX12_parent_18 (by decide) ?_
      refine lv_goto (tgt := 41) hx hb dX12_parent_19 (by decide) ?_
      exact tw_iret hx hb hr hlocks TH hS hex ⟨⟨_, rfl⟩, rfl, rfl, rfl⟩ (Nat.le_of_ble_eq_true rfl) (Nat.le_of_ble_eq_true rfl) dX12_parent_41
set_option maxHeartbeats 4000000 in
set_option maxRecDepth 100000 in
theorem tX12_count (l : Launch) (D : va_G) (cs : Nat → ClassId) {kp : Nat → Nat} {L : List Nat} {E : Nat → va_E} (a0 : Nat) (x1 : Int32) (hm0 : a0 ∈ L) (hk0 : kp a0 = 12) (sz : Nat) : Met l yX12_count (.code yX12_count cX12_count 2 (some .int) :: cx_big) { frames := 0, cells := 0, slots := 0, locals := 0 } (tw_P D cs kp L E [.ref a0, .int x1] sz) (tw_Q D cs kp L (fun v kq Lq Eq => (∃ x : Int32, v = some (.int x)) ∧ kp = kq ∧ L = Lq ∧ E = Eq) (va_A (va_pl L E) sz)) 0 0 (va_A (va_pl L E) sz) := by
  refine tw_ofW (by decide) (Nat.le_of_ble_eq_true rfl) ?_
  intro p e s m below meth c A ls hx hb hr hml hB hown hlocks hK hN hA TH hS hl
  have hown : s.vm.findClass "TreeMergeModel" = some m.cls := hown
  have hl : lv_has ls 2 [(0, .ref a0), (1, .int x1)] := hl
  obtain ⟨kp0, ekp⟩ : ∃ z, z = kp := ⟨_, rfl⟩
  obtain ⟨L0, eL⟩ : ∃ z, z = L := ⟨_, rfl⟩
  rw [show tw_Q D cs kp L = tw_Q D cs kp0 L0 by rw [ekp, eL]]
  have hex : ∀ a : Nat, a ∈ L0 → a ∈ L ∧ kp a = kp0 a := fun a h => ⟨by rw [← eL]; exact h, by rw [ekp]⟩
  refine lv_iload_n hx hb dX12_count_0 rfl (lv_at hl 1 rfl) ?_
  by_cases hc1_0 : x1 = 0
  · refine lv_tableIn (x := x1) (off := 39) (tgt := 40) hx hb dX12_count_1 (by rw [hc1_0]; decide) (by rw [hc1_0]; decide) (by rw [hc1_0]; decide) (by decide) ?_
    refine lv_aload_n hx hb dX12_count_40 rfl (lv_at hl 0 rfl) ?_
    refine tw_get (ci := 12) (C := RX12) (T := TX12) (N := 64) hx hb hB cx_inX12 hown hK TH hm0 hk0 rfl ⟨by decide, rfl⟩ 14 (by decide) cw_1207 (fun _ h9 => h9) dX12_count_41 (fun hv => ?_)
    obtain ⟨xi2, hxi2, hxi2a, hxi2b⟩ : ∃ x : Int32, tw_fv E a0 14 = .int x ∧ 0 ≤ x.toInt ∧ x.toInt ≤ 10 := hv
    rw [hxi2]
    exact tw_iret hx hb hr hlocks TH hS hex ⟨⟨_, rfl⟩, rfl, rfl, rfl⟩ (Nat.le_of_ble_eq_true rfl) (Nat.le_of_ble_eq_true rfl) dX12_count_44
  by_cases hc1_1 : x1 = 1
  · refine lv_tableIn (x := x1) (off := 44) (tgt := 45) hx hb dX12_count_1 (by rw [hc1_1]; decide) (by rw [hc1_1]; decide) (by rw [hc1_1]; decide) (by decide) ?_
    refine lv_aload_n hx hb dX12_count_45 rfl (lv_at hl 0 rfl) ?_
    refine tw_get (ci := 12) (C := RX12) (T := TX12) (N := 64) hx hb hB cx_inX12 hown hK TH hm0 hk0 rfl ⟨by decide, rfl⟩ 27 (by decide) cw_1220 (fun _ h9 => h9) dX12_count_46 (fun hv => ?_)
    obtain ⟨xi3, hxi3, hxi3a, hxi3b⟩ : ∃ x : Int32, tw_fv E a0 27 = .int x ∧ 0 ≤ x.toInt ∧ x.toInt ≤ 12 := hv
    rw [hxi3]
    exact tw_iret hx hb hr hlocks TH hS hex ⟨⟨_, rfl⟩, rfl, rfl, rfl⟩ (Nat.le_of_ble_eq_true rfl) (Nat.le_of_ble_eq_true rfl) dX12_count_49
  by_cases hc1_2 : x1 = 2
  · refine lv_tableIn (x := x1) (off := 49) (tgt := 50) hx hb dX12_count_1 (by rw [hc1_2]; decide) (by rw [hc1_2]; decide) (by rw [hc1_2]; decide) (by decide) ?_
    refine lv_aload_n hx hb dX12_count_50 rfl (lv_at hl 0 rfl) ?_
    refine tw_get (ci := 12) (C := RX12) (T := TX12) (N := 64) hx hb hB cx_inX12 hown hK TH hm0 hk0 rfl ⟨by decide, rfl⟩ 26 (by decide) cw_1219 (fun _ h9 => h9) dX12_count_51 (fun hv => ?_)
    obtain ⟨xi4, hxi4, hxi4a, hxi4b⟩ : ∃ x : Int32, tw_fv E a0 26 = .int x ∧ 0 ≤ x.toInt ∧ x.toInt ≤ 150 := hv
    rw [hxi4]
    exact tw_iret hx hb hr hlocks TH hS hex ⟨⟨_, rfl⟩, rfl, rfl, rfl⟩ (Nat.le_of_ble_eq_true rfl) (Nat.le_of_ble_eq_true rfl) dX12_count_54
  by_cases hc1_3 : x1 = 3
  · refine lv_tableIn (x := x1) (off := 54) (tgt := 55) hx hb dX12_count_1 (by rw [hc1_3]; decide) (by rw [hc1_3]; decide) (by rw [hc1_3]; decide) (by decide) ?_
    refine lv_aload_n hx hb dX12_count_55 rfl (lv_at hl 0 rfl) ?_
    refine tw_get (ci := 12) (C := RX12) (T := TX12) (N := 64) hx hb hB cx_inX12 hown hK TH hm0 hk0 rfl ⟨by decide, rfl⟩ 1 (by decide) cw_1194 (fun _ h9 => h9) dX12_count_56 (fun hv => ?_)
    obtain ⟨xi5, hxi5, hxi5a, hxi5b⟩ : ∃ x : Int32, tw_fv E a0 1 = .int x ∧ 0 ≤ x.toInt ∧ x.toInt ≤ 500 := hv
    rw [hxi5]
    exact tw_iret hx hb hr hlocks TH hS hex ⟨⟨_, rfl⟩, rfl, rfl, rfl⟩ (Nat.le_of_ble_eq_true rfl) (Nat.le_of_ble_eq_true rfl) dX12_count_59
  by_cases hc1_4 : x1 = 4
  · refine lv_tableIn (x := x1) (off := 59) (tgt := 60) hx hb dX12_count_1 (by rw [hc1_4]; decide) (by rw [hc1_4]; decide) (by rw [hc1_4]; decide) (by decide) ?_
    refine lv_aload_n hx hb dX12_count_60 rfl (lv_at hl 0 rfl) ?_
    refine tw_get (ci := 12) (C := RX12) (T := TX12) (N := 64) hx hb hB cx_inX12 hown hK TH hm0 hk0 rfl ⟨by decide, rfl⟩ 29 (by decide) cw_1222 (fun _ h9 => h9) dX12_count_61 (fun hv => ?_)
    obtain ⟨xi6, hxi6, hxi6a, hxi6b⟩ : ∃ x : Int32, tw_fv E a0 29 = .int x ∧ 0 ≤ x.toInt ∧ x.toInt ≤ 1 := hv
    rw [hxi6]
    refine lv_if_eq (tgt := 71) hx hb dX12_count_64 (by decide) (fun hc7 => ?_) (fun hc7 => ?_)
    · have hf8 : xi6.toInt = 0 := by have z := (fa_eq _ _).mp hc7; have : ((0 : Int32).toInt) = 0 := (by decide); omega
      refine lv_iconst (v := 0) hx hb dX12_count_71 (by decide) ?_
      exact tw_iret hx hb hr hlocks TH hS hex ⟨⟨_, rfl⟩, rfl, rfl, rfl⟩ (Nat.le_of_ble_eq_true rfl) (Nat.le_of_ble_eq_true rfl) dX12_count_72
    · have hf9 : ¬ (xi6.toInt = 0) := fun q => hc7 ((fa_eq _ _).mpr (by have : ((0 : Int32).toInt) = 0 := (by decide); omega))
      refine lv_iconst (v := 1) hx hb dX12_count_67 (by decide) ?_
      refine lv_goto (tgt := 72) hx hb dX12_count_68 (by decide) ?_
      exact tw_iret hx hb hr hlocks TH hS hex ⟨⟨_, rfl⟩, rfl, rfl, rfl⟩ (Nat.le_of_ble_eq_true rfl) (Nat.le_of_ble_eq_true rfl) dX12_count_72
  by_cases hc1_5 : x1 = 5
  · refine lv_tableIn (x := x1) (off := 72) (tgt := 73) hx hb dX12_count_1 (by rw [hc1_5]; decide) (by rw [hc1_5]; decide) (by rw [hc1_5]; decide) (by decide) ?_
    refine lv_aload_n hx hb dX12_count_73 rfl (lv_at hl 0 rfl) ?_
    refine tw_get (ci := 12) (C := RX12) (T := TX12) (N := 64) hx hb hB cx_inX12 hown hK TH hm0 hk0 rfl ⟨by decide, rfl⟩ 58 (by decide) cw_1251 (fun _ h9 => h9) dX12_count_74 (fun hv => ?_)
    obtain ⟨xi10, hxi10, hxi10a, hxi10b⟩ : ∃ x : Int32, tw_fv E a0 58 = .int x ∧ 0 ≤ x.toInt ∧ x.toInt ≤ 450 := hv
    rw [hxi10]
    exact tw_iret hx hb hr hlocks TH hS hex ⟨⟨_, rfl⟩, rfl, rfl, rfl⟩ (Nat.le_of_ble_eq_true rfl) (Nat.le_of_ble_eq_true rfl) dX12_count_77
  have hout : x1.toInt < 0 ∨ 5 < x1.toInt := by simp only [fa_eq] at hc1_0 hc1_1 hc1_2 hc1_3 hc1_4 hc1_5; have : ((0 : Int32).toInt) = 0 := (by decide); have : ((1 : Int32).toInt) = 1 := (by decide); have : ((2 : Int32).toInt) = 2 := (by decide); have : ((3 : Int32).toInt) = 3 := (by decide); have : ((4 : Int32).toInt) = 4 := (by decide); have : ((5 : Int32).toInt) = 5 := (by decide); omega
  refine lv_tableOut (tgt := 78) hx hb dX12_count_1 hout (by decide) ?_
  refine lv_iconst (v := (-1)) hx hb dX12_count_78 (by decide) ?_
  exact tw_iret hx hb hr hlocks TH hS hex ⟨⟨_, rfl⟩, rfl, rfl, rfl⟩ (Nat.le_of_ble_eq_true rfl) (Nat.le_of_ble_eq_true rfl) dX12_count_79
set_option maxHeartbeats 4000000 in
set_option maxRecDepth 100000 in
theorem tX12_orders (l : Launch) (D : va_G) (cs : Nat → ClassId) {kp : Nat → Nat} {L : List Nat} {E : Nat → va_E} (a0 : Nat) (x1 : Int32) (hm0 : a0 ∈ L) (hk0 : kp a0 = 12) (hp1a : 0 ≤ x1.toInt) (hp1b : x1.toInt ≤ 15) (hg0 : ht_ok E a0) (hg1 : t1_ok E a0 (x1.toInt)) (sz : Nat) : Met l yX12_orders (.code yX12_orders cX12_orders 5 none :: cx_big) { frames := 3, cells := 0, slots := 0, locals := 74 } (tw_P D cs kp L E [.ref a0, .int x1] sz) (tw_Q D cs kp L (fun v kq Lq Eq => v = none ∧ kp = kq ∧ L = Lq ∧ tw_fr kp L [] [329] E Eq ∧ ht_ok Eq a0 ∧ t1_ok Eq a0 (x1.toInt)) (va_A (va_pl L E) sz)) 0 0 (va_A (va_pl L E) sz) := by
  refine tw_ofW (by decide) (Nat.le_of_ble_eq_true rfl) ?_
  intro p e s m below meth c A ls hx hb hr hml hB hown hlocks hK hN hA TH hS hl
  have hown : s.vm.findClass "TreeMergeModel" = some m.cls := hown
  have hl : lv_has ls 5 [(0, .ref a0), (1, .int x1)] := hl
  obtain ⟨kp0, ekp⟩ : ∃ z, z = kp := ⟨_, rfl⟩
  obtain ⟨L0, eL⟩ : ∃ z, z = L := ⟨_, rfl⟩
  rw [show tw_Q D cs kp L = tw_Q D cs kp0 L0 by rw [ekp, eL]]
  have hex : ∀ a : Nat, a ∈ L0 → a ∈ L ∧ kp a = kp0 a := fun a h => ⟨by rw [← eL]; exact h, by rw [ekp]⟩
  have hF : tw_fr kp L [] [329] E E := tw_fr.rf
  refine lv_iconst (v := 0) hx hb dX12_orders_0 (by decide) ?_
  refine lv_istore_n (lv' := [(2, .int 0), (0, .ref a0), (1, .int x1)]) hx hb dX12_orders_1 rfl hl (by decide) rfl (fun ls hl => ?_)
  have hJ2 : ∀ (n2 : Nat) (y2_2 : Int32) (Eg2 : Nat → va_E) (H : Heap) (locs : List Loc) (ls : Array Slot), 0 ≤ y2_2.toInt → y2_2.toInt ≤ 150 → 150 - y2_2.toInt ≤ (n2 : Int) → tw_fr kp L [] [329] E Eg2 → ht_ok Eg2 a0 → t1_ok Eg2 a0 (x1.toInt) → tw_H D cs kp L Eg2 A H → va_S A s.heap H locs → lv_has ls 5 [(2, .int y2_2), (0, .ref a0), (1, .int x1)] → W p l e { frames := 3, cells := 0, slots := 0, locals := 74 } s m [.ref a0, .int x1].toArray below meth c H locs 0 0 (MQ below (tw_Q D cs kp0 L0 (fun v kq Lq Eq => v = none ∧ kp = kq ∧ L = Lq ∧ tw_fr kp L [] [329] E Eq ∧ ht_ok Eq a0 ∧ t1_ok Eq a0 (x1.toInt)) A) [.ref a0, .int x1].toArray s 0 0 A) (F0 m 2 ls []) := by
    intro n2
    induction n2 using Nat.strongRecOn with
    | _ n2 ih2 =>
      intro y2_2 Eg2 H locs ls hy2_2a hy2_2b hmeas2 hG2 hg0 hg1 TH hS hl
      have hF := hF.tr hG2 (fun _ h => ⟨h, rfl⟩) (by decide) (by decide)
      refine lv_iload_n hx hb dX12_orders_2 rfl (lv_at hl 0 rfl) ?_
      refine lv_sipush (v := 150) hx hb dX12_orders_3 (by decide) ?_
      refine lv_icmp_ge (tgt := 148) hx hb dX12_orders_6 (by decide) (fun hc1 => ?_) (fun hc1 => ?_)
      · have hf2 : 150 ≤ y2_2.toInt := by have z := (fa_le _ _).mp hc1; have : ((150 : Int32).toInt) = 150 := (by decide); omega
        exact tw_vret hx hb hr hlocks TH hS hex ⟨rfl, rfl, rfl, hF, hg0, (t1_ok_cast (by  omega) hg1)⟩ (Nat.le_of_ble_eq_true rfl) (Nat.le_of_ble_eq_true rfl) dX12_orders_148
      · have hf3 : ¬ (150 ≤ y2_2.toInt) := fun q => hc1 ((fa_le _ _).mpr (by have : ((150 : Int32).toInt) = 150 := (by decide); omega))
        refine lv_aload_n hx hb dX12_orders_9 rfl (lv_at hl 1 rfl) ?_
        refine tw_get (ci := 12) (C := RX12) (T := TX12) (N := 64) hx hb hB cx_inX12 hown hK TH hm0 hk0 rfl ⟨by decide, rfl⟩ 16 (by decide) cw_1209 (fun _ h9 => h9) dX12_orders_10 (fun hv => ?_)
        obtain ⟨xr4, hxr4, hmxr4, hkxr4⟩ : ∃ a : Nat, tw_fv Eg2 a0 16 = .ref a ∧ a ∈ L ∧ kp a = 316 := hv
        rw [hxr4]
        refine lv_iload_n hx hb dX12_orders_13 rfl (lv_at hl 2 rfl) ?_
        refine tw_aald (k := 316) (t0 := 5) (n := 16) (lo := 326) (hi := 0) (ty := .boolean) hx hb hK TH hmxr4 hkxr4 (by decide) rfl rfl (i := x1) (vp_in_iff.mpr ⟨by  omega, by  omega⟩) dX12_orders_14 (fun xr5 exr5 hmxr5 hkxr5 => ?_)
        have hkxr5 : kp xr5 = 326 := hkxr5
        refine lv_iload_n hx hb dX12_orders_15 rfl (lv_at hl 0 rfl) ?_
        refine tw_zald (k := 326) (t0 := 3) (n := 150) (lo := 0) (hi := 1) hx hb hK TH hmxr5 hkxr5 (by decide) rfl rfl (i := y2_2) (vp_in_iff.mpr ⟨by  omega, by  omega⟩) dX12_orders_16 (fun hxe6a hxe6b => ?_)
        obtain ⟨xe6, exe6⟩ : ∃ z : Int32, tw_iv Eg2 xr5 (Int32.toNatClampNeg y2_2) = z := ⟨_, rfl⟩
        rw [exe6] at hxe6a hxe6b ⊢
        have hJ142 : ∀  (Eg142 : Nat → va_E) (H : Heap) (locs : List Loc) (ls : Array Slot), tw_fr kp L [] [329] Eg2 Eg142 → ht_ok Eg142 a0 → t1_ok Eg142 a0 (x1.toInt) → tw_H D cs kp L Eg142 A H → va_S A s.heap H locs → lv_has ls 5 [(2, .int y2_2), (0, .ref a0), (1, .int x1)] → W p l e { frames := 3, cells := 0, slots := 0, locals := 74 } s m [.ref a0, .int x1].toArray below meth c H locs 0 0 (MQ below (tw_Q D cs kp0 L0 (fun v kq Lq Eq => v = none ∧ kp = kq ∧ L = Lq ∧ tw_fr kp L [] [329] E Eq ∧ ht_ok Eq a0 ∧ t1_ok Eq a0 (x1.toInt)) A) [.ref a0, .int x1].toArray s 0 0 A) (F0 m 142 ls []) := by
          intro Eg142 H locs ls hG142 hg0 hg1 TH hS hl
          have hF := hF.tr hG142 (fun _ h => ⟨h, rfl⟩) (by decide) (by decide)
          have hG2 := hG2.tr hG142 (fun _ h => ⟨h, rfl⟩) (by decide) (by decide)
          have hmf7 : tw_fv Eg142 a0 16 = .ref xr4 := (hG142.1 a0 16 hm0 (by rw [hk0]; decide)).trans hxr4
          obtain ⟨zi8, ezi8⟩ : ∃ z : Int32, z = y2_2 + Int32.ofInt 1 := ⟨_, rfl⟩
          have hzi8 : zi8.toInt = y2_2.toInt + 1 := by rw [ezi8]; have : ((Int32.ofInt 1).toInt) = 1 := (by decide);  exact (ia_add (by omega) (by omega)).trans (by omega)
          refine lv_iinc (v := zi8) (lv' := [(2, .int zi8), (0, .ref a0), (1, .int x1)]) hx hb dX12_orders_142 hl (k := 0) rfl ezi8.symm (by decide) rfl (fun ls hl => ?_)
          refine lv_goto (tgt := 2) hx hb dX12_orders_145 (by decide) ?_
          exact ih2 (n2 - 1) (by   omega) zi8 _ _ _ ls (by omega) (by omega) (by   omega) hG2 hg0 hg1 TH hS (lv_sub hl [0, 1, 2] rfl)
        have hG142 : tw_fr kp L [] [329] Eg2 Eg2 := tw_fr.rf
        refine lv_if_eq (tgt := 142) hx hb dX12_orders_17 (by decide) (fun hc9 => ?_) (fun hc9 => ?_)
        · have hf10 : xe6.toInt = 0 := by have z := (fa_eq _ _).mp hc9; have : ((0 : Int32).toInt) = 0 := (by decide); omega
          exact hJ142  _ _ _ ls hG142 hg0 hg1 TH hS (lv_sub hl [0, 1, 2] rfl)
        · have hf11 : ¬ (xe6.toInt = 0) := fun q => hc9 ((fa_eq _ _).mpr (by have : ((0 : Int32).toInt) = 0 := (by decide); omega))
          refine lv_aload_n hx hb dX12_orders_20 rfl (lv_at hl 1 rfl) ?_
          refine tw_get (ci := 12) (C := RX12) (T := TX12) (N := 64) hx hb hB cx_inX12 hown hK TH hm0 hk0 rfl ⟨by decide, rfl⟩ 18 (by decide) cw_1211 (fun _ h9 => h9) dX12_orders_21 (fun hv => ?_)
          obtain ⟨xr12, hxr12, hmxr12, hkxr12⟩ : ∃ a : Nat, tw_fv Eg2 a0 18 = .ref a ∧ a ∈ L ∧ kp a = 318 := hv
          rw [hxr12]
          refine lv_iload_n hx hb dX12_orders_24 rfl (lv_at hl 2 rfl) ?_
          refine tw_aald (k := 318) (t0 := 4) (n := 16) (lo := 328) (hi := 0) (ty := .int) hx hb hK TH hmxr12 hkxr12 (by decide) rfl rfl (i := x1) (vp_in_iff.mpr ⟨by  omega, by  omega⟩) dX12_orders_25 (fun xr13 exr13 hmxr13 hkxr13 => ?_)
          have hkxr13 : kp xr13 = 328 := hkxr13
          refine lv_iload_n hx hb dX12_orders_26 rfl (lv_at hl 0 rfl) ?_
          refine tw_iald (k := 328) (t0 := 0) (n := 150) (lo := (-1)) (hi := 149) hx hb hK TH hmxr13 hkxr13 (by decide) rfl rfl (i := y2_2) (vp_in_iff.mpr ⟨by  omega, by  omega⟩) dX12_orders_27 (fun hxe14a hxe14b => ?_)
          obtain ⟨xe14, exe14⟩ : ∃ z : Int32, tw_iv Eg2 xr13 (Int32.toNatClampNeg y2_2) = z := ⟨_, rfl⟩
          rw [exe14] at hxe14a hxe14b ⊢
          refine lv_iconst (v := (-1)) hx hb dX12_orders_28 (by decide) ?_
          refine lv_icmp_eq (tgt := 142) hx hb dX12_orders_29 (by decide) (fun hc15 => ?_) (fun hc15 => ?_)
          · have hf16 : xe14.toInt = (-1) := by have z := (fa_eq _ _).mp hc15; have : (((-1) : Int32).toInt) = (-1) := (by decide); omega
            exact hJ142  _ _ _ ls hG142 hg0 hg1 TH hS (lv_sub hl [0, 1, 2] rfl)
          · have hf17 : ¬ (xe14.toInt = (-1)) := fun q => hc15 ((fa_eq _ _).mpr (by have : (((-1) : Int32).toInt) = (-1) := (by decide); omega))
            refine lv_aload_n hx hb dX12_orders_32 rfl (lv_at hl 1 rfl) ?_
            refine tw_get (ci := 12) (C := RX12) (T := TX12) (N := 64) hx hb hB cx_inX12 hown hK TH hm0 hk0 rfl ⟨by decide, rfl⟩ 33 (by decide) cw_1226 (fun _ h9 => h9) dX12_orders_33 (fun hv => ?_)
            obtain ⟨xr18, hxr18, hmxr18, hkxr18⟩ : ∃ a : Nat, tw_fv Eg2 a0 33 = .ref a ∧ a ∈ L ∧ kp a = 339 := hv
            rw [hxr18]
            refine lv_aload_n hx hb dX12_orders_36 rfl (lv_at hl 1 rfl) ?_
            refine lv_iload_n hx hb dX12_orders_37 rfl (lv_at hl 2 rfl) ?_
            refine lv_aload_n hx hb dX12_orders_38 rfl (lv_at hl 1 rfl) ?_
            refine tw_get (ci := 12) (C := RX12) (T := TX12) (N := 64) hx hb hB cx_inX12 hown hK TH hm0 hk0 rfl ⟨by decide, rfl⟩ 18 (by decide) cw_1211 (fun _ h9 => h9) dX12_orders_39 (fun hv => ?_)
            rw [hxr12]
            refine lv_iload_n hx hb dX12_orders_42 rfl (lv_at hl 2 rfl) ?_
            refine tw_aald (k := 318) (t0 := 4) (n := 16) (lo := 328) (hi := 0) (ty := .int) hx hb hK TH hmxr12 hkxr12 (by decide) rfl rfl (i := x1) (vp_in_iff.mpr ⟨by  omega, by  omega⟩) dX12_orders_43 (fun xr19 exr19 hmxr19 hkxr19 => ?_)
            have ezxr19 : xr13 = xr19 := exr13.symm.trans exr19
            subst ezxr19
            refine lv_iload_n hx hb dX12_orders_44 rfl (lv_at hl 0 rfl) ?_
            refine tw_iald (k := 328) (t0 := 0) (n := 150) (lo := (-1)) (hi := 149) hx hb hK TH hmxr13 hkxr13 (by decide) rfl rfl (i := y2_2) (vp_in_iff.mpr ⟨by  omega, by  omega⟩) dX12_orders_45 (fun hxe20a hxe20b => ?_)
            rw [exe14]
            refine tw_Vc (o := a0) (ci := 12) (n := 2) (post := (fun v kq Lq Eq => (∃ x : Int32, v = some (.int x) ∧ 0 ≤ x.toInt ∧ x.toInt ≤ 9) ∧ kp = kq ∧ L = Lq ∧ Eg2 = Eq)) (As := [.int x1, .int xe14]) (rest := [.ref xr18]) ⟨hx, hb, hml, hown, hB⟩ (fun sz => tX12_kindOf l D cs a0 x1 xe14 hm0 hk0 (by omega) (by omega) (by omega) (by omega) (by  have rf_xe6 : rw_h Eg2 a0 (x1.toInt) (y2_2.toInt).toNat = xe6.toInt := rw_h_of (m := a0) (i := x1) (c := y2_2) hxr4 exr5 exe6; have rf_xe14 : rw_p Eg2 a0 (x1.toInt) (y2_2.toInt).toNat = xe14.toInt := rw_p_of (m := a0) (i := x1) (c := y2_2) hxr12 exr13 exe14; intro q15; exact t1_le hg1 hg0 (by omega) (by omega) (by rw [rf_xe6]; omega) rf_xe14 (by omega) q15) sz) cg_12_301_X12_kindOf rfl rfl (by decide +kernel) ⟨Nat.le_of_ble_eq_true rfl, Nat.le_of_ble_eq_true rfl⟩ hK hN TH hS hA rfl hm0 hk0 (by decide) rfl hl.1 rfl (Nat.le_of_ble_eq_true rfl) dX12_orders_46 ⟨Nat.le_of_ble_eq_true rfl, Nat.le_of_ble_eq_true rfl⟩ (fun v21 kp21 L21 E21 H locs hq21 hx21 TH hS => ?_)
            obtain ⟨⟨xc22, rfl, hxc22a, hxc22b⟩, rfl, rfl, rfl⟩ := hq21
            refine W.eq (g2 := F0 m 49 ls [.int xc22, .ref xr18]) rfl ?_
            refine tw_iald (k := 339) (t0 := 0) (n := 10) (lo := 0) (hi := 2) hx hb hK TH hmxr18 hkxr18 (by decide) rfl rfl (i := xc22) (vp_in_iff.mpr ⟨by  omega, by  omega⟩) dX12_orders_49 (fun hxe23a hxe23b => ?_)
            obtain ⟨xe23, exe23⟩ : ∃ z : Int32, tw_iv Eg2 xr18 (Int32.toNatClampNeg xc22) = z := ⟨_, rfl⟩
            rw [exe23] at hxe23a hxe23b ⊢
            refine lv_iconst (v := 1) hx hb dX12_orders_50 (by decide) ?_
            refine lv_icmp_eq (tgt := 57) hx hb dX12_orders_51 (by decide) (fun hc24 => ?_) (fun hc24 => ?_)
            · have hf25 : xe23.toInt = 1 := by have z := (fa_eq _ _).mp hc24; have : ((1 : Int32).toInt) = 1 := (by decide); omega
              refine lv_iconst (v := 0) hx hb dX12_orders_57 (by decide) ?_
              refine lv_istore_n (lv' := [(3, .int 0), (2, .int y2_2), (0, .ref a0), (1, .int x1)]) hx hb dX12_orders_58 rfl hl (by decide) rfl (fun ls hl => ?_)
              refine lv_iconst (v := 0) hx hb dX12_orders_59 (by decide) ?_
              refine lv_istore (lv' := [(4, .int 0), (3, .int 0), (2, .int y2_2), (0, .ref a0), (1, .int x1)]) hx hb dX12_orders_60 hl (by decide) rfl (fun ls hl => ?_)
              have hJ62 : ∀ (n62 : Nat) (y62_4 : Int32) (y62_3 : Int32) (H : Heap) (locs : List Loc) (ls : Array Slot), 0 ≤ y62_4.toInt → y62_4.toInt ≤ 150 → (0 ≤ y62_3.toInt) → (y62_3.toInt ≤ y62_4.toInt) → 150 - y62_4.toInt ≤ (n62 : Int) → tw_H D cs kp L Eg2 A H → va_S A s.heap H locs → lv_has ls 5 [(4, .int y62_4), (3, .int y62_3), (2, .int y2_2), (0, .ref a0), (1, .int x1)] → W p l e { frames := 3, cells := 0, slots := 0, locals := 74 } s m [.ref a0, .int x1].toArray below meth c H locs 0 0 (MQ below (tw_Q D cs kp0 L0 (fun v kq Lq Eq => v = none ∧ kp = kq ∧ L = Lq ∧ tw_fr kp L [] [329] E Eq ∧ ht_ok Eq a0 ∧ t1_ok Eq a0 (x1.toInt)) A) [.ref a0, .int x1].toArray s 0 0 A) (F0 m 62 ls []) := by
                intro n62
                induction n62 using Nat.strongRecOn with
                | _ n62 ih62 =>
                  intro y62_4 y62_3 H locs ls hy62_4a hy62_4b hin62_0 hin62_1 hmeas62 TH hS hl
                  refine lv_iload hx hb dX12_orders_62 (lv_at hl 0 rfl) ?_
                  refine lv_sipush (v := 150) hx hb dX12_orders_64 (by decide) ?_
                  refine lv_icmp_ge (tgt := 133) hx hb dX12_orders_67 (by decide) (fun hc26 => ?_) (fun hc26 => ?_)
                  · have hf27 : 150 ≤ y62_4.toInt := by have z := (fa_le _ _).mp hc26; have : ((150 : Int32).toInt) = 150 := (by decide); omega
                    refine lv_aload_n hx hb dX12_orders_133 rfl (lv_at hl 3 rfl) ?_
                    refine tw_get (ci := 12) (C := RX12) (T := TX12) (N := 64) hx hb hB cx_inX12 hown hK TH hm0 hk0 rfl ⟨by decide, rfl⟩ 19 (by decide) cw_1212 (fun _ h9 => h9) dX12_orders_134 (fun hv => ?_)
                    obtain ⟨xr28, hxr28, hmxr28, hkxr28⟩ : ∃ a : Nat, tw_fv Eg2 a0 19 = .ref a ∧ a ∈ L ∧ kp a = 319 := hv
                    rw [hxr28]
                    refine lv_iload_n hx hb dX12_orders_137 rfl (lv_at hl 4 rfl) ?_
                    refine tw_aald (k := 319) (t0 := 4) (n := 16) (lo := 329) (hi := 0) (ty := .int) hx hb hK TH hmxr28 hkxr28 (by decide) rfl rfl (i := x1) (vp_in_iff.mpr ⟨by  omega, by  omega⟩) dX12_orders_138 (fun xr29 exr29 hmxr29 hkxr29 => ?_)
                    have hkxr29 : kp xr29 = 329 := hkxr29
                    refine lv_iload_n hx hb dX12_orders_139 rfl (lv_at hl 2 rfl) ?_
                    refine lv_iload_n hx hb dX12_orders_140 rfl (lv_at hl 1 rfl) ?_
                    refine tw_iast (k := 329) (n := 150) (lo := (-2147483648)) (hi := 2147483647) hx hb hK TH hS hmxr29 hkxr29 (by decide) rfl (i := y2_2) (x := y62_3) (vp_in_iff.mpr ⟨by  omega, by  omega⟩) (ia_lo _) (ia_hi _) dX12_orders_141 (fun H locs E30 TH hS hp31 hp32 hp33 => ?_)
                    have hst34 : tw_fr kp L [] [329] Eg2 E30 := tw_fr.ast tw_fr.rf (fun _ => hkxr29) hp31 hp32 (by decide)
                    have hF := hF.tr hst34 (fun _ h => ⟨h, rfl⟩) (by decide) (by decide)
                    have hG2 := hG2.tr hst34 (fun _ h => ⟨h, rfl⟩) (by decide) (by decide)
                    have hG142 := hG142.tr hst34 (fun _ h => ⟨h, rfl⟩) (by decide) (by decide)
                    have hmf35 : tw_fv E30 a0 16 = .ref xr4 := (hst34.1 a0 16 hm0 (by rw [hk0]; decide)).trans hxr4
                    have hmf36 : tw_fv E30 a0 18 = .ref xr12 := (hst34.1 a0 18 hm0 (by rw [hk0]; decide)).trans hxr12
                    have hmf37 : tw_fv E30 a0 33 = .ref xr18 := (hst34.1 a0 33 hm0 (by rw [hk0]; decide)).trans hxr18
                    have hmf38 : tw_fv E30 a0 19 = .ref xr28 := (hst34.1 a0 19 hm0 (by rw [hk0]; decide)).trans hxr28
                    have hg0 : ht_ok E30 a0 := ht_ok_fr TH hst34 hm0 hk0 (by decide) (by decide) hg0
                    have hg1 : t1_ok E30 a0 (x1.toInt) := t1_ok_fr TH hst34 hm0 hk0 (by decide) (by decide) (by omega) hg1
                    exact hJ142  _ _ _ ls hG142 hg0 hg1 TH hS (lv_sub hl [2, 3, 4] rfl)
                  · have hf39 : ¬ (150 ≤ y62_4.toInt) := fun q => hc26 ((fa_le _ _).mpr (by have : ((150 : Int32).toInt) = 150 := (by decide); omega))
                    refine lv_iload_n hx hb dX12_orders_70 rfl (lv_at hl 1 rfl) ?_
                    refine lv_aload_n hx hb dX12_orders_71 rfl (lv_at hl 3 rfl) ?_
                    refine tw_get (ci := 12) (C := RX12) (T := TX12) (N := 64) hx hb hB cx_inX12 hown hK TH hm0 hk0 rfl ⟨by decide, rfl⟩ 16 (by decide) cw_1209 (fun _ h9 => h9) dX12_orders_72 (fun hv => ?_)
                    rw [hxr4]
                    refine lv_iload_n hx hb dX12_orders_75 rfl (lv_at hl 4 rfl) ?_
                    refine tw_aald (k := 316) (t0 := 5) (n := 16) (lo := 326) (hi := 0) (ty := .boolean) hx hb hK TH hmxr4 hkxr4 (by decide) rfl rfl (i := x1) (vp_in_iff.mpr ⟨by  omega, by  omega⟩) dX12_orders_76 (fun xr40 exr40 hmxr40 hkxr40 => ?_)
                    have ezxr40 : xr5 = xr40 := exr5.symm.trans exr40
                    subst ezxr40
                    refine lv_iload hx hb dX12_orders_77 (lv_at hl 0 rfl) ?_
                    refine tw_zald (k := 326) (t0 := 3) (n := 150) (lo := 0) (hi := 1) hx hb hK TH hmxr5 hkxr5 (by decide) rfl rfl (i := y62_4) (vp_in_iff.mpr ⟨by  omega, by  omega⟩) dX12_orders_79 (fun hxe41a hxe41b => ?_)
                    obtain ⟨xe41, exe41⟩ : ∃ z : Int32, tw_iv Eg2 xr5 (Int32.toNatClampNeg y62_4) = z := ⟨_, rfl⟩
                    rw [exe41] at hxe41a hxe41b ⊢
                    have hJ125 : ∀ (z125_0 : Int32) (H : Heap) (locs : List Loc) (ls : Array Slot), 0 ≤ z125_0.toInt → z125_0.toInt ≤ 1 → tw_H D cs kp L Eg2 A H → va_S A s.heap H locs → lv_has ls 5 [(4, .int y62_4), (2, .int y2_2), (0, .ref a0), (1, .int x1)] → W p l e { frames := 3, cells := 0, slots := 0, locals := 74 } s m [.ref a0, .int x1].toArray below meth c H locs 0 0 (MQ below (tw_Q D cs kp0 L0 (fun v kq Lq Eq => v = none ∧ kp = kq ∧ L = Lq ∧ tw_fr kp L [] [329] E Eq ∧ ht_ok Eq a0 ∧ t1_ok Eq a0 (x1.toInt)) A) [.ref a0, .int x1].toArray s 0 0 A) (F0 m 125 ls [.int z125_0, .int y62_3]) := by
                      intro z125_0 H locs ls hz125_0a hz125_0b TH hS hl
                      refine lv_iadd hx hb dX12_orders_125 ?_
                      refine lv_topi (fun zi42 ezi42 => ?_)
                      have hzi42 : zi42.toInt = y62_3.toInt + z125_0.toInt := by rw [ezi42];  have := ia_lo y62_3; have := ia_hi y62_3; have := ia_lo z125_0; have := ia_hi z125_0; exact (ia_add (by omega) (by omega)).trans (by omega)
                      refine lv_istore_n (lv' := [(3, .int zi42), (4, .int y62_4), (2, .int y2_2), (0, .ref a0), (1, .int x1)]) hx hb dX12_orders_126 rfl hl (by decide) rfl (fun ls hl => ?_)
                      obtain ⟨zi43, ezi43⟩ : ∃ z : Int32, z = y62_4 + Int32.ofInt 1 := ⟨_, rfl⟩
                      have hzi43 : zi43.toInt = y62_4.toInt + 1 := by rw [ezi43]; have : ((Int32.ofInt 1).toInt) = 1 := (by decide);  exact (ia_add (by omega) (by omega)).trans (by omega)
                      refine lv_iinc (v := zi43) (lv' := [(4, .int zi43), (3, .int zi42), (2, .int y2_2), (0, .ref a0), (1, .int x1)]) hx hb dX12_orders_127 hl (k := 1) rfl ezi43.symm (by decide) rfl (fun ls hl => ?_)
                      refine lv_goto (tgt := 62) hx hb dX12_orders_130 (by decide) ?_
                      exact ih62 (n62 - 1) (by   omega) zi43 zi42 _ _ ls (by omega) (by omega) (by  omega) (by  omega) (by   omega) TH hS (lv_sub hl [0, 1, 2, 3, 4] rfl)
                    have hJ124 : ∀  (H : Heap) (locs : List Loc) (ls : Array Slot), tw_H D cs kp L Eg2 A H → va_S A s.heap H locs → lv_has ls 5 [(4, .int y62_4), (2, .int y2_2), (0, .ref a0), (1, .int x1)] → W p l e { frames := 3, cells := 0, slots := 0, locals := 74 } s m [.ref a0, .int x1].toArray below meth c H locs 0 0 (MQ below (tw_Q D cs kp0 L0 (fun v kq Lq Eq => v = none ∧ kp = kq ∧ L = Lq ∧ tw_fr kp L [] [329] E Eq ∧ ht_ok Eq a0 ∧ t1_ok Eq a0 (x1.toInt)) A) [.ref a0, .int x1].toArray s 0 0 A) (F0 m 124 ls [.int y62_3]) := by
                      intro H locs ls TH hS hl
                      refine lv_iconst (v := 0) hx hb dX12_orders_124 (by decide) ?_
                      exact hJ125 (0 : Int32) _ _ ls (by have : ((0 : Int32).toInt) = 0 := (by decide); omega) (by have : ((0 : Int32).toInt) = 0 := (by decide); omega) TH hS (lv_sub hl [0, 1, 2, 3] rfl)
                    refine lv_if_eq (tgt := 124) hx hb dX12_orders_80 (by decide) (fun hc44 => ?_) (fun hc44 => ?_)
                    · have hf45 : xe41.toInt = 0 := by have z := (fa_eq _ _).mp hc44; have : ((0 : Int32).toInt) = 0 := (by decide); omega
                      exact hJ124  _ _ ls  TH hS (lv_sub hl [0, 2, 3, 4] rfl)
                    · have hf46 : ¬ (xe41.toInt = 0) := fun q => hc44 ((fa_eq _ _).mpr (by have : ((0 : Int32).toInt) = 0 := (by decide); omega))
                      refine lv_iload hx hb dX12_orders_83 (lv_at hl 0 rfl) ?_
                      refine lv_iload_n hx hb dX12_orders_85 rfl (lv_at hl 2 rfl) ?_
                      refine lv_icmp_eq (tgt := 124) hx hb dX12_orders_86 (by decide) (fun hc47 => ?_) (fun hc47 => ?_)
                      · have hf48 : y62_4.toInt = y2_2.toInt := by have z := (fa_eq _ _).mp hc47;  omega
                        exact hJ124  _ _ ls  TH hS (lv_sub hl [0, 2, 3, 4] rfl)
                      · have hf49 : ¬ (y62_4.toInt = y2_2.toInt) := fun q => hc47 ((fa_eq _ _).mpr (by  omega))
                        refine lv_aload_n hx hb dX12_orders_89 rfl (lv_at hl 3 rfl) ?_
                        refine tw_get (ci := 12) (C := RX12) (T := TX12) (N := 64) hx hb hB cx_inX12 hown hK TH hm0 hk0 rfl ⟨by decide, rfl⟩ 18 (by decide) cw_1211 (fun _ h9 => h9) dX12_orders_90 (fun hv => ?_)
                        rw [hxr12]
                        refine lv_iload_n hx hb dX12_orders_93 rfl (lv_at hl 4 rfl) ?_
                        refine tw_aald (k := 318) (t0 := 4) (n := 16) (lo := 328) (hi := 0) (ty := .int) hx hb hK TH hmxr12 hkxr12 (by decide) rfl rfl (i := x1) (vp_in_iff.mpr ⟨by  omega, by  omega⟩) dX12_orders_94 (fun xr50 exr50 hmxr50 hkxr50 => ?_)
                        have ezxr50 : xr13 = xr50 := exr13.symm.trans exr50
                        subst ezxr50
                        refine lv_iload hx hb dX12_orders_95 (lv_at hl 0 rfl) ?_
                        refine tw_iald (k := 328) (t0 := 0) (n := 150) (lo := (-1)) (hi := 149) hx hb hK TH hmxr13 hkxr13 (by decide) rfl rfl (i := y62_4) (vp_in_iff.mpr ⟨by  omega, by  omega⟩) dX12_orders_97 (fun hxe51a hxe51b => ?_)
                        obtain ⟨xe51, exe51⟩ : ∃ z : Int32, tw_iv Eg2 xr13 (Int32.toNatClampNeg y62_4) = z := ⟨_, rfl⟩
                        rw [exe51] at hxe51a hxe51b ⊢
                        refine lv_aload_n hx hb dX12_orders_98 rfl (lv_at hl 3 rfl) ?_
                        refine tw_get (ci := 12) (C := RX12) (T := TX12) (N := 64) hx hb hB cx_inX12 hown hK TH hm0 hk0 rfl ⟨by decide, rfl⟩ 18 (by decide) cw_1211 (fun _ h9 => h9) dX12_orders_99 (fun hv => ?_)
                        rw [hxr12]
                        refine lv_iload_n hx hb dX12_orders_102 rfl (lv_at hl 4 rfl) ?_
                        refine tw_aald (k := 318) (t0 := 4) (n := 16) (lo := 328) (hi := 0) (ty := .int) hx hb hK TH hmxr12 hkxr12 (by decide) rfl rfl (i := x1) (vp_in_iff.mpr ⟨by  omega, by  omega⟩) dX12_orders_103 (fun xr52 exr52 hmxr52 hkxr52 => ?_)
                        have ezxr52 : xr13 = xr52 := exr13.symm.trans exr52
                        subst ezxr52
                        refine lv_iload_n hx hb dX12_orders_104 rfl (lv_at hl 2 rfl) ?_
                        refine tw_iald (k := 328) (t0 := 0) (n := 150) (lo := (-1)) (hi := 149) hx hb hK TH hmxr13 hkxr13 (by decide) rfl rfl (i := y2_2) (vp_in_iff.mpr ⟨by  omega, by  omega⟩) dX12_orders_105 (fun hxe53a hxe53b => ?_)
                        rw [exe14]
                        refine lv_icmp_ne (tgt := 124) hx hb dX12_orders_106 (by decide) (fun hc54 => ?_) (fun hc54 => ?_)
                        · have hf55 : ¬ (xe51.toInt = xe14.toInt) := fun q => hc54 ((fa_eq _ _).mpr (by  omega))
                          exact hJ124  _ _ ls  TH hS (lv_sub hl [0, 2, 3, 4] rfl)
                        · have hf56 : xe51.toInt = xe14.toInt := by have z := (fa_eq _ _).mp hc54;  omega
                          refine lv_aload_n hx hb dX12_orders_109 rfl (lv_at hl 3 rfl) ?_
                          refine lv_iload_n hx hb dX12_orders_110 rfl (lv_at hl 4 rfl) ?_
                          refine lv_iload hx hb dX12_orders_111 (lv_at hl 0 rfl) ?_
                          refine lv_iload_n hx hb dX12_orders_113 rfl (lv_at hl 2 rfl) ?_
                          refine tw_Vc (o := a0) (ci := 12) (n := 3) (post := (fun v kq Lq Eq => (∃ x : Int32, v = some (.int x) ∧ 0 ≤ x.toInt ∧ x.toInt ≤ 1) ∧ kp = kq ∧ L = Lq ∧ Eg2 = Eq)) (As := [.int x1, .int y62_4, .int y2_2]) (rest := [.int y62_3]) ⟨hx, hb, hml, hown, hB⟩ (fun sz => tX12_isAhead l D cs a0 x1 y62_4 y2_2 hm0 hk0 (by omega) (by omega) (by omega) (by omega) (by omega) (by omega) (by  have rf_xe6 : rw_h Eg2 a0 (x1.toInt) (y2_2.toInt).toNat = xe6.toInt := rw_h_of (m := a0) (i := x1) (c := y2_2) hxr4 exr5 exe6; have rf_xe14 : rw_p Eg2 a0 (x1.toInt) (y2_2.toInt).toNat = xe14.toInt := rw_p_of (m := a0) (i := x1) (c := y2_2) hxr12 exr13 exe14; have rf_xe41 : rw_h Eg2 a0 (x1.toInt) (y62_4.toInt).toNat = xe41.toInt := rw_h_of (m := a0) (i := x1) (c := y62_4) hxr4 exr5 exe41; have rf_xe51 : rw_p Eg2 a0 (x1.toInt) (y62_4.toInt).toNat = xe51.toInt := rw_p_of (m := a0) (i := x1) (c := y62_4) hxr12 exr13 exe51; intro q15; exact ht_le hg0 (by omega) (by omega) (by rw [rf_xe41]; omega) q15) (by  have rf_xe6 : rw_h Eg2 a0 (x1.toInt) (y2_2.toInt).toNat = xe6.toInt := rw_h_of (m := a0) (i := x1) (c := y2_2) hxr4 exr5 exe6; have rf_xe14 : rw_p Eg2 a0 (x1.toInt) (y2_2.toInt).toNat = xe14.toInt := rw_p_of (m := a0) (i := x1) (c := y2_2) hxr12 exr13 exe14; have rf_xe41 : rw_h Eg2 a0 (x1.toInt) (y62_4.toInt).toNat = xe41.toInt := rw_h_of (m := a0) (i := x1) (c := y62_4) hxr4 exr5 exe41; have rf_xe51 : rw_p Eg2 a0 (x1.toInt) (y62_4.toInt).toNat = xe51.toInt := rw_p_of (m := a0) (i := x1) (c := y62_4) hxr12 exr13 exe51; intro q15; exact ht_le hg0 (by omega) (by omega) (by rw [rf_xe6]; omega) q15) sz) cg_12_308_X12_isAhead rfl rfl (by decide +kernel) ⟨Nat.le_of_ble_eq_true rfl, Nat.le_of_ble_eq_true rfl⟩ hK hN TH hS hA rfl hm0 hk0 (by decide) rfl hl.1 rfl (Nat.le_of_ble_eq_true rfl) dX12_orders_114 ⟨Nat.le_of_ble_eq_true rfl, Nat.le_of_ble_eq_true rfl⟩ (fun v57 kp57 L57 E57 H locs hq57 hx57 TH hS => ?_)
                          obtain ⟨⟨xc58, rfl, hxc58a, hxc58b⟩, rfl, rfl, rfl⟩ := hq57
                          refine W.eq (g2 := F0 m 117 ls [.int xc58, .int y62_3]) rfl ?_
                          refine lv_if_eq (tgt := 124) hx hb dX12_orders_117 (by decide) (fun hc59 => ?_) (fun hc59 => ?_)
                          · have hf60 : xc58.toInt = 0 := by have z := (fa_eq _ _).mp hc59; have : ((0 : Int32).toInt) = 0 := (by decide); omega
                            exact hJ124  _ _ ls  TH hS (lv_sub hl [0, 2, 3, 4] rfl)
                          · have hf61 : ¬ (xc58.toInt = 0) := fun q => hc59 ((fa_eq _ _).mpr (by have : ((0 : Int32).toInt) = 0 := (by decide); omega))
                            refine lv_iconst (v := 1) hx hb dX12_orders_120 (by decide) ?_
                            refine lv_goto (tgt := 125) hx hb dX12_orders_121 (by decide) ?_
                            exact hJ125 (1 : Int32) _ _ ls (by have : ((1 : Int32).toInt) = 1 := (by decide); omega) (by have : ((1 : Int32).toInt) = 1 := (by decide); omega) TH hS (lv_sub hl [0, 2, 3, 4] rfl)
              exact hJ62 151 (0 : Int32) (0 : Int32) _ _ ls (by have : ((0 : Int32).toInt) = 0 := (by decide); omega) (by have : ((0 : Int32).toInt) = 0 := (by decide); omega) (by have : ((0 : Int32).toInt) = 0 := (by decide); omega) (by have : ((0 : Int32).toInt) = 0 := (by decide); omega) (by have : ((0 : Int32).toInt) = 0 := (by decide);  omega) TH hS (lv_sub hl [0, 1, 2, 3, 4] rfl)
            · have hf62 : ¬ (xe23.toInt = 1) := fun q => hc24 ((fa_eq _ _).mpr (by have : ((1 : Int32).toInt) = 1 := (by decide); omega))
              refine lv_goto (tgt := 142) hx hb dX12_orders_54 (by decide) ?_
              exact hJ142  _ _ _ ls hG142 hg0 hg1 TH hS (lv_sub hl [0, 1, 2] rfl)
  exact hJ2 151 (0 : Int32) _ _ _ ls (by have : ((0 : Int32).toInt) = 0 := (by decide); omega) (by have : ((0 : Int32).toInt) = 0 := (by decide); omega) (by have : ((0 : Int32).toInt) = 0 := (by decide);  omega) tw_fr.rf hg0 hg1 TH hS (lv_sub hl [0, 1, 2] rfl)
set_option maxHeartbeats 4000000 in
set_option maxRecDepth 100000 in
theorem tX12_closes (l : Launch) (D : va_G) (cs : Nat → ClassId) {kp : Nat → Nat} {L : List Nat} {E : Nat → va_E} (a0 : Nat) (a1 : Nat) (x2 : Int32) (hm0 : a0 ∈ L) (hk0 : kp a0 = 12) (hm1 : a1 ∈ L) (hk1 : kp a1 = 348) (hp2a : 0 ≤ x2.toInt) (hp2b : x2.toInt ≤ 9) (sz : Nat) : Met l yX12_closes (.code yX12_closes cX12_closes 4 none :: cx_big) { frames := 0, cells := 0, slots := 0, locals := 0 } (tw_P D cs kp L E [.ref a0, .ref a1, .int x2] sz) (tw_Q D cs kp L (fun v kq Lq Eq => v = none ∧ kp = kq ∧ L = Lq ∧ tw_fr kp L [] [348] E Eq) (va_A (va_pl L E) sz)) 0 0 (va_A (va_pl L E) sz) := by
  refine tw_ofW (by decide) (Nat.le_of_ble_eq_true rfl) ?_
  intro p e s m below meth c A ls hx hb hr hml hB hown hlocks hK hN hA TH hS hl
  have hown : s.vm.findClass "TreeMergeModel" = some m.cls := hown
  have hl : lv_has ls 4 [(0, .ref a0), (1, .ref a1), (2, .int x2)] := hl
  obtain ⟨kp0, ekp⟩ : ∃ z, z = kp := ⟨_, rfl⟩
  obtain ⟨L0, eL⟩ : ∃ z, z = L := ⟨_, rfl⟩
  rw [show tw_Q D cs kp L = tw_Q D cs kp0 L0 by rw [ekp, eL]]
  have hex : ∀ a : Nat, a ∈ L0 → a ∈ L ∧ kp a = kp0 a := fun a h => ⟨by rw [← eL]; exact h, by rw [ekp]⟩
  have hF : tw_fr kp L [] [348] E E := tw_fr.rf
  refine lv_iconst (v := 0) hx hb dX12_closes_0 (by decide) ?_
  refine lv_istore_n (lv' := [(3, .int 0), (0, .ref a0), (1, .ref a1), (2, .int x2)]) hx hb dX12_closes_1 rfl hl (by decide) rfl (fun ls hl => ?_)
  have hJ2 : ∀ (n2 : Nat) (y2_3 : Int32) (Eg2 : Nat → va_E) (H : Heap) (locs : List Loc) (ls : Array Slot), 0 ≤ y2_3.toInt → y2_3.toInt ≤ 252 → 252 - y2_3.toInt ≤ (n2 : Int) → tw_fr kp L [] [348] E Eg2 → tw_H D cs kp L Eg2 A H → va_S A s.heap H locs → lv_has ls 4 [(3, .int y2_3), (0, .ref a0), (1, .ref a1), (2, .int x2)] → W p l e { frames := 0, cells := 0, slots := 0, locals := 0 } s m [.ref a0, .ref a1, .int x2].toArray below meth c H locs 0 0 (MQ below (tw_Q D cs kp0 L0 (fun v kq Lq Eq => v = none ∧ kp = kq ∧ L = Lq ∧ tw_fr kp L [] [348] E Eq) A) [.ref a0, .ref a1, .int x2].toArray s 0 0 A) (F0 m 2 ls []) := by
    intro n2
    induction n2 using Nat.strongRecOn with
    | _ n2 ih2 =>
      intro y2_3 Eg2 H locs ls hy2_3a hy2_3b hmeas2 hG2 TH hS hl
      have hF := hF.tr hG2 (fun _ h => ⟨h, rfl⟩) (by decide) (by decide)
      refine lv_iload_n hx hb dX12_closes_2 rfl (lv_at hl 0 rfl) ?_
      refine lv_aload_n hx hb dX12_closes_3 rfl (lv_at hl 1 rfl) ?_
      refine tw_get (ci := 12) (C := RX12) (T := TX12) (N := 64) hx hb hB cx_inX12 hown hK TH hm0 hk0 rfl ⟨by decide, rfl⟩ 34 (by decide) cw_1227 (fun _ h9 => h9) dX12_closes_4 (fun hv => ?_)
      obtain ⟨xr1, hxr1, hmxr1, hkxr1⟩ : ∃ a : Nat, tw_fv Eg2 a0 34 = .ref a ∧ a ∈ L ∧ kp a = 340 := hv
      rw [hxr1]
      refine lv_iload_n hx hb dX12_closes_7 rfl (lv_at hl 3 rfl) ?_
      refine tw_iald (k := 340) (t0 := 0) (n := 10) (lo := 0) (hi := 252) hx hb hK TH hmxr1 hkxr1 (by decide) rfl rfl (i := x2) (vp_in_iff.mpr ⟨by  omega, by  omega⟩) dX12_closes_8 (fun hxe2a hxe2b => ?_)
      obtain ⟨xe2, exe2⟩ : ∃ z : Int32, tw_iv Eg2 xr1 (Int32.toNatClampNeg x2) = z := ⟨_, rfl⟩
      rw [exe2] at hxe2a hxe2b ⊢
      refine lv_icmp_ge (tgt := 41) hx hb dX12_closes_9 (by decide) (fun hc3 => ?_) (fun hc3 => ?_)
      · have hf4 : xe2.toInt ≤ y2_3.toInt := by have z := (fa_le _ _).mp hc3;  omega
        exact tw_vret hx hb hr hlocks TH hS hex ⟨rfl, rfl, rfl, hF⟩ (Nat.le_of_ble_eq_true rfl) (Nat.le_of_ble_eq_true rfl) dX12_closes_41
      · have hf5 : ¬ (xe2.toInt ≤ y2_3.toInt) := fun q => hc3 ((fa_le _ _).mpr (by  omega))
        refine lv_aload_n hx hb dX12_closes_12 rfl (lv_at hl 2 rfl) ?_
        refine lv_iload_n hx hb dX12_closes_13 rfl (lv_at hl 0 rfl) ?_
        refine tw_zald (k := 348) (t0 := 3) (n := 253) (lo := 0) (hi := 1) hx hb hK TH hm1 hk1 (by decide) rfl rfl (i := y2_3) (vp_in_iff.mpr ⟨by  omega, by  omega⟩) dX12_closes_14 (fun hxe6a hxe6b => ?_)
        obtain ⟨xe6, exe6⟩ : ∃ z : Int32, tw_iv Eg2 a1 (Int32.toNatClampNeg y2_3) = z := ⟨_, rfl⟩
        rw [exe6] at hxe6a hxe6b ⊢
        have hJ35 : ∀  (Eg35 : Nat → va_E) (H : Heap) (locs : List Loc) (ls : Array Slot), tw_fr kp L [] [348] Eg2 Eg35 → tw_H D cs kp L Eg35 A H → va_S A s.heap H locs → lv_has ls 4 [(3, .int y2_3), (0, .ref a0), (1, .ref a1), (2, .int x2)] → W p l e { frames := 0, cells := 0, slots := 0, locals := 0 } s m [.ref a0, .ref a1, .int x2].toArray below meth c H locs 0 0 (MQ below (tw_Q D cs kp0 L0 (fun v kq Lq Eq => v = none ∧ kp = kq ∧ L = Lq ∧ tw_fr kp L [] [348] E Eq) A) [.ref a0, .ref a1, .int x2].toArray s 0 0 A) (F0 m 35 ls []) := by
          intro Eg35 H locs ls hG35 TH hS hl
          have hF := hF.tr hG35 (fun _ h => ⟨h, rfl⟩) (by decide) (by decide)
          have hG2 := hG2.tr hG35 (fun _ h => ⟨h, rfl⟩) (by decide) (by decide)
          have hmf7 : tw_fv Eg35 a0 34 = .ref xr1 := (hG35.1 a0 34 hm0 (by rw [hk0]; decide)).trans hxr1
          obtain ⟨zi8, ezi8⟩ : ∃ z : Int32, z = y2_3 + Int32.ofInt 1 := ⟨_, rfl⟩
          have hzi8 : zi8.toInt = y2_3.toInt + 1 := by rw [ezi8]; have : ((Int32.ofInt 1).toInt) = 1 := (by decide);  exact (ia_add (by omega) (by omega)).trans (by omega)
          refine lv_iinc (v := zi8) (lv' := [(3, .int zi8), (0, .ref a0), (1, .ref a1), (2, .int x2)]) hx hb dX12_closes_35 hl (k := 0) rfl ezi8.symm (by decide) rfl (fun ls hl => ?_)
          refine lv_goto (tgt := 2) hx hb dX12_closes_38 (by decide) ?_
          exact ih2 (n2 - 1) (by   omega) zi8 _ _ _ ls (by omega) (by omega) (by   omega) hG2 TH hS (lv_sub hl [0, 1, 2, 3] rfl)
        have hG35 : tw_fr kp L [] [348] Eg2 Eg2 := tw_fr.rf
        refine lv_if_eq (tgt := 35) hx hb dX12_closes_15 (by decide) (fun hc9 => ?_) (fun hc9 => ?_)
        · have hf10 : xe6.toInt = 0 := by have z := (fa_eq _ _).mp hc9; have : ((0 : Int32).toInt) = 0 := (by decide); omega
          exact hJ35  _ _ _ ls hG35 TH hS (lv_sub hl [0, 1, 2, 3] rfl)
        · have hf11 : ¬ (xe6.toInt = 0) := fun q => hc9 ((fa_eq _ _).mpr (by have : ((0 : Int32).toInt) = 0 := (by decide); omega))
          refine lv_aload_n hx hb dX12_closes_18 rfl (lv_at hl 1 rfl) ?_
          refine tw_get (ci := 12) (C := RX12) (T := TX12) (N := 64) hx hb hB cx_inX12 hown hK TH hm0 hk0 rfl ⟨by decide, rfl⟩ 35 (by decide) cw_1228 (fun _ h9 => h9) dX12_closes_19 (fun hv => ?_)
          obtain ⟨xr12, hxr12, hmxr12, hkxr12⟩ : ∃ a : Nat, tw_fv Eg2 a0 35 = .ref a ∧ a ∈ L ∧ kp a = 341 := hv
          rw [hxr12]
          refine lv_iload_n hx hb dX12_closes_22 rfl (lv_at hl 3 rfl) ?_
          refine tw_aald (k := 341) (t0 := 4) (n := 10) (lo := 351) (hi := 0) (ty := .int) hx hb hK TH hmxr12 hkxr12 (by decide) rfl rfl (i := x2) (vp_in_iff.mpr ⟨by  omega, by  omega⟩) dX12_closes_23 (fun xr13 exr13 hmxr13 hkxr13 => ?_)
          have hkxr13 : kp xr13 = 351 := hkxr13
          refine lv_iload_n hx hb dX12_closes_24 rfl (lv_at hl 0 rfl) ?_
          refine tw_iald (k := 351) (t0 := 0) (n := 252) (lo := (-128)) (hi := 127) hx hb hK TH hmxr13 hkxr13 (by decide) rfl rfl (i := y2_3) (vp_in_iff.mpr ⟨by  omega, by  omega⟩) dX12_closes_25 (fun hxe14a hxe14b => ?_)
          obtain ⟨xe14, exe14⟩ : ∃ z : Int32, tw_iv Eg2 xr13 (Int32.toNatClampNeg y2_3) = z := ⟨_, rfl⟩
          rw [exe14] at hxe14a hxe14b ⊢
          refine lv_if_eq (tgt := 35) hx hb dX12_closes_26 (by decide) (fun hc15 => ?_) (fun hc15 => ?_)
          · have hf16 : xe14.toInt = 0 := by have z := (fa_eq _ _).mp hc15; have : ((0 : Int32).toInt) = 0 := (by decide); omega
            exact hJ35  _ _ _ ls hG35 TH hS (lv_sub hl [0, 1, 2, 3] rfl)
          · have hf17 : ¬ (xe14.toInt = 0) := fun q => hc15 ((fa_eq _ _).mpr (by have : ((0 : Int32).toInt) = 0 := (by decide); omega))
            refine lv_aload_n hx hb dX12_closes_29 rfl (lv_at hl 2 rfl) ?_
            refine lv_iload_n hx hb dX12_closes_30 rfl (lv_at hl 0 rfl) ?_
            refine lv_iconst (v := 1) hx hb dX12_closes_31 (by decide) ?_
            refine lv_iadd hx hb dX12_closes_32 ?_
            refine lv_topi (fun zi18 ezi18 => ?_)
            have hzi18 : zi18.toInt = y2_3.toInt + 1 := by rw [ezi18]; have : ((1 : Int32).toInt) = 1 := (by decide); have := ia_lo y2_3; have := ia_hi y2_3; exact (ia_add (by omega) (by omega)).trans (by omega)
            refine lv_iconst (v := 1) hx hb dX12_closes_33 (by decide) ?_
            refine tw_zast (k := 348) (n := 253) (lo := 0) (hi := 1) hx hb hK TH hS hm1 hk1 (by decide) rfl (i := zi18) (x := 1) (vp_in_iff.mpr ⟨by  omega, by  omega⟩) (by have : ((1 : Int32).toInt) = 1 := (by decide); omega) (by have : ((1 : Int32).toInt) = 1 := (by decide); omega) (by have : ((1 : Int32).toInt) = 1 := (by decide); omega) (by have : ((1 : Int32).toInt) = 1 := (by decide); omega) dX12_closes_34 (fun H locs E19 TH hS hp20 hp21 hp22 => ?_)
            have hst23 : tw_fr kp L [] [348] Eg2 E19 := tw_fr.ast tw_fr.rf (fun _ => hk1) hp20 hp21 (by decide)
            have hF := hF.tr hst23 (fun _ h => ⟨h, rfl⟩) (by decide) (by decide)
            have hG2 := hG2.tr hst23 (fun _ h => ⟨h, rfl⟩) (by decide) (by decide)
            have hG35 := hG35.tr hst23 (fun _ h => ⟨h, rfl⟩) (by decide) (by decide)
            have hmf24 : tw_fv E19 a0 34 = .ref xr1 := (hst23.1 a0 34 hm0 (by rw [hk0]; decide)).trans hxr1
            have hmf25 : tw_fv E19 a0 35 = .ref xr12 := (hst23.1 a0 35 hm0 (by rw [hk0]; decide)).trans hxr12
            exact hJ35  _ _ _ ls hG35 TH hS (lv_sub hl [0, 1, 2, 3] rfl)
  exact hJ2 253 (0 : Int32) _ _ _ ls (by have : ((0 : Int32).toInt) = 0 := (by decide); omega) (by have : ((0 : Int32).toInt) = 0 := (by decide); omega) (by have : ((0 : Int32).toInt) = 0 := (by decide);  omega) tw_fr.rf TH hS (lv_sub hl [0, 1, 2, 3] rfl)
set_option maxHeartbeats 4000000 in
set_option maxRecDepth 100000 in
theorem tX12_closes_v1 (l : Launch) (D : va_G) (cs : Nat → ClassId) {kp : Nat → Nat} {L : List Nat} {E : Nat → va_E} (a0 : Nat) (a1 : Nat) (x2 : Int32) (hm0 : a0 ∈ L) (hk0 : kp a0 = 12) (hm1 : a1 ∈ L) (hk1 : kp a1 = 349) (hp2a : 0 ≤ x2.toInt) (hp2b : x2.toInt ≤ 9) (sz : Nat) : Met l yX12_closes (.code yX12_closes cX12_closes 4 none :: cx_big) { frames := 0, cells := 0, slots := 0, locals := 0 } (tw_P D cs kp L E [.ref a0, .ref a1, .int x2] sz) (tw_Q D cs kp L (fun v kq Lq Eq => v = none ∧ kp = kq ∧ L = Lq ∧ tw_fr kp L [] [349] E Eq) (va_A (va_pl L E) sz)) 0 0 (va_A (va_pl L E) sz) := by
  refine tw_ofW (by decide) (Nat.le_of_ble_eq_true rfl) ?_
  intro p e s m below meth c A ls hx hb hr hml hB hown hlocks hK hN hA TH hS hl
  have hown : s.vm.findClass "TreeMergeModel" = some m.cls := hown
  have hl : lv_has ls 4 [(0, .ref a0), (1, .ref a1), (2, .int x2)] := hl
  obtain ⟨kp0, ekp⟩ : ∃ z, z = kp := ⟨_, rfl⟩
  obtain ⟨L0, eL⟩ : ∃ z, z = L := ⟨_, rfl⟩
  rw [show tw_Q D cs kp L = tw_Q D cs kp0 L0 by rw [ekp, eL]]
  have hex : ∀ a : Nat, a ∈ L0 → a ∈ L ∧ kp a = kp0 a := fun a h => ⟨by rw [← eL]; exact h, by rw [ekp]⟩
  have hF : tw_fr kp L [] [349] E E := tw_fr.rf
  refine lv_iconst (v := 0) hx hb dX12_closes_0 (by decide) ?_
  refine lv_istore_n (lv' := [(3, .int 0), (0, .ref a0), (1, .ref a1), (2, .int x2)]) hx hb dX12_closes_1 rfl hl (by decide) rfl (fun ls hl => ?_)
  have hJ2 : ∀ (n2 : Nat) (y2_3 : Int32) (Eg2 : Nat → va_E) (H : Heap) (locs : List Loc) (ls : Array Slot), 0 ≤ y2_3.toInt → y2_3.toInt ≤ 252 → 252 - y2_3.toInt ≤ (n2 : Int) → tw_fr kp L [] [349] E Eg2 → tw_H D cs kp L Eg2 A H → va_S A s.heap H locs → lv_has ls 4 [(3, .int y2_3), (0, .ref a0), (1, .ref a1), (2, .int x2)] → W p l e { frames := 0, cells := 0, slots := 0, locals := 0 } s m [.ref a0, .ref a1, .int x2].toArray below meth c H locs 0 0 (MQ below (tw_Q D cs kp0 L0 (fun v kq Lq Eq => v = none ∧ kp = kq ∧ L = Lq ∧ tw_fr kp L [] [349] E Eq) A) [.ref a0, .ref a1, .int x2].toArray s 0 0 A) (F0 m 2 ls []) := by
    intro n2
    induction n2 using Nat.strongRecOn with
    | _ n2 ih2 =>
      intro y2_3 Eg2 H locs ls hy2_3a hy2_3b hmeas2 hG2 TH hS hl
      have hF := hF.tr hG2 (fun _ h => ⟨h, rfl⟩) (by decide) (by decide)
      refine lv_iload_n hx hb dX12_closes_2 rfl (lv_at hl 0 rfl) ?_
      refine lv_aload_n hx hb dX12_closes_3 rfl (lv_at hl 1 rfl) ?_
      refine tw_get (ci := 12) (C := RX12) (T := TX12) (N := 64) hx hb hB cx_inX12 hown hK TH hm0 hk0 rfl ⟨by decide, rfl⟩ 34 (by decide) cw_1227 (fun _ h9 => h9) dX12_closes_4 (fun hv => ?_)
      obtain ⟨xr1, hxr1, hmxr1, hkxr1⟩ : ∃ a : Nat, tw_fv Eg2 a0 34 = .ref a ∧ a ∈ L ∧ kp a = 340 := hv
      rw [hxr1]
      refine lv_iload_n hx hb dX12_closes_7 rfl (lv_at hl 3 rfl) ?_
      refine tw_iald (k := 340) (t0 := 0) (n := 10) (lo := 0) (hi := 252) hx hb hK TH hmxr1 hkxr1 (by decide) rfl rfl (i := x2) (vp_in_iff.mpr ⟨by  omega, by  omega⟩) dX12_closes_8 (fun hxe2a hxe2b => ?_)
      obtain ⟨xe2, exe2⟩ : ∃ z : Int32, tw_iv Eg2 xr1 (Int32.toNatClampNeg x2) = z := ⟨_, rfl⟩
      rw [exe2] at hxe2a hxe2b ⊢
      refine lv_icmp_ge (tgt := 41) hx hb dX12_closes_9 (by decide) (fun hc3 => ?_) (fun hc3 => ?_)
      · have hf4 : xe2.toInt ≤ y2_3.toInt := by have z := (fa_le _ _).mp hc3;  omega
        exact tw_vret hx hb hr hlocks TH hS hex ⟨rfl, rfl, rfl, hF⟩ (Nat.le_of_ble_eq_true rfl) (Nat.le_of_ble_eq_true rfl) dX12_closes_41
      · have hf5 : ¬ (xe2.toInt ≤ y2_3.toInt) := fun q => hc3 ((fa_le _ _).mpr (by  omega))
        refine lv_aload_n hx hb dX12_closes_12 rfl (lv_at hl 2 rfl) ?_
        refine lv_iload_n hx hb dX12_closes_13 rfl (lv_at hl 0 rfl) ?_
        refine tw_zald (k := 349) (t0 := 3) (n := 253) (lo := 0) (hi := 1) hx hb hK TH hm1 hk1 (by decide) rfl rfl (i := y2_3) (vp_in_iff.mpr ⟨by  omega, by  omega⟩) dX12_closes_14 (fun hxe6a hxe6b => ?_)
        obtain ⟨xe6, exe6⟩ : ∃ z : Int32, tw_iv Eg2 a1 (Int32.toNatClampNeg y2_3) = z := ⟨_, rfl⟩
        rw [exe6] at hxe6a hxe6b ⊢
        have hJ35 : ∀  (Eg35 : Nat → va_E) (H : Heap) (locs : List Loc) (ls : Array Slot), tw_fr kp L [] [349] Eg2 Eg35 → tw_H D cs kp L Eg35 A H → va_S A s.heap H locs → lv_has ls 4 [(3, .int y2_3), (0, .ref a0), (1, .ref a1), (2, .int x2)] → W p l e { frames := 0, cells := 0, slots := 0, locals := 0 } s m [.ref a0, .ref a1, .int x2].toArray below meth c H locs 0 0 (MQ below (tw_Q D cs kp0 L0 (fun v kq Lq Eq => v = none ∧ kp = kq ∧ L = Lq ∧ tw_fr kp L [] [349] E Eq) A) [.ref a0, .ref a1, .int x2].toArray s 0 0 A) (F0 m 35 ls []) := by
          intro Eg35 H locs ls hG35 TH hS hl
          have hF := hF.tr hG35 (fun _ h => ⟨h, rfl⟩) (by decide) (by decide)
          have hG2 := hG2.tr hG35 (fun _ h => ⟨h, rfl⟩) (by decide) (by decide)
          have hmf7 : tw_fv Eg35 a0 34 = .ref xr1 := (hG35.1 a0 34 hm0 (by rw [hk0]; decide)).trans hxr1
          obtain ⟨zi8, ezi8⟩ : ∃ z : Int32, z = y2_3 + Int32.ofInt 1 := ⟨_, rfl⟩
          have hzi8 : zi8.toInt = y2_3.toInt + 1 := by rw [ezi8]; have : ((Int32.ofInt 1).toInt) = 1 := (by decide);  exact (ia_add (by omega) (by omega)).trans (by omega)
          refine lv_iinc (v := zi8) (lv' := [(3, .int zi8), (0, .ref a0), (1, .ref a1), (2, .int x2)]) hx hb dX12_closes_35 hl (k := 0) rfl ezi8.symm (by decide) rfl (fun ls hl => ?_)
          refine lv_goto (tgt := 2) hx hb dX12_closes_38 (by decide) ?_
          exact ih2 (n2 - 1) (by   omega) zi8 _ _ _ ls (by omega) (by omega) (by   omega) hG2 TH hS (lv_sub hl [0, 1, 2, 3] rfl)
        have hG35 : tw_fr kp L [] [349] Eg2 Eg2 := tw_fr.rf
        refine lv_if_eq (tgt := 35) hx hb dX12_closes_15 (by decide) (fun hc9 => ?_) (fun hc9 => ?_)
        · have hf10 : xe6.toInt = 0 := by have z := (fa_eq _ _).mp hc9; have : ((0 : Int32).toInt) = 0 := (by decide); omega
          exact hJ35  _ _ _ ls hG35 TH hS (lv_sub hl [0, 1, 2, 3] rfl)
        · have hf11 : ¬ (xe6.toInt = 0) := fun q => hc9 ((fa_eq _ _).mpr (by have : ((0 : Int32).toInt) = 0 := (by decide); omega))
          refine lv_aload_n hx hb dX12_closes_18 rfl (lv_at hl 1 rfl) ?_
          refine tw_get (ci := 12) (C := RX12) (T := TX12) (N := 64) hx hb hB cx_inX12 hown hK TH hm0 hk0 rfl ⟨by decide, rfl⟩ 35 (by decide) cw_1228 (fun _ h9 => h9) dX12_closes_19 (fun hv => ?_)
          obtain ⟨xr12, hxr12, hmxr12, hkxr12⟩ : ∃ a : Nat, tw_fv Eg2 a0 35 = .ref a ∧ a ∈ L ∧ kp a = 341 := hv
          rw [hxr12]
          refine lv_iload_n hx hb dX12_closes_22 rfl (lv_at hl 3 rfl) ?_
          refine tw_aald (k := 341) (t0 := 4) (n := 10) (lo := 351) (hi := 0) (ty := .int) hx hb hK TH hmxr12 hkxr12 (by decide) rfl rfl (i := x2) (vp_in_iff.mpr ⟨by  omega, by  omega⟩) dX12_closes_23 (fun xr13 exr13 hmxr13 hkxr13 => ?_)
          have hkxr13 : kp xr13 = 351 := hkxr13
          refine lv_iload_n hx hb dX12_closes_24 rfl (lv_at hl 0 rfl) ?_
          refine tw_iald (k := 351) (t0 := 0) (n := 252) (lo := (-128)) (hi := 127) hx hb hK TH hmxr13 hkxr13 (by decide) rfl rfl (i := y2_3) (vp_in_iff.mpr ⟨by  omega, by  omega⟩) dX12_closes_25 (fun hxe14a hxe14b => ?_)
          obtain ⟨xe14, exe14⟩ : ∃ z : Int32, tw_iv Eg2 xr13 (Int32.toNatClampNeg y2_3) = z := ⟨_, rfl⟩
          rw [exe14] at hxe14a hxe14b ⊢
          refine lv_if_eq (tgt := 35) hx hb dX12_closes_26 (by decide) (fun hc15 => ?_) (fun hc15 => ?_)
          · have hf16 : xe14.toInt = 0 := by have z := (fa_eq _ _).mp hc15; have : ((0 : Int32).toInt) = 0 := (by decide); omega
            exact hJ35  _ _ _ ls hG35 TH hS (lv_sub hl [0, 1, 2, 3] rfl)
          · have hf17 : ¬ (xe14.toInt = 0) := fun q => hc15 ((fa_eq _ _).mpr (by have : ((0 : Int32).toInt) = 0 := (by decide); omega))
            refine lv_aload_n hx hb dX12_closes_29 rfl (lv_at hl 2 rfl) ?_
            refine lv_iload_n hx hb dX12_closes_30 rfl (lv_at hl 0 rfl) ?_
            refine lv_iconst (v := 1) hx hb dX12_closes_31 (by decide) ?_
            refine lv_iadd hx hb dX12_closes_32 ?_
            refine lv_topi (fun zi18 ezi18 => ?_)
            have hzi18 : zi18.toInt = y2_3.toInt + 1 := by rw [ezi18]; have : ((1 : Int32).toInt) = 1 := (by decide); have := ia_lo y2_3; have := ia_hi y2_3; exact (ia_add (by omega) (by omega)).trans (by omega)
            refine lv_iconst (v := 1) hx hb dX12_closes_33 (by decide) ?_
            refine tw_zast (k := 349) (n := 253) (lo := 0) (hi := 1) hx hb hK TH hS hm1 hk1 (by decide) rfl (i := zi18) (x := 1) (vp_in_iff.mpr ⟨by  omega, by  omega⟩) (by have : ((1 : Int32).toInt) = 1 := (by decide); omega) (by have : ((1 : Int32).toInt) = 1 := (by decide); omega) (by have : ((1 : Int32).toInt) = 1 := (by decide); omega) (by have : ((1 : Int32).toInt) = 1 := (by decide); omega) dX12_closes_34 (fun H locs E19 TH hS hp20 hp21 hp22 => ?_)
            have hst23 : tw_fr kp L [] [349] Eg2 E19 := tw_fr.ast tw_fr.rf (fun _ => hk1) hp20 hp21 (by decide)
            have hF := hF.tr hst23 (fun _ h => ⟨h, rfl⟩) (by decide) (by decide)
            have hG2 := hG2.tr hst23 (fun _ h => ⟨h, rfl⟩) (by decide) (by decide)
            have hG35 := hG35.tr hst23 (fun _ h => ⟨h, rfl⟩) (by decide) (by decide)
            have hmf24 : tw_fv E19 a0 34 = .ref xr1 := (hst23.1 a0 34 hm0 (by rw [hk0]; decide)).trans hxr1
            have hmf25 : tw_fv E19 a0 35 = .ref xr12 := (hst23.1 a0 35 hm0 (by rw [hk0]; decide)).trans hxr12
            exact hJ35  _ _ _ ls hG35 TH hS (lv_sub hl [0, 1, 2, 3] rfl)
  exact hJ2 253 (0 : Int32) _ _ _ ls (by have : ((0 : Int32).toInt) = 0 := (by decide); omega) (by have : ((0 : Int32).toInt) = 0 := (by decide); omega) (by have : ((0 : Int32).toInt) = 0 := (by decide);  omega) tw_fr.rf TH hS (lv_sub hl [0, 1, 2, 3] rfl)
set_option maxHeartbeats 4000000 in
set_option maxRecDepth 100000 in
theorem tX12_fitsSet (l : Launch) (D : va_G) (cs : Nat → ClassId) {kp : Nat → Nat} {L : List Nat} {E : Nat → va_E} (a0 : Nat) (x1 : Int32) (x2 : Int32) (x3 : Int32) (hm0 : a0 ∈ L) (hk0 : kp a0 = 12) (hp1a : 0 ≤ x1.toInt) (hp1b : x1.toInt ≤ 15) (hp3a : 0 ≤ x3.toInt) (hp3b : x3.toInt ≤ 9) (hg0 : ht_ok E a0) (sz : Nat) : Met l yX12_fitsSet (.code yX12_fitsSet cX12_fitsSet 7 (some .boolean) :: cx_big) { frames := 1, cells := 0, slots := 0, locals := 22 } (tw_P D cs kp L E [.ref a0, .int x1, .int x2, .int x3] sz) (tw_Q D cs kp L (fun v kq Lq Eq => (∃ x : Int32, v = some (.int x) ∧ 0 ≤ x.toInt ∧ x.toInt ≤ 1) ∧ kp = kq ∧ L = Lq ∧ E = Eq) (va_A (va_pl L E) sz)) 0 0 (va_A (va_pl L E) sz) := by
  refine tw_ofW (by decide) (Nat.le_of_ble_eq_true rfl) ?_
  intro p e s m below meth c A ls hx hb hr hml hB hown hlocks hK hN hA TH hS hl
  have hown : s.vm.findClass "TreeMergeModel" = some m.cls := hown
  have hl : lv_has ls 7 [(0, .ref a0), (1, .int x1), (2, .int x2), (3, .int x3)] := hl
  obtain ⟨kp0, ekp⟩ : ∃ z, z = kp := ⟨_, rfl⟩
  obtain ⟨L0, eL⟩ : ∃ z, z = L := ⟨_, rfl⟩
  rw [show tw_Q D cs kp L = tw_Q D cs kp0 L0 by rw [ekp, eL]]
  have hex : ∀ a : Nat, a ∈ L0 → a ∈ L ∧ kp a = kp0 a := fun a h => ⟨by rw [← eL]; exact h, by rw [ekp]⟩
  refine lv_iconst (v := 0) hx hb dX12_fitsSet_0 (by decide) ?_
  refine lv_istore (lv' := [(4, .int 0), (0, .ref a0), (1, .int x1), (2, .int x2), (3, .int x3)]) hx hb dX12_fitsSet_1 hl (by decide) rfl (fun ls hl => ?_)
  have hJ3 : ∀ (n3 : Nat) (y3_4 : Int32) (H : Heap) (locs : List Loc) (ls : Array Slot), 0 ≤ y3_4.toInt → y3_4.toInt ≤ 150 → 150 - y3_4.toInt ≤ (n3 : Int) → tw_H D cs kp L E A H → va_S A s.heap H locs → lv_has ls 7 [(4, .int y3_4), (0, .ref a0), (1, .int x1), (2, .int x2), (3, .int x3)] → W p l e { frames := 1, cells := 0, slots := 0, locals := 22 } s m [.ref a0, .int x1, .int x2, .int x3].toArray below meth c H locs 0 0 (MQ below (tw_Q D cs kp0 L0 (fun v kq Lq Eq => (∃ x : Int32, v = some (.int x) ∧ 0 ≤ x.toInt ∧ x.toInt ≤ 1) ∧ kp = kq ∧ L = Lq ∧ E = Eq) A) [.ref a0, .int x1, .int x2, .int x3].toArray s 0 0 A) (F0 m 3 ls []) := by
    intro n3
    induction n3 using Nat.strongRecOn with
    | _ n3 ih3 =>
      intro y3_4 H locs ls hy3_4a hy3_4b hmeas3 TH hS hl
      refine lv_iload hx hb dX12_fitsSet_3 (lv_at hl 0 rfl) ?_
      refine lv_sipush (v := 150) hx hb dX12_fitsSet_5 (by decide) ?_
      refine lv_icmp_ge (tgt := 106) hx hb dX12_fitsSet_8 (by decide) (fun hc1 => ?_) (fun hc1 => ?_)
      · have hf2 : 150 ≤ y3_4.toInt := by have z := (fa_le _ _).mp hc1; have : ((150 : Int32).toInt) = 150 := (by decide); omega
        refine lv_iconst (v := 1) hx hb dX12_fitsSet_106 (by decide) ?_
        exact tw_zret hx hb hr hlocks (by decide) TH hS hex ⟨⟨_, rfl, (show 0 ≤ Int32.toInt 1 from by have : ((1 : Int32).toInt) = 1 := (by decide); omega), (show Int32.toInt 1 ≤ 1 from by have : ((1 : Int32).toInt) = 1 := (by decide); omega)⟩, rfl, rfl, rfl⟩ (Nat.le_of_ble_eq_true rfl) (Nat.le_of_ble_eq_true rfl) dX12_fitsSet_107
      · have hf3 : ¬ (150 ≤ y3_4.toInt) := fun q => hc1 ((fa_le _ _).mpr (by have : ((150 : Int32).toInt) = 150 := (by decide); omega))
        refine lv_aload_n hx hb dX12_fitsSet_11 rfl (lv_at hl 1 rfl) ?_
        refine tw_get (ci := 12) (C := RX12) (T := TX12) (N := 64) hx hb hB cx_inX12 hown hK TH hm0 hk0 rfl ⟨by decide, rfl⟩ 16 (by decide) cw_1209 (fun _ h9 => h9) dX12_fitsSet_12 (fun hv => ?_)
        obtain ⟨xr4, hxr4, hmxr4, hkxr4⟩ : ∃ a : Nat, tw_fv E a0 16 = .ref a ∧ a ∈ L ∧ kp a = 316 := hv
        rw [hxr4]
        refine lv_iload_n hx hb dX12_fitsSet_15 rfl (lv_at hl 2 rfl) ?_
        refine tw_aald (k := 316) (t0 := 5) (n := 16) (lo := 326) (hi := 0) (ty := .boolean) hx hb hK TH hmxr4 hkxr4 (by decide) rfl rfl (i := x1) (vp_in_iff.mpr ⟨by  omega, by  omega⟩) dX12_fitsSet_16 (fun xr5 exr5 hmxr5 hkxr5 => ?_)
        have hkxr5 : kp xr5 = 326 := hkxr5
        refine lv_iload hx hb dX12_fitsSet_17 (lv_at hl 0 rfl) ?_
        refine tw_zald (k := 326) (t0 := 3) (n := 150) (lo := 0) (hi := 1) hx hb hK TH hmxr5 hkxr5 (by decide) rfl rfl (i := y3_4) (vp_in_iff.mpr ⟨by  omega, by  omega⟩) dX12_fitsSet_19 (fun hxe6a hxe6b => ?_)
        obtain ⟨xe6, exe6⟩ : ∃ z : Int32, tw_iv E xr5 (Int32.toNatClampNeg y3_4) = z := ⟨_, rfl⟩
        rw [exe6] at hxe6a hxe6b ⊢
        have hJ100 : ∀  (H : Heap) (locs : List Loc) (ls : Array Slot), tw_H D cs kp L E A H → va_S A s.heap H locs → lv_has ls 7 [(4, .int y3_4), (0, .ref a0), (1, .int x1), (2, .int x2), (3, .int x3)] → W p l e { frames := 1, cells := 0, slots := 0, locals := 22 } s m [.ref a0, .int x1, .int x2, .int x3].toArray below meth c H locs 0 0 (MQ below (tw_Q D cs kp0 L0 (fun v kq Lq Eq => (∃ x : Int32, v = some (.int x) ∧ 0 ≤ x.toInt ∧ x.toInt ≤ 1) ∧ kp = kq ∧ L = Lq ∧ E = Eq) A) [.ref a0, .int x1, .int x2, .int x3].toArray s 0 0 A) (F0 m 100 ls []) := by
          intro H locs ls TH hS hl
          obtain ⟨zi7, ezi7⟩ : ∃ z : Int32, z = y3_4 + Int32.ofInt 1 := ⟨_, rfl⟩
          have hzi7 : zi7.toInt = y3_4.toInt + 1 := by rw [ezi7]; have : ((Int32.ofInt 1).toInt) = 1 := (by decide);  exact (ia_add (by omega) (by omega)).trans (by omega)
          refine lv_iinc (v := zi7) (lv' := [(4, .int zi7), (0, .ref a0), (1, .int x1), (2, .int x2), (3, .int x3)]) hx hb dX12_fitsSet_100 hl (k := 0) rfl ezi7.symm (by decide) rfl (fun ls hl => ?_)
          refine lv_goto (tgt := 3) hx hb dX12_fitsSet_103 (by decide) ?_
          exact ih3 (n3 - 1) (by   omega) zi7 _ _ ls (by omega) (by omega) (by   omega) TH hS (lv_sub hl [0, 1, 2, 3, 4] rfl)
        refine lv_if_eq (tgt := 100) hx hb dX12_fitsSet_20 (by decide) (fun hc8 => ?_) (fun hc8 => ?_)
        · have hf9 : xe6.toInt = 0 := by have z := (fa_eq _ _).mp hc8; have : ((0 : Int32).toInt) = 0 := (by decide); omega
          exact hJ100  _ _ ls  TH hS (lv_sub hl [0, 1, 2, 3, 4] rfl)
        · have hf10 : ¬ (xe6.toInt = 0) := fun q => hc8 ((fa_eq _ _).mpr (by have : ((0 : Int32).toInt) = 0 := (by decide); omega))
          refine lv_aload_n hx hb dX12_fitsSet_23 rfl (lv_at hl 1 rfl) ?_
          refine tw_get (ci := 12) (C := RX12) (T := TX12) (N := 64) hx hb hB cx_inX12 hown hK TH hm0 hk0 rfl ⟨by decide, rfl⟩ 18 (by decide) cw_1211 (fun _ h9 => h9) dX12_fitsSet_24 (fun hv => ?_)
          obtain ⟨xr11, hxr11, hmxr11, hkxr11⟩ : ∃ a : Nat, tw_fv E a0 18 = .ref a ∧ a ∈ L ∧ kp a = 318 := hv
          rw [hxr11]
          refine lv_iload_n hx hb dX12_fitsSet_27 rfl (lv_at hl 2 rfl) ?_
          refine tw_aald (k := 318) (t0 := 4) (n := 16) (lo := 328) (hi := 0) (ty := .int) hx hb hK TH hmxr11 hkxr11 (by decide) rfl rfl (i := x1) (vp_in_iff.mpr ⟨by  omega, by  omega⟩) dX12_fitsSet_28 (fun xr12 exr12 hmxr12 hkxr12 => ?_)
          have hkxr12 : kp xr12 = 328 := hkxr12
          refine lv_iload hx hb dX12_fitsSet_29 (lv_at hl 0 rfl) ?_
          refine tw_iald (k := 328) (t0 := 0) (n := 150) (lo := (-1)) (hi := 149) hx hb hK TH hmxr12 hkxr12 (by decide) rfl rfl (i := y3_4) (vp_in_iff.mpr ⟨by  omega, by  omega⟩) dX12_fitsSet_31 (fun hxe13a hxe13b => ?_)
          obtain ⟨xe13, exe13⟩ : ∃ z : Int32, tw_iv E xr12 (Int32.toNatClampNeg y3_4) = z := ⟨_, rfl⟩
          rw [exe13] at hxe13a hxe13b ⊢
          refine lv_iload_n hx hb dX12_fitsSet_32 rfl (lv_at hl 3 rfl) ?_
          refine lv_icmp_eq (tgt := 39) hx hb dX12_fitsSet_33 (by decide) (fun hc14 => ?_) (fun hc14 => ?_)
          · have hf15 : xe13.toInt = x2.toInt := by have z := (fa_eq _ _).mp hc14;  omega
            refine lv_iconst (v := 0) hx hb dX12_fitsSet_39 (by decide) ?_
            refine lv_istore (lv' := [(5, .int 0), (4, .int y3_4), (0, .ref a0), (1, .int x1), (2, .int x2), (3, .int x3)]) hx hb dX12_fitsSet_40 hl (by decide) rfl (fun ls hl => ?_)
            refine lv_iconst (v := 0) hx hb dX12_fitsSet_42 (by decide) ?_
            refine lv_istore (lv' := [(6, .int 0), (5, .int 0), (4, .int y3_4), (0, .ref a0), (1, .int x1), (2, .int x2), (3, .int x3)]) hx hb dX12_fitsSet_43 hl (by decide) rfl (fun ls hl => ?_)
            have hJ45 : ∀ (n45 : Nat) (y45_6 : Int32) (y45_5 : Int32) (H : Heap) (locs : List Loc) (ls : Array Slot), 0 ≤ y45_6.toInt → y45_6.toInt ≤ 252 → 0 ≤ y45_5.toInt → y45_5.toInt ≤ 1 → 252 - y45_6.toInt ≤ (n45 : Int) → tw_H D cs kp L E A H → va_S A s.heap H locs → lv_has ls 7 [(6, .int y45_6), (5, .int y45_5), (4, .int y3_4), (0, .ref a0), (1, .int x1), (2, .int x2), (3, .int x3)] → W p l e { frames := 1, cells := 0, slots := 0, locals := 22 } s m [.ref a0, .int x1, .int x2, .int x3].toArray below meth c H locs 0 0 (MQ below (tw_Q D cs kp0 L0 (fun v kq Lq Eq => (∃ x : Int32, v = some (.int x) ∧ 0 ≤ x.toInt ∧ x.toInt ≤ 1) ∧ kp = kq ∧ L = Lq ∧ E = Eq) A) [.ref a0, .int x1, .int x2, .int x3].toArray s 0 0 A) (F0 m 45 ls []) := by
              intro n45
              induction n45 using Nat.strongRecOn with
              | _ n45 ih45 =>
                intro y45_6 y45_5 H locs ls hy45_6a hy45_6b hy45_5a hy45_5b hmeas45 TH hS hl
                refine lv_iload hx hb dX12_fitsSet_45 (lv_at hl 0 rfl) ?_
                refine lv_aload_n hx hb dX12_fitsSet_47 rfl (lv_at hl 3 rfl) ?_
                refine tw_get (ci := 12) (C := RX12) (T := TX12) (N := 64) hx hb hB cx_inX12 hown hK TH hm0 hk0 rfl ⟨by decide, rfl⟩ 34 (by decide) cw_1227 (fun _ h9 => h9) dX12_fitsSet_48 (fun hv => ?_)
                obtain ⟨xr16, hxr16, hmxr16, hkxr16⟩ : ∃ a : Nat, tw_fv E a0 34 = .ref a ∧ a ∈ L ∧ kp a = 340 := hv
                rw [hxr16]
                refine lv_iload_n hx hb dX12_fitsSet_51 rfl (lv_at hl 6 rfl) ?_
                refine tw_iald (k := 340) (t0 := 0) (n := 10) (lo := 0) (hi := 252) hx hb hK TH hmxr16 hkxr16 (by decide) rfl rfl (i := x3) (vp_in_iff.mpr ⟨by  omega, by  omega⟩) dX12_fitsSet_52 (fun hxe17a hxe17b => ?_)
                obtain ⟨xe17, exe17⟩ : ∃ z : Int32, tw_iv E xr16 (Int32.toNatClampNeg x3) = z := ⟨_, rfl⟩
                rw [exe17] at hxe17a hxe17b ⊢
                refine lv_icmp_ge (tgt := 93) hx hb dX12_fitsSet_53 (by decide) (fun hc18 => ?_) (fun hc18 => ?_)
                · have hf19 : xe17.toInt ≤ y45_6.toInt := by have z := (fa_le _ _).mp hc18;  omega
                  refine lv_iload hx hb dX12_fitsSet_93 (lv_at hl 1 rfl) ?_
                  refine lv_if_ne (tgt := 100) hx hb dX12_fitsSet_95 (by decide) (fun hc20 => ?_) (fun hc20 => ?_)
                  · have hf21 : ¬ (y45_5.toInt = 0) := fun q => hc20 ((fa_eq _ _).mpr (by have : ((0 : Int32).toInt) = 0 := (by decide); omega))
                    exact hJ100  _ _ ls  TH hS (lv_sub hl [2, 3, 4, 5, 6] rfl)
                  · have hf22 : y45_5.toInt = 0 := by have z := (fa_eq _ _).mp hc20; have : ((0 : Int32).toInt) = 0 := (by decide); omega
                    refine lv_iconst (v := 0) hx hb dX12_fitsSet_98 (by decide) ?_
                    exact tw_zret hx hb hr hlocks (by decide) TH hS hex ⟨⟨_, rfl, (show 0 ≤ Int32.toInt 0 from by have : ((0 : Int32).toInt) = 0 := (by decide); omega), (show Int32.toInt 0 ≤ 1 from by have : ((0 : Int32).toInt) = 0 := (by decide); omega)⟩, rfl, rfl, rfl⟩ (Nat.le_of_ble_eq_true rfl) (Nat.le_of_ble_eq_true rfl) dX12_fitsSet_99
                · have hf23 : ¬ (xe17.toInt ≤ y45_6.toInt) := fun q => hc18 ((fa_le _ _).mpr (by  omega))
                  refine lv_iload hx hb dX12_fitsSet_56 (lv_at hl 1 rfl) ?_
                  have hJ85 : ∀ (z85_0 : Int32) (H : Heap) (locs : List Loc) (ls : Array Slot), 0 ≤ z85_0.toInt → z85_0.toInt ≤ 1 → tw_H D cs kp L E A H → va_S A s.heap H locs → lv_has ls 7 [(6, .int y45_6), (4, .int y3_4), (0, .ref a0), (1, .int x1), (2, .int x2), (3, .int x3)] → W p l e { frames := 1, cells := 0, slots := 0, locals := 22 } s m [.ref a0, .int x1, .int x2, .int x3].toArray below meth c H locs 0 0 (MQ below (tw_Q D cs kp0 L0 (fun v kq Lq Eq => (∃ x : Int32, v = some (.int x) ∧ 0 ≤ x.toInt ∧ x.toInt ≤ 1) ∧ kp = kq ∧ L = Lq ∧ E = Eq) A) [.ref a0, .int x1, .int x2, .int x3].toArray s 0 0 A) (F0 m 85 ls [.int z85_0]) := by
                    intro z85_0 H locs ls hz85_0a hz85_0b TH hS hl
                    refine lv_istore (lv' := [(5, .int z85_0), (6, .int y45_6), (4, .int y3_4), (0, .ref a0), (1, .int x1), (2, .int x2), (3, .int x3)]) hx hb dX12_fitsSet_85 hl (by decide) rfl (fun ls hl => ?_)
                    obtain ⟨zi24, ezi24⟩ : ∃ z : Int32, z = y45_6 + Int32.ofInt 1 := ⟨_, rfl⟩
                    have hzi24 : zi24.toInt = y45_6.toInt + 1 := by rw [ezi24]; have : ((Int32.ofInt 1).toInt) = 1 := (by decide);  exact (ia_add (by omega) (by omega)).trans (by omega)
                    refine lv_iinc (v := zi24) (lv' := [(6, .int zi24), (5, .int z85_0), (4, .int y3_4), (0, .ref a0), (1, .int x1), (2, .int x2), (3, .int x3)]) hx hb dX12_fitsSet_87 hl (k := 1) rfl ezi24.symm (by decide) rfl (fun ls hl => ?_)
                    refine lv_goto (tgt := 45) hx hb dX12_fitsSet_90 (by decide) ?_
                    exact ih45 (n45 - 1) (by   omega) zi24 z85_0 _ _ ls (by omega) (by omega) (by omega) (by omega) (by   omega) TH hS (lv_sub hl [0, 1, 2, 3, 4, 5, 6] rfl)
                  have hJ80 : ∀  (H : Heap) (locs : List Loc) (ls : Array Slot), tw_H D cs kp L E A H → va_S A s.heap H locs → lv_has ls 7 [(6, .int y45_6), (4, .int y3_4), (0, .ref a0), (1, .int x1), (2, .int x2), (3, .int x3)] → W p l e { frames := 1, cells := 0, slots := 0, locals := 22 } s m [.ref a0, .int x1, .int x2, .int x3].toArray below meth c H locs 0 0 (MQ below (tw_Q D cs kp0 L0 (fun v kq Lq Eq => (∃ x : Int32, v = some (.int x) ∧ 0 ≤ x.toInt ∧ x.toInt ≤ 1) ∧ kp = kq ∧ L = Lq ∧ E = Eq) A) [.ref a0, .int x1, .int x2, .int x3].toArray s 0 0 A) (F0 m 80 ls []) := by
                    intro H locs ls TH hS hl
                    refine lv_iconst (v := 1) hx hb dX12_fitsSet_80 (by decide) ?_
                    refine lv_goto (tgt := 85) hx hb dX12_fitsSet_81 (by decide) ?_
                    exact hJ85 (1 : Int32) _ _ ls (by have : ((1 : Int32).toInt) = 1 := (by decide); omega) (by have : ((1 : Int32).toInt) = 1 := (by decide); omega) TH hS (lv_sub hl [0, 1, 2, 3, 4, 5] rfl)
                  refine lv_if_ne (tgt := 80) hx hb dX12_fitsSet_58 (by decide) (fun hc25 => ?_) (fun hc25 => ?_)
                  · have hf26 : ¬ (y45_5.toInt = 0) := fun q => hc25 ((fa_eq _ _).mpr (by have : ((0 : Int32).toInt) = 0 := (by decide); omega))
                    exact hJ80  _ _ ls  TH hS (lv_sub hl [0, 2, 3, 4, 5, 6] rfl)
                  · have hf27 : y45_5.toInt = 0 := by have z := (fa_eq _ _).mp hc25; have : ((0 : Int32).toInt) = 0 := (by decide); omega
                    refine lv_aload_n hx hb dX12_fitsSet_61 rfl (lv_at hl 3 rfl) ?_
                    refine tw_get (ci := 12) (C := RX12) (T := TX12) (N := 64) hx hb hB cx_inX12 hown hK TH hm0 hk0 rfl ⟨by decide, rfl⟩ 36 (by decide) cw_1229 (fun _ h9 => h9) dX12_fitsSet_62 (fun hv => ?_)
                    obtain ⟨xr28, hxr28, hmxr28, hkxr28⟩ : ∃ a : Nat, tw_fv E a0 36 = .ref a ∧ a ∈ L ∧ kp a = 342 := hv
                    rw [hxr28]
                    refine lv_iload_n hx hb dX12_fitsSet_65 rfl (lv_at hl 6 rfl) ?_
                    refine tw_aald (k := 342) (t0 := 4) (n := 10) (lo := 352) (hi := 0) (ty := .int) hx hb hK TH hmxr28 hkxr28 (by decide) rfl rfl (i := x3) (vp_in_iff.mpr ⟨by  omega, by  omega⟩) dX12_fitsSet_66 (fun xr29 exr29 hmxr29 hkxr29 => ?_)
                    have hkxr29 : kp xr29 = 352 := hkxr29
                    refine lv_iload hx hb dX12_fitsSet_67 (lv_at hl 0 rfl) ?_
                    refine tw_iald (k := 352) (t0 := 0) (n := 252) (lo := (-1)) (hi := 9) hx hb hK TH hmxr29 hkxr29 (by decide) rfl rfl (i := y45_6) (vp_in_iff.mpr ⟨by  omega, by  omega⟩) dX12_fitsSet_69 (fun hxe30a hxe30b => ?_)
                    obtain ⟨xe30, exe30⟩ : ∃ z : Int32, tw_iv E xr29 (Int32.toNatClampNeg y45_6) = z := ⟨_, rfl⟩
                    rw [exe30] at hxe30a hxe30b ⊢
                    refine lv_aload_n hx hb dX12_fitsSet_70 rfl (lv_at hl 3 rfl) ?_
                    refine lv_iload_n hx hb dX12_fitsSet_71 rfl (lv_at hl 4 rfl) ?_
                    refine lv_iload hx hb dX12_fitsSet_72 (lv_at hl 2 rfl) ?_
                    refine tw_Vc (o := a0) (ci := 12) (n := 2) (post := (fun v kq Lq Eq => (∃ x : Int32, v = some (.int x) ∧ 0 ≤ x.toInt ∧ x.toInt ≤ 9) ∧ kp = kq ∧ L = Lq ∧ E = Eq)) (As := [.int x1, .int y3_4]) (rest := [.int xe30]) ⟨hx, hb, hml, hown, hB⟩ (fun sz => tX12_kindOf l D cs a0 x1 y3_4 hm0 hk0 (by omega) (by omega) (by omega) (by omega) (by  have rf_xe6 : rw_h E a0 (x1.toInt) (y3_4.toInt).toNat = xe6.toInt := rw_h_of (m := a0) (i := x1) (c := y3_4) hxr4 exr5 exe6; have rf_xe13 : rw_p E a0 (x1.toInt) (y3_4.toInt).toNat = xe13.toInt := rw_p_of (m := a0) (i := x1) (c := y3_4) hxr11 exr12 exe13; intro q15; exact ht_le hg0 (by omega) (by omega) (by rw [rf_xe6]; omega) q15) sz) cg_12_301_X12_kindOf rfl rfl (by decide +kernel) ⟨Nat.le_of_ble_eq_true rfl, Nat.le_of_ble_eq_true rfl⟩ hK hN TH hS hA rfl hm0 hk0 (by decide) rfl hl.1 rfl (Nat.le_of_ble_eq_true rfl) dX12_fitsSet_74 ⟨Nat.le_of_ble_eq_true rfl, Nat.le_of_ble_eq_true rfl⟩ (fun v31 kp31 L31 E31 H locs hq31 hx31 TH hS => ?_)
                    obtain ⟨⟨xc32, rfl, hxc32a, hxc32b⟩, rfl, rfl, rfl⟩ := hq31
                    refine W.eq (g2 := F0 m 77 ls [.int xc32, .int xe30]) rfl ?_
                    refine lv_icmp_ne (tgt := 84) hx hb dX12_fitsSet_77 (by decide) (fun hc33 => ?_) (fun hc33 => ?_)
                    · have hf34 : ¬ (xe30.toInt = xc32.toInt) := fun q => hc33 ((fa_eq _ _).mpr (by  omega))
                      refine lv_iconst (v := 0) hx hb dX12_fitsSet_84 (by decide) ?_
                      exact hJ85 (0 : Int32) _ _ ls (by have : ((0 : Int32).toInt) = 0 := (by decide); omega) (by have : ((0 : Int32).toInt) = 0 := (by decide); omega) TH hS (lv_sub hl [0, 2, 3, 4, 5, 6] rfl)
                    · have hf35 : xe30.toInt = xc32.toInt := by have z := (fa_eq _ _).mp hc33;  omega
                      exact hJ80  _ _ ls  TH hS (lv_sub hl [0, 2, 3, 4, 5, 6] rfl)
            exact hJ45 253 (0 : Int32) (0 : Int32) _ _ ls (by have : ((0 : Int32).toInt) = 0 := (by decide); omega) (by have : ((0 : Int32).toInt) = 0 := (by decide); omega) (by have : ((0 : Int32).toInt) = 0 := (by decide); omega) (by have : ((0 : Int32).toInt) = 0 := (by decide); omega) (by have : ((0 : Int32).toInt) = 0 := (by decide);  omega) TH hS (lv_sub hl [0, 1, 2, 3, 4, 5, 6] rfl)
          · have hf36 : ¬ (xe13.toInt = x2.toInt) := fun q => hc14 ((fa_eq _ _).mpr (by  omega))
            refine lv_goto (tgt := 100) hx hb dX12_fitsSet_36 (by decide) ?_
            exact hJ100  _ _ ls  TH hS (lv_sub hl [0, 1, 2, 3, 4] rfl)
  exact hJ3 151 (0 : Int32) _ _ ls (by have : ((0 : Int32).toInt) = 0 := (by decide); omega) (by have : ((0 : Int32).toInt) = 0 := (by decide); omega) (by have : ((0 : Int32).toInt) = 0 := (by decide);  omega) TH hS (lv_sub hl [0, 1, 2, 3, 4] rfl)
