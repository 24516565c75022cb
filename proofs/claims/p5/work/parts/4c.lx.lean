set_option maxHeartbeats 4000000 in
set_option maxRecDepth 100000 in
theorem tX12_isLetter_vL (l : Launch) (D : va_G) (cs : Nat → ClassId) {kp : Nat → Nat} {L : List Nat} {E : Nat → va_E} (x0 : Int32)  (sz : Nat) : Met l yX12_isLetter (.code yX12_isLetter cX12_isLetter 1 (some .boolean) :: cx_big) { frames := 0, cells := 0, slots := 0, locals := 0 } (tw_P D cs kp L E [.int x0] sz) (tw_Q D cs kp L (fun v kq Lq Eq => (∃ x : Int32, v = some (.int x) ∧ 0 ≤ x.toInt ∧ x.toInt ≤ 1 ∧ (x.toInt ≠ 0 ↔ (97 ≤ x0.toInt ∧ x0.toInt ≤ 122))) ∧ kp = kq ∧ L = Lq ∧ E = Eq) (va_A (va_pl L E) sz)) 0 0 (va_A (va_pl L E) sz) := by
  refine tw_ofW (by decide) (Nat.le_of_ble_eq_true rfl) ?_
  intro p e s m below meth c A ls hx hb hr hml hB hown hlocks hK hN hA TH hS hl
  have hown : s.vm.findClass "TreeMergeModel" = some m.cls := hown
  have hl : lv_has ls 1 [(0, .int x0)] := hl
  obtain ⟨kp0, ekp⟩ : ∃ z, z = kp := ⟨_, rfl⟩
  obtain ⟨L0, eL⟩ : ∃ z, z = L := ⟨_, rfl⟩
  rw [show tw_Q D cs kp L = tw_Q D cs kp0 L0 by rw [ekp, eL]]
  have hex : ∀ a : Nat, a ∈ L0 → a ∈ L ∧ kp a = kp0 a := fun a h => ⟨by rw [← eL]; exact h, by rw [ekp]⟩
  refine lv_iload_n hx hb dX12_isLetter_0 rfl (lv_at hl 0 rfl) ?_
  refine lv_bipush (v := 97) hx hb dX12_isLetter_1 (by decide) ?_
  refine lv_icmp_lt (tgt := 16) hx hb dX12_isLetter_3 (by decide) (fun hc1 => ?_) (fun hc1 => ?_)
  · have hf2 : x0.toInt < 97 := by have z := (fa_lt _ _).mp hc1; have : ((97 : Int32).toInt) = 97 := (by decide); omega
    refine lv_iconst (v := 0) hx hb dX12_isLetter_16 (by decide) ?_
    exact tw_zret hx hb hr hlocks (by decide) TH hS hex ⟨⟨_, rfl, (show 0 ≤ Int32.toInt 0 from by have : ((0 : Int32).toInt) = 0 := (by decide); omega), (show Int32.toInt 0 ≤ 1 from by have : ((0 : Int32).toInt) = 0 := (by decide); omega), (by have : ((0 : Int32).toInt) = 0 := (by decide); omega)⟩, rfl, rfl, rfl⟩ (Nat.le_of_ble_eq_true rfl) (Nat.le_of_ble_eq_true rfl) dX12_isLetter_17
  · have hf3 : ¬ (x0.toInt < 97) := fun q => hc1 ((fa_lt _ _).mpr (by have : ((97 : Int32).toInt) = 97 := (by decide); omega))
    refine lv_iload_n hx hb dX12_isLetter_6 rfl (lv_at hl 0 rfl) ?_
    refine lv_bipush (v := 122) hx hb dX12_isLetter_7 (by decide) ?_
    refine lv_icmp_gt (tgt := 16) hx hb dX12_isLetter_9 (by decide) (fun hc4 => ?_) (fun hc4 => ?_)
    · have hf5 : 122 < x0.toInt := by have z := (fa_lt _ _).mp hc4; have : ((122 : Int32).toInt) = 122 := (by decide); omega
      refine lv_iconst (v := 0) hx hb dX12_isLetter_16 (by decide) ?_
      exact tw_zret hx hb hr hlocks (by decide) TH hS hex ⟨⟨_, rfl, (show 0 ≤ Int32.toInt 0 from by have : ((0 : Int32).toInt) = 0 := (by decide); omega), (show Int32.toInt 0 ≤ 1 from by have : ((0 : Int32).toInt) = 0 := (by decide); omega), (by have : ((0 : Int32).toInt) = 0 := (by decide); omega)⟩, rfl, rfl, rfl⟩ (Nat.le_of_ble_eq_true rfl) (Nat.le_of_ble_eq_true rfl) dX12_isLetter_17
    · have hf6 : ¬ (122 < x0.toInt) := fun q => hc4 ((fa_lt _ _).mpr (by have : ((122 : Int32).toInt) = 122 := (by decide); omega))
      refine lv_iconst (v := 1) hx hb dX12_isLetter_12 (by decide) ?_
      refine lv_goto (tgt := 17) hx hb dX12_isLetter_13 (by decide) ?_
      exact tw_zret hx hb hr hlocks (by decide) TH hS hex ⟨⟨_, rfl, (show 0 ≤ Int32.toInt 1 from by have : ((1 : Int32).toInt) = 1 := (by decide); omega), (show Int32.toInt 1 ≤ 1 from by have : ((1 : Int32).toInt) = 1 := (by decide); omega), (by have : ((1 : Int32).toInt) = 1 := (by decide); omega)⟩, rfl, rfl, rfl⟩ (Nat.le_of_ble_eq_true rfl) (Nat.le_of_ble_eq_true rfl) dX12_isLetter_17
set_option maxHeartbeats 4000000 in
set_option maxRecDepth 100000 in
theorem tX12_isOfWord_vL (l : Launch) (D : va_G) (cs : Nat → ClassId) {kp : Nat → Nat} {L : List Nat} {E : Nat → va_E} (x0 : Int32)  (sz : Nat) : Met l yX12_isOfWord (.code yX12_isOfWord cX12_isOfWord 1 (some .boolean) :: cx_big) { frames := 1, cells := 0, slots := 0, locals := 20 } (tw_P D cs kp L E [.int x0] sz) (tw_Q D cs kp L (fun v kq Lq Eq => (∃ x : Int32, v = some (.int x) ∧ 0 ≤ x.toInt ∧ x.toInt ≤ 1 ∧ (x.toInt ≠ 0 ↔ ((97 ≤ x0.toInt ∧ x0.toInt ≤ 122) ∨ (48 ≤ x0.toInt ∧ x0.toInt ≤ 57)))) ∧ kp = kq ∧ L = Lq ∧ E = Eq) (va_A (va_pl L E) sz)) 0 0 (va_A (va_pl L E) sz) := by
  refine tw_ofW (by decide) (Nat.le_of_ble_eq_true rfl) ?_
  intro p e s m below meth c A ls hx hb hr hml hB hown hlocks hK hN hA TH hS hl
  have hown : s.vm.findClass "TreeMergeModel" = some m.cls := hown
  have hl : lv_has ls 1 [(0, .int x0)] := hl
  obtain ⟨kp0, ekp⟩ : ∃ z, z = kp := ⟨_, rfl⟩
  obtain ⟨L0, eL⟩ : ∃ z, z = L := ⟨_, rfl⟩
  rw [show tw_Q D cs kp L = tw_Q D cs kp0 L0 by rw [ekp, eL]]
  have hex : ∀ a : Nat, a ∈ L0 → a ∈ L ∧ kp a = kp0 a := fun a h => ⟨by rw [← eL]; exact h, by rw [ekp]⟩
  refine lv_iload_n hx hb dX12_isOfWord_0 rfl (lv_at hl 0 rfl) ?_
  refine tw_Sc (n := 1) (post := (fun v kq Lq Eq => (∃ x : Int32, v = some (.int x) ∧ 0 ≤ x.toInt ∧ x.toInt ≤ 1 ∧ (x.toInt ≠ 0 ↔ (97 ≤ x0.toInt ∧ x0.toInt ≤ 122))) ∧ kp = kq ∧ L = Lq ∧ E = Eq)) (As := [.int x0]) (rest := []) ⟨hx, hb, hml, hown, hB⟩ (fun sz => tX12_isLetter_vL l D cs x0  sz) cg_12_175_X12_isLetter rfl rfl (by decide +kernel) ⟨Nat.le_of_ble_eq_true rfl, Nat.le_of_ble_eq_true rfl⟩ hK hN TH hS hA rfl hl.1 rfl (Nat.le_of_ble_eq_true rfl) dX12_isOfWord_1 ⟨Nat.le_of_ble_eq_true rfl, Nat.le_of_ble_eq_true rfl⟩ (fun v1 kp1 L1 E1 H locs hq1 hx1 TH hS => ?_)
  obtain ⟨⟨xc2, rfl, hxc2a, hxc2b, hpoxc2_0⟩, rfl, rfl, rfl⟩ := hq1
  refine W.eq (g2 := F0 m 4 ls [.int xc2]) rfl ?_
  refine lv_if_ne (tgt := 19) hx hb dX12_isOfWord_4 (by decide) (fun hc3 => ?_) (fun hc3 => ?_)
  · have hf4 : ¬ (xc2.toInt = 0) := fun q => hc3 ((fa_eq _ _).mpr (by have : ((0 : Int32).toInt) = 0 := (by decide); omega))
    refine lv_iconst (v := 1) hx hb dX12_isOfWord_19 (by decide) ?_
    refine lv_goto (tgt := 24) hx hb dX12_isOfWord_20 (by decide) ?_
    exact tw_zret hx hb hr hlocks (by decide) TH hS hex ⟨⟨_, rfl, (show 0 ≤ Int32.toInt 1 from by have : ((1 : Int32).toInt) = 1 := (by decide); omega), (show Int32.toInt 1 ≤ 1 from by have : ((1 : Int32).toInt) = 1 := (by decide); omega), (by have : ((1 : Int32).toInt) = 1 := (by decide); omega)⟩, rfl, rfl, rfl⟩ (Nat.le_of_ble_eq_true rfl) (Nat.le_of_ble_eq_true rfl) dX12_isOfWord_24
  · have hf5 : xc2.toInt = 0 := by have z := (fa_eq _ _).mp hc3; have : ((0 : Int32).toInt) = 0 := (by decide); omega
    refine lv_iload_n hx hb dX12_isOfWord_7 rfl (lv_at hl 0 rfl) ?_
    refine lv_bipush (v := 48) hx hb dX12_isOfWord_8 (by decide) ?_
    refine lv_icmp_lt (tgt := 23) hx hb dX12_isOfWord_10 (by decide) (fun hc6 => ?_) (fun hc6 => ?_)
    · have hf7 : x0.toInt < 48 := by have z := (fa_lt _ _).mp hc6; have : ((48 : Int32).toInt) = 48 := (by decide); omega
      refine lv_iconst (v := 0) hx hb dX12_isOfWord_23 (by decide) ?_
      exact tw_zret hx hb hr hlocks (by decide) TH hS hex ⟨⟨_, rfl, (show 0 ≤ Int32.toInt 0 from by have : ((0 : Int32).toInt) = 0 := (by decide); omega), (show Int32.toInt 0 ≤ 1 from by have : ((0 : Int32).toInt) = 0 := (by decide); omega), (by have : ((0 : Int32).toInt) = 0 := (by decide); omega)⟩, rfl, rfl, rfl⟩ (Nat.le_of_ble_eq_true rfl) (Nat.le_of_ble_eq_true rfl) dX12_isOfWord_24
    · have hf8 : ¬ (x0.toInt < 48) := fun q => hc6 ((fa_lt _ _).mpr (by have : ((48 : Int32).toInt) = 48 := (by decide); omega))
      refine lv_iload_n hx hb dX12_isOfWord_13 rfl (lv_at hl 0 rfl) ?_
      refine lv_bipush (v := 57) hx hb dX12_isOfWord_14 (by decide) ?_
      refine lv_icmp_gt (tgt := 23) hx hb dX12_isOfWord_16 (by decide) (fun hc9 => ?_) (fun hc9 => ?_)
      · have hf10 : 57 < x0.toInt := by have z := (fa_lt _ _).mp hc9; have : ((57 : Int32).toInt) = 57 := (by decide); omega
        refine lv_iconst (v := 0) hx hb dX12_isOfWord_23 (by decide) ?_
        exact tw_zret hx hb hr hlocks (by decide) TH hS hex ⟨⟨_, rfl, (show 0 ≤ Int32.toInt 0 from by have : ((0 : Int32).toInt) = 0 := (by decide); omega), (show Int32.toInt 0 ≤ 1 from by have : ((0 : Int32).toInt) = 0 := (by decide); omega), (by have : ((0 : Int32).toInt) = 0 := (by decide); omega)⟩, rfl, rfl, rfl⟩ (Nat.le_of_ble_eq_true rfl) (Nat.le_of_ble_eq_true rfl) dX12_isOfWord_24
      · have hf11 : ¬ (57 < x0.toInt) := fun q => hc9 ((fa_lt _ _).mpr (by have : ((57 : Int32).toInt) = 57 := (by decide); omega))
        refine lv_iconst (v := 1) hx hb dX12_isOfWord_19 (by decide) ?_
        refine lv_goto (tgt := 24) hx hb dX12_isOfWord_20 (by decide) ?_
        exact tw_zret hx hb hr hlocks (by decide) TH hS hex ⟨⟨_, rfl, (show 0 ≤ Int32.toInt 1 from by have : ((1 : Int32).toInt) = 1 := (by decide); omega), (show Int32.toInt 1 ≤ 1 from by have : ((1 : Int32).toInt) = 1 := (by decide); omega), (by have : ((1 : Int32).toInt) = 1 := (by decide); omega)⟩, rfl, rfl, rfl⟩ (Nat.le_of_ble_eq_true rfl) (Nat.le_of_ble_eq_true rfl) dX12_isOfWord_24
set_option maxHeartbeats 4000000 in
set_option maxRecDepth 100000 in
theorem tX12_skips_vL (l : Launch) (D : va_G) (cs : Nat → ClassId) {kp : Nat → Nat} {L : List Nat} {E : Nat → va_E} (a0 : Nat) (fv0_2 : Int32) (fv0_1 : Int32) (hm0 : a0 ∈ L) (hk0 : kp a0 = 12) (hfv0_2 : tw_fv E a0 2 = .int fv0_2) (hfv0_1 : tw_fv E a0 1 = .int fv0_1) (hpre0 : fv0_2.toInt ≤ fv0_1.toInt) (sz : Nat) : Met l yX12_skips (.code yX12_skips cX12_skips 1 none :: cx_big) { frames := 2, cells := 0, slots := 0, locals := 40 } (tw_P D cs kp L E [.ref a0] sz) (tw_Q D cs kp L (fun v kq Lq Eq => v = none ∧ kp = kq ∧ L = Lq ∧ tw_fr kp L [(12, 2), (12, 3)] [] E Eq ∧ (lx_WS (tw_el E a0 0) fv0_1.toInt fv0_2.toInt (tw_fi Eq a0 2) ∧ lx_TK (tw_el E a0 0) fv0_1.toInt (tw_fi Eq a0 2) (tw_fi Eq a0 3)) ∧ (∃ z0 z1 : Int32, tw_fv Eq a0 2 = .int z0 ∧ tw_fv Eq a0 3 = .int z1 ∧ (fv0_2.toInt ≤ z0.toInt ∧ z0.toInt ≤ z1.toInt ∧ z1.toInt ≤ fv0_1.toInt))) (va_A (va_pl L E) sz)) 0 0 (va_A (va_pl L E) sz) := by
  refine tw_ofW (by decide) (Nat.le_of_ble_eq_true rfl) ?_
  intro p e s m below meth c A ls hx hb hr hml hB hown hlocks hK hN hA TH hS hl
  have hown : s.vm.findClass "TreeMergeModel" = some m.cls := hown
  have hl : lv_has ls 1 [(0, .ref a0)] := hl
  obtain ⟨kp0, ekp⟩ : ∃ z, z = kp := ⟨_, rfl⟩
  obtain ⟨L0, eL⟩ : ∃ z, z = L := ⟨_, rfl⟩
  rw [show tw_Q D cs kp L = tw_Q D cs kp0 L0 by rw [ekp, eL]]
  have hex : ∀ a : Nat, a ∈ L0 → a ∈ L ∧ kp a = kp0 a := fun a h => ⟨by rw [← eL]; exact h, by rw [ekp]⟩
  have hF : tw_fr kp L [(12, 2), (12, 3)] [] E E := tw_fr.rf
  obtain ⟨qfv0_2, hqfv0_2, hqfv0_2a, hqfv0_2b⟩ := tw_rd TH hm0 hk0 (by decide) (by decide) (k := 2) rfl
  have eqfv0_2 : qfv0_2 = fv0_2 := by have q := hqfv0_2.symm.trans hfv0_2; injection q
  rw [eqfv0_2] at hqfv0_2a hqfv0_2b
  obtain ⟨qfv0_1, hqfv0_1, hqfv0_1a, hqfv0_1b⟩ := tw_rd TH hm0 hk0 (by decide) (by decide) (k := 1) rfl
  have eqfv0_1 : qfv0_1 = fv0_1 := by have q := hqfv0_1.symm.trans hfv0_1; injection q
  rw [eqfv0_1] at hqfv0_1a hqfv0_1b
  have hJ0 : ∀ (n0 : Nat) (u0_0_2 : Int32) (Eg0 : Nat → va_E) (H : Heap) (locs : List Loc) (ls : Array Slot), 0 ≤ u0_0_2.toInt → u0_0_2.toInt ≤ 500 → (fv0_2.toInt ≤ u0_0_2.toInt) → (u0_0_2.toInt ≤ fv0_1.toInt) → (lx_al lx_sp (tw_el E a0 0) fv0_2.toInt (u0_0_2.toInt)) → 500 - u0_0_2.toInt ≤ (n0 : Int) → tw_fv Eg0 a0 2 = .int u0_0_2 → tw_fr kp L [(12, 2)] [] E Eg0 → tw_H D cs kp L Eg0 A H → va_S A s.heap H locs → lv_has ls 1 [(0, .ref a0)] → W p l e { frames := 2, cells := 0, slots := 0, locals := 40 } s m [.ref a0].toArray below meth c H locs 0 0 (MQ below (tw_Q D cs kp0 L0 (fun v kq Lq Eq => v = none ∧ kp = kq ∧ L = Lq ∧ tw_fr kp L [(12, 2), (12, 3)] [] E Eq ∧ (lx_WS (tw_el E a0 0) fv0_1.toInt fv0_2.toInt (tw_fi Eq a0 2) ∧ lx_TK (tw_el E a0 0) fv0_1.toInt (tw_fi Eq a0 2) (tw_fi Eq a0 3)) ∧ (∃ z0 z1 : Int32, tw_fv Eq a0 2 = .int z0 ∧ tw_fv Eq a0 3 = .int z1 ∧ (fv0_2.toInt ≤ z0.toInt ∧ z0.toInt ≤ z1.toInt ∧ z1.toInt ≤ fv0_1.toInt))) A) [.ref a0].toArray s 0 0 A) (F0 m 0 ls []) := by
    intro n0
    induction n0 using Nat.strongRecOn with
    | _ n0 ih0 =>
      intro u0_0_2 Eg0 H locs ls hu0_0_2a hu0_0_2b hin0_0 hin0_1 hin0_2 hmeas0 hfm0_0 hG0 TH hS hl
      have hF := hF.tr hG0 (fun _ h => ⟨h, rfl⟩) (by decide) (by decide)
      have hmf1 : tw_fv Eg0 a0 1 = .int fv0_1 := (hG0.1 a0 1 hm0 (by rw [hk0]; decide)).trans hfv0_1
      refine lv_aload_n hx hb dX12_skips_0 rfl (lv_at hl 0 rfl) ?_
      refine tw_get (ci := 12) (C := RX12) (T := TX12) (N := 64) hx hb hB cx_inX12 hown hK TH hm0 hk0 rfl ⟨by decide, rfl⟩ 2 (by decide) cw_1195 (fun _ h9 => h9) dX12_skips_1 (fun hv => ?_)
      rw [hfm0_0]
      refine lv_aload_n hx hb dX12_skips_4 rfl (lv_at hl 0 rfl) ?_
      refine tw_get (ci := 12) (C := RX12) (T := TX12) (N := 64) hx hb hB cx_inX12 hown hK TH hm0 hk0 rfl ⟨by decide, rfl⟩ 1 (by decide) cw_1194 (fun _ h9 => h9) dX12_skips_5 (fun hv => ?_)
      rw [hmf1]
      have hJ52 : ∀  (H : Heap) (locs : List Loc) (ls : Array Slot), (fv0_2.toInt ≤ u0_0_2.toInt) → (u0_0_2.toInt ≤ fv0_1.toInt) → (lx_WS (tw_el E a0 0) (fv0_1.toInt) fv0_2.toInt (u0_0_2.toInt)) → tw_H D cs kp L Eg0 A H → va_S A s.heap H locs → lv_has ls 1 [(0, .ref a0)] → W p l e { frames := 2, cells := 0, slots := 0, locals := 40 } s m [.ref a0].toArray below meth c H locs 0 0 (MQ below (tw_Q D cs kp0 L0 (fun v kq Lq Eq => v = none ∧ kp = kq ∧ L = Lq ∧ tw_fr kp L [(12, 2), (12, 3)] [] E Eq ∧ (lx_WS (tw_el E a0 0) fv0_1.toInt fv0_2.toInt (tw_fi Eq a0 2) ∧ lx_TK (tw_el E a0 0) fv0_1.toInt (tw_fi Eq a0 2) (tw_fi Eq a0 3)) ∧ (∃ z0 z1 : Int32, tw_fv Eq a0 2 = .int z0 ∧ tw_fv Eq a0 3 = .int z1 ∧ (fv0_2.toInt ≤ z0.toInt ∧ z0.toInt ≤ z1.toInt ∧ z1.toInt ≤ fv0_1.toInt))) A) [.ref a0].toArray s 0 0 A) (F0 m 52 ls []) := by
        intro H locs ls hin52_0 hin52_1 hin52_2 TH hS hl
        refine lv_aload_n hx hb dX12_skips_52 rfl (lv_at hl 0 rfl) ?_
        refine lv_aload_n hx hb dX12_skips_53 rfl (lv_at hl 0 rfl) ?_
        refine tw_get (ci := 12) (C := RX12) (T := TX12) (N := 64) hx hb hB cx_inX12 hown hK TH hm0 hk0 rfl ⟨by decide, rfl⟩ 2 (by decide) cw_1195 (fun _ h9 => h9) dX12_skips_54 (fun hv => ?_)
        rw [hfm0_0]
        refine tw_put (ci := 12) (v := .int u0_0_2) (ty := .int) (C := RX12) (T := TX12) (N := 64) hx hb hB cx_inX12 tyX12 tyX12_ok nmX12 hown hK TH hS hm0 hk0 rfl ⟨by decide, rfl⟩ 3 (by decide) cw_1196 (fun _ h9 => h9) rfl (by decide +kernel) rfl rfl ⟨_, rfl, (show 0 ≤ Int32.toInt u0_0_2 from by  omega), (show Int32.toInt u0_0_2 ≤ 500 from by  omega)⟩ dX12_skips_57 (fun H locs E2 TH hS hmf6 hp3 hp4 => ?_)
        have hst5 : tw_fr kp L [(12, 3)] [] Eg0 E2 := tw_fr.put tw_fr.rf (fun _ => hk0) (by decide) hp3 hp4 (by decide)
        have hF := hF.tr hst5 (fun _ h => ⟨h, rfl⟩) (by decide) (by decide)
        have hmf7 : tw_fv E2 a0 1 = .int fv0_1 := (hst5.1 a0 1 hm0 (by rw [hk0]; decide)).trans hmf1
        have hmf8 : tw_fv E2 a0 2 = .int u0_0_2 := (hst5.1 a0 2 hm0 (by rw [hk0]; decide)).trans hfm0_0
        refine lv_aload_n hx hb dX12_skips_60 rfl (lv_at hl 0 rfl) ?_
        refine tw_get (ci := 12) (C := RX12) (T := TX12) (N := 64) hx hb hB cx_inX12 hown hK TH hm0 hk0 rfl ⟨by decide, rfl⟩ 2 (by decide) cw_1195 (fun _ h9 => h9) dX12_skips_61 (fun hv => ?_)
        rw [hmf8]
        refine lv_aload_n hx hb dX12_skips_64 rfl (lv_at hl 0 rfl) ?_
        refine tw_get (ci := 12) (C := RX12) (T := TX12) (N := 64) hx hb hB cx_inX12 hown hK TH hm0 hk0 rfl ⟨by decide, rfl⟩ 1 (by decide) cw_1194 (fun _ h9 => h9) dX12_skips_65 (fun hv => ?_)
        rw [hmf7]
        refine lv_icmp_ne (tgt := 72) hx hb dX12_skips_68 (by decide) (fun hc9 => ?_) (fun hc9 => ?_)
        · have hf10 : ¬ (u0_0_2.toInt = fv0_1.toInt) := fun q => hc9 ((fa_eq _ _).mpr (by  omega))
          refine lv_aload_n hx hb dX12_skips_72 rfl (lv_at hl 0 rfl) ?_
          refine tw_get (ci := 12) (C := RX12) (T := TX12) (N := 64) hx hb hB cx_inX12 hown hK TH hm0 hk0 rfl ⟨by decide, rfl⟩ 0 (by decide) cw_1193 (fun _ h9 => h9) dX12_skips_73 (fun hv => ?_)
          obtain ⟨xr11, hxr11, hmxr11, hkxr11⟩ : ∃ a : Nat, tw_fv E2 a0 0 = .ref a ∧ a ∈ L ∧ kp a = 300 := hv
          rw [hxr11]
          refine lv_aload_n hx hb dX12_skips_76 rfl (lv_at hl 0 rfl) ?_
          refine tw_get (ci := 12) (C := RX12) (T := TX12) (N := 64) hx hb hB cx_inX12 hown hK TH hm0 hk0 rfl ⟨by decide, rfl⟩ 2 (by decide) cw_1195 (fun _ h9 => h9) dX12_skips_77 (fun hv => ?_)
          rw [hmf8]
          refine tw_bald (k := 300) (t0 := 2) (n := 500) (lo := (-128)) (hi := 127) hx hb hK TH hmxr11 hkxr11 (by decide) rfl rfl (i := u0_0_2) (vp_in_iff.mpr ⟨by  omega, by  omega⟩) dX12_skips_80 (fun hxe12a hxe12b => ?_)
          obtain ⟨xe12, exe12⟩ : ∃ z : Int32, tw_iv E2 xr11 (Int32.toNatClampNeg u0_0_2) = z := ⟨_, rfl⟩
          rw [exe12] at hxe12a hxe12b ⊢
          have ft := el_fr TH hF hm0 hk0 (k := 0) (by decide) rfl (by decide) (by decide) (by decide)
          have ht81 : tw_el E a0 0 (u0_0_2.toInt).toNat = xe12.toInt := (by rw [← ft]; exact (by rw [tw_el_of hxr11]; exact congrArg Int32.toInt exe12))
          refine tw_Sc (n := 1) (post := (fun v kq Lq Eq => (∃ x : Int32, v = some (.int x) ∧ 0 ≤ x.toInt ∧ x.toInt ≤ 1 ∧ (x.toInt ≠ 0 ↔ (97 ≤ xe12.toInt ∧ xe12.toInt ≤ 122))) ∧ kp = kq ∧ L = Lq ∧ E2 = Eq)) (As := [.int xe12]) (rest := []) ⟨hx, hb, hml, hown, hB⟩ (fun sz => tX12_isLetter_vL l D cs xe12  sz) cg_12_175_X12_isLetter rfl rfl (by decide +kernel) ⟨Nat.le_of_ble_eq_true rfl, Nat.le_of_ble_eq_true rfl⟩ hK hN TH hS hA rfl hl.1 rfl (Nat.le_of_ble_eq_true rfl) dX12_skips_81 ⟨Nat.le_of_ble_eq_true rfl, Nat.le_of_ble_eq_true rfl⟩ (fun v13 kp13 L13 E13 H locs hq13 hx13 TH hS => ?_)
          obtain ⟨⟨xc14, rfl, hxc14a, hxc14b, hpoxc14_0⟩, rfl, rfl, rfl⟩ := hq13
          refine W.eq (g2 := F0 m 84 ls [.int xc14]) rfl ?_
          refine lv_if_eq (tgt := 127) hx hb dX12_skips_84 (by decide) (fun hc15 => ?_) (fun hc15 => ?_)
          · have hf16 : xc14.toInt = 0 := by have z := (fa_eq _ _).mp hc15; have : ((0 : Int32).toInt) = 0 := (by decide); omega
            refine lv_aload_n hx hb dX12_skips_127 rfl (lv_at hl 0 rfl) ?_
            refine lv_aload_n hx hb dX12_skips_128 rfl (lv_at hl 0 rfl) ?_
            refine tw_get (ci := 12) (C := RX12) (T := TX12) (N := 64) hx hb hB cx_inX12 hown hK TH hm0 hk0 rfl ⟨by decide, rfl⟩ 2 (by decide) cw_1195 (fun _ h9 => h9) dX12_skips_129 (fun hv => ?_)
            rw [hmf8]
            refine lv_iconst (v := 1) hx hb dX12_skips_132 (by decide) ?_
            refine lv_iadd hx hb dX12_skips_133 ?_
            refine lv_topi (fun zi17 ezi17 => ?_)
            have hzi17 : zi17.toInt = u0_0_2.toInt + 1 := by rw [ezi17]; have : ((1 : Int32).toInt) = 1 := (by decide); have := ia_lo u0_0_2; have := ia_hi u0_0_2; exact (ia_add (by omega) (by omega)).trans (by omega)
            refine tw_put (ci := 12) (v := .int zi17) (ty := .int) (C := RX12) (T := TX12) (N := 64) hx hb hB cx_inX12 tyX12 tyX12_ok nmX12 hown hK TH hS hm0 hk0 rfl ⟨by decide, rfl⟩ 3 (by decide) cw_1196 (fun _ h9 => h9) rfl (by decide +kernel) rfl rfl ⟨_, rfl, (show 0 ≤ Int32.toInt zi17 from by  omega), (show Int32.toInt zi17 ≤ 500 from by  omega)⟩ dX12_skips_134 (fun H locs E18 TH hS hmf22 hp19 hp20 => ?_)
            have hst21 : tw_fr kp L [(12, 3)] [] E2 E18 := tw_fr.put tw_fr.rf (fun _ => hk0) (by decide) hp19 hp20 (by decide)
            have hF := hF.tr hst21 (fun _ h => ⟨h, rfl⟩) (by decide) (by decide)
            have hmf23 : tw_fv E18 a0 1 = .int fv0_1 := (hst21.1 a0 1 hm0 (by rw [hk0]; decide)).trans hmf7
            have hmf24 : tw_fv E18 a0 2 = .int u0_0_2 := (hst21.1 a0 2 hm0 (by rw [hk0]; decide)).trans hmf8
            have hmf25 : tw_fv E18 a0 0 = .ref xr11 := (hst21.1 a0 0 hm0 (by rw [hk0]; decide)).trans hxr11
            refine lv_aload_n hx hb dX12_skips_137 rfl (lv_at hl 0 rfl) ?_
            refine tw_get (ci := 12) (C := RX12) (T := TX12) (N := 64) hx hb hB cx_inX12 hown hK TH hm0 hk0 rfl ⟨by decide, rfl⟩ 0 (by decide) cw_1193 (fun _ h9 => h9) dX12_skips_138 (fun hv => ?_)
            rw [hmf25]
            refine lv_aload_n hx hb dX12_skips_141 rfl (lv_at hl 0 rfl) ?_
            refine tw_get (ci := 12) (C := RX12) (T := TX12) (N := 64) hx hb hB cx_inX12 hown hK TH hm0 hk0 rfl ⟨by decide, rfl⟩ 2 (by decide) cw_1195 (fun _ h9 => h9) dX12_skips_142 (fun hv => ?_)
            rw [hmf24]
            refine tw_bald (k := 300) (t0 := 2) (n := 500) (lo := (-128)) (hi := 127) hx hb hK TH hmxr11 hkxr11 (by decide) rfl rfl (i := u0_0_2) (vp_in_iff.mpr ⟨by  omega, by  omega⟩) dX12_skips_145 (fun hxe26a hxe26b => ?_)
            obtain ⟨xe26, exe26⟩ : ∃ z : Int32, tw_iv E18 xr11 (Int32.toNatClampNeg u0_0_2) = z := ⟨_, rfl⟩
            rw [exe26] at hxe26a hxe26b ⊢
            have ft := el_fr TH hF hm0 hk0 (k := 0) (by decide) rfl (by decide) (by decide) (by decide)
            have ht146 : tw_el E a0 0 (u0_0_2.toInt).toNat = xe26.toInt := (by rw [← ft]; exact (by rw [tw_el_of hmf25]; exact congrArg Int32.toInt exe26))
            refine lv_bipush (v := 123) hx hb dX12_skips_146 (by decide) ?_
            refine lv_icmp_eq (tgt := 152) hx hb dX12_skips_148 (by decide) (fun hc27 => ?_) (fun hc27 => ?_)
            · have hf28 : xe26.toInt = 123 := by have z := (fa_eq _ _).mp hc27; have : ((123 : Int32).toInt) = 123 := (by decide); omega
              have hJ152 : ∀ (n152 : Nat) (w152_0_3 : Int32) (Eg152 : Nat → va_E) (H : Heap) (locs : List Loc) (ls : Array Slot), 1 ≤ w152_0_3.toInt → w152_0_3.toInt ≤ 501 → (u0_0_2.toInt + 1 ≤ w152_0_3.toInt) → (w152_0_3.toInt ≤ fv0_1.toInt) → (¬ lx_le ((tw_el E a0 0) (u0_0_2.toInt).toNat)) → ((tw_el E a0 0) (u0_0_2.toInt).toNat = 123) → (lx_al lx_ow (tw_el E a0 0) (u0_0_2.toInt + 1) (w152_0_3.toInt)) → 500 - w152_0_3.toInt ≤ (n152 : Int) → tw_fv Eg152 a0 3 = .int w152_0_3 → tw_fr kp L [(12, 3)] [] E18 Eg152 → tw_H D cs kp L Eg152 A H → va_S A s.heap H locs → lv_has ls 1 [(0, .ref a0)] → W p l e { frames := 2, cells := 0, slots := 0, locals := 40 } s m [.ref a0].toArray below meth c H locs 0 0 (MQ below (tw_Q D cs kp0 L0 (fun v kq Lq Eq => v = none ∧ kp = kq ∧ L = Lq ∧ tw_fr kp L [(12, 2), (12, 3)] [] E Eq ∧ (lx_WS (tw_el E a0 0) fv0_1.toInt fv0_2.toInt (tw_fi Eq a0 2) ∧ lx_TK (tw_el E a0 0) fv0_1.toInt (tw_fi Eq a0 2) (tw_fi Eq a0 3)) ∧ (∃ z0 z1 : Int32, tw_fv Eq a0 2 = .int z0 ∧ tw_fv Eq a0 3 = .int z1 ∧ (fv0_2.toInt ≤ z0.toInt ∧ z0.toInt ≤ z1.toInt ∧ z1.toInt ≤ fv0_1.toInt))) A) [.ref a0].toArray s 0 0 A) (F0 m 152 ls []) := by
                intro n152
                induction n152 using Nat.strongRecOn with
                | _ n152 ih152 =>
                  intro w152_0_3 Eg152 H locs ls hw152_0_3a hw152_0_3b hin152_0 hin152_1 hin152_2 hin152_3 hin152_4 hmeas152 hfm152_0 hG152 TH hS hl
                  have hF := hF.tr hG152 (fun _ h => ⟨h, rfl⟩) (by decide) (by decide)
                  have hmf29 : tw_fv Eg152 a0 1 = .int fv0_1 := (hG152.1 a0 1 hm0 (by rw [hk0]; decide)).trans hmf23
                  have hmf30 : tw_fv Eg152 a0 2 = .int u0_0_2 := (hG152.1 a0 2 hm0 (by rw [hk0]; decide)).trans hmf24
                  have hmf31 : tw_fv Eg152 a0 0 = .ref xr11 := (hG152.1 a0 0 hm0 (by rw [hk0]; decide)).trans hmf25
                  refine lv_aload_n hx hb dX12_skips_152 rfl (lv_at hl 0 rfl) ?_
                  refine tw_get (ci := 12) (C := RX12) (T := TX12) (N := 64) hx hb hB cx_inX12 hown hK TH hm0 hk0 rfl ⟨by decide, rfl⟩ 3 (by decide) cw_1196 (fun _ h9 => h9) dX12_skips_153 (fun hv => ?_)
                  rw [hfm152_0]
                  refine lv_aload_n hx hb dX12_skips_156 rfl (lv_at hl 0 rfl) ?_
                  refine tw_get (ci := 12) (C := RX12) (T := TX12) (N := 64) hx hb hB cx_inX12 hown hK TH hm0 hk0 rfl ⟨by decide, rfl⟩ 1 (by decide) cw_1194 (fun _ h9 => h9) dX12_skips_157 (fun hv => ?_)
                  rw [hmf29]
                  have hJ191 : ∀  (H : Heap) (locs : List Loc) (ls : Array Slot), tw_H D cs kp L Eg152 A H → va_S A s.heap H locs → lv_has ls 1 [(0, .ref a0)] → W p l e { frames := 2, cells := 0, slots := 0, locals := 40 } s m [.ref a0].toArray below meth c H locs 0 0 (MQ below (tw_Q D cs kp0 L0 (fun v kq Lq Eq => v = none ∧ kp = kq ∧ L = Lq ∧ tw_fr kp L [(12, 2), (12, 3)] [] E Eq ∧ (lx_WS (tw_el E a0 0) fv0_1.toInt fv0_2.toInt (tw_fi Eq a0 2) ∧ lx_TK (tw_el E a0 0) fv0_1.toInt (tw_fi Eq a0 2) (tw_fi Eq a0 3)) ∧ (∃ z0 z1 : Int32, tw_fv Eq a0 2 = .int z0 ∧ tw_fv Eq a0 3 = .int z1 ∧ (fv0_2.toInt ≤ z0.toInt ∧ z0.toInt ≤ z1.toInt ∧ z1.toInt ≤ fv0_1.toInt))) A) [.ref a0].toArray s 0 0 A) (F0 m 191 ls []) := by
                    intro H locs ls TH hS hl
                    refine lv_aload_n hx hb dX12_skips_191 rfl (lv_at hl 0 rfl) ?_
                    refine tw_get (ci := 12) (C := RX12) (T := TX12) (N := 64) hx hb hB cx_inX12 hown hK TH hm0 hk0 rfl ⟨by decide, rfl⟩ 3 (by decide) cw_1196 (fun _ h9 => h9) dX12_skips_192 (fun hv => ?_)
                    rw [hfm152_0]
                    refine lv_aload_n hx hb dX12_skips_195 rfl (lv_at hl 0 rfl) ?_
                    refine tw_get (ci := 12) (C := RX12) (T := TX12) (N := 64) hx hb hB cx_inX12 hown hK TH hm0 hk0 rfl ⟨by decide, rfl⟩ 1 (by decide) cw_1194 (fun _ h9 => h9) dX12_skips_196 (fun hv => ?_)
                    rw [hmf29]
                    refine lv_icmp_ge (tgt := 251) hx hb dX12_skips_199 (by decide) (fun hc32 => ?_) (fun hc32 => ?_)
                    · have hf33 : fv0_1.toInt ≤ w152_0_3.toInt := by have z := (fa_le _ _).mp hc32;  omega
                      refine lv_aload_n hx hb dX12_skips_251 rfl (lv_at hl 0 rfl) ?_
                      refine lv_aload_n hx hb dX12_skips_252 rfl (lv_at hl 0 rfl) ?_
                      refine tw_get (ci := 12) (C := RX12) (T := TX12) (N := 64) hx hb hB cx_inX12 hown hK TH hm0 hk0 rfl ⟨by decide, rfl⟩ 2 (by decide) cw_1195 (fun _ h9 => h9) dX12_skips_253 (fun hv => ?_)
                      rw [hmf30]
                      refine lv_iconst (v := 1) hx hb dX12_skips_256 (by decide) ?_
                      refine lv_iadd hx hb dX12_skips_257 ?_
                      refine lv_topi (fun zi34 ezi34 => ?_)
                      have hzi34 : zi34.toInt = u0_0_2.toInt + 1 := by rw [ezi34]; have : ((1 : Int32).toInt) = 1 := (by decide); have := ia_lo u0_0_2; have := ia_hi u0_0_2; exact (ia_add (by omega) (by omega)).trans (by omega)
                      refine tw_put (ci := 12) (v := .int zi34) (ty := .int) (C := RX12) (T := TX12) (N := 64) hx hb hB cx_inX12 tyX12 tyX12_ok nmX12 hown hK TH hS hm0 hk0 rfl ⟨by decide, rfl⟩ 3 (by decide) cw_1196 (fun _ h9 => h9) rfl (by decide +kernel) rfl rfl ⟨_, rfl, (show 0 ≤ Int32.toInt zi34 from by  omega), (show Int32.toInt zi34 ≤ 500 from by  omega)⟩ dX12_skips_258 (fun H locs E35 TH hS hmf39 hp36 hp37 => ?_)
                      have hst38 : tw_fr kp L [(12, 3)] [] Eg152 E35 := tw_fr.put tw_fr.rf (fun _ => hk0) (by decide) hp36 hp37 (by decide)
                      have hF := hF.tr hst38 (fun _ h => ⟨h, rfl⟩) (by decide) (by decide)
                      have hG152 := hG152.tr hst38 (fun _ h => ⟨h, rfl⟩) (by decide) (by decide)
                      have hmf40 : tw_fv E35 a0 1 = .int fv0_1 := (hst38.1 a0 1 hm0 (by rw [hk0]; decide)).trans hmf29
                      have hmf41 : tw_fv E35 a0 2 = .int u0_0_2 := (hst38.1 a0 2 hm0 (by rw [hk0]; decide)).trans hmf30
                      have hmf42 : tw_fv E35 a0 0 = .ref xr11 := (hst38.1 a0 0 hm0 (by rw [hk0]; decide)).trans hmf31
                      exact tw_vret hx hb hr hlocks TH hS hex ⟨rfl, rfl, rfl, hF, (by  rw [tw_fi_of hmf41, tw_fi_of hmf39]; refine ⟨hin52_2, ?_⟩; first | exact Or.inr (Or.inr ⟨by omega, hin152_2, Or.inl (by omega)⟩) | exact Or.inr (Or.inr ⟨by omega, hin152_2, Or.inr ⟨hin152_3, by omega, by omega, by omega, by (rw [show (zi34.toInt - 1).toNat = (w152_0_3.toInt).toNat by omega]; omega), by (rw [show (zi34.toInt : Int) - 1 = w152_0_3.toInt by omega]; exact hin152_4)⟩⟩)), ⟨u0_0_2, zi34, hmf41, hmf39, by  omega⟩⟩ (Nat.le_of_ble_eq_true rfl) (Nat.le_of_ble_eq_true rfl) dX12_skips_261
                    · have hf43 : ¬ (fv0_1.toInt ≤ w152_0_3.toInt) := fun q => hc32 ((fa_le _ _).mpr (by  omega))
                      refine lv_aload_n hx hb dX12_skips_202 rfl (lv_at hl 0 rfl) ?_
                      refine tw_get (ci := 12) (C := RX12) (T := TX12) (N := 64) hx hb hB cx_inX12 hown hK TH hm0 hk0 rfl ⟨by decide, rfl⟩ 0 (by decide) cw_1193 (fun _ h9 => h9) dX12_skips_203 (fun hv => ?_)
                      rw [hmf31]
                      refine lv_aload_n hx hb dX12_skips_206 rfl (lv_at hl 0 rfl) ?_
                      refine tw_get (ci := 12) (C := RX12) (T := TX12) (N := 64) hx hb hB cx_inX12 hown hK TH hm0 hk0 rfl ⟨by decide, rfl⟩ 3 (by decide) cw_1196 (fun _ h9 => h9) dX12_skips_207 (fun hv => ?_)
                      rw [hfm152_0]
                      refine tw_bald (k := 300) (t0 := 2) (n := 500) (lo := (-128)) (hi := 127) hx hb hK TH hmxr11 hkxr11 (by decide) rfl rfl (i := w152_0_3) (vp_in_iff.mpr ⟨by  omega, by  omega⟩) dX12_skips_210 (fun hxe44a hxe44b => ?_)
                      obtain ⟨xe44, exe44⟩ : ∃ z : Int32, tw_iv Eg152 xr11 (Int32.toNatClampNeg w152_0_3) = z := ⟨_, rfl⟩
                      rw [exe44] at hxe44a hxe44b ⊢
                      have ft := el_fr TH hF hm0 hk0 (k := 0) (by decide) rfl (by decide) (by decide) (by decide)
                      have ht211 : tw_el E a0 0 (w152_0_3.toInt).toNat = xe44.toInt := (by rw [← ft]; exact (by rw [tw_el_of hmf31]; exact congrArg Int32.toInt exe44))
                      refine lv_bipush (v := 125) hx hb dX12_skips_211 (by decide) ?_
                      refine lv_icmp_ne (tgt := 251) hx hb dX12_skips_213 (by decide) (fun hc45 => ?_) (fun hc45 => ?_)
                      · have hf46 : ¬ (xe44.toInt = 125) := fun q => hc45 ((fa_eq _ _).mpr (by have : ((125 : Int32).toInt) = 125 := (by decide); omega))
                        refine lv_aload_n hx hb dX12_skips_251 rfl (lv_at hl 0 rfl) ?_
                        refine lv_aload_n hx hb dX12_skips_252 rfl (lv_at hl 0 rfl) ?_
                        refine tw_get (ci := 12) (C := RX12) (T := TX12) (N := 64) hx hb hB cx_inX12 hown hK TH hm0 hk0 rfl ⟨by decide, rfl⟩ 2 (by decide) cw_1195 (fun _ h9 => h9) dX12_skips_253 (fun hv => ?_)
                        rw [hmf30]
                        refine lv_iconst (v := 1) hx hb dX12_skips_256 (by decide) ?_
                        refine lv_iadd hx hb dX12_skips_257 ?_
                        refine lv_topi (fun zi47 ezi47 => ?_)
                        have hzi47 : zi47.toInt = u0_0_2.toInt + 1 := by rw [ezi47]; have : ((1 : Int32).toInt) = 1 := (by decide); have := ia_lo u0_0_2; have := ia_hi u0_0_2; exact (ia_add (by omega) (by omega)).trans (by omega)
                        refine tw_put (ci := 12) (v := .int zi47) (ty := .int) (C := RX12) (T := TX12) (N := 64) hx hb hB cx_inX12 tyX12 tyX12_ok nmX12 hown hK TH hS hm0 hk0 rfl ⟨by decide, rfl⟩ 3 (by decide) cw_1196 (fun _ h9 => h9) rfl (by decide +kernel) rfl rfl ⟨_, rfl, (show 0 ≤ Int32.toInt zi47 from by  omega), (show Int32.toInt zi47 ≤ 500 from by  omega)⟩ dX12_skips_258 (fun H locs E48 TH hS hmf52 hp49 hp50 => ?_)
                        have hst51 : tw_fr kp L [(12, 3)] [] Eg152 E48 := tw_fr.put tw_fr.rf (fun _ => hk0) (by decide) hp49 hp50 (by decide)
                        have hF := hF.tr hst51 (fun _ h => ⟨h, rfl⟩) (by decide) (by decide)
                        have hG152 := hG152.tr hst51 (fun _ h => ⟨h, rfl⟩) (by decide) (by decide)
                        have hmf53 : tw_fv E48 a0 1 = .int fv0_1 := (hst51.1 a0 1 hm0 (by rw [hk0]; decide)).trans hmf29
                        have hmf54 : tw_fv E48 a0 2 = .int u0_0_2 := (hst51.1 a0 2 hm0 (by rw [hk0]; decide)).trans hmf30
                        have hmf55 : tw_fv E48 a0 0 = .ref xr11 := (hst51.1 a0 0 hm0 (by rw [hk0]; decide)).trans hmf31
                        exact tw_vret hx hb hr hlocks TH hS hex ⟨rfl, rfl, rfl, hF, (by  rw [tw_fi_of hmf54, tw_fi_of hmf52]; refine ⟨hin52_2, ?_⟩; first | exact Or.inr (Or.inr ⟨by omega, hin152_2, Or.inl (by omega)⟩) | exact Or.inr (Or.inr ⟨by omega, hin152_2, Or.inr ⟨hin152_3, by omega, by omega, by omega, by (rw [show (zi47.toInt - 1).toNat = (w152_0_3.toInt).toNat by omega]; omega), by (rw [show (zi47.toInt : Int) - 1 = w152_0_3.toInt by omega]; exact hin152_4)⟩⟩)), ⟨u0_0_2, zi47, hmf54, hmf52, by  omega⟩⟩ (Nat.le_of_ble_eq_true rfl) (Nat.le_of_ble_eq_true rfl) dX12_skips_261
                      · have hf56 : xe44.toInt = 125 := by have z := (fa_eq _ _).mp hc45; have : ((125 : Int32).toInt) = 125 := (by decide); omega
                        refine lv_aload_n hx hb dX12_skips_216 rfl (lv_at hl 0 rfl) ?_
                        refine tw_get (ci := 12) (C := RX12) (T := TX12) (N := 64) hx hb hB cx_inX12 hown hK TH hm0 hk0 rfl ⟨by decide, rfl⟩ 3 (by decide) cw_1196 (fun _ h9 => h9) dX12_skips_217 (fun hv => ?_)
                        rw [hfm152_0]
                        refine lv_aload_n hx hb dX12_skips_220 rfl (lv_at hl 0 rfl) ?_
                        refine tw_get (ci := 12) (C := RX12) (T := TX12) (N := 64) hx hb hB cx_inX12 hown hK TH hm0 hk0 rfl ⟨by decide, rfl⟩ 2 (by decide) cw_1195 (fun _ h9 => h9) dX12_skips_221 (fun hv => ?_)
                        rw [hmf30]
                        refine lv_isub hx hb dX12_skips_224 ?_
                        refine lv_topi (fun zi57 ezi57 => ?_)
                        have hzi57 : zi57.toInt = w152_0_3.toInt - u0_0_2.toInt := by rw [ezi57];  have := ia_lo w152_0_3; have := ia_hi w152_0_3; have := ia_lo u0_0_2; have := ia_hi u0_0_2; exact (ia_sub (by omega) (by omega)).trans (by omega)
                        refine lv_iconst (v := 1) hx hb dX12_skips_225 (by decide) ?_
                        refine lv_isub hx hb dX12_skips_226 ?_
                        refine lv_topi (fun zi58 ezi58 => ?_)
                        have hzi58 : zi58.toInt = zi57.toInt - 1 := by rw [ezi58]; have : ((1 : Int32).toInt) = 1 := (by decide); have := ia_lo zi57; have := ia_hi zi57; exact (ia_sub (by omega) (by omega)).trans (by omega)
                        refine lv_i2l (v := (zi58).toInt64) hx hb dX12_skips_227 rfl ?_
                        refine tw_topl (fun zl59 ezl59 => ?_)
                        have hzl59 : zl59.toInt = zi58.toInt := by rw [ezl59];  exact (Int32.toInt_toInt64 _)
                        refine lv_lconst (v := 1) hx hb dX12_skips_228 (by decide) ?_
                        refine tw_topl (fun zl60 ezl60 => ?_)
                        have hzl60 : zl60.toInt = 1 := by rw [ezl60]; decide
                        have e8l : ((8 : Int64).toInt) = 8 := (by decide)
                        refine lv_ldc2 hx hb hown (hB _ cw_1420) dX12_skips_229 ?_
                        refine tw_Sc (n := 3) (post := (fun v kq Lq Eq => (∃ x : Int32, v = some (.int x) ∧ 0 ≤ x.toInt ∧ x.toInt ≤ 1 ∧ (x.toInt ≠ 0 → zl60.toInt ≤ zl59.toInt ∧ zl59.toInt ≤ (8 : Int64).toInt)) ∧ kp = kq ∧ L = Lq ∧ Eg152 = Eq)) (As := [.long zl59, .long zl60, .long (8 : Int64)]) (rest := []) ⟨hx, hb, hml, hown, hB⟩ (fun sz => tX12_in l D cs zl59 zl60 (8 : Int64)  sz) cg_12_171_X12_in rfl rfl (by decide +kernel) ⟨Nat.le_of_ble_eq_true rfl, Nat.le_of_ble_eq_true rfl⟩ hK hN TH hS hA rfl hl.1 rfl (Nat.le_of_ble_eq_true rfl) dX12_skips_232 ⟨Nat.le_of_ble_eq_true rfl, Nat.le_of_ble_eq_true rfl⟩ (fun v61 kp61 L61 E61 H locs hq61 hx61 TH hS => ?_)
                        obtain ⟨⟨xc62, rfl, hxc62a, hxc62b, hpoxc62_0⟩, rfl, rfl, rfl⟩ := hq61
                        refine W.eq (g2 := F0 m 235 ls [.int xc62]) rfl ?_
                        refine lv_if_eq (tgt := 251) hx hb dX12_skips_235 (by decide) (fun hc63 => ?_) (fun hc63 => ?_)
                        · have hf64 : xc62.toInt = 0 := by have z := (fa_eq _ _).mp hc63; have : ((0 : Int32).toInt) = 0 := (by decide); omega
                          refine lv_aload_n hx hb dX12_skips_251 rfl (lv_at hl 0 rfl) ?_
                          refine lv_aload_n hx hb dX12_skips_252 rfl (lv_at hl 0 rfl) ?_
                          refine tw_get (ci := 12) (C := RX12) (T := TX12) (N := 64) hx hb hB cx_inX12 hown hK TH hm0 hk0 rfl ⟨by decide, rfl⟩ 2 (by decide) cw_1195 (fun _ h9 => h9) dX12_skips_253 (fun hv => ?_)
                          rw [hmf30]
                          refine lv_iconst (v := 1) hx hb dX12_skips_256 (by decide) ?_
                          refine lv_iadd hx hb dX12_skips_257 ?_
                          refine lv_topi (fun zi65 ezi65 => ?_)
                          have hzi65 : zi65.toInt = u0_0_2.toInt + 1 := by rw [ezi65]; have : ((1 : Int32).toInt) = 1 := (by decide); have := ia_lo u0_0_2; have := ia_hi u0_0_2; exact (ia_add (by omega) (by omega)).trans (by omega)
                          refine tw_put (ci := 12) (v := .int zi65) (ty := .int) (C := RX12) (T := TX12) (N := 64) hx hb hB cx_inX12 tyX12 tyX12_ok nmX12 hown hK TH hS hm0 hk0 rfl ⟨by decide, rfl⟩ 3 (by decide) cw_1196 (fun _ h9 => h9) rfl (by decide +kernel) rfl rfl ⟨_, rfl, (show 0 ≤ Int32.toInt zi65 from by  omega), (show Int32.toInt zi65 ≤ 500 from by  omega)⟩ dX12_skips_258 (fun H locs E66 TH hS hmf70 hp67 hp68 => ?_)
                          have hst69 : tw_fr kp L [(12, 3)] [] Eg152 E66 := tw_fr.put tw_fr.rf (fun _ => hk0) (by decide) hp67 hp68 (by decide)
                          have hF := hF.tr hst69 (fun _ h => ⟨h, rfl⟩) (by decide) (by decide)
                          have hG152 := hG152.tr hst69 (fun _ h => ⟨h, rfl⟩) (by decide) (by decide)
                          have hmf71 : tw_fv E66 a0 1 = .int fv0_1 := (hst69.1 a0 1 hm0 (by rw [hk0]; decide)).trans hmf29
                          have hmf72 : tw_fv E66 a0 2 = .int u0_0_2 := (hst69.1 a0 2 hm0 (by rw [hk0]; decide)).trans hmf30
                          have hmf73 : tw_fv E66 a0 0 = .ref xr11 := (hst69.1 a0 0 hm0 (by rw [hk0]; decide)).trans hmf31
                          exact tw_vret hx hb hr hlocks TH hS hex ⟨rfl, rfl, rfl, hF, (by  rw [tw_fi_of hmf72, tw_fi_of hmf70]; refine ⟨hin52_2, ?_⟩; first | exact Or.inr (Or.inr ⟨by omega, hin152_2, Or.inl (by omega)⟩) | exact Or.inr (Or.inr ⟨by omega, hin152_2, Or.inr ⟨hin152_3, by omega, by omega, by omega, by (rw [show (zi65.toInt - 1).toNat = (w152_0_3.toInt).toNat by omega]; omega), by (rw [show (zi65.toInt : Int) - 1 = w152_0_3.toInt by omega]; exact hin152_4)⟩⟩)), ⟨u0_0_2, zi65, hmf72, hmf70, by  omega⟩⟩ (Nat.le_of_ble_eq_true rfl) (Nat.le_of_ble_eq_true rfl) dX12_skips_261
                        · have hf74 : ¬ (xc62.toInt = 0) := fun q => hc63 ((fa_eq _ _).mpr (by have : ((0 : Int32).toInt) = 0 := (by decide); omega))
                          refine lv_aload_n hx hb dX12_skips_238 rfl (lv_at hl 0 rfl) ?_
                          refine lv_dup hx hb dX12_skips_239 rfl ?_
                          refine tw_get (ci := 12) (C := RX12) (T := TX12) (N := 64) hx hb hB cx_inX12 hown hK TH hm0 hk0 rfl ⟨by decide, rfl⟩ 3 (by decide) cw_1196 (fun _ h9 => h9) dX12_skips_240 (fun hv => ?_)
                          rw [hfm152_0]
                          refine lv_iconst (v := 1) hx hb dX12_skips_243 (by decide) ?_
                          refine lv_iadd hx hb dX12_skips_244 ?_
                          refine lv_topi (fun zi75 ezi75 => ?_)
                          have hzi75 : zi75.toInt = w152_0_3.toInt + 1 := by rw [ezi75]; have : ((1 : Int32).toInt) = 1 := (by decide); have := ia_lo w152_0_3; have := ia_hi w152_0_3; exact (ia_add (by omega) (by omega)).trans (by omega)
                          refine tw_put (ci := 12) (v := .int zi75) (ty := .int) (C := RX12) (T := TX12) (N := 64) hx hb hB cx_inX12 tyX12 tyX12_ok nmX12 hown hK TH hS hm0 hk0 rfl ⟨by decide, rfl⟩ 3 (by decide) cw_1196 (fun _ h9 => h9) rfl (by decide +kernel) rfl rfl ⟨_, rfl, (show 0 ≤ Int32.toInt zi75 from by  omega), (show Int32.toInt zi75 ≤ 500 from by  omega)⟩ dX12_skips_245 (fun H locs E76 TH hS hmf80 hp77 hp78 => ?_)
                          have hst79 : tw_fr kp L [(12, 3)] [] Eg152 E76 := tw_fr.put tw_fr.rf (fun _ => hk0) (by decide) hp77 hp78 (by decide)
                          have hF := hF.tr hst79 (fun _ h => ⟨h, rfl⟩) (by decide) (by decide)
                          have hG152 := hG152.tr hst79 (fun _ h => ⟨h, rfl⟩) (by decide) (by decide)
                          have hmf81 : tw_fv E76 a0 1 = .int fv0_1 := (hst79.1 a0 1 hm0 (by rw [hk0]; decide)).trans hmf29
                          have hmf82 : tw_fv E76 a0 2 = .int u0_0_2 := (hst79.1 a0 2 hm0 (by rw [hk0]; decide)).trans hmf30
                          have hmf83 : tw_fv E76 a0 0 = .ref xr11 := (hst79.1 a0 0 hm0 (by rw [hk0]; decide)).trans hmf31
                          refine lv_goto (tgt := 261) hx hb dX12_skips_248 (by decide) ?_
                          exact tw_vret hx hb hr hlocks TH hS hex ⟨rfl, rfl, rfl, hF, (by  rw [tw_fi_of hmf82, tw_fi_of hmf80]; refine ⟨hin52_2, ?_⟩; first | exact Or.inr (Or.inr ⟨by omega, hin152_2, Or.inl (by omega)⟩) | exact Or.inr (Or.inr ⟨by omega, hin152_2, Or.inr ⟨hin152_3, by omega, by omega, by omega, by (rw [show (zi75.toInt - 1).toNat = (w152_0_3.toInt).toNat by omega]; omega), by (rw [show (zi75.toInt : Int) - 1 = w152_0_3.toInt by omega]; exact hin152_4)⟩⟩)), ⟨u0_0_2, zi75, hmf82, hmf80, by  omega⟩⟩ (Nat.le_of_ble_eq_true rfl) (Nat.le_of_ble_eq_true rfl) dX12_skips_261
                  refine lv_icmp_ge (tgt := 191) hx hb dX12_skips_160 (by decide) (fun hc84 => ?_) (fun hc84 => ?_)
                  · have hf85 : fv0_1.toInt ≤ w152_0_3.toInt := by have z := (fa_le _ _).mp hc84;  omega
                    exact hJ191  _ _ ls  TH hS (lv_sub hl [0] rfl)
                  · have hf86 : ¬ (fv0_1.toInt ≤ w152_0_3.toInt) := fun q => hc84 ((fa_le _ _).mpr (by  omega))
                    refine lv_aload_n hx hb dX12_skips_163 rfl (lv_at hl 0 rfl) ?_
                    refine tw_get (ci := 12) (C := RX12) (T := TX12) (N := 64) hx hb hB cx_inX12 hown hK TH hm0 hk0 rfl ⟨by decide, rfl⟩ 0 (by decide) cw_1193 (fun _ h9 => h9) dX12_skips_164 (fun hv => ?_)
                    rw [hmf31]
                    refine lv_aload_n hx hb dX12_skips_167 rfl (lv_at hl 0 rfl) ?_
                    refine tw_get (ci := 12) (C := RX12) (T := TX12) (N := 64) hx hb hB cx_inX12 hown hK TH hm0 hk0 rfl ⟨by decide, rfl⟩ 3 (by decide) cw_1196 (fun _ h9 => h9) dX12_skips_168 (fun hv => ?_)
                    rw [hfm152_0]
                    refine tw_bald (k := 300) (t0 := 2) (n := 500) (lo := (-128)) (hi := 127) hx hb hK TH hmxr11 hkxr11 (by decide) rfl rfl (i := w152_0_3) (vp_in_iff.mpr ⟨by  omega, by  omega⟩) dX12_skips_171 (fun hxe87a hxe87b => ?_)
                    obtain ⟨xe87, exe87⟩ : ∃ z : Int32, tw_iv Eg152 xr11 (Int32.toNatClampNeg w152_0_3) = z := ⟨_, rfl⟩
                    rw [exe87] at hxe87a hxe87b ⊢
                    have ft := el_fr TH hF hm0 hk0 (k := 0) (by decide) rfl (by decide) (by decide) (by decide)
                    have ht172 : tw_el E a0 0 (w152_0_3.toInt).toNat = xe87.toInt := (by rw [← ft]; exact (by rw [tw_el_of hmf31]; exact congrArg Int32.toInt exe87))
                    refine tw_Sc (n := 1) (post := (fun v kq Lq Eq => (∃ x : Int32, v = some (.int x) ∧ 0 ≤ x.toInt ∧ x.toInt ≤ 1 ∧ (x.toInt ≠ 0 ↔ ((97 ≤ xe87.toInt ∧ xe87.toInt ≤ 122) ∨ (48 ≤ xe87.toInt ∧ xe87.toInt ≤ 57)))) ∧ kp = kq ∧ L = Lq ∧ Eg152 = Eq)) (As := [.int xe87]) (rest := []) ⟨hx, hb, hml, hown, hB⟩ (fun sz => tX12_isOfWord_vL l D cs xe87  sz) cg_12_185_X12_isOfWord rfl rfl (by decide +kernel) ⟨Nat.le_of_ble_eq_true rfl, Nat.le_of_ble_eq_true rfl⟩ hK hN TH hS hA rfl hl.1 rfl (Nat.le_of_ble_eq_true rfl) dX12_skips_172 ⟨Nat.le_of_ble_eq_true rfl, Nat.le_of_ble_eq_true rfl⟩ (fun v88 kp88 L88 E88 H locs hq88 hx88 TH hS => ?_)
                    obtain ⟨⟨xc89, rfl, hxc89a, hxc89b, hpoxc89_0⟩, rfl, rfl, rfl⟩ := hq88
                    refine W.eq (g2 := F0 m 175 ls [.int xc89]) rfl ?_
                    refine lv_if_eq (tgt := 191) hx hb dX12_skips_175 (by decide) (fun hc90 => ?_) (fun hc90 => ?_)
                    · have hf91 : xc89.toInt = 0 := by have z := (fa_eq _ _).mp hc90; have : ((0 : Int32).toInt) = 0 := (by decide); omega
                      exact hJ191  _ _ ls  TH hS (lv_sub hl [0] rfl)
                    · have hf92 : ¬ (xc89.toInt = 0) := fun q => hc90 ((fa_eq _ _).mpr (by have : ((0 : Int32).toInt) = 0 := (by decide); omega))
                      refine lv_aload_n hx hb dX12_skips_178 rfl (lv_at hl 0 rfl) ?_
                      refine lv_dup hx hb dX12_skips_179 rfl ?_
                      refine tw_get (ci := 12) (C := RX12) (T := TX12) (N := 64) hx hb hB cx_inX12 hown hK TH hm0 hk0 rfl ⟨by decide, rfl⟩ 3 (by decide) cw_1196 (fun _ h9 => h9) dX12_skips_180 (fun hv => ?_)
                      rw [hfm152_0]
                      refine lv_iconst (v := 1) hx hb dX12_skips_183 (by decide) ?_
                      refine lv_iadd hx hb dX12_skips_184 ?_
                      refine lv_topi (fun zi93 ezi93 => ?_)
                      have hzi93 : zi93.toInt = w152_0_3.toInt + 1 := by rw [ezi93]; have : ((1 : Int32).toInt) = 1 := (by decide); have := ia_lo w152_0_3; have := ia_hi w152_0_3; exact (ia_add (by omega) (by omega)).trans (by omega)
                      refine tw_put (ci := 12) (v := .int zi93) (ty := .int) (C := RX12) (T := TX12) (N := 64) hx hb hB cx_inX12 tyX12 tyX12_ok nmX12 hown hK TH hS hm0 hk0 rfl ⟨by decide, rfl⟩ 3 (by decide) cw_1196 (fun _ h9 => h9) rfl (by decide +kernel) rfl rfl ⟨_, rfl, (show 0 ≤ Int32.toInt zi93 from by  omega), (show Int32.toInt zi93 ≤ 500 from by  omega)⟩ dX12_skips_185 (fun H locs E94 TH hS hmf98 hp95 hp96 => ?_)
                      have hst97 : tw_fr kp L [(12, 3)] [] Eg152 E94 := tw_fr.put tw_fr.rf (fun _ => hk0) (by decide) hp95 hp96 (by decide)
                      have hF := hF.tr hst97 (fun _ h => ⟨h, rfl⟩) (by decide) (by decide)
                      have hG152 := hG152.tr hst97 (fun _ h => ⟨h, rfl⟩) (by decide) (by decide)
                      have hmf99 : tw_fv E94 a0 1 = .int fv0_1 := (hst97.1 a0 1 hm0 (by rw [hk0]; decide)).trans hmf29
                      have hmf100 : tw_fv E94 a0 2 = .int u0_0_2 := (hst97.1 a0 2 hm0 (by rw [hk0]; decide)).trans hmf30
                      have hmf101 : tw_fv E94 a0 0 = .ref xr11 := (hst97.1 a0 0 hm0 (by rw [hk0]; decide)).trans hmf31
                      refine lv_goto (tgt := 152) hx hb dX12_skips_188 (by decide) ?_
                      exact ih152 (n152 - 1) (by   omega) zi93 _ _ _ ls (by omega) (by omega) (by  omega) (by  omega) (by  exact hin152_2) (by  exact hin152_3) (by  exact lx_al_push hin152_4 (by omega) (by omega) (by unfold lx_ow; omega)) (by   omega) hmf98 hG152 TH hS (lv_sub hl [0] rfl)
              exact hJ152 501 zi17 _ _ _ ls (by omega) (by omega) (by  omega) (by  omega) (by  unfold lx_le; omega) (by  omega) (by  exact lx_al_zero (by omega)) (by   omega) hmf22 tw_fr.rf TH hS (lv_sub hl [0] rfl)
            · have hf102 : ¬ (xe26.toInt = 123) := fun q => hc27 ((fa_eq _ _).mpr (by have : ((123 : Int32).toInt) = 123 := (by decide); omega))
              exact tw_vret hx hb hr hlocks TH hS hex ⟨rfl, rfl, rfl, hF, (by  rw [tw_fi_of hmf24, tw_fi_of hmf22]; refine ⟨hin52_2, ?_⟩; exact Or.inr (Or.inr ⟨by omega, by unfold lx_le; omega, Or.inl (by omega)⟩)), ⟨u0_0_2, zi17, hmf24, hmf22, by  omega⟩⟩ (Nat.le_of_ble_eq_true rfl) (Nat.le_of_ble_eq_true rfl) dX12_skips_151
          · have hf103 : ¬ (xc14.toInt = 0) := fun q => hc15 ((fa_eq _ _).mpr (by have : ((0 : Int32).toInt) = 0 := (by decide); omega))
            have hJ87 : ∀ (n87 : Nat) (w87_0_3 : Int32) (Eg87 : Nat → va_E) (H : Heap) (locs : List Loc) (ls : Array Slot), 0 ≤ w87_0_3.toInt → w87_0_3.toInt ≤ 500 → (u0_0_2.toInt ≤ w87_0_3.toInt) → (w87_0_3.toInt ≤ fv0_1.toInt) → (lx_al lx_le (tw_el E a0 0) (u0_0_2.toInt) (w87_0_3.toInt)) → 500 - w87_0_3.toInt ≤ (n87 : Int) → tw_fv Eg87 a0 3 = .int w87_0_3 → tw_fr kp L [(12, 3)] [] E2 Eg87 → tw_H D cs kp L Eg87 A H → va_S A s.heap H locs → lv_has ls 1 [(0, .ref a0)] → W p l e { frames := 2, cells := 0, slots := 0, locals := 40 } s m [.ref a0].toArray below meth c H locs 0 0 (MQ below (tw_Q D cs kp0 L0 (fun v kq Lq Eq => v = none ∧ kp = kq ∧ L = Lq ∧ tw_fr kp L [(12, 2), (12, 3)] [] E Eq ∧ (lx_WS (tw_el E a0 0) fv0_1.toInt fv0_2.toInt (tw_fi Eq a0 2) ∧ lx_TK (tw_el E a0 0) fv0_1.toInt (tw_fi Eq a0 2) (tw_fi Eq a0 3)) ∧ (∃ z0 z1 : Int32, tw_fv Eq a0 2 = .int z0 ∧ tw_fv Eq a0 3 = .int z1 ∧ (fv0_2.toInt ≤ z0.toInt ∧ z0.toInt ≤ z1.toInt ∧ z1.toInt ≤ fv0_1.toInt))) A) [.ref a0].toArray s 0 0 A) (F0 m 87 ls []) := by
              intro n87
              induction n87 using Nat.strongRecOn with
              | _ n87 ih87 =>
                intro w87_0_3 Eg87 H locs ls hw87_0_3a hw87_0_3b hin87_0 hin87_1 hin87_2 hmeas87 hfm87_0 hG87 TH hS hl
                have hF := hF.tr hG87 (fun _ h => ⟨h, rfl⟩) (by decide) (by decide)
                have hmf104 : tw_fv Eg87 a0 1 = .int fv0_1 := (hG87.1 a0 1 hm0 (by rw [hk0]; decide)).trans hmf7
                have hmf105 : tw_fv Eg87 a0 2 = .int u0_0_2 := (hG87.1 a0 2 hm0 (by rw [hk0]; decide)).trans hmf8
                have hmf106 : tw_fv Eg87 a0 0 = .ref xr11 := (hG87.1 a0 0 hm0 (by rw [hk0]; decide)).trans hxr11
                refine lv_aload_n hx hb dX12_skips_87 rfl (lv_at hl 0 rfl) ?_
                refine tw_get (ci := 12) (C := RX12) (T := TX12) (N := 64) hx hb hB cx_inX12 hown hK TH hm0 hk0 rfl ⟨by decide, rfl⟩ 3 (by decide) cw_1196 (fun _ h9 => h9) dX12_skips_88 (fun hv => ?_)
                rw [hfm87_0]
                refine lv_aload_n hx hb dX12_skips_91 rfl (lv_at hl 0 rfl) ?_
                refine tw_get (ci := 12) (C := RX12) (T := TX12) (N := 64) hx hb hB cx_inX12 hown hK TH hm0 hk0 rfl ⟨by decide, rfl⟩ 1 (by decide) cw_1194 (fun _ h9 => h9) dX12_skips_92 (fun hv => ?_)
                rw [hmf104]
                refine lv_icmp_ge (tgt := 126) hx hb dX12_skips_95 (by decide) (fun hc107 => ?_) (fun hc107 => ?_)
                · have hf108 : fv0_1.toInt ≤ w87_0_3.toInt := by have z := (fa_le _ _).mp hc107;  omega
                  exact tw_vret hx hb hr hlocks TH hS hex ⟨rfl, rfl, rfl, hF, (by  rw [tw_fi_of hmf105, tw_fi_of hfm87_0]; refine ⟨hin52_2, ?_⟩; refine Or.inr (Or.inl ⟨by omega, ?_, by by_cases z : u0_0_2.toInt = w87_0_3.toInt; (exfalso; have z2 : tw_el E a0 0 (u0_0_2.toInt).toNat = tw_el E a0 0 (w87_0_3.toInt).toNat := (by rw [z]); omega); omega, by omega, hin87_2, fun z => ?_⟩); (unfold lx_le; omega); (unfold lx_le; omega)), ⟨u0_0_2, w87_0_3, hmf105, hfm87_0, by  omega⟩⟩ (Nat.le_of_ble_eq_true rfl) (Nat.le_of_ble_eq_true rfl) dX12_skips_126
                · have hf109 : ¬ (fv0_1.toInt ≤ w87_0_3.toInt) := fun q => hc107 ((fa_le _ _).mpr (by  omega))
                  refine lv_aload_n hx hb dX12_skips_98 rfl (lv_at hl 0 rfl) ?_
                  refine tw_get (ci := 12) (C := RX12) (T := TX12) (N := 64) hx hb hB cx_inX12 hown hK TH hm0 hk0 rfl ⟨by decide, rfl⟩ 0 (by decide) cw_1193 (fun _ h9 => h9) dX12_skips_99 (fun hv => ?_)
                  rw [hmf106]
                  refine lv_aload_n hx hb dX12_skips_102 rfl (lv_at hl 0 rfl) ?_
                  refine tw_get (ci := 12) (C := RX12) (T := TX12) (N := 64) hx hb hB cx_inX12 hown hK TH hm0 hk0 rfl ⟨by decide, rfl⟩ 3 (by decide) cw_1196 (fun _ h9 => h9) dX12_skips_103 (fun hv => ?_)
                  rw [hfm87_0]
                  refine tw_bald (k := 300) (t0 := 2) (n := 500) (lo := (-128)) (hi := 127) hx hb hK TH hmxr11 hkxr11 (by decide) rfl rfl (i := w87_0_3) (vp_in_iff.mpr ⟨by  omega, by  omega⟩) dX12_skips_106 (fun hxe110a hxe110b => ?_)
                  obtain ⟨xe110, exe110⟩ : ∃ z : Int32, tw_iv Eg87 xr11 (Int32.toNatClampNeg w87_0_3) = z := ⟨_, rfl⟩
                  rw [exe110] at hxe110a hxe110b ⊢
                  have ft := el_fr TH hF hm0 hk0 (k := 0) (by decide) rfl (by decide) (by decide) (by decide)
                  have ht107 : tw_el E a0 0 (w87_0_3.toInt).toNat = xe110.toInt := (by rw [← ft]; exact (by rw [tw_el_of hmf106]; exact congrArg Int32.toInt exe110))
                  refine tw_Sc (n := 1) (post := (fun v kq Lq Eq => (∃ x : Int32, v = some (.int x) ∧ 0 ≤ x.toInt ∧ x.toInt ≤ 1 ∧ (x.toInt ≠ 0 ↔ (97 ≤ xe110.toInt ∧ xe110.toInt ≤ 122))) ∧ kp = kq ∧ L = Lq ∧ Eg87 = Eq)) (As := [.int xe110]) (rest := []) ⟨hx, hb, hml, hown, hB⟩ (fun sz => tX12_isLetter_vL l D cs xe110  sz) cg_12_175_X12_isLetter rfl rfl (by decide +kernel) ⟨Nat.le_of_ble_eq_true rfl, Nat.le_of_ble_eq_true rfl⟩ hK hN TH hS hA rfl hl.1 rfl (Nat.le_of_ble_eq_true rfl) dX12_skips_107 ⟨Nat.le_of_ble_eq_true rfl, Nat.le_of_ble_eq_true rfl⟩ (fun v111 kp111 L111 E111 H locs hq111 hx111 TH hS => ?_)
                  obtain ⟨⟨xc112, rfl, hxc112a, hxc112b, hpoxc112_0⟩, rfl, rfl, rfl⟩ := hq111
                  refine W.eq (g2 := F0 m 110 ls [.int xc112]) rfl ?_
                  refine lv_if_eq (tgt := 126) hx hb dX12_skips_110 (by decide) (fun hc113 => ?_) (fun hc113 => ?_)
                  · have hf114 : xc112.toInt = 0 := by have z := (fa_eq _ _).mp hc113; have : ((0 : Int32).toInt) = 0 := (by decide); omega
                    exact tw_vret hx hb hr hlocks TH hS hex ⟨rfl, rfl, rfl, hF, (by  rw [tw_fi_of hmf105, tw_fi_of hfm87_0]; refine ⟨hin52_2, ?_⟩; refine Or.inr (Or.inl ⟨by omega, ?_, by by_cases z : u0_0_2.toInt = w87_0_3.toInt; (exfalso; have z2 : tw_el E a0 0 (u0_0_2.toInt).toNat = tw_el E a0 0 (w87_0_3.toInt).toNat := (by rw [z]); omega); omega, by omega, hin87_2, fun z => ?_⟩); (unfold lx_le; omega); (unfold lx_le; omega)), ⟨u0_0_2, w87_0_3, hmf105, hfm87_0, by  omega⟩⟩ (Nat.le_of_ble_eq_true rfl) (Nat.le_of_ble_eq_true rfl) dX12_skips_126
                  · have hf115 : ¬ (xc112.toInt = 0) := fun q => hc113 ((fa_eq _ _).mpr (by have : ((0 : Int32).toInt) = 0 := (by decide); omega))
                    refine lv_aload_n hx hb dX12_skips_113 rfl (lv_at hl 0 rfl) ?_
                    refine lv_dup hx hb dX12_skips_114 rfl ?_
                    refine tw_get (ci := 12) (C := RX12) (T := TX12) (N := 64) hx hb hB cx_inX12 hown hK TH hm0 hk0 rfl ⟨by decide, rfl⟩ 3 (by decide) cw_1196 (fun _ h9 => h9) dX12_skips_115 (fun hv => ?_)
                    rw [hfm87_0]
                    refine lv_iconst (v := 1) hx hb dX12_skips_118 (by decide) ?_
                    refine lv_iadd hx hb dX12_skips_119 ?_
                    refine lv_topi (fun zi116 ezi116 => ?_)
                    have hzi116 : zi116.toInt = w87_0_3.toInt + 1 := by rw [ezi116]; have : ((1 : Int32).toInt) = 1 := (by decide); have := ia_lo w87_0_3; have := ia_hi w87_0_3; exact (ia_add (by omega) (by omega)).trans (by omega)
                    refine tw_put (ci := 12) (v := .int zi116) (ty := .int) (C := RX12) (T := TX12) (N := 64) hx hb hB cx_inX12 tyX12 tyX12_ok nmX12 hown hK TH hS hm0 hk0 rfl ⟨by decide, rfl⟩ 3 (by decide) cw_1196 (fun _ h9 => h9) rfl (by decide +kernel) rfl rfl ⟨_, rfl, (show 0 ≤ Int32.toInt zi116 from by  omega), (show Int32.toInt zi116 ≤ 500 from by  omega)⟩ dX12_skips_120 (fun H locs E117 TH hS hmf121 hp118 hp119 => ?_)
                    have hst120 : tw_fr kp L [(12, 3)] [] Eg87 E117 := tw_fr.put tw_fr.rf (fun _ => hk0) (by decide) hp118 hp119 (by decide)
                    have hF := hF.tr hst120 (fun _ h => ⟨h, rfl⟩) (by decide) (by decide)
                    have hG87 := hG87.tr hst120 (fun _ h => ⟨h, rfl⟩) (by decide) (by decide)
                    have hmf122 : tw_fv E117 a0 1 = .int fv0_1 := (hst120.1 a0 1 hm0 (by rw [hk0]; decide)).trans hmf104
                    have hmf123 : tw_fv E117 a0 2 = .int u0_0_2 := (hst120.1 a0 2 hm0 (by rw [hk0]; decide)).trans hmf105
                    have hmf124 : tw_fv E117 a0 0 = .ref xr11 := (hst120.1 a0 0 hm0 (by rw [hk0]; decide)).trans hmf106
                    refine lv_goto (tgt := 87) hx hb dX12_skips_123 (by decide) ?_
                    exact ih87 (n87 - 1) (by   omega) zi116 _ _ _ ls (by omega) (by omega) (by  omega) (by  omega) (by  exact lx_al_push hin87_2 (by omega) (by omega) (by unfold lx_le; omega)) (by   omega) hmf121 hG87 TH hS (lv_sub hl [0] rfl)
            exact hJ87 501 u0_0_2 _ _ _ ls (by omega) (by omega) (by  omega) (by  omega) (by  exact lx_al_zero (by omega)) (by   omega) hmf6 tw_fr.rf TH hS (lv_sub hl [0] rfl)
        · have hf125 : u0_0_2.toInt = fv0_1.toInt := by have z := (fa_eq _ _).mp hc9;  omega
          exact tw_vret hx hb hr hlocks TH hS hex ⟨rfl, rfl, rfl, hF, (by  rw [tw_fi_of hmf8, tw_fi_of hmf6]; refine ⟨hin52_2, ?_⟩; exact Or.inl ⟨by omega, by omega⟩), ⟨u0_0_2, u0_0_2, hmf8, hmf6, by  omega⟩⟩ (Nat.le_of_ble_eq_true rfl) (Nat.le_of_ble_eq_true rfl) dX12_skips_71
      refine lv_icmp_ge (tgt := 52) hx hb dX12_skips_8 (by decide) (fun hc126 => ?_) (fun hc126 => ?_)
      · have hf127 : fv0_1.toInt ≤ u0_0_2.toInt := by have z := (fa_le _ _).mp hc126;  omega
        exact hJ52  _ _ ls (by  omega) (by  omega) (by  refine ⟨by omega, by omega, hin0_2, fun z => ?_⟩; unfold lx_sp; omega) TH hS (lv_sub hl [0] rfl)
      · have hf128 : ¬ (fv0_1.toInt ≤ u0_0_2.toInt) := fun q => hc126 ((fa_le _ _).mpr (by  omega))
        refine lv_aload_n hx hb dX12_skips_11 rfl (lv_at hl 0 rfl) ?_
        refine tw_get (ci := 12) (C := RX12) (T := TX12) (N := 64) hx hb hB cx_inX12 hown hK TH hm0 hk0 rfl ⟨by decide, rfl⟩ 0 (by decide) cw_1193 (fun _ h9 => h9) dX12_skips_12 (fun hv => ?_)
        obtain ⟨xr129, hxr129, hmxr129, hkxr129⟩ : ∃ a : Nat, tw_fv Eg0 a0 0 = .ref a ∧ a ∈ L ∧ kp a = 300 := hv
        rw [hxr129]
        refine lv_aload_n hx hb dX12_skips_15 rfl (lv_at hl 0 rfl) ?_
        refine tw_get (ci := 12) (C := RX12) (T := TX12) (N := 64) hx hb hB cx_inX12 hown hK TH hm0 hk0 rfl ⟨by decide, rfl⟩ 2 (by decide) cw_1195 (fun _ h9 => h9) dX12_skips_16 (fun hv => ?_)
        rw [hfm0_0]
        refine tw_bald (k := 300) (t0 := 2) (n := 500) (lo := (-128)) (hi := 127) hx hb hK TH hmxr129 hkxr129 (by decide) rfl rfl (i := u0_0_2) (vp_in_iff.mpr ⟨by  omega, by  omega⟩) dX12_skips_19 (fun hxe130a hxe130b => ?_)
        obtain ⟨xe130, exe130⟩ : ∃ z : Int32, tw_iv Eg0 xr129 (Int32.toNatClampNeg u0_0_2) = z := ⟨_, rfl⟩
        rw [exe130] at hxe130a hxe130b ⊢
        have ft := el_fr TH hF hm0 hk0 (k := 0) (by decide) rfl (by decide) (by decide) (by decide)
        have ht20 : tw_el E a0 0 (u0_0_2.toInt).toNat = xe130.toInt := (by rw [← ft]; exact (by rw [tw_el_of hxr129]; exact congrArg Int32.toInt exe130))
        refine lv_bipush (v := 32) hx hb dX12_skips_20 (by decide) ?_
        refine lv_icmp_eq (tgt := 39) hx hb dX12_skips_22 (by decide) (fun hc131 => ?_) (fun hc131 => ?_)
        · have hf132 : xe130.toInt = 32 := by have z := (fa_eq _ _).mp hc131; have : ((32 : Int32).toInt) = 32 := (by decide); omega
          refine lv_aload_n hx hb dX12_skips_39 rfl (lv_at hl 0 rfl) ?_
          refine lv_dup hx hb dX12_skips_40 rfl ?_
          refine tw_get (ci := 12) (C := RX12) (T := TX12) (N := 64) hx hb hB cx_inX12 hown hK TH hm0 hk0 rfl ⟨by decide, rfl⟩ 2 (by decide) cw_1195 (fun _ h9 => h9) dX12_skips_41 (fun hv => ?_)
          rw [hfm0_0]
          refine lv_iconst (v := 1) hx hb dX12_skips_44 (by decide) ?_
          refine lv_iadd hx hb dX12_skips_45 ?_
          refine lv_topi (fun zi133 ezi133 => ?_)
          have hzi133 : zi133.toInt = u0_0_2.toInt + 1 := by rw [ezi133]; have : ((1 : Int32).toInt) = 1 := (by decide); have := ia_lo u0_0_2; have := ia_hi u0_0_2; exact (ia_add (by omega) (by omega)).trans (by omega)
          refine tw_put (ci := 12) (v := .int zi133) (ty := .int) (C := RX12) (T := TX12) (N := 64) hx hb hB cx_inX12 tyX12 tyX12_ok nmX12 hown hK TH hS hm0 hk0 rfl ⟨by decide, rfl⟩ 2 (by decide) cw_1195 (fun _ h9 => h9) rfl (by decide +kernel) rfl rfl ⟨_, rfl, (show 0 ≤ Int32.toInt zi133 from by  omega), (show Int32.toInt zi133 ≤ 500 from by  omega)⟩ dX12_skips_46 (fun H locs E134 TH hS hmf138 hp135 hp136 => ?_)
          have hst137 : tw_fr kp L [(12, 2)] [] Eg0 E134 := tw_fr.put tw_fr.rf (fun _ => hk0) (by decide) hp135 hp136 (by decide)
          have hF := hF.tr hst137 (fun _ h => ⟨h, rfl⟩) (by decide) (by decide)
          have hG0 := hG0.tr hst137 (fun _ h => ⟨h, rfl⟩) (by decide) (by decide)
          have hmf139 : tw_fv E134 a0 1 = .int fv0_1 := (hst137.1 a0 1 hm0 (by rw [hk0]; decide)).trans hmf1
          have hmf140 : tw_fv E134 a0 0 = .ref xr129 := (hst137.1 a0 0 hm0 (by rw [hk0]; decide)).trans hxr129
          refine lv_goto (tgt := 0) hx hb dX12_skips_49 (by decide) ?_
          exact ih0 (n0 - 1) (by   omega) zi133 _ _ _ ls (by omega) (by omega) (by  omega) (by  omega) (by  exact lx_al_push hin0_2 (by omega) (by omega) (by unfold lx_sp; omega)) (by   omega) hmf138 hG0 TH hS (lv_sub hl [0] rfl)
        · have hf141 : ¬ (xe130.toInt = 32) := fun q => hc131 ((fa_eq _ _).mpr (by have : ((32 : Int32).toInt) = 32 := (by decide); omega))
          refine lv_aload_n hx hb dX12_skips_25 rfl (lv_at hl 0 rfl) ?_
          refine tw_get (ci := 12) (C := RX12) (T := TX12) (N := 64) hx hb hB cx_inX12 hown hK TH hm0 hk0 rfl ⟨by decide, rfl⟩ 0 (by decide) cw_1193 (fun _ h9 => h9) dX12_skips_26 (fun hv => ?_)
          rw [hxr129]
          refine lv_aload_n hx hb dX12_skips_29 rfl (lv_at hl 0 rfl) ?_
          refine tw_get (ci := 12) (C := RX12) (T := TX12) (N := 64) hx hb hB cx_inX12 hown hK TH hm0 hk0 rfl ⟨by decide, rfl⟩ 2 (by decide) cw_1195 (fun _ h9 => h9) dX12_skips_30 (fun hv => ?_)
          rw [hfm0_0]
          refine tw_bald (k := 300) (t0 := 2) (n := 500) (lo := (-128)) (hi := 127) hx hb hK TH hmxr129 hkxr129 (by decide) rfl rfl (i := u0_0_2) (vp_in_iff.mpr ⟨by  omega, by  omega⟩) dX12_skips_33 (fun hxe142a hxe142b => ?_)
          rw [exe130]
          have ft := el_fr TH hF hm0 hk0 (k := 0) (by decide) rfl (by decide) (by decide) (by decide)
          have ht34 : tw_el E a0 0 (u0_0_2.toInt).toNat = xe130.toInt := (by rw [← ft]; exact (by rw [tw_el_of hxr129]; exact congrArg Int32.toInt exe130))
          refine lv_bipush (v := 10) hx hb dX12_skips_34 (by decide) ?_
          refine lv_icmp_ne (tgt := 52) hx hb dX12_skips_36 (by decide) (fun hc143 => ?_) (fun hc143 => ?_)
          · have hf144 : ¬ (xe130.toInt = 10) := fun q => hc143 ((fa_eq _ _).mpr (by have : ((10 : Int32).toInt) = 10 := (by decide); omega))
            exact hJ52  _ _ ls (by  omega) (by  omega) (by  refine ⟨by omega, by omega, hin0_2, fun z => ?_⟩; unfold lx_sp; omega) TH hS (lv_sub hl [0] rfl)
          · have hf145 : xe130.toInt = 10 := by have z := (fa_eq _ _).mp hc143; have : ((10 : Int32).toInt) = 10 := (by decide); omega
            refine lv_aload_n hx hb dX12_skips_39 rfl (lv_at hl 0 rfl) ?_
            refine lv_dup hx hb dX12_skips_40 rfl ?_
            refine tw_get (ci := 12) (C := RX12) (T := TX12) (N := 64) hx hb hB cx_inX12 hown hK TH hm0 hk0 rfl ⟨by decide, rfl⟩ 2 (by decide) cw_1195 (fun _ h9 => h9) dX12_skips_41 (fun hv => ?_)
            rw [hfm0_0]
            refine lv_iconst (v := 1) hx hb dX12_skips_44 (by decide) ?_
            refine lv_iadd hx hb dX12_skips_45 ?_
            refine lv_topi (fun zi146 ezi146 => ?_)
            have hzi146 : zi146.toInt = u0_0_2.toInt + 1 := by rw [ezi146]; have : ((1 : Int32).toInt) = 1 := (by decide); have := ia_lo u0_0_2; have := ia_hi u0_0_2; exact (ia_add (by omega) (by omega)).trans (by omega)
            refine tw_put (ci := 12) (v := .int zi146) (ty := .int) (C := RX12) (T := TX12) (N := 64) hx hb hB cx_inX12 tyX12 tyX12_ok nmX12 hown hK TH hS hm0 hk0 rfl ⟨by decide, rfl⟩ 2 (by decide) cw_1195 (fun _ h9 => h9) rfl (by decide +kernel) rfl rfl ⟨_, rfl, (show 0 ≤ Int32.toInt zi146 from by  omega), (show Int32.toInt zi146 ≤ 500 from by  omega)⟩ dX12_skips_46 (fun H locs E147 TH hS hmf151 hp148 hp149 => ?_)
            have hst150 : tw_fr kp L [(12, 2)] [] Eg0 E147 := tw_fr.put tw_fr.rf (fun _ => hk0) (by decide) hp148 hp149 (by decide)
            have hF := hF.tr hst150 (fun _ h => ⟨h, rfl⟩) (by decide) (by decide)
            have hG0 := hG0.tr hst150 (fun _ h => ⟨h, rfl⟩) (by decide) (by decide)
            have hmf152 : tw_fv E147 a0 1 = .int fv0_1 := (hst150.1 a0 1 hm0 (by rw [hk0]; decide)).trans hmf1
            have hmf153 : tw_fv E147 a0 0 = .ref xr129 := (hst150.1 a0 0 hm0 (by rw [hk0]; decide)).trans hxr129
            refine lv_goto (tgt := 0) hx hb dX12_skips_49 (by decide) ?_
            exact ih0 (n0 - 1) (by   omega) zi146 _ _ _ ls (by omega) (by omega) (by  omega) (by  omega) (by  exact lx_al_push hin0_2 (by omega) (by omega) (by unfold lx_sp; omega)) (by   omega) hmf151 hG0 TH hS (lv_sub hl [0] rfl)
  exact hJ0 501 fv0_2 _ _ _ ls (by omega) (by omega) (by  omega) (by  omega) (by  exact lx_al_zero (by omega)) (by   omega) hfv0_2 tw_fr.rf TH hS (lv_sub hl [0] rfl)
set_option maxHeartbeats 4000000 in
set_option maxRecDepth 100000 in
theorem tX12_goesOn_vL (l : Launch) (D : va_G) (cs : Nat → ClassId) {kp : Nat → Nat} {L : List Nat} {E : Nat → va_E} (a0 : Nat) (fv0_3 : Int32) (fv0_1 : Int32) (hm0 : a0 ∈ L) (hk0 : kp a0 = 12) (hfv0_3 : tw_fv E a0 3 = .int fv0_3) (hfv0_1 : tw_fv E a0 1 = .int fv0_1) (hpre0 : fv0_3.toInt ≤ fv0_1.toInt) (sz : Nat) : Met l yX12_goesOn (.code yX12_goesOn cX12_goesOn 1 none :: cx_big) { frames := 3, cells := 0, slots := 0, locals := 60 } (tw_P D cs kp L E [.ref a0] sz) (tw_Q D cs kp L (fun v kq Lq Eq => v = none ∧ kp = kq ∧ L = Lq ∧ tw_fr kp L [(12, 2), (12, 3)] [] E Eq ∧ (lx_WS (tw_el E a0 0) fv0_1.toInt fv0_3.toInt (tw_fi Eq a0 2) ∧ lx_TK (tw_el E a0 0) fv0_1.toInt (tw_fi Eq a0 2) (tw_fi Eq a0 3)) ∧ (∃ z0 z1 : Int32, tw_fv Eq a0 2 = .int z0 ∧ tw_fv Eq a0 3 = .int z1 ∧ (fv0_3.toInt ≤ z0.toInt ∧ z0.toInt ≤ z1.toInt ∧ z1.toInt ≤ fv0_1.toInt))) (va_A (va_pl L E) sz)) 0 0 (va_A (va_pl L E) sz) := by
  refine tw_ofW (by decide) (Nat.le_of_ble_eq_true rfl) ?_
  intro p e s m below meth c A ls hx hb hr hml hB hown hlocks hK hN hA TH hS hl
  have hown : s.vm.findClass "TreeMergeModel" = some m.cls := hown
  have hl : lv_has ls 1 [(0, .ref a0)] := hl
  obtain ⟨kp0, ekp⟩ : ∃ z, z = kp := ⟨_, rfl⟩
  obtain ⟨L0, eL⟩ : ∃ z, z = L := ⟨_, rfl⟩
  rw [show tw_Q D cs kp L = tw_Q D cs kp0 L0 by rw [ekp, eL]]
  have hex : ∀ a : Nat, a ∈ L0 → a ∈ L ∧ kp a = kp0 a := fun a h => ⟨by rw [← eL]; exact h, by rw [ekp]⟩
  have hF : tw_fr kp L [(12, 2), (12, 3)] [] E E := tw_fr.rf
  obtain ⟨qfv0_3, hqfv0_3, hqfv0_3a, hqfv0_3b⟩ := tw_rd TH hm0 hk0 (by decide) (by decide) (k := 3) rfl
  have eqfv0_3 : qfv0_3 = fv0_3 := by have q := hqfv0_3.symm.trans hfv0_3; injection q
  rw [eqfv0_3] at hqfv0_3a hqfv0_3b
  obtain ⟨qfv0_1, hqfv0_1, hqfv0_1a, hqfv0_1b⟩ := tw_rd TH hm0 hk0 (by decide) (by decide) (k := 1) rfl
  have eqfv0_1 : qfv0_1 = fv0_1 := by have q := hqfv0_1.symm.trans hfv0_1; injection q
  rw [eqfv0_1] at hqfv0_1a hqfv0_1b
  refine lv_aload_n hx hb dX12_goesOn_0 rfl (lv_at hl 0 rfl) ?_
  refine lv_aload_n hx hb dX12_goesOn_1 rfl (lv_at hl 0 rfl) ?_
  refine tw_get (ci := 12) (C := RX12) (T := TX12) (N := 64) hx hb hB cx_inX12 hown hK TH hm0 hk0 rfl ⟨by decide, rfl⟩ 3 (by decide) cw_1196 (fun _ h9 => h9) dX12_goesOn_2 (fun hv => ?_)
  rw [hfv0_3]
  refine tw_put (ci := 12) (v := .int fv0_3) (ty := .int) (C := RX12) (T := TX12) (N := 64) hx hb hB cx_inX12 tyX12 tyX12_ok nmX12 hown hK TH hS hm0 hk0 rfl ⟨by decide, rfl⟩ 2 (by decide) cw_1195 (fun _ h9 => h9) rfl (by decide +kernel) rfl rfl ⟨_, rfl, (show 0 ≤ Int32.toInt fv0_3 from by  omega), (show Int32.toInt fv0_3 ≤ 500 from by  omega)⟩ dX12_goesOn_5 (fun H locs E1 TH hS hmf5 hp2 hp3 => ?_)
  have hst4 : tw_fr kp L [(12, 2)] [] E E1 := tw_fr.put tw_fr.rf (fun _ => hk0) (by decide) hp2 hp3 (by decide)
  have hF := hF.tr hst4 (fun _ h => ⟨h, rfl⟩) (by decide) (by decide)
  have hmf6 : tw_fv E1 a0 3 = .int fv0_3 := (hst4.1 a0 3 hm0 (by rw [hk0]; decide)).trans hfv0_3
  have hmf7 : tw_fv E1 a0 1 = .int fv0_1 := (hst4.1 a0 1 hm0 (by rw [hk0]; decide)).trans hfv0_1
  refine lv_aload_n hx hb dX12_goesOn_8 rfl (lv_at hl 0 rfl) ?_
  have goft := el_fr TH hF hm0 hk0 (k := 0) (by decide) rfl (by decide) (by decide) (by decide)
  refine tw_Vc (o := a0) (ci := 12) (n := 0) (post := (fun v kq Lq Eq => v = none ∧ kp = kq ∧ L = Lq ∧ tw_fr kp L [(12, 2), (12, 3)] [] E1 Eq ∧ (lx_WS (tw_el E1 a0 0) fv0_1.toInt fv0_3.toInt (tw_fi Eq a0 2) ∧ lx_TK (tw_el E1 a0 0) fv0_1.toInt (tw_fi Eq a0 2) (tw_fi Eq a0 3)) ∧ (∃ z0 z1 : Int32, tw_fv Eq a0 2 = .int z0 ∧ tw_fv Eq a0 3 = .int z1 ∧ (fv0_3.toInt ≤ z0.toInt ∧ z0.toInt ≤ z1.toInt ∧ z1.toInt ≤ fv0_1.toInt)))) (As := []) (rest := []) ⟨hx, hb, hml, hown, hB⟩ (fun sz => tX12_skips_vL l D cs a0 fv0_3 fv0_1 hm0 hk0 hmf5 hmf7 (by  omega) sz) cg_12_190_X12_skips rfl rfl (by decide +kernel) ⟨Nat.le_of_ble_eq_true rfl, Nat.le_of_ble_eq_true rfl⟩ hK hN TH hS hA rfl hm0 hk0 (by decide) rfl hl.1 rfl (Nat.le_of_ble_eq_true rfl) dX12_goesOn_9 ⟨Nat.le_of_ble_eq_true rfl, Nat.le_of_ble_eq_true rfl⟩ (fun v8 kp8 L8 E8 H locs hq8 hx8 TH hS => ?_)
  obtain ⟨rfl, rfl, rfl, hst8, hpoxc9_0, ⟨zfxc9_0_0, zfxc9_0_1, hzfxc9_0_0, hzfxc9_0_1, hzpxc9_0⟩⟩ := hq8
  have hF := hF.tr hst8 (fun _ h => ⟨h, rfl⟩) (by decide) (by decide)
  have hmf10 : tw_fv E8 a0 1 = .int fv0_1 := (hst8.1 a0 1 hm0 (by rw [hk0]; decide)).trans hmf7
  obtain ⟨qzfxc9_0_0, hqzfxc9_0_0, hqzfxc9_0_0a, hqzfxc9_0_0b⟩ := tw_rd TH hm0 hk0 (by decide) (by decide) (k := 2) rfl
  have eqzfxc9_0_0 : qzfxc9_0_0 = zfxc9_0_0 := by have q := hqzfxc9_0_0.symm.trans hzfxc9_0_0; injection q
  rw [eqzfxc9_0_0] at hqzfxc9_0_0a hqzfxc9_0_0b
  obtain ⟨qzfxc9_0_1, hqzfxc9_0_1, hqzfxc9_0_1a, hqzfxc9_0_1b⟩ := tw_rd TH hm0 hk0 (by decide) (by decide) (k := 3) rfl
  have eqzfxc9_0_1 : qzfxc9_0_1 = zfxc9_0_1 := by have q := hqzfxc9_0_1.symm.trans hzfxc9_0_1; injection q
  rw [eqzfxc9_0_1] at hqzfxc9_0_1a hqzfxc9_0_1b
  refine W.eq (g2 := F0 m 12 ls []) rfl ?_
  exact tw_vret hx hb hr hlocks TH hS hex ⟨rfl, rfl, rfl, hF, (by  have w := hpoxc9_0; rw [goft] at w; exact w), ⟨zfxc9_0_0, zfxc9_0_1, hzfxc9_0_0, hzfxc9_0_1, by  omega⟩⟩ (Nat.le_of_ble_eq_true rfl) (Nat.le_of_ble_eq_true rfl) dX12_goesOn_12
set_option maxHeartbeats 4000000 in
set_option maxRecDepth 100000 in
theorem tX12_fails_vL (l : Launch) (D : va_G) (cs : Nat → ClassId) {kp : Nat → Nat} {L : List Nat} {E : Nat → va_E} (a0 : Nat) (hm0 : a0 ∈ L) (hk0 : kp a0 = 12) (sz : Nat) : Met l yX12_fails (.code yX12_fails cX12_fails 1 (some .boolean) :: cx_big) { frames := 0, cells := 0, slots := 0, locals := 0 } (tw_P D cs kp L E [.ref a0] sz) (tw_Q D cs kp L (fun v kq Lq Eq => (∃ x : Int32, v = some (.int x) ∧ 0 ≤ x.toInt ∧ x.toInt ≤ 0 ∧ (∃ z0 : Int32, tw_fv Eq a0 4 = .int z0 ∧ (z0.toInt ≠ -1))) ∧ kp = kq ∧ L = Lq ∧ tw_fr kp L [(12, 4)] [] E Eq) (va_A (va_pl L E) sz)) 0 0 (va_A (va_pl L E) sz) := by
  refine tw_ofW (by decide) (Nat.le_of_ble_eq_true rfl) ?_
  intro p e s m below meth c A ls hx hb hr hml hB hown hlocks hK hN hA TH hS hl
  have hown : s.vm.findClass "TreeMergeModel" = some m.cls := hown
  have hl : lv_has ls 1 [(0, .ref a0)] := hl
  obtain ⟨kp0, ekp⟩ : ∃ z, z = kp := ⟨_, rfl⟩
  obtain ⟨L0, eL⟩ : ∃ z, z = L := ⟨_, rfl⟩
  rw [show tw_Q D cs kp L = tw_Q D cs kp0 L0 by rw [ekp, eL]]
  have hex : ∀ a : Nat, a ∈ L0 → a ∈ L ∧ kp a = kp0 a := fun a h => ⟨by rw [← eL]; exact h, by rw [ekp]⟩
  have hF : tw_fr kp L [(12, 4)] [] E E := tw_fr.rf
  refine lv_aload_n hx hb dX12_fails_0 rfl (lv_at hl 0 rfl) ?_
  refine tw_get (ci := 12) (C := RX12) (T := TX12) (N := 64) hx hb hB cx_inX12 hown hK TH hm0 hk0 rfl ⟨by decide, rfl⟩ 4 (by decide) cw_1197 (fun _ h9 => h9) dX12_fails_1 (fun hv => ?_)
  obtain ⟨xi1, hxi1, hxi1a, hxi1b⟩ : ∃ x : Int32, tw_fv E a0 4 = .int x ∧ (-1) ≤ x.toInt ∧ x.toInt ≤ 500 := hv
  rw [hxi1]
  refine lv_iconst (v := (-1)) hx hb dX12_fails_4 (by decide) ?_
  refine lv_icmp_ne (tgt := 16) hx hb dX12_fails_5 (by decide) (fun hc2 => ?_) (fun hc2 => ?_)
  · have hf3 : ¬ (xi1.toInt = (-1)) := fun q => hc2 ((fa_eq _ _).mpr (by have : (((-1) : Int32).toInt) = (-1) := (by decide); omega))
    refine lv_iconst (v := 0) hx hb dX12_fails_16 (by decide) ?_
    exact tw_zret hx hb hr hlocks (by decide) TH hS hex ⟨⟨_, rfl, (show 0 ≤ Int32.toInt 0 from by have : ((0 : Int32).toInt) = 0 := (by decide); omega), (show Int32.toInt 0 ≤ 0 from by have : ((0 : Int32).toInt) = 0 := (by decide); omega), ⟨xi1, hxi1, by have : ((0 : Int32).toInt) = 0 := (by decide); omega⟩⟩, rfl, rfl, hF⟩ (Nat.le_of_ble_eq_true rfl) (Nat.le_of_ble_eq_true rfl) dX12_fails_17
  · have hf4 : xi1.toInt = (-1) := by have z := (fa_eq _ _).mp hc2; have : (((-1) : Int32).toInt) = (-1) := (by decide); omega
    refine lv_aload_n hx hb dX12_fails_8 rfl (lv_at hl 0 rfl) ?_
    refine lv_aload_n hx hb dX12_fails_9 rfl (lv_at hl 0 rfl) ?_
    refine tw_get (ci := 12) (C := RX12) (T := TX12) (N := 64) hx hb hB cx_inX12 hown hK TH hm0 hk0 rfl ⟨by decide, rfl⟩ 2 (by decide) cw_1195 (fun _ h9 => h9) dX12_fails_10 (fun hv => ?_)
    obtain ⟨xi5, hxi5, hxi5a, hxi5b⟩ : ∃ x : Int32, tw_fv E a0 2 = .int x ∧ 0 ≤ x.toInt ∧ x.toInt ≤ 500 := hv
    rw [hxi5]
    refine tw_put (ci := 12) (v := .int xi5) (ty := .int) (C := RX12) (T := TX12) (N := 64) hx hb hB cx_inX12 tyX12 tyX12_ok nmX12 hown hK TH hS hm0 hk0 rfl ⟨by decide, rfl⟩ 4 (by decide) cw_1197 (fun _ h9 => h9) rfl (by decide +kernel) rfl rfl ⟨_, rfl, (show (-1) ≤ Int32.toInt xi5 from by  omega), (show Int32.toInt xi5 ≤ 500 from by  omega)⟩ dX12_fails_13 (fun H locs E6 TH hS hmf10 hp7 hp8 => ?_)
    have hst9 : tw_fr kp L [(12, 4)] [] E E6 := tw_fr.put tw_fr.rf (fun _ => hk0) (by decide) hp7 hp8 (by decide)
    have hF := hF.tr hst9 (fun _ h => ⟨h, rfl⟩) (by decide) (by decide)
    have hmf11 : tw_fv E6 a0 2 = .int xi5 := (hst9.1 a0 2 hm0 (by rw [hk0]; decide)).trans hxi5
    refine lv_iconst (v := 0) hx hb dX12_fails_16 (by decide) ?_
    exact tw_zret hx hb hr hlocks (by decide) TH hS hex ⟨⟨_, rfl, (show 0 ≤ Int32.toInt 0 from by have : ((0 : Int32).toInt) = 0 := (by decide); omega), (show Int32.toInt 0 ≤ 0 from by have : ((0 : Int32).toInt) = 0 := (by decide); omega), ⟨xi5, hmf10, by have : ((0 : Int32).toInt) = 0 := (by decide); omega⟩⟩, rfl, rfl, hF⟩ (Nat.le_of_ble_eq_true rfl) (Nat.le_of_ble_eq_true rfl) dX12_fails_17
set_option maxHeartbeats 4000000 in
set_option maxRecDepth 100000 in
theorem tX12_passes_vL (l : Launch) (D : va_G) (cs : Nat → ClassId) {kp : Nat → Nat} {L : List Nat} {E : Nat → va_E} (a0 : Nat) (x1 : Int32) (fv0_2 : Int32) (fv0_3 : Int32) (fv0_1 : Int32) (hm0 : a0 ∈ L) (hk0 : kp a0 = 12) (hp1a : 0 ≤ x1.toInt) (hp1b : x1.toInt ≤ 1) (hfv0_2 : tw_fv E a0 2 = .int fv0_2) (hfv0_3 : tw_fv E a0 3 = .int fv0_3) (hfv0_1 : tw_fv E a0 1 = .int fv0_1) (hpre0 : fv0_2.toInt ≤ fv0_3.toInt) (hpre1 : fv0_3.toInt ≤ fv0_1.toInt) (hpre2 : 0 ≤ fv0_2.toInt) (sz : Nat) : Met l yX12_passes (.code yX12_passes cX12_passes 2 (some .boolean) :: cx_big) { frames := 4, cells := 0, slots := 0, locals := 80 } (tw_P D cs kp L E [.ref a0, .int x1] sz) (tw_Q D cs kp L (fun v kq Lq Eq => (∃ x : Int32, v = some (.int x) ∧ 0 ≤ x.toInt ∧ x.toInt ≤ 1 ∧ ((x1.toInt = 0 → x.toInt = 0 ∧ tw_fi Eq a0 4 ≠ -1) ∧ (x1.toInt ≠ 0 → x.toInt = 1 ∧ lx_WS (tw_el E a0 0) fv0_1.toInt fv0_3.toInt (tw_fi Eq a0 2) ∧ lx_TK (tw_el E a0 0) fv0_1.toInt (tw_fi Eq a0 2) (tw_fi Eq a0 3))) ∧ (∃ z0 z1 : Int32, tw_fv Eq a0 2 = .int z0 ∧ tw_fv Eq a0 3 = .int z1 ∧ (z0.toInt ≤ z1.toInt ∧ z1.toInt ≤ fv0_1.toInt ∧ (x.toInt ≠ 0 → fv0_3.toInt ≤ z0.toInt) ∧ (x.toInt = 0 → z0.toInt = fv0_2.toInt)))) ∧ kp = kq ∧ L = Lq ∧ tw_fr kp L [(12, 2), (12, 3), (12, 4)] [] E Eq) (va_A (va_pl L E) sz)) 0 0 (va_A (va_pl L E) sz) := by
  refine tw_ofW (by decide) (Nat.le_of_ble_eq_true rfl) ?_
  intro p e s m below meth c A ls hx hb hr hml hB hown hlocks hK hN hA TH hS hl
  have hown : s.vm.findClass "TreeMergeModel" = some m.cls := hown
  have hl : lv_has ls 2 [(0, .ref a0), (1, .int x1)] := hl
  obtain ⟨kp0, ekp⟩ : ∃ z, z = kp := ⟨_, rfl⟩
  obtain ⟨L0, eL⟩ : ∃ z, z = L := ⟨_, rfl⟩
  rw [show tw_Q D cs kp L = tw_Q D cs kp0 L0 by rw [ekp, eL]]
  have hex : ∀ a : Nat, a ∈ L0 → a ∈ L ∧ kp a = kp0 a := fun a h => ⟨by rw [← eL]; exact h, by rw [ekp]⟩
  have hF : tw_fr kp L [(12, 2), (12, 3), (12, 4)] [] E E := tw_fr.rf
  obtain ⟨qfv0_2, hqfv0_2, hqfv0_2a, hqfv0_2b⟩ := tw_rd TH hm0 hk0 (by decide) (by decide) (k := 2) rfl
  have eqfv0_2 : qfv0_2 = fv0_2 := by have q := hqfv0_2.symm.trans hfv0_2; injection q
  rw [eqfv0_2] at hqfv0_2a hqfv0_2b
  obtain ⟨qfv0_3, hqfv0_3, hqfv0_3a, hqfv0_3b⟩ := tw_rd TH hm0 hk0 (by decide) (by decide) (k := 3) rfl
  have eqfv0_3 : qfv0_3 = fv0_3 := by have q := hqfv0_3.symm.trans hfv0_3; injection q
  rw [eqfv0_3] at hqfv0_3a hqfv0_3b
  obtain ⟨qfv0_1, hqfv0_1, hqfv0_1a, hqfv0_1b⟩ := tw_rd TH hm0 hk0 (by decide) (by decide) (k := 1) rfl
  have eqfv0_1 : qfv0_1 = fv0_1 := by have q := hqfv0_1.symm.trans hfv0_1; injection q
  rw [eqfv0_1] at hqfv0_1a hqfv0_1b
  refine lv_iload_n hx hb dX12_passes_0 rfl (lv_at hl 1 rfl) ?_
  refine lv_if_ne (tgt := 9) hx hb dX12_passes_1 (by decide) (fun hc1 => ?_) (fun hc1 => ?_)
  · have hf2 : ¬ (x1.toInt = 0) := fun q => hc1 ((fa_eq _ _).mpr (by have : ((0 : Int32).toInt) = 0 := (by decide); omega))
    refine lv_aload_n hx hb dX12_passes_9 rfl (lv_at hl 0 rfl) ?_
    refine tw_Vc (o := a0) (ci := 12) (n := 0) (post := (fun v kq Lq Eq => v = none ∧ kp = kq ∧ L = Lq ∧ tw_fr kp L [(12, 2), (12, 3)] [] E Eq ∧ (lx_WS (tw_el E a0 0) fv0_1.toInt fv0_3.toInt (tw_fi Eq a0 2) ∧ lx_TK (tw_el E a0 0) fv0_1.toInt (tw_fi Eq a0 2) (tw_fi Eq a0 3)) ∧ (∃ z0 z1 : Int32, tw_fv Eq a0 2 = .int z0 ∧ tw_fv Eq a0 3 = .int z1 ∧ (fv0_3.toInt ≤ z0.toInt ∧ z0.toInt ≤ z1.toInt ∧ z1.toInt ≤ fv0_1.toInt)))) (As := []) (rest := []) ⟨hx, hb, hml, hown, hB⟩ (fun sz => tX12_goesOn_vL l D cs a0 fv0_3 fv0_1 hm0 hk0 hfv0_3 hfv0_1 (by  omega) sz) cg_12_200_X12_goesOn rfl rfl (by decide +kernel) ⟨Nat.le_of_ble_eq_true rfl, Nat.le_of_ble_eq_true rfl⟩ hK hN TH hS hA rfl hm0 hk0 (by decide) rfl hl.1 rfl (Nat.le_of_ble_eq_true rfl) dX12_passes_10 ⟨Nat.le_of_ble_eq_true rfl, Nat.le_of_ble_eq_true rfl⟩ (fun v3 kp3 L3 E3 H locs hq3 hx3 TH hS => ?_)
    obtain ⟨rfl, rfl, rfl, hst3, hpoxc4_0, ⟨zfxc4_0_0, zfxc4_0_1, hzfxc4_0_0, hzfxc4_0_1, hzpxc4_0⟩⟩ := hq3
    have hF := hF.tr hst3 (fun _ h => ⟨h, rfl⟩) (by decide) (by decide)
    have hmf5 : tw_fv E3 a0 1 = .int fv0_1 := (hst3.1 a0 1 hm0 (by rw [hk0]; decide)).trans hfv0_1
    obtain ⟨qzfxc4_0_0, hqzfxc4_0_0, hqzfxc4_0_0a, hqzfxc4_0_0b⟩ := tw_rd TH hm0 hk0 (by decide) (by decide) (k := 2) rfl
    have eqzfxc4_0_0 : qzfxc4_0_0 = zfxc4_0_0 := by have q := hqzfxc4_0_0.symm.trans hzfxc4_0_0; injection q
    rw [eqzfxc4_0_0] at hqzfxc4_0_0a hqzfxc4_0_0b
    obtain ⟨qzfxc4_0_1, hqzfxc4_0_1, hqzfxc4_0_1a, hqzfxc4_0_1b⟩ := tw_rd TH hm0 hk0 (by decide) (by decide) (k := 3) rfl
    have eqzfxc4_0_1 : qzfxc4_0_1 = zfxc4_0_1 := by have q := hqzfxc4_0_1.symm.trans hzfxc4_0_1; injection q
    rw [eqzfxc4_0_1] at hqzfxc4_0_1a hqzfxc4_0_1b
    refine W.eq (g2 := F0 m 13 ls []) rfl ?_
    refine lv_iconst (v := 1) hx hb dX12_passes_13 (by decide) ?_
    exact tw_zret hx hb hr hlocks (by decide) TH hS hex ⟨⟨_, rfl, (show 0 ≤ Int32.toInt 1 from by have : ((1 : Int32).toInt) = 1 := (by decide); omega), (show Int32.toInt 1 ≤ 1 from by have : ((1 : Int32).toInt) = 1 := (by decide); omega), (by have : ((1 : Int32).toInt) = 1 := (by decide); refine ⟨fun z => absurd z (by omega), fun _ => ⟨by decide, ?_⟩⟩; exact hpoxc4_0), ⟨zfxc4_0_0, zfxc4_0_1, hzfxc4_0_0, hzfxc4_0_1, by have : ((1 : Int32).toInt) = 1 := (by decide); omega⟩⟩, rfl, rfl, hF⟩ (Nat.le_of_ble_eq_true rfl) (Nat.le_of_ble_eq_true rfl) dX12_passes_14
  · have hf6 : x1.toInt = 0 := by have z := (fa_eq _ _).mp hc1; have : ((0 : Int32).toInt) = 0 := (by decide); omega
    refine lv_aload_n hx hb dX12_passes_4 rfl (lv_at hl 0 rfl) ?_
    refine tw_Vc (o := a0) (ci := 12) (n := 0) (post := (fun v kq Lq Eq => (∃ x : Int32, v = some (.int x) ∧ 0 ≤ x.toInt ∧ x.toInt ≤ 0 ∧ (∃ z0 : Int32, tw_fv Eq a0 4 = .int z0 ∧ (z0.toInt ≠ -1))) ∧ kp = kq ∧ L = Lq ∧ tw_fr kp L [(12, 4)] [] E Eq)) (As := []) (rest := []) ⟨hx, hb, hml, hown, hB⟩ (fun sz => tX12_fails_vL l D cs a0 hm0 hk0 sz) cg_12_196_X12_fails rfl rfl (by decide +kernel) ⟨Nat.le_of_ble_eq_true rfl, Nat.le_of_ble_eq_true rfl⟩ hK hN TH hS hA rfl hm0 hk0 (by decide) rfl hl.1 rfl (Nat.le_of_ble_eq_true rfl) dX12_passes_5 ⟨Nat.le_of_ble_eq_true rfl, Nat.le_of_ble_eq_true rfl⟩ (fun v7 kp7 L7 E7 H locs hq7 hx7 TH hS => ?_)
    obtain ⟨⟨xc8, rfl, hxc8a, hxc8b, ⟨zfxc8_0_0, hzfxc8_0_0, hzpxc8_0⟩⟩, rfl, rfl, hst7⟩ := hq7
    have hF := hF.tr hst7 (fun _ h => ⟨h, rfl⟩) (by decide) (by decide)
    have hmf9 : tw_fv E7 a0 2 = .int fv0_2 := (hst7.1 a0 2 hm0 (by rw [hk0]; decide)).trans hfv0_2
    have hmf10 : tw_fv E7 a0 3 = .int fv0_3 := (hst7.1 a0 3 hm0 (by rw [hk0]; decide)).trans hfv0_3
    have hmf11 : tw_fv E7 a0 1 = .int fv0_1 := (hst7.1 a0 1 hm0 (by rw [hk0]; decide)).trans hfv0_1
    obtain ⟨qzfxc8_0_0, hqzfxc8_0_0, hqzfxc8_0_0a, hqzfxc8_0_0b⟩ := tw_rd TH hm0 hk0 (by decide) (by decide) (k := 4) rfl
    have eqzfxc8_0_0 : qzfxc8_0_0 = zfxc8_0_0 := by have q := hqzfxc8_0_0.symm.trans hzfxc8_0_0; injection q
    rw [eqzfxc8_0_0] at hqzfxc8_0_0a hqzfxc8_0_0b
    refine W.eq (g2 := F0 m 8 ls [.int xc8]) rfl ?_
    exact tw_zret hx hb hr hlocks (ia_bool (by omega) (by omega)) TH hS hex ⟨⟨_, rfl, (show 0 ≤ Int32.toInt xc8 from by  omega), (show Int32.toInt xc8 ≤ 1 from by  omega), (by  refine ⟨fun _ => ⟨by omega, by rw [tw_fi_of hzfxc8_0_0]; omega⟩, fun z => absurd z (by omega)⟩), ⟨fv0_2, fv0_3, hmf9, hmf10, by  omega⟩⟩, rfl, rfl, hF⟩ (Nat.le_of_ble_eq_true rfl) (Nat.le_of_ble_eq_true rfl) dX12_passes_8
set_option maxHeartbeats 4000000 in
set_option maxRecDepth 100000 in
theorem tX12_isSign_vL (l : Launch) (D : va_G) (cs : Nat → ClassId) {kp : Nat → Nat} {L : List Nat} {E : Nat → va_E} (a0 : Nat) (x1 : Int32) (fv0_2 : Int32) (fv0_1 : Int32) (hm0 : a0 ∈ L) (hk0 : kp a0 = 12) (hfv0_2 : tw_fv E a0 2 = .int fv0_2) (hfv0_1 : tw_fv E a0 1 = .int fv0_1) (sz : Nat) : Met l yX12_isSign (.code yX12_isSign cX12_isSign 2 (some .boolean) :: cx_big) { frames := 0, cells := 0, slots := 0, locals := 0 } (tw_P D cs kp L E [.ref a0, .int x1] sz) (tw_Q D cs kp L (fun v kq Lq Eq => (∃ x : Int32, v = some (.int x) ∧ 0 ≤ x.toInt ∧ x.toInt ≤ 1 ∧ (x.toInt ≠ 0 ↔ (fv0_2.toInt < fv0_1.toInt ∧ tw_el E a0 0 (fv0_2.toInt).toNat = x1.toInt))) ∧ kp = kq ∧ L = Lq ∧ E = Eq) (va_A (va_pl L E) sz)) 0 0 (va_A (va_pl L E) sz) := by
  refine tw_ofW (by decide) (Nat.le_of_ble_eq_true rfl) ?_
  intro p e s m below meth c A ls hx hb hr hml hB hown hlocks hK hN hA TH hS hl
  have hown : s.vm.findClass "TreeMergeModel" = some m.cls := hown
  have hl : lv_has ls 2 [(0, .ref a0), (1, .int x1)] := hl
  obtain ⟨kp0, ekp⟩ : ∃ z, z = kp := ⟨_, rfl⟩
  obtain ⟨L0, eL⟩ : ∃ z, z = L := ⟨_, rfl⟩
  rw [show tw_Q D cs kp L = tw_Q D cs kp0 L0 by rw [ekp, eL]]
  have hex : ∀ a : Nat, a ∈ L0 → a ∈ L ∧ kp a = kp0 a := fun a h => ⟨by rw [← eL]; exact h, by rw [ekp]⟩
  obtain ⟨qfv0_2, hqfv0_2, hqfv0_2a, hqfv0_2b⟩ := tw_rd TH hm0 hk0 (by decide) (by decide) (k := 2) rfl
  have eqfv0_2 : qfv0_2 = fv0_2 := by have q := hqfv0_2.symm.trans hfv0_2; injection q
  rw [eqfv0_2] at hqfv0_2a hqfv0_2b
  obtain ⟨qfv0_1, hqfv0_1, hqfv0_1a, hqfv0_1b⟩ := tw_rd TH hm0 hk0 (by decide) (by decide) (k := 1) rfl
  have eqfv0_1 : qfv0_1 = fv0_1 := by have q := hqfv0_1.symm.trans hfv0_1; injection q
  rw [eqfv0_1] at hqfv0_1a hqfv0_1b
  refine lv_aload_n hx hb dX12_isSign_0 rfl (lv_at hl 0 rfl) ?_
  refine tw_get (ci := 12) (C := RX12) (T := TX12) (N := 64) hx hb hB cx_inX12 hown hK TH hm0 hk0 rfl ⟨by decide, rfl⟩ 2 (by decide) cw_1195 (fun _ h9 => h9) dX12_isSign_1 (fun hv => ?_)
  rw [hfv0_2]
  refine lv_aload_n hx hb dX12_isSign_4 rfl (lv_at hl 0 rfl) ?_
  refine tw_get (ci := 12) (C := RX12) (T := TX12) (N := 64) hx hb hB cx_inX12 hown hK TH hm0 hk0 rfl ⟨by decide, rfl⟩ 1 (by decide) cw_1194 (fun _ h9 => h9) dX12_isSign_5 (fun hv => ?_)
  rw [hfv0_1]
  refine lv_icmp_ge (tgt := 28) hx hb dX12_isSign_8 (by decide) (fun hc1 => ?_) (fun hc1 => ?_)
  · have hf2 : fv0_1.toInt ≤ fv0_2.toInt := by have z := (fa_le _ _).mp hc1;  omega
    refine lv_iconst (v := 0) hx hb dX12_isSign_28 (by decide) ?_
    exact tw_zret hx hb hr hlocks (by decide) TH hS hex ⟨⟨_, rfl, (show 0 ≤ Int32.toInt 0 from by have : ((0 : Int32).toInt) = 0 := (by decide); omega), (show Int32.toInt 0 ≤ 1 from by have : ((0 : Int32).toInt) = 0 := (by decide); omega), (by have : ((0 : Int32).toInt) = 0 := (by decide); omega)⟩, rfl, rfl, rfl⟩ (Nat.le_of_ble_eq_true rfl) (Nat.le_of_ble_eq_true rfl) dX12_isSign_29
  · have hf3 : ¬ (fv0_1.toInt ≤ fv0_2.toInt) := fun q => hc1 ((fa_le _ _).mpr (by  omega))
    refine lv_aload_n hx hb dX12_isSign_11 rfl (lv_at hl 0 rfl) ?_
    refine tw_get (ci := 12) (C := RX12) (T := TX12) (N := 64) hx hb hB cx_inX12 hown hK TH hm0 hk0 rfl ⟨by decide, rfl⟩ 0 (by decide) cw_1193 (fun _ h9 => h9) dX12_isSign_12 (fun hv => ?_)
    obtain ⟨xr4, hxr4, hmxr4, hkxr4⟩ : ∃ a : Nat, tw_fv E a0 0 = .ref a ∧ a ∈ L ∧ kp a = 300 := hv
    rw [hxr4]
    refine lv_aload_n hx hb dX12_isSign_15 rfl (lv_at hl 0 rfl) ?_
    refine tw_get (ci := 12) (C := RX12) (T := TX12) (N := 64) hx hb hB cx_inX12 hown hK TH hm0 hk0 rfl ⟨by decide, rfl⟩ 2 (by decide) cw_1195 (fun _ h9 => h9) dX12_isSign_16 (fun hv => ?_)
    rw [hfv0_2]
    refine tw_bald (k := 300) (t0 := 2) (n := 500) (lo := (-128)) (hi := 127) hx hb hK TH hmxr4 hkxr4 (by decide) rfl rfl (i := fv0_2) (vp_in_iff.mpr ⟨by  omega, by  omega⟩) dX12_isSign_19 (fun hxe5a hxe5b => ?_)
    obtain ⟨xe5, exe5⟩ : ∃ z : Int32, tw_iv E xr4 (Int32.toNatClampNeg fv0_2) = z := ⟨_, rfl⟩
    rw [exe5] at hxe5a hxe5b ⊢
    have ht20 : tw_el E a0 0 (fv0_2.toInt).toNat = xe5.toInt := (by rw [tw_el_of hxr4]; exact congrArg Int32.toInt exe5)
    refine lv_iload_n hx hb dX12_isSign_20 rfl (lv_at hl 1 rfl) ?_
    refine lv_icmp_ne (tgt := 28) hx hb dX12_isSign_21 (by decide) (fun hc6 => ?_) (fun hc6 => ?_)
    · have hf7 : ¬ (xe5.toInt = x1.toInt) := fun q => hc6 ((fa_eq _ _).mpr (by  omega))
      refine lv_iconst (v := 0) hx hb dX12_isSign_28 (by decide) ?_
      exact tw_zret hx hb hr hlocks (by decide) TH hS hex ⟨⟨_, rfl, (show 0 ≤ Int32.toInt 0 from by have : ((0 : Int32).toInt) = 0 := (by decide); omega), (show Int32.toInt 0 ≤ 1 from by have : ((0 : Int32).toInt) = 0 := (by decide); omega), (by have : ((0 : Int32).toInt) = 0 := (by decide); omega)⟩, rfl, rfl, rfl⟩ (Nat.le_of_ble_eq_true rfl) (Nat.le_of_ble_eq_true rfl) dX12_isSign_29
    · have hf8 : xe5.toInt = x1.toInt := by have z := (fa_eq _ _).mp hc6;  omega
      refine lv_iconst (v := 1) hx hb dX12_isSign_24 (by decide) ?_
      refine lv_goto (tgt := 29) hx hb dX12_isSign_25 (by decide) ?_
      exact tw_zret hx hb hr hlocks (by decide) TH hS hex ⟨⟨_, rfl, (show 0 ≤ Int32.toInt 1 from by have : ((1 : Int32).toInt) = 1 := (by decide); omega), (show Int32.toInt 1 ≤ 1 from by have : ((1 : Int32).toInt) = 1 := (by decide); omega), (by have : ((1 : Int32).toInt) = 1 := (by decide); omega)⟩, rfl, rfl, rfl⟩ (Nat.le_of_ble_eq_true rfl) (Nat.le_of_ble_eq_true rfl) dX12_isSign_29
set_option maxHeartbeats 4000000 in
set_option maxRecDepth 100000 in
theorem tX12_isReserved_vL0 (l : Launch) (D : va_G) (cs : Nat → ClassId) {kp : Nat → Nat} {L : List Nat} {E : Nat → va_E} (a0 : Nat) (fv0_2 : Int32) (fv0_3 : Int32) (fv0_1 : Int32) (hm0 : a0 ∈ L) (hk0 : kp a0 = 12) (hfv0_2 : tw_fv E a0 2 = .int fv0_2) (hfv0_3 : tw_fv E a0 3 = .int fv0_3) (hfv0_1 : tw_fv E a0 1 = .int fv0_1) (hpre0 : fv0_2.toInt ≤ fv0_3.toInt) (hpre1 : fv0_3.toInt ≤ fv0_1.toInt) (sz : Nat) : Met l yX12_isReserved (.code yX12_isReserved cX12_isReserved 3 (some .boolean) :: cx_big) { frames := 4, cells := 0, slots := 0, locals := 85 } (tw_P D cs kp L E [.ref a0, .ref (D.2 100 0)] sz) (tw_Q D cs kp L (fun v kq Lq Eq => (∃ x : Int32, v = some (.int x) ∧ 0 ≤ x.toInt ∧ x.toInt ≤ 1 ∧ (x.toInt ≠ 0 ↔ lx_rs (tw_el E a0 0) fv0_1.toInt fv0_2.toInt fv0_3.toInt 0)) ∧ kp = kq ∧ L = Lq ∧ E = Eq) (va_A (va_pl L E) sz)) 0 0 (va_A (va_pl L E) sz) := by
  refine tw_ofW (by decide) (Nat.le_of_ble_eq_true rfl) ?_
  intro p e s m below meth c A ls hx hb hr hml hB hown hlocks hK hN hA TH hS hl
  have hown : s.vm.findClass "TreeMergeModel" = some m.cls := hown
  have hl : lv_has ls 3 [(0, .ref a0), (1, .ref (D.2 100 0))] := hl
  obtain ⟨kp0, ekp⟩ : ∃ z, z = kp := ⟨_, rfl⟩
  obtain ⟨L0, eL⟩ : ∃ z, z = L := ⟨_, rfl⟩
  rw [show tw_Q D cs kp L = tw_Q D cs kp0 L0 by rw [ekp, eL]]
  have hex : ∀ a : Nat, a ∈ L0 → a ∈ L ∧ kp a = kp0 a := fun a h => ⟨by rw [← eL]; exact h, by rw [ekp]⟩
  obtain ⟨qfv0_2, hqfv0_2, hqfv0_2a, hqfv0_2b⟩ := tw_rd TH hm0 hk0 (by decide) (by decide) (k := 2) rfl
  have eqfv0_2 : qfv0_2 = fv0_2 := by have q := hqfv0_2.symm.trans hfv0_2; injection q
  rw [eqfv0_2] at hqfv0_2a hqfv0_2b
  obtain ⟨qfv0_3, hqfv0_3, hqfv0_3a, hqfv0_3b⟩ := tw_rd TH hm0 hk0 (by decide) (by decide) (k := 3) rfl
  have eqfv0_3 : qfv0_3 = fv0_3 := by have q := hqfv0_3.symm.trans hfv0_3; injection q
  rw [eqfv0_3] at hqfv0_3a hqfv0_3b
  obtain ⟨qfv0_1, hqfv0_1, hqfv0_1a, hqfv0_1b⟩ := tw_rd TH hm0 hk0 (by decide) (by decide) (k := 1) rfl
  have eqfv0_1 : qfv0_1 = fv0_1 := by have q := hqfv0_1.symm.trans hfv0_1; injection q
  rw [eqfv0_1] at hqfv0_1a hqfv0_1b
  refine lv_aload_n hx hb dX12_isReserved_0 rfl (lv_at hl 0 rfl) ?_
  refine tw_get (ci := 12) (C := RX12) (T := TX12) (N := 64) hx hb hB cx_inX12 hown hK TH hm0 hk0 rfl ⟨by decide, rfl⟩ 2 (by decide) cw_1195 (fun _ h9 => h9) dX12_isReserved_1 (fun hv => ?_)
  rw [hfv0_2]
  refine lv_aload_n hx hb dX12_isReserved_4 rfl (lv_at hl 0 rfl) ?_
  refine tw_get (ci := 12) (C := RX12) (T := TX12) (N := 64) hx hb hB cx_inX12 hown hK TH hm0 hk0 rfl ⟨by decide, rfl⟩ 1 (by decide) cw_1194 (fun _ h9 => h9) dX12_isReserved_5 (fun hv => ?_)
  rw [hfv0_1]
  refine lv_icmp_eq (tgt := 27) hx hb dX12_isReserved_8 (by decide) (fun hc1 => ?_) (fun hc1 => ?_)
  · have hf2 : fv0_2.toInt = fv0_1.toInt := by have z := (fa_eq _ _).mp hc1;  omega
    refine lv_iconst (v := 0) hx hb dX12_isReserved_27 (by decide) ?_
    exact tw_zret hx hb hr hlocks (by decide) TH hS hex ⟨⟨_, rfl, (show 0 ≤ Int32.toInt 0 from by have : ((0 : Int32).toInt) = 0 := (by decide); omega), (show Int32.toInt 0 ≤ 1 from by have : ((0 : Int32).toInt) = 0 := (by decide); omega), (by have : ((0 : Int32).toInt) = 0 := (by decide); refine ⟨fun q => absurd (show ((0 : Int32).toInt) = 0 from by decide) q, fun h => ?_⟩; exfalso; have h1 := h.1; have h2 := h.2.1; omega)⟩, rfl, rfl, rfl⟩ (Nat.le_of_ble_eq_true rfl) (Nat.le_of_ble_eq_true rfl) dX12_isReserved_28
  · have hf3 : ¬ (fv0_2.toInt = fv0_1.toInt) := fun q => hc1 ((fa_eq _ _).mpr (by  omega))
    refine lv_aload_n hx hb dX12_isReserved_11 rfl (lv_at hl 0 rfl) ?_
    refine tw_get (ci := 12) (C := RX12) (T := TX12) (N := 64) hx hb hB cx_inX12 hown hK TH hm0 hk0 rfl ⟨by decide, rfl⟩ 3 (by decide) cw_1196 (fun _ h9 => h9) dX12_isReserved_12 (fun hv => ?_)
    rw [hfv0_3]
    refine lv_aload_n hx hb dX12_isReserved_15 rfl (lv_at hl 0 rfl) ?_
    refine tw_get (ci := 12) (C := RX12) (T := TX12) (N := 64) hx hb hB cx_inX12 hown hK TH hm0 hk0 rfl ⟨by decide, rfl⟩ 2 (by decide) cw_1195 (fun _ h9 => h9) dX12_isReserved_16 (fun hv => ?_)
    rw [hfv0_2]
    refine lv_isub hx hb dX12_isReserved_19 ?_
    refine lv_topi (fun zi4 ezi4 => ?_)
    have hzi4 : zi4.toInt = fv0_3.toInt - fv0_2.toInt := by rw [ezi4];  have := ia_lo fv0_3; have := ia_hi fv0_3; have := ia_lo fv0_2; have := ia_hi fv0_2; exact (ia_sub (by omega) (by omega)).trans (by omega)
    refine lv_aload_n hx hb dX12_isReserved_20 rfl (lv_at hl 1 rfl) ?_
    refine tw_VSc (i := 0) (n := 0) (post := (fun v kq Lq Eq => v = some (.int 4) ∧ kp = kq ∧ L = Lq ∧ E = Eq)) (As := []) (rest := [.int zi4]) ⟨hx, hb, hml, hown, hB⟩ (fun sz => tj_length0 l D cs sz) gj_len12 rfl rfl (by decide +kernel) ⟨Nat.le_of_ble_eq_true rfl, Nat.le_of_ble_eq_true rfl⟩ hK hN TH hS hA (by decide) rfl hl.1 rfl (Nat.le_of_ble_eq_true rfl) dX12_isReserved_21 ⟨Nat.le_of_ble_eq_true rfl, Nat.le_of_ble_eq_true rfl⟩ (fun v5 kp5 L5 E5 H locs hq5 hx5 TH hS => ?_)
    obtain ⟨rfl, rfl, rfl, rfl⟩ := hq5
    refine W.eq (g2 := F0 m 24 ls [.int 4, .int zi4]) rfl ?_
    refine lv_icmp_eq (tgt := 29) hx hb dX12_isReserved_24 (by decide) (fun hc6 => ?_) (fun hc6 => ?_)
    · have hf7 : zi4.toInt = 4 := by have z := (fa_eq _ _).mp hc6; have : ((4 : Int32).toInt) = 4 := (by decide); omega
      refine lv_iconst (v := 0) hx hb dX12_isReserved_29 (by decide) ?_
      refine lv_istore_n (lv' := [(2, .int 0), (0, .ref a0), (1, .ref (D.2 100 0))]) hx hb dX12_isReserved_30 rfl hl (by decide) rfl (fun ls hl => ?_)
      have hJ31 : ∀ (n31 : Nat) (y31_2 : Int32) (H : Heap) (locs : List Loc) (ls : Array Slot), 0 ≤ y31_2.toInt → y31_2.toInt ≤ 5 → (lx_rk (tw_el E a0 0) (fv0_2.toInt) 0 (y31_2.toInt)) → 5 - y31_2.toInt ≤ (n31 : Int) → tw_H D cs kp L E A H → va_S A s.heap H locs → lv_has ls 3 [(2, .int y31_2), (0, .ref a0), (1, .ref (D.2 100 0))] → W p l e { frames := 4, cells := 0, slots := 0, locals := 85 } s m [.ref a0, .ref (D.2 100 0)].toArray below meth c H locs 0 0 (MQ below (tw_Q D cs kp0 L0 (fun v kq Lq Eq => (∃ x : Int32, v = some (.int x) ∧ 0 ≤ x.toInt ∧ x.toInt ≤ 1 ∧ (x.toInt ≠ 0 ↔ lx_rs (tw_el E a0 0) fv0_1.toInt fv0_2.toInt fv0_3.toInt 0)) ∧ kp = kq ∧ L = Lq ∧ E = Eq) A) [.ref a0, .ref (D.2 100 0)].toArray s 0 0 A) (F0 m 31 ls []) := by
        intro n31
        induction n31 using Nat.strongRecOn with
        | _ n31 ih31 =>
          intro y31_2 H locs ls hy31_2a hy31_2b hin31_0 hmeas31 TH hS hl
          refine lv_iload_n hx hb dX12_isReserved_31 rfl (lv_at hl 0 rfl) ?_
          refine lv_aload_n hx hb dX12_isReserved_32 rfl (lv_at hl 2 rfl) ?_
          refine tw_VSc (i := 0) (n := 0) (post := (fun v kq Lq Eq => v = some (.int 4) ∧ kp = kq ∧ L = Lq ∧ E = Eq)) (As := []) (rest := [.int y31_2]) ⟨hx, hb, hml, hown, hB⟩ (fun sz => tj_length0 l D cs sz) gj_len12 rfl rfl (by decide +kernel) ⟨Nat.le_of_ble_eq_true rfl, Nat.le_of_ble_eq_true rfl⟩ hK hN TH hS hA (by decide) rfl hl.1 rfl (Nat.le_of_ble_eq_true rfl) dX12_isReserved_33 ⟨Nat.le_of_ble_eq_true rfl, Nat.le_of_ble_eq_true rfl⟩ (fun v8 kp8 L8 E8 H locs hq8 hx8 TH hS => ?_)
          obtain ⟨rfl, rfl, rfl, rfl⟩ := hq8
          refine W.eq (g2 := F0 m 36 ls [.int 4, .int y31_2]) rfl ?_
          refine lv_icmp_ge (tgt := 66) hx hb dX12_isReserved_36 (by decide) (fun hc9 => ?_) (fun hc9 => ?_)
          · have hf10 : 4 ≤ y31_2.toInt := by have z := (fa_le _ _).mp hc9; have : ((4 : Int32).toInt) = 4 := (by decide); omega
            refine lv_iconst (v := 1) hx hb dX12_isReserved_66 (by decide) ?_
            exact tw_zret hx hb hr hlocks (by decide) TH hS hex ⟨⟨_, rfl, (show 0 ≤ Int32.toInt 1 from by have : ((1 : Int32).toInt) = 1 := (by decide); omega), (show Int32.toInt 1 ≤ 1 from by have : ((1 : Int32).toInt) = 1 := (by decide); omega), (by have : ((1 : Int32).toInt) = 1 := (by decide); refine ⟨fun _ => lx_rs_of0 (by omega) (by omega) hin31_0 (by omega), fun _ => by decide⟩)⟩, rfl, rfl, rfl⟩ (Nat.le_of_ble_eq_true rfl) (Nat.le_of_ble_eq_true rfl) dX12_isReserved_67
          · have hf11 : ¬ (4 ≤ y31_2.toInt) := fun q => hc9 ((fa_le _ _).mpr (by have : ((4 : Int32).toInt) = 4 := (by decide); omega))
            refine lv_aload_n hx hb dX12_isReserved_39 rfl (lv_at hl 1 rfl) ?_
            refine tw_get (ci := 12) (C := RX12) (T := TX12) (N := 64) hx hb hB cx_inX12 hown hK TH hm0 hk0 rfl ⟨by decide, rfl⟩ 0 (by decide) cw_1193 (fun _ h9 => h9) dX12_isReserved_40 (fun hv => ?_)
            obtain ⟨xr12, hxr12, hmxr12, hkxr12⟩ : ∃ a : Nat, tw_fv E a0 0 = .ref a ∧ a ∈ L ∧ kp a = 300 := hv
            rw [hxr12]
            refine lv_aload_n hx hb dX12_isReserved_43 rfl (lv_at hl 1 rfl) ?_
            refine tw_get (ci := 12) (C := RX12) (T := TX12) (N := 64) hx hb hB cx_inX12 hown hK TH hm0 hk0 rfl ⟨by decide, rfl⟩ 2 (by decide) cw_1195 (fun _ h9 => h9) dX12_isReserved_44 (fun hv => ?_)
            rw [hfv0_2]
            refine lv_iload_n hx hb dX12_isReserved_47 rfl (lv_at hl 0 rfl) ?_
            refine lv_iadd hx hb dX12_isReserved_48 ?_
            refine lv_topi (fun zi13 ezi13 => ?_)
            have hzi13 : zi13.toInt = fv0_2.toInt + y31_2.toInt := by rw [ezi13];  have := ia_lo fv0_2; have := ia_hi fv0_2; have := ia_lo y31_2; have := ia_hi y31_2; exact (ia_add (by omega) (by omega)).trans (by omega)
            refine tw_bald (k := 300) (t0 := 2) (n := 500) (lo := (-128)) (hi := 127) hx hb hK TH hmxr12 hkxr12 (by decide) rfl rfl (i := zi13) (vp_in_iff.mpr ⟨by  omega, by  omega⟩) dX12_isReserved_49 (fun hxe14a hxe14b => ?_)
            obtain ⟨xe14, exe14⟩ : ∃ z : Int32, tw_iv E xr12 (Int32.toNatClampNeg zi13) = z := ⟨_, rfl⟩
            rw [exe14] at hxe14a hxe14b ⊢
            have ht50 : tw_el E a0 0 (zi13.toInt).toNat = xe14.toInt := (by rw [tw_el_of hxr12]; exact congrArg Int32.toInt exe14)
            obtain ⟨zadd, ezadd⟩ : ∃ z : Int32, z = zi13 := ⟨_, rfl⟩
            rw [← ezadd] at ht50
            have hzadd : zadd.toInt = fv0_2.toInt + y31_2.toInt := (by rw [ezadd]; omega)
            refine lv_aload_n hx hb dX12_isReserved_50 rfl (lv_at hl 2 rfl) ?_
            refine lv_iload_n hx hb dX12_isReserved_51 rfl (lv_at hl 0 rfl) ?_
            refine tw_VSc (i := 0) (n := 1) (post := (fun v kq Lq Eq => v = some (.int (st_ch 0 (Int32.toNatClampNeg y31_2))) ∧ kp = kq ∧ L = Lq ∧ E = Eq)) (As := [.int y31_2]) (rest := [.int xe14]) ⟨hx, hb, hml, hown, hB⟩ (fun sz => tj_charAt0 l D cs y31_2 (by omega) (by omega) sz) gj_at12 rfl rfl (by decide +kernel) ⟨Nat.le_of_ble_eq_true rfl, Nat.le_of_ble_eq_true rfl⟩ hK hN TH hS hA (by decide) rfl hl.1 rfl (Nat.le_of_ble_eq_true rfl) dX12_isReserved_52 ⟨Nat.le_of_ble_eq_true rfl, Nat.le_of_ble_eq_true rfl⟩ (fun v15 kp15 L15 E15 H locs hq15 hx15 TH hS => ?_)
            obtain ⟨rfl, rfl, rfl, rfl⟩ := hq15
            obtain ⟨xk16, exk16⟩ : ∃ z : Int32, st_ch 0 (Int32.toNatClampNeg y31_2) = z := ⟨_, rfl⟩
            rw [exk16]
            refine W.eq (g2 := F0 m 55 ls [.int xk16, .int xe14]) rfl ?_
            obtain ⟨zch, ezc⟩ : ∃ z : Int32, z = xk16 := ⟨_, rfl⟩
            have ezch : st_ch 0 (y31_2.toInt).toNat = zch := (by rw [ezc]; exact exk16)
            have hzch : zch.toInt = xk16.toInt := (by rw [ezc])
            refine lv_icmp_eq (tgt := 60) hx hb dX12_isReserved_55 (by decide) (fun hc17 => ?_) (fun hc17 => ?_)
            · have hf18 : xe14.toInt = xk16.toInt := by have z := (fa_eq _ _).mp hc17;  omega
              obtain ⟨zi19, ezi19⟩ : ∃ z : Int32, z = y31_2 + Int32.ofInt 1 := ⟨_, rfl⟩
              have hzi19 : zi19.toInt = y31_2.toInt + 1 := by rw [ezi19]; have : ((Int32.ofInt 1).toInt) = 1 := (by decide);  exact (ia_add (by omega) (by omega)).trans (by omega)
              refine lv_iinc (v := zi19) (lv' := [(2, .int zi19), (0, .ref a0), (1, .ref (D.2 100 0))]) hx hb dX12_isReserved_60 hl (k := 0) rfl ezi19.symm (by decide) rfl (fun ls hl => ?_)
              refine lv_goto (tgt := 31) hx hb dX12_isReserved_63 (by decide) ?_
              exact ih31 (n31 - 1) (by   omega) zi19 _ _ ls (by omega) (by omega) (by  intro j hj; by_cases e : j = (y31_2.toInt).toNat; (subst e; rw [show (fv0_2.toInt + (((y31_2.toInt).toNat : Nat) : Int)).toNat = (zadd.toInt).toNat by omega, ht50, show st_ch 0 (y31_2.toInt).toNat = zch from ezch]; omega); exact hin31_0 j (by omega)) (by   omega) TH hS (lv_sub hl [0, 1, 2] rfl)
            · have hf20 : ¬ (xe14.toInt = xk16.toInt) := fun q => hc17 ((fa_eq _ _).mpr (by  omega))
              refine lv_iconst (v := 0) hx hb dX12_isReserved_58 (by decide) ?_
              exact tw_zret hx hb hr hlocks (by decide) TH hS hex ⟨⟨_, rfl, (show 0 ≤ Int32.toInt 0 from by have : ((0 : Int32).toInt) = 0 := (by decide); omega), (show Int32.toInt 0 ≤ 1 from by have : ((0 : Int32).toInt) = 0 := (by decide); omega), (by have : ((0 : Int32).toInt) = 0 := (by decide); refine ⟨fun q => absurd (show ((0 : Int32).toInt) = 0 from by decide) q, fun h => ?_⟩; exfalso; have h1 := lx_rk_of0 h (y31_2.toInt).toNat (by omega); rw [show (fv0_2.toInt + (((y31_2.toInt).toNat : Nat) : Int)).toNat = (zadd.toInt).toNat by omega, ht50, show st_ch 0 (y31_2.toInt).toNat = zch from ezch] at h1; omega)⟩, rfl, rfl, rfl⟩ (Nat.le_of_ble_eq_true rfl) (Nat.le_of_ble_eq_true rfl) dX12_isReserved_59
      exact hJ31 6 (0 : Int32) _ _ ls (by have : ((0 : Int32).toInt) = 0 := (by decide); omega) (by have : ((0 : Int32).toInt) = 0 := (by decide); omega) (by have : ((0 : Int32).toInt) = 0 := (by decide); intro j hj; exact absurd hj (by omega)) (by have : ((0 : Int32).toInt) = 0 := (by decide);  omega) TH hS (lv_sub hl [0, 1, 2] rfl)
    · have hf21 : ¬ (zi4.toInt = 4) := fun q => hc6 ((fa_eq _ _).mpr (by have : ((4 : Int32).toInt) = 4 := (by decide); omega))
      refine lv_iconst (v := 0) hx hb dX12_isReserved_27 (by decide) ?_
      exact tw_zret hx hb hr hlocks (by decide) TH hS hex ⟨⟨_, rfl, (show 0 ≤ Int32.toInt 0 from by have : ((0 : Int32).toInt) = 0 := (by decide); omega), (show Int32.toInt 0 ≤ 1 from by have : ((0 : Int32).toInt) = 0 := (by decide); omega), (by have : ((0 : Int32).toInt) = 0 := (by decide); refine ⟨fun q => absurd (show ((0 : Int32).toInt) = 0 from by decide) q, fun h => ?_⟩; exfalso; have h1 := h.1; have h2 := h.2.1; omega)⟩, rfl, rfl, rfl⟩ (Nat.le_of_ble_eq_true rfl) (Nat.le_of_ble_eq_true rfl) dX12_isReserved_28
set_option maxHeartbeats 4000000 in
set_option maxRecDepth 100000 in
theorem tX12_isReserved_vL1 (l : Launch) (D : va_G) (cs : Nat → ClassId) {kp : Nat → Nat} {L : List Nat} {E : Nat → va_E} (a0 : Nat) (fv0_2 : Int32) (fv0_3 : Int32) (fv0_1 : Int32) (hm0 : a0 ∈ L) (hk0 : kp a0 = 12) (hfv0_2 : tw_fv E a0 2 = .int fv0_2) (hfv0_3 : tw_fv E a0 3 = .int fv0_3) (hfv0_1 : tw_fv E a0 1 = .int fv0_1) (hpre0 : fv0_2.toInt ≤ fv0_3.toInt) (hpre1 : fv0_3.toInt ≤ fv0_1.toInt) (sz : Nat) : Met l yX12_isReserved (.code yX12_isReserved cX12_isReserved 3 (some .boolean) :: cx_big) { frames := 4, cells := 0, slots := 0, locals := 85 } (tw_P D cs kp L E [.ref a0, .ref (D.2 100 1)] sz) (tw_Q D cs kp L (fun v kq Lq Eq => (∃ x : Int32, v = some (.int x) ∧ 0 ≤ x.toInt ∧ x.toInt ≤ 1 ∧ (x.toInt ≠ 0 ↔ lx_rs (tw_el E a0 0) fv0_1.toInt fv0_2.toInt fv0_3.toInt 1)) ∧ kp = kq ∧ L = Lq ∧ E = Eq) (va_A (va_pl L E) sz)) 0 0 (va_A (va_pl L E) sz) := by
  refine tw_ofW (by decide) (Nat.le_of_ble_eq_true rfl) ?_
  intro p e s m below meth c A ls hx hb hr hml hB hown hlocks hK hN hA TH hS hl
  have hown : s.vm.findClass "TreeMergeModel" = some m.cls := hown
  have hl : lv_has ls 3 [(0, .ref a0), (1, .ref (D.2 100 1))] := hl
  obtain ⟨kp0, ekp⟩ : ∃ z, z = kp := ⟨_, rfl⟩
  obtain ⟨L0, eL⟩ : ∃ z, z = L := ⟨_, rfl⟩
  rw [show tw_Q D cs kp L = tw_Q D cs kp0 L0 by rw [ekp, eL]]
  have hex : ∀ a : Nat, a ∈ L0 → a ∈ L ∧ kp a = kp0 a := fun a h => ⟨by rw [← eL]; exact h, by rw [ekp]⟩
  obtain ⟨qfv0_2, hqfv0_2, hqfv0_2a, hqfv0_2b⟩ := tw_rd TH hm0 hk0 (by decide) (by decide) (k := 2) rfl
  have eqfv0_2 : qfv0_2 = fv0_2 := by have q := hqfv0_2.symm.trans hfv0_2; injection q
  rw [eqfv0_2] at hqfv0_2a hqfv0_2b
  obtain ⟨qfv0_3, hqfv0_3, hqfv0_3a, hqfv0_3b⟩ := tw_rd TH hm0 hk0 (by decide) (by decide) (k := 3) rfl
  have eqfv0_3 : qfv0_3 = fv0_3 := by have q := hqfv0_3.symm.trans hfv0_3; injection q
  rw [eqfv0_3] at hqfv0_3a hqfv0_3b
  obtain ⟨qfv0_1, hqfv0_1, hqfv0_1a, hqfv0_1b⟩ := tw_rd TH hm0 hk0 (by decide) (by decide) (k := 1) rfl
  have eqfv0_1 : qfv0_1 = fv0_1 := by have q := hqfv0_1.symm.trans hfv0_1; injection q
  rw [eqfv0_1] at hqfv0_1a hqfv0_1b
  refine lv_aload_n hx hb dX12_isReserved_0 rfl (lv_at hl 0 rfl) ?_
  refine tw_get (ci := 12) (C := RX12) (T := TX12) (N := 64) hx hb hB cx_inX12 hown hK TH hm0 hk0 rfl ⟨by decide, rfl⟩ 2 (by decide) cw_1195 (fun _ h9 => h9) dX12_isReserved_1 (fun hv => ?_)
  rw [hfv0_2]
  refine lv_aload_n hx hb dX12_isReserved_4 rfl (lv_at hl 0 rfl) ?_
  refine tw_get (ci := 12) (C := RX12) (T := TX12) (N := 64) hx hb hB cx_inX12 hown hK TH hm0 hk0 rfl ⟨by decide, rfl⟩ 1 (by decide) cw_1194 (fun _ h9 => h9) dX12_isReserved_5 (fun hv => ?_)
  rw [hfv0_1]
  refine lv_icmp_eq (tgt := 27) hx hb dX12_isReserved_8 (by decide) (fun hc1 => ?_) (fun hc1 => ?_)
  · have hf2 : fv0_2.toInt = fv0_1.toInt := by have z := (fa_eq _ _).mp hc1;  omega
    refine lv_iconst (v := 0) hx hb dX12_isReserved_27 (by decide) ?_
    exact tw_zret hx hb hr hlocks (by decide) TH hS hex ⟨⟨_, rfl, (show 0 ≤ Int32.toInt 0 from by have : ((0 : Int32).toInt) = 0 := (by decide); omega), (show Int32.toInt 0 ≤ 1 from by have : ((0 : Int32).toInt) = 0 := (by decide); omega), (by have : ((0 : Int32).toInt) = 0 := (by decide); refine ⟨fun q => absurd (show ((0 : Int32).toInt) = 0 from by decide) q, fun h => ?_⟩; exfalso; have h1 := h.1; have h2 := h.2.1; omega)⟩, rfl, rfl, rfl⟩ (Nat.le_of_ble_eq_true rfl) (Nat.le_of_ble_eq_true rfl) dX12_isReserved_28
  · have hf3 : ¬ (fv0_2.toInt = fv0_1.toInt) := fun q => hc1 ((fa_eq _ _).mpr (by  omega))
    refine lv_aload_n hx hb dX12_isReserved_11 rfl (lv_at hl 0 rfl) ?_
    refine tw_get (ci := 12) (C := RX12) (T := TX12) (N := 64) hx hb hB cx_inX12 hown hK TH hm0 hk0 rfl ⟨by decide, rfl⟩ 3 (by decide) cw_1196 (fun _ h9 => h9) dX12_isReserved_12 (fun hv => ?_)
    rw [hfv0_3]
    refine lv_aload_n hx hb dX12_isReserved_15 rfl (lv_at hl 0 rfl) ?_
    refine tw_get (ci := 12) (C := RX12) (T := TX12) (N := 64) hx hb hB cx_inX12 hown hK TH hm0 hk0 rfl ⟨by decide, rfl⟩ 2 (by decide) cw_1195 (fun _ h9 => h9) dX12_isReserved_16 (fun hv => ?_)
    rw [hfv0_2]
    refine lv_isub hx hb dX12_isReserved_19 ?_
    refine lv_topi (fun zi4 ezi4 => ?_)
    have hzi4 : zi4.toInt = fv0_3.toInt - fv0_2.toInt := by rw [ezi4];  have := ia_lo fv0_3; have := ia_hi fv0_3; have := ia_lo fv0_2; have := ia_hi fv0_2; exact (ia_sub (by omega) (by omega)).trans (by omega)
    refine lv_aload_n hx hb dX12_isReserved_20 rfl (lv_at hl 1 rfl) ?_
    refine tw_VSc (i := 1) (n := 0) (post := (fun v kq Lq Eq => v = some (.int 3) ∧ kp = kq ∧ L = Lq ∧ E = Eq)) (As := []) (rest := [.int zi4]) ⟨hx, hb, hml, hown, hB⟩ (fun sz => tj_length1 l D cs sz) gj_len12 rfl rfl (by decide +kernel) ⟨Nat.le_of_ble_eq_true rfl, Nat.le_of_ble_eq_true rfl⟩ hK hN TH hS hA (by decide) rfl hl.1 rfl (Nat.le_of_ble_eq_true rfl) dX12_isReserved_21 ⟨Nat.le_of_ble_eq_true rfl, Nat.le_of_ble_eq_true rfl⟩ (fun v5 kp5 L5 E5 H locs hq5 hx5 TH hS => ?_)
    obtain ⟨rfl, rfl, rfl, rfl⟩ := hq5
    refine W.eq (g2 := F0 m 24 ls [.int 3, .int zi4]) rfl ?_
    refine lv_icmp_eq (tgt := 29) hx hb dX12_isReserved_24 (by decide) (fun hc6 => ?_) (fun hc6 => ?_)
    · have hf7 : zi4.toInt = 3 := by have z := (fa_eq _ _).mp hc6; have : ((3 : Int32).toInt) = 3 := (by decide); omega
      refine lv_iconst (v := 0) hx hb dX12_isReserved_29 (by decide) ?_
      refine lv_istore_n (lv' := [(2, .int 0), (0, .ref a0), (1, .ref (D.2 100 1))]) hx hb dX12_isReserved_30 rfl hl (by decide) rfl (fun ls hl => ?_)
      have hJ31 : ∀ (n31 : Nat) (y31_2 : Int32) (H : Heap) (locs : List Loc) (ls : Array Slot), 0 ≤ y31_2.toInt → y31_2.toInt ≤ 3 → (lx_rk (tw_el E a0 0) (fv0_2.toInt) 1 (y31_2.toInt)) → 3 - y31_2.toInt ≤ (n31 : Int) → tw_H D cs kp L E A H → va_S A s.heap H locs → lv_has ls 3 [(2, .int y31_2), (0, .ref a0), (1, .ref (D.2 100 1))] → W p l e { frames := 4, cells := 0, slots := 0, locals := 85 } s m [.ref a0, .ref (D.2 100 1)].toArray below meth c H locs 0 0 (MQ below (tw_Q D cs kp0 L0 (fun v kq Lq Eq => (∃ x : Int32, v = some (.int x) ∧ 0 ≤ x.toInt ∧ x.toInt ≤ 1 ∧ (x.toInt ≠ 0 ↔ lx_rs (tw_el E a0 0) fv0_1.toInt fv0_2.toInt fv0_3.toInt 1)) ∧ kp = kq ∧ L = Lq ∧ E = Eq) A) [.ref a0, .ref (D.2 100 1)].toArray s 0 0 A) (F0 m 31 ls []) := by
        intro n31
        induction n31 using Nat.strongRecOn with
        | _ n31 ih31 =>
          intro y31_2 H locs ls hy31_2a hy31_2b hin31_0 hmeas31 TH hS hl
          refine lv_iload_n hx hb dX12_isReserved_31 rfl (lv_at hl 0 rfl) ?_
          refine lv_aload_n hx hb dX12_isReserved_32 rfl (lv_at hl 2 rfl) ?_
          refine tw_VSc (i := 1) (n := 0) (post := (fun v kq Lq Eq => v = some (.int 3) ∧ kp = kq ∧ L = Lq ∧ E = Eq)) (As := []) (rest := [.int y31_2]) ⟨hx, hb, hml, hown, hB⟩ (fun sz => tj_length1 l D cs sz) gj_len12 rfl rfl (by decide +kernel) ⟨Nat.le_of_ble_eq_true rfl, Nat.le_of_ble_eq_true rfl⟩ hK hN TH hS hA (by decide) rfl hl.1 rfl (Nat.le_of_ble_eq_true rfl) dX12_isReserved_33 ⟨Nat.le_of_ble_eq_true rfl, Nat.le_of_ble_eq_true rfl⟩ (fun v8 kp8 L8 E8 H locs hq8 hx8 TH hS => ?_)
          obtain ⟨rfl, rfl, rfl, rfl⟩ := hq8
          refine W.eq (g2 := F0 m 36 ls [.int 3, .int y31_2]) rfl ?_
          refine lv_icmp_ge (tgt := 66) hx hb dX12_isReserved_36 (by decide) (fun hc9 => ?_) (fun hc9 => ?_)
          · have hf10 : 3 ≤ y31_2.toInt := by have z := (fa_le _ _).mp hc9; have : ((3 : Int32).toInt) = 3 := (by decide); omega
            refine lv_iconst (v := 1) hx hb dX12_isReserved_66 (by decide) ?_
            exact tw_zret hx hb hr hlocks (by decide) TH hS hex ⟨⟨_, rfl, (show 0 ≤ Int32.toInt 1 from by have : ((1 : Int32).toInt) = 1 := (by decide); omega), (show Int32.toInt 1 ≤ 1 from by have : ((1 : Int32).toInt) = 1 := (by decide); omega), (by have : ((1 : Int32).toInt) = 1 := (by decide); refine ⟨fun _ => lx_rs_of1 (by omega) (by omega) hin31_0 (by omega), fun _ => by decide⟩)⟩, rfl, rfl, rfl⟩ (Nat.le_of_ble_eq_true rfl) (Nat.le_of_ble_eq_true rfl) dX12_isReserved_67
          · have hf11 : ¬ (3 ≤ y31_2.toInt) := fun q => hc9 ((fa_le _ _).mpr (by have : ((3 : Int32).toInt) = 3 := (by decide); omega))
            refine lv_aload_n hx hb dX12_isReserved_39 rfl (lv_at hl 1 rfl) ?_
            refine tw_get (ci := 12) (C := RX12) (T := TX12) (N := 64) hx hb hB cx_inX12 hown hK TH hm0 hk0 rfl ⟨by decide, rfl⟩ 0 (by decide) cw_1193 (fun _ h9 => h9) dX12_isReserved_40 (fun hv => ?_)
            obtain ⟨xr12, hxr12, hmxr12, hkxr12⟩ : ∃ a : Nat, tw_fv E a0 0 = .ref a ∧ a ∈ L ∧ kp a = 300 := hv
            rw [hxr12]
            refine lv_aload_n hx hb dX12_isReserved_43 rfl (lv_at hl 1 rfl) ?_
            refine tw_get (ci := 12) (C := RX12) (T := TX12) (N := 64) hx hb hB cx_inX12 hown hK TH hm0 hk0 rfl ⟨by decide, rfl⟩ 2 (by decide) cw_1195 (fun _ h9 => h9) dX12_isReserved_44 (fun hv => ?_)
            rw [hfv0_2]
            refine lv_iload_n hx hb dX12_isReserved_47 rfl (lv_at hl 0 rfl) ?_
            refine lv_iadd hx hb dX12_isReserved_48 ?_
            refine lv_topi (fun zi13 ezi13 => ?_)
            have hzi13 : zi13.toInt = fv0_2.toInt + y31_2.toInt := by rw [ezi13];  have := ia_lo fv0_2; have := ia_hi fv0_2; have := ia_lo y31_2; have := ia_hi y31_2; exact (ia_add (by omega) (by omega)).trans (by omega)
            refine tw_bald (k := 300) (t0 := 2) (n := 500) (lo := (-128)) (hi := 127) hx hb hK TH hmxr12 hkxr12 (by decide) rfl rfl (i := zi13) (vp_in_iff.mpr ⟨by  omega, by  omega⟩) dX12_isReserved_49 (fun hxe14a hxe14b => ?_)
            obtain ⟨xe14, exe14⟩ : ∃ z : Int32, tw_iv E xr12 (Int32.toNatClampNeg zi13) = z := ⟨_, rfl⟩
            rw [exe14] at hxe14a hxe14b ⊢
            have ht50 : tw_el E a0 0 (zi13.toInt).toNat = xe14.toInt := (by rw [tw_el_of hxr12]; exact congrArg Int32.toInt exe14)
            obtain ⟨zadd, ezadd⟩ : ∃ z : Int32, z = zi13 := ⟨_, rfl⟩
            rw [← ezadd] at ht50
            have hzadd : zadd.toInt = fv0_2.toInt + y31_2.toInt := (by rw [ezadd]; omega)
            refine lv_aload_n hx hb dX12_isReserved_50 rfl (lv_at hl 2 rfl) ?_
            refine lv_iload_n hx hb dX12_isReserved_51 rfl (lv_at hl 0 rfl) ?_
            refine tw_VSc (i := 1) (n := 1) (post := (fun v kq Lq Eq => v = some (.int (st_ch 1 (Int32.toNatClampNeg y31_2))) ∧ kp = kq ∧ L = Lq ∧ E = Eq)) (As := [.int y31_2]) (rest := [.int xe14]) ⟨hx, hb, hml, hown, hB⟩ (fun sz => tj_charAt1 l D cs y31_2 (by omega) (by omega) sz) gj_at12 rfl rfl (by decide +kernel) ⟨Nat.le_of_ble_eq_true rfl, Nat.le_of_ble_eq_true rfl⟩ hK hN TH hS hA (by decide) rfl hl.1 rfl (Nat.le_of_ble_eq_true rfl) dX12_isReserved_52 ⟨Nat.le_of_ble_eq_true rfl, Nat.le_of_ble_eq_true rfl⟩ (fun v15 kp15 L15 E15 H locs hq15 hx15 TH hS => ?_)
            obtain ⟨rfl, rfl, rfl, rfl⟩ := hq15
            obtain ⟨xk16, exk16⟩ : ∃ z : Int32, st_ch 1 (Int32.toNatClampNeg y31_2) = z := ⟨_, rfl⟩
            rw [exk16]
            refine W.eq (g2 := F0 m 55 ls [.int xk16, .int xe14]) rfl ?_
            obtain ⟨zch, ezc⟩ : ∃ z : Int32, z = xk16 := ⟨_, rfl⟩
            have ezch : st_ch 1 (y31_2.toInt).toNat = zch := (by rw [ezc]; exact exk16)
            have hzch : zch.toInt = xk16.toInt := (by rw [ezc])
            refine lv_icmp_eq (tgt := 60) hx hb dX12_isReserved_55 (by decide) (fun hc17 => ?_) (fun hc17 => ?_)
            · have hf18 : xe14.toInt = xk16.toInt := by have z := (fa_eq _ _).mp hc17;  omega
              obtain ⟨zi19, ezi19⟩ : ∃ z : Int32, z = y31_2 + Int32.ofInt 1 := ⟨_, rfl⟩
              have hzi19 : zi19.toInt = y31_2.toInt + 1 := by rw [ezi19]; have : ((Int32.ofInt 1).toInt) = 1 := (by decide);  exact (ia_add (by omega) (by omega)).trans (by omega)
              refine lv_iinc (v := zi19) (lv' := [(2, .int zi19), (0, .ref a0), (1, .ref (D.2 100 1))]) hx hb dX12_isReserved_60 hl (k := 0) rfl ezi19.symm (by decide) rfl (fun ls hl => ?_)
              refine lv_goto (tgt := 31) hx hb dX12_isReserved_63 (by decide) ?_
              exact ih31 (n31 - 1) (by   omega) zi19 _ _ ls (by omega) (by omega) (by  intro j hj; by_cases e : j = (y31_2.toInt).toNat; (subst e; rw [show (fv0_2.toInt + (((y31_2.toInt).toNat : Nat) : Int)).toNat = (zadd.toInt).toNat by omega, ht50, show st_ch 1 (y31_2.toInt).toNat = zch from ezch]; omega); exact hin31_0 j (by omega)) (by   omega) TH hS (lv_sub hl [0, 1, 2] rfl)
            · have hf20 : ¬ (xe14.toInt = xk16.toInt) := fun q => hc17 ((fa_eq _ _).mpr (by  omega))
              refine lv_iconst (v := 0) hx hb dX12_isReserved_58 (by decide) ?_
              exact tw_zret hx hb hr hlocks (by decide) TH hS hex ⟨⟨_, rfl, (show 0 ≤ Int32.toInt 0 from by have : ((0 : Int32).toInt) = 0 := (by decide); omega), (show Int32.toInt 0 ≤ 1 from by have : ((0 : Int32).toInt) = 0 := (by decide); omega), (by have : ((0 : Int32).toInt) = 0 := (by decide); refine ⟨fun q => absurd (show ((0 : Int32).toInt) = 0 from by decide) q, fun h => ?_⟩; exfalso; have h1 := lx_rk_of1 h (y31_2.toInt).toNat (by omega); rw [show (fv0_2.toInt + (((y31_2.toInt).toNat : Nat) : Int)).toNat = (zadd.toInt).toNat by omega, ht50, show st_ch 1 (y31_2.toInt).toNat = zch from ezch] at h1; omega)⟩, rfl, rfl, rfl⟩ (Nat.le_of_ble_eq_true rfl) (Nat.le_of_ble_eq_true rfl) dX12_isReserved_59
      exact hJ31 4 (0 : Int32) _ _ ls (by have : ((0 : Int32).toInt) = 0 := (by decide); omega) (by have : ((0 : Int32).toInt) = 0 := (by decide); omega) (by have : ((0 : Int32).toInt) = 0 := (by decide); intro j hj; exact absurd hj (by omega)) (by have : ((0 : Int32).toInt) = 0 := (by decide);  omega) TH hS (lv_sub hl [0, 1, 2] rfl)
    · have hf21 : ¬ (zi4.toInt = 3) := fun q => hc6 ((fa_eq _ _).mpr (by have : ((3 : Int32).toInt) = 3 := (by decide); omega))
      refine lv_iconst (v := 0) hx hb dX12_isReserved_27 (by decide) ?_
      exact tw_zret hx hb hr hlocks (by decide) TH hS hex ⟨⟨_, rfl, (show 0 ≤ Int32.toInt 0 from by have : ((0 : Int32).toInt) = 0 := (by decide); omega), (show Int32.toInt 0 ≤ 1 from by have : ((0 : Int32).toInt) = 0 := (by decide); omega), (by have : ((0 : Int32).toInt) = 0 := (by decide); refine ⟨fun q => absurd (show ((0 : Int32).toInt) = 0 from by decide) q, fun h => ?_⟩; exfalso; have h1 := h.1; have h2 := h.2.1; omega)⟩, rfl, rfl, rfl⟩ (Nat.le_of_ble_eq_true rfl) (Nat.le_of_ble_eq_true rfl) dX12_isReserved_28
set_option maxHeartbeats 4000000 in
set_option maxRecDepth 100000 in
theorem tX12_isName_vL (l : Launch) (D : va_G) (cs : Nat → ClassId) {kp : Nat → Nat} {L : List Nat} {E : Nat → va_E} (a0 : Nat) (fv0_2 : Int32) (fv0_3 : Int32) (fv0_1 : Int32) (hm0 : a0 ∈ L) (hk0 : kp a0 = 12) (hfv0_2 : tw_fv E a0 2 = .int fv0_2) (hfv0_3 : tw_fv E a0 3 = .int fv0_3) (hfv0_1 : tw_fv E a0 1 = .int fv0_1) (hpre0 : fv0_2.toInt ≤ fv0_3.toInt) (hpre1 : fv0_3.toInt ≤ fv0_1.toInt) (sz : Nat) : Met l yX12_isName (.code yX12_isName cX12_isName 1 (some .boolean) :: cx_big) { frames := 5, cells := 0, slots := 0, locals := 107 } (tw_P D cs kp L E [.ref a0] sz) (tw_Q D cs kp L (fun v kq Lq Eq => (∃ x : Int32, v = some (.int x) ∧ 0 ≤ x.toInt ∧ x.toInt ≤ 1 ∧ (x.toInt ≠ 0 ↔ lx_nm (tw_el E a0 0) fv0_1.toInt fv0_2.toInt fv0_3.toInt)) ∧ kp = kq ∧ L = Lq ∧ E = Eq) (va_A (va_pl L E) sz)) 0 0 (va_A (va_pl L E) sz) := by
  refine tw_ofW (by decide) (Nat.le_of_ble_eq_true rfl) ?_
  intro p e s m below meth c A ls hx hb hr hml hB hown hlocks hK hN hA TH hS hl
  have hown : s.vm.findClass "TreeMergeModel" = some m.cls := hown
  have hl : lv_has ls 1 [(0, .ref a0)] := hl
  obtain ⟨kp0, ekp⟩ : ∃ z, z = kp := ⟨_, rfl⟩
  obtain ⟨L0, eL⟩ : ∃ z, z = L := ⟨_, rfl⟩
  rw [show tw_Q D cs kp L = tw_Q D cs kp0 L0 by rw [ekp, eL]]
  have hex : ∀ a : Nat, a ∈ L0 → a ∈ L ∧ kp a = kp0 a := fun a h => ⟨by rw [← eL]; exact h, by rw [ekp]⟩
  obtain ⟨qfv0_2, hqfv0_2, hqfv0_2a, hqfv0_2b⟩ := tw_rd TH hm0 hk0 (by decide) (by decide) (k := 2) rfl
  have eqfv0_2 : qfv0_2 = fv0_2 := by have q := hqfv0_2.symm.trans hfv0_2; injection q
  rw [eqfv0_2] at hqfv0_2a hqfv0_2b
  obtain ⟨qfv0_3, hqfv0_3, hqfv0_3a, hqfv0_3b⟩ := tw_rd TH hm0 hk0 (by decide) (by decide) (k := 3) rfl
  have eqfv0_3 : qfv0_3 = fv0_3 := by have q := hqfv0_3.symm.trans hfv0_3; injection q
  rw [eqfv0_3] at hqfv0_3a hqfv0_3b
  obtain ⟨qfv0_1, hqfv0_1, hqfv0_1a, hqfv0_1b⟩ := tw_rd TH hm0 hk0 (by decide) (by decide) (k := 1) rfl
  have eqfv0_1 : qfv0_1 = fv0_1 := by have q := hqfv0_1.symm.trans hfv0_1; injection q
  rw [eqfv0_1] at hqfv0_1a hqfv0_1b
  refine lv_aload_n hx hb dX12_isName_0 rfl (lv_at hl 0 rfl) ?_
  refine tw_get (ci := 12) (C := RX12) (T := TX12) (N := 64) hx hb hB cx_inX12 hown hK TH hm0 hk0 rfl ⟨by decide, rfl⟩ 2 (by decide) cw_1195 (fun _ h9 => h9) dX12_isName_1 (fun hv => ?_)
  rw [hfv0_2]
  refine lv_aload_n hx hb dX12_isName_4 rfl (lv_at hl 0 rfl) ?_
  refine tw_get (ci := 12) (C := RX12) (T := TX12) (N := 64) hx hb hB cx_inX12 hown hK TH hm0 hk0 rfl ⟨by decide, rfl⟩ 1 (by decide) cw_1194 (fun _ h9 => h9) dX12_isName_5 (fun hv => ?_)
  rw [hfv0_1]
  refine lv_icmp_ge (tgt := 48) hx hb dX12_isName_8 (by decide) (fun hc1 => ?_) (fun hc1 => ?_)
  · have hf2 : fv0_1.toInt ≤ fv0_2.toInt := by have z := (fa_le _ _).mp hc1;  omega
    refine lv_iconst (v := 0) hx hb dX12_isName_48 (by decide) ?_
    exact tw_zret hx hb hr hlocks (by decide) TH hS hex ⟨⟨_, rfl, (show 0 ≤ Int32.toInt 0 from by have : ((0 : Int32).toInt) = 0 := (by decide); omega), (show Int32.toInt 0 ≤ 1 from by have : ((0 : Int32).toInt) = 0 := (by decide); omega), (by have : ((0 : Int32).toInt) = 0 := (by decide); refine ⟨fun q => absurd (show ((0 : Int32).toInt) = 0 from by decide) q, fun h => ?_⟩; exfalso; have h1 := h.1; have h2 := h.2.1; have h3 := h.2.2.1; have h4 := h.2.2.2; unfold lx_le at h2; (try rw [ht20] at h2); omega)⟩, rfl, rfl, rfl⟩ (Nat.le_of_ble_eq_true rfl) (Nat.le_of_ble_eq_true rfl) dX12_isName_49
  · have hf3 : ¬ (fv0_1.toInt ≤ fv0_2.toInt) := fun q => hc1 ((fa_le _ _).mpr (by  omega))
    refine lv_aload_n hx hb dX12_isName_11 rfl (lv_at hl 0 rfl) ?_
    refine tw_get (ci := 12) (C := RX12) (T := TX12) (N := 64) hx hb hB cx_inX12 hown hK TH hm0 hk0 rfl ⟨by decide, rfl⟩ 0 (by decide) cw_1193 (fun _ h9 => h9) dX12_isName_12 (fun hv => ?_)
    obtain ⟨xr4, hxr4, hmxr4, hkxr4⟩ : ∃ a : Nat, tw_fv E a0 0 = .ref a ∧ a ∈ L ∧ kp a = 300 := hv
    rw [hxr4]
    refine lv_aload_n hx hb dX12_isName_15 rfl (lv_at hl 0 rfl) ?_
    refine tw_get (ci := 12) (C := RX12) (T := TX12) (N := 64) hx hb hB cx_inX12 hown hK TH hm0 hk0 rfl ⟨by decide, rfl⟩ 2 (by decide) cw_1195 (fun _ h9 => h9) dX12_isName_16 (fun hv => ?_)
    rw [hfv0_2]
    refine tw_bald (k := 300) (t0 := 2) (n := 500) (lo := (-128)) (hi := 127) hx hb hK TH hmxr4 hkxr4 (by decide) rfl rfl (i := fv0_2) (vp_in_iff.mpr ⟨by  omega, by  omega⟩) dX12_isName_19 (fun hxe5a hxe5b => ?_)
    obtain ⟨xe5, exe5⟩ : ∃ z : Int32, tw_iv E xr4 (Int32.toNatClampNeg fv0_2) = z := ⟨_, rfl⟩
    rw [exe5] at hxe5a hxe5b ⊢
    have ht20 : tw_el E a0 0 (fv0_2.toInt).toNat = xe5.toInt := (by rw [tw_el_of hxr4]; exact congrArg Int32.toInt exe5)
    refine tw_Sc (n := 1) (post := (fun v kq Lq Eq => (∃ x : Int32, v = some (.int x) ∧ 0 ≤ x.toInt ∧ x.toInt ≤ 1 ∧ (x.toInt ≠ 0 ↔ (97 ≤ xe5.toInt ∧ xe5.toInt ≤ 122))) ∧ kp = kq ∧ L = Lq ∧ E = Eq)) (As := [.int xe5]) (rest := []) ⟨hx, hb, hml, hown, hB⟩ (fun sz => tX12_isLetter_vL l D cs xe5  sz) cg_12_175_X12_isLetter rfl rfl (by decide +kernel) ⟨Nat.le_of_ble_eq_true rfl, Nat.le_of_ble_eq_true rfl⟩ hK hN TH hS hA rfl hl.1 rfl (Nat.le_of_ble_eq_true rfl) dX12_isName_20 ⟨Nat.le_of_ble_eq_true rfl, Nat.le_of_ble_eq_true rfl⟩ (fun v6 kp6 L6 E6 H locs hq6 hx6 TH hS => ?_)
    obtain ⟨⟨xc7, rfl, hxc7a, hxc7b, hpoxc7_0⟩, rfl, rfl, rfl⟩ := hq6
    refine W.eq (g2 := F0 m 23 ls [.int xc7]) rfl ?_
    refine lv_if_eq (tgt := 48) hx hb dX12_isName_23 (by decide) (fun hc8 => ?_) (fun hc8 => ?_)
    · have hf9 : xc7.toInt = 0 := by have z := (fa_eq _ _).mp hc8; have : ((0 : Int32).toInt) = 0 := (by decide); omega
      refine lv_iconst (v := 0) hx hb dX12_isName_48 (by decide) ?_
      exact tw_zret hx hb hr hlocks (by decide) TH hS hex ⟨⟨_, rfl, (show 0 ≤ Int32.toInt 0 from by have : ((0 : Int32).toInt) = 0 := (by decide); omega), (show Int32.toInt 0 ≤ 1 from by have : ((0 : Int32).toInt) = 0 := (by decide); omega), (by have : ((0 : Int32).toInt) = 0 := (by decide); refine ⟨fun q => absurd (show ((0 : Int32).toInt) = 0 from by decide) q, fun h => ?_⟩; exfalso; have h1 := h.1; have h2 := h.2.1; have h3 := h.2.2.1; have h4 := h.2.2.2; unfold lx_le at h2; (try rw [ht20] at h2); omega)⟩, rfl, rfl, rfl⟩ (Nat.le_of_ble_eq_true rfl) (Nat.le_of_ble_eq_true rfl) dX12_isName_49
    · have hf10 : ¬ (xc7.toInt = 0) := fun q => hc8 ((fa_eq _ _).mpr (by have : ((0 : Int32).toInt) = 0 := (by decide); omega))
      refine lv_aload_n hx hb dX12_isName_26 rfl (lv_at hl 0 rfl) ?_
      refine va_ldcS (q := D.2 100 0) hx hb hown hN.2.2.2.2.2.2.1 dX12_isName_27 ?_
      refine tw_Vc (o := a0) (ci := 12) (n := 1) (post := (fun v kq Lq Eq => (∃ x : Int32, v = some (.int x) ∧ 0 ≤ x.toInt ∧ x.toInt ≤ 1 ∧ (x.toInt ≠ 0 ↔ lx_rs (tw_el E a0 0) fv0_1.toInt fv0_2.toInt fv0_3.toInt 0)) ∧ kp = kq ∧ L = Lq ∧ E = Eq)) (As := [.ref (D.2 100 0)]) (rest := []) ⟨hx, hb, hml, hown, hB⟩ (fun sz => tX12_isReserved_vL0 l D cs a0 fv0_2 fv0_3 fv0_1 hm0 hk0 hfv0_2 hfv0_3 hfv0_1 (by  omega) (by  omega) sz) cg_12_215_X12_isReserved rfl rfl (by decide +kernel) ⟨Nat.le_of_ble_eq_true rfl, Nat.le_of_ble_eq_true rfl⟩ hK hN TH hS hA rfl hm0 hk0 (by decide) rfl hl.1 rfl (Nat.le_of_ble_eq_true rfl) dX12_isName_29 ⟨Nat.le_of_ble_eq_true rfl, Nat.le_of_ble_eq_true rfl⟩ (fun v11 kp11 L11 E11 H locs hq11 hx11 TH hS => ?_)
      obtain ⟨⟨xc12, rfl, hxc12a, hxc12b, hpoxc12_0⟩, rfl, rfl, rfl⟩ := hq11
      refine W.eq (g2 := F0 m 32 ls [.int xc12]) rfl ?_
      refine lv_if_ne (tgt := 48) hx hb dX12_isName_32 (by decide) (fun hc13 => ?_) (fun hc13 => ?_)
      · have hf14 : ¬ (xc12.toInt = 0) := fun q => hc13 ((fa_eq _ _).mpr (by have : ((0 : Int32).toInt) = 0 := (by decide); omega))
        refine lv_iconst (v := 0) hx hb dX12_isName_48 (by decide) ?_
        exact tw_zret hx hb hr hlocks (by decide) TH hS hex ⟨⟨_, rfl, (show 0 ≤ Int32.toInt 0 from by have : ((0 : Int32).toInt) = 0 := (by decide); omega), (show Int32.toInt 0 ≤ 1 from by have : ((0 : Int32).toInt) = 0 := (by decide); omega), (by have : ((0 : Int32).toInt) = 0 := (by decide); refine ⟨fun q => absurd (show ((0 : Int32).toInt) = 0 from by decide) q, fun h => ?_⟩; exfalso; have h1 := h.1; have h2 := h.2.1; have h3 := h.2.2.1; have h4 := h.2.2.2; unfold lx_le at h2; exact h3 (hpoxc12_0.1 (by omega)))⟩, rfl, rfl, rfl⟩ (Nat.le_of_ble_eq_true rfl) (Nat.le_of_ble_eq_true rfl) dX12_isName_49
      · have hf15 : xc12.toInt = 0 := by have z := (fa_eq _ _).mp hc13; have : ((0 : Int32).toInt) = 0 := (by decide); omega
        refine lv_aload_n hx hb dX12_isName_35 rfl (lv_at hl 0 rfl) ?_
        refine va_ldcS (q := D.2 100 1) hx hb hown hN.2.2.2.2.2.2.2 dX12_isName_36 ?_
        refine tw_Vc (o := a0) (ci := 12) (n := 1) (post := (fun v kq Lq Eq => (∃ x : Int32, v = some (.int x) ∧ 0 ≤ x.toInt ∧ x.toInt ≤ 1 ∧ (x.toInt ≠ 0 ↔ lx_rs (tw_el E a0 0) fv0_1.toInt fv0_2.toInt fv0_3.toInt 1)) ∧ kp = kq ∧ L = Lq ∧ E = Eq)) (As := [.ref (D.2 100 1)]) (rest := []) ⟨hx, hb, hml, hown, hB⟩ (fun sz => tX12_isReserved_vL1 l D cs a0 fv0_2 fv0_3 fv0_1 hm0 hk0 hfv0_2 hfv0_3 hfv0_1 (by  omega) (by  omega) sz) cg_12_215_X12_isReserved rfl rfl (by decide +kernel) ⟨Nat.le_of_ble_eq_true rfl, Nat.le_of_ble_eq_true rfl⟩ hK hN TH hS hA rfl hm0 hk0 (by decide) rfl hl.1 rfl (Nat.le_of_ble_eq_true rfl) dX12_isName_38 ⟨Nat.le_of_ble_eq_true rfl, Nat.le_of_ble_eq_true rfl⟩ (fun v16 kp16 L16 E16 H locs hq16 hx16 TH hS => ?_)
        obtain ⟨⟨xc17, rfl, hxc17a, hxc17b, hpoxc17_0⟩, rfl, rfl, rfl⟩ := hq16
        refine W.eq (g2 := F0 m 41 ls [.int xc17]) rfl ?_
        refine lv_if_ne (tgt := 48) hx hb dX12_isName_41 (by decide) (fun hc18 => ?_) (fun hc18 => ?_)
        · have hf19 : ¬ (xc17.toInt = 0) := fun q => hc18 ((fa_eq _ _).mpr (by have : ((0 : Int32).toInt) = 0 := (by decide); omega))
          refine lv_iconst (v := 0) hx hb dX12_isName_48 (by decide) ?_
          exact tw_zret hx hb hr hlocks (by decide) TH hS hex ⟨⟨_, rfl, (show 0 ≤ Int32.toInt 0 from by have : ((0 : Int32).toInt) = 0 := (by decide); omega), (show Int32.toInt 0 ≤ 1 from by have : ((0 : Int32).toInt) = 0 := (by decide); omega), (by have : ((0 : Int32).toInt) = 0 := (by decide); refine ⟨fun q => absurd (show ((0 : Int32).toInt) = 0 from by decide) q, fun h => ?_⟩; exfalso; have h1 := h.1; have h2 := h.2.1; have h3 := h.2.2.1; have h4 := h.2.2.2; unfold lx_le at h2; exact h4 (hpoxc17_0.1 (by omega)))⟩, rfl, rfl, rfl⟩ (Nat.le_of_ble_eq_true rfl) (Nat.le_of_ble_eq_true rfl) dX12_isName_49
        · have hf20 : xc17.toInt = 0 := by have z := (fa_eq _ _).mp hc18; have : ((0 : Int32).toInt) = 0 := (by decide); omega
          refine lv_iconst (v := 1) hx hb dX12_isName_44 (by decide) ?_
          refine lv_goto (tgt := 49) hx hb dX12_isName_45 (by decide) ?_
          exact tw_zret hx hb hr hlocks (by decide) TH hS hex ⟨⟨_, rfl, (show 0 ≤ Int32.toInt 1 from by have : ((1 : Int32).toInt) = 1 := (by decide); omega), (show Int32.toInt 1 ≤ 1 from by have : ((1 : Int32).toInt) = 1 := (by decide); omega), (by have : ((1 : Int32).toInt) = 1 := (by decide); refine ⟨fun _ => ⟨by omega, by unfold lx_le; rw [ht20]; omega, fun z => ?_, fun z => ?_⟩, fun _ => by decide⟩; (have w := hpoxc12_0.2 z; omega); (have w := hpoxc17_0.2 z; omega))⟩, rfl, rfl, rfl⟩ (Nat.le_of_ble_eq_true rfl) (Nat.le_of_ble_eq_true rfl) dX12_isName_49
set_option maxHeartbeats 4000000 in
set_option maxRecDepth 100000 in
theorem tX12_isWord_vL (l : Launch) (D : va_G) (cs : Nat → ClassId) {kp : Nat → Nat} {L : List Nat} {E : Nat → va_E} (a0 : Nat) (fv0_2 : Int32) (fv0_1 : Int32) (fv0_3 : Int32) (hm0 : a0 ∈ L) (hk0 : kp a0 = 12) (hfv0_2 : tw_fv E a0 2 = .int fv0_2) (hfv0_1 : tw_fv E a0 1 = .int fv0_1) (hfv0_3 : tw_fv E a0 3 = .int fv0_3) (sz : Nat) : Met l yX12_isWord (.code yX12_isWord cX12_isWord 1 (some .boolean) :: cx_big) { frames := 1, cells := 0, slots := 0, locals := 21 } (tw_P D cs kp L E [.ref a0] sz) (tw_Q D cs kp L (fun v kq Lq Eq => (∃ x : Int32, v = some (.int x) ∧ 0 ≤ x.toInt ∧ x.toInt ≤ 1 ∧ (x.toInt ≠ 0 ↔ ((fv0_2.toInt < fv0_1.toInt ∧ tw_el E a0 0 (fv0_2.toInt).toNat = 123) ∧ fv0_2.toInt + 1 < fv0_3.toInt))) ∧ kp = kq ∧ L = Lq ∧ E = Eq) (va_A (va_pl L E) sz)) 0 0 (va_A (va_pl L E) sz) := by
  refine tw_ofW (by decide) (Nat.le_of_ble_eq_true rfl) ?_
  intro p e s m below meth c A ls hx hb hr hml hB hown hlocks hK hN hA TH hS hl
  have hown : s.vm.findClass "TreeMergeModel" = some m.cls := hown
  have hl : lv_has ls 1 [(0, .ref a0)] := hl
  obtain ⟨kp0, ekp⟩ : ∃ z, z = kp := ⟨_, rfl⟩
  obtain ⟨L0, eL⟩ : ∃ z, z = L := ⟨_, rfl⟩
  rw [show tw_Q D cs kp L = tw_Q D cs kp0 L0 by rw [ekp, eL]]
  have hex : ∀ a : Nat, a ∈ L0 → a ∈ L ∧ kp a = kp0 a := fun a h => ⟨by rw [← eL]; exact h, by rw [ekp]⟩
  obtain ⟨qfv0_2, hqfv0_2, hqfv0_2a, hqfv0_2b⟩ := tw_rd TH hm0 hk0 (by decide) (by decide) (k := 2) rfl
  have eqfv0_2 : qfv0_2 = fv0_2 := by have q := hqfv0_2.symm.trans hfv0_2; injection q
  rw [eqfv0_2] at hqfv0_2a hqfv0_2b
  obtain ⟨qfv0_1, hqfv0_1, hqfv0_1a, hqfv0_1b⟩ := tw_rd TH hm0 hk0 (by decide) (by decide) (k := 1) rfl
  have eqfv0_1 : qfv0_1 = fv0_1 := by have q := hqfv0_1.symm.trans hfv0_1; injection q
  rw [eqfv0_1] at hqfv0_1a hqfv0_1b
  obtain ⟨qfv0_3, hqfv0_3, hqfv0_3a, hqfv0_3b⟩ := tw_rd TH hm0 hk0 (by decide) (by decide) (k := 3) rfl
  have eqfv0_3 : qfv0_3 = fv0_3 := by have q := hqfv0_3.symm.trans hfv0_3; injection q
  rw [eqfv0_3] at hqfv0_3a hqfv0_3b
  have ec123 : ((123 : Int32).toInt) = 123 := (by decide)
  refine lv_aload_n hx hb dX12_isWord_0 rfl (lv_at hl 0 rfl) ?_
  refine lv_bipush (v := 123) hx hb dX12_isWord_1 (by decide) ?_
  refine tw_Vc (o := a0) (ci := 12) (n := 1) (post := (fun v kq Lq Eq => (∃ x : Int32, v = some (.int x) ∧ 0 ≤ x.toInt ∧ x.toInt ≤ 1 ∧ (x.toInt ≠ 0 ↔ (fv0_2.toInt < fv0_1.toInt ∧ tw_el E a0 0 (fv0_2.toInt).toNat = (123 : Int32).toInt))) ∧ kp = kq ∧ L = Lq ∧ E = Eq)) (As := [.int 123]) (rest := []) ⟨hx, hb, hml, hown, hB⟩ (fun sz => tX12_isSign_vL l D cs a0 (123 : Int32) fv0_2 fv0_1 hm0 hk0 hfv0_2 hfv0_1 sz) cg_12_221_X12_isSign rfl rfl (by decide +kernel) ⟨Nat.le_of_ble_eq_true rfl, Nat.le_of_ble_eq_true rfl⟩ hK hN TH hS hA rfl hm0 hk0 (by decide) rfl hl.1 rfl (Nat.le_of_ble_eq_true rfl) dX12_isWord_3 ⟨Nat.le_of_ble_eq_true rfl, Nat.le_of_ble_eq_true rfl⟩ (fun v1 kp1 L1 E1 H locs hq1 hx1 TH hS => ?_)
  obtain ⟨⟨xc2, rfl, hxc2a, hxc2b, hpoxc2_0⟩, rfl, rfl, rfl⟩ := hq1
  refine W.eq (g2 := F0 m 6 ls [.int xc2]) rfl ?_
  refine lv_if_eq (tgt := 26) hx hb dX12_isWord_6 (by decide) (fun hc3 => ?_) (fun hc3 => ?_)
  · have hf4 : xc2.toInt = 0 := by have z := (fa_eq _ _).mp hc3; have : ((0 : Int32).toInt) = 0 := (by decide); omega
    refine lv_iconst (v := 0) hx hb dX12_isWord_26 (by decide) ?_
    exact tw_zret hx hb hr hlocks (by decide) TH hS hex ⟨⟨_, rfl, (show 0 ≤ Int32.toInt 0 from by have : ((0 : Int32).toInt) = 0 := (by decide); omega), (show Int32.toInt 0 ≤ 1 from by have : ((0 : Int32).toInt) = 0 := (by decide); omega), (by have : ((0 : Int32).toInt) = 0 := (by decide); omega)⟩, rfl, rfl, rfl⟩ (Nat.le_of_ble_eq_true rfl) (Nat.le_of_ble_eq_true rfl) dX12_isWord_27
  · have hf5 : ¬ (xc2.toInt = 0) := fun q => hc3 ((fa_eq _ _).mpr (by have : ((0 : Int32).toInt) = 0 := (by decide); omega))
    refine lv_aload_n hx hb dX12_isWord_9 rfl (lv_at hl 0 rfl) ?_
    refine tw_get (ci := 12) (C := RX12) (T := TX12) (N := 64) hx hb hB cx_inX12 hown hK TH hm0 hk0 rfl ⟨by decide, rfl⟩ 3 (by decide) cw_1196 (fun _ h9 => h9) dX12_isWord_10 (fun hv => ?_)
    rw [hfv0_3]
    refine lv_aload_n hx hb dX12_isWord_13 rfl (lv_at hl 0 rfl) ?_
    refine tw_get (ci := 12) (C := RX12) (T := TX12) (N := 64) hx hb hB cx_inX12 hown hK TH hm0 hk0 rfl ⟨by decide, rfl⟩ 2 (by decide) cw_1195 (fun _ h9 => h9) dX12_isWord_14 (fun hv => ?_)
    rw [hfv0_2]
    refine lv_iconst (v := 1) hx hb dX12_isWord_17 (by decide) ?_
    refine lv_iadd hx hb dX12_isWord_18 ?_
    refine lv_topi (fun zi6 ezi6 => ?_)
    have hzi6 : zi6.toInt = fv0_2.toInt + 1 := by rw [ezi6]; have : ((1 : Int32).toInt) = 1 := (by decide); have := ia_lo fv0_2; have := ia_hi fv0_2; exact (ia_add (by omega) (by omega)).trans (by omega)
    refine lv_icmp_le (tgt := 26) hx hb dX12_isWord_19 (by decide) (fun hc7 => ?_) (fun hc7 => ?_)
    · have hf8 : fv0_3.toInt ≤ zi6.toInt := by have z := (fa_le _ _).mp hc7;  omega
      refine lv_iconst (v := 0) hx hb dX12_isWord_26 (by decide) ?_
      exact tw_zret hx hb hr hlocks (by decide) TH hS hex ⟨⟨_, rfl, (show 0 ≤ Int32.toInt 0 from by have : ((0 : Int32).toInt) = 0 := (by decide); omega), (show Int32.toInt 0 ≤ 1 from by have : ((0 : Int32).toInt) = 0 := (by decide); omega), (by have : ((0 : Int32).toInt) = 0 := (by decide); omega)⟩, rfl, rfl, rfl⟩ (Nat.le_of_ble_eq_true rfl) (Nat.le_of_ble_eq_true rfl) dX12_isWord_27
    · have hf9 : ¬ (fv0_3.toInt ≤ zi6.toInt) := fun q => hc7 ((fa_le _ _).mpr (by  omega))
      refine lv_iconst (v := 1) hx hb dX12_isWord_22 (by decide) ?_
      refine lv_goto (tgt := 27) hx hb dX12_isWord_23 (by decide) ?_
      exact tw_zret hx hb hr hlocks (by decide) TH hS hex ⟨⟨_, rfl, (show 0 ≤ Int32.toInt 1 from by have : ((1 : Int32).toInt) = 1 := (by decide); omega), (show Int32.toInt 1 ≤ 1 from by have : ((1 : Int32).toInt) = 1 := (by decide); omega), (by have : ((1 : Int32).toInt) = 1 := (by decide); omega)⟩, rfl, rfl, rfl⟩ (Nat.le_of_ble_eq_true rfl) (Nat.le_of_ble_eq_true rfl) dX12_isWord_27
