set_option maxHeartbeats 4000000 in
set_option maxRecDepth 100000 in
theorem tX2_readItems_vG (l : Launch) (D : va_G) (cs : Nat → ClassId) {kp : Nat → Nat} {L : List Nat} {E : Nat → va_E} (a0 : Nat) (a1 : Nat) (x2 : Int32) (fv1_3 : Int32) (fv1_4 : Int32) (fv1_1 : Int32) (fv1_2 : Int32) (fv0_1 : Int32) (fv0_7 : Int32) (hm0 : a0 ∈ L) (hk0 : kp a0 = 2) (hm1 : a1 ∈ L) (hk1 : kp a1 = 9) (hp2a : 0 ≤ x2.toInt) (hp2b : x2.toInt ≤ 1) (hfv1_3 : tw_fv E a1 3 = .int fv1_3) (hfv1_4 : tw_fv E a1 4 = .int fv1_4) (hfv1_1 : tw_fv E a1 1 = .int fv1_1) (hfv1_2 : tw_fv E a1 2 = .int fv1_2) (hfv0_1 : tw_fv E a0 1 = .int fv0_1) (hfv0_7 : tw_fv E a0 7 = .int fv0_7) (hpre0 : fv1_3.toInt ≤ fv1_4.toInt ∧ fv1_4.toInt ≤ fv1_1.toInt ∧ fv1_3.toInt ≤ fv1_1.toInt) (hpre1 : tc_tk (tw_el E a1 0) fv1_1.toInt fv1_3.toInt fv1_4.toInt fv1_2.toInt) (hpre2 : (fv1_2.toInt = 59 → gy_at (tw_el E a1 0) fv1_1.toInt 3 fv1_3.toInt (fv0_1.toInt + 1) (prs (tw_el E a0 2) (tw_el E a0 3) (fv0_1.toInt + 1)) (prs (tw_el E a0 8) (tw_el E a0 9) (fv0_7.toInt))) ∧ (fv1_2.toInt ≠ 59 → gy_at (tw_el E a1 0) fv1_1.toInt (cq_ x2.toInt) fv1_3.toInt (fv0_1.toInt + 1) (prs (tw_el E a0 2) (tw_el E a0 3) (fv0_1.toInt + 1)) (prs (tw_el E a0 8) (tw_el E a0 9) (fv0_7.toInt)))) (hpre3 : fv0_7.toInt ≤ fv1_3.toInt) (hpre4 : ib fv1_1.toInt (prs (tw_el E a0 8) (tw_el E a0 9) (fv0_7.toInt))) (sz : Nat) : Met l yX2_readItems (.code yX2_readItems cX2_readItems 3 none :: cx_big) { frames := 7, cells := 0, slots := 0, locals := 147 } (tw_P D cs kp L E [.ref a0, .ref a1, .int x2] sz) (tw_Q D cs kp L (fun v kq Lq Eq => v = none ∧ kp = kq ∧ L = Lq ∧ tw_fr kp L [(2, 7), (9, 2), (9, 3), (9, 4)] [132, 134, 139] E Eq ∧ (tc_tk (tw_el E a1 0) fv1_1.toInt (tw_fi Eq a1 3) (tw_fi Eq a1 4) (tw_fi Eq a1 2) ∧ tw_fi Eq a1 2 ≠ 1) ∧ ((tw_fi Eq a1 2 = 59 → gy_at (tw_el E a1 0) fv1_1.toInt 3 (tw_fi Eq a1 3) (fv0_1.toInt + 1) (prs (tw_el E a0 2) (tw_el E a0 3) (fv0_1.toInt + 1)) (prs (tw_el Eq a0 8) (tw_el Eq a0 9) (tw_fi Eq a0 7))) ∧ (tw_fi Eq a1 2 ≠ 59 → gy_at (tw_el E a1 0) fv1_1.toInt (cq_ x2.toInt) (tw_fi Eq a1 3) (fv0_1.toInt + 1) (prs (tw_el E a0 2) (tw_el E a0 3) (fv0_1.toInt + 1)) (prs (tw_el Eq a0 8) (tw_el Eq a0 9) (tw_fi Eq a0 7)))) ∧ (ib fv1_1.toInt (prs (tw_el Eq a0 8) (tw_el Eq a0 9) (tw_fi Eq a0 7))) ∧ (tw_fi Eq a0 7 ≤ tw_fi Eq a1 3) ∧ (∃ z0 : Int32, tw_fv Eq a0 7 = .int z0 ∧ (fv0_7.toInt ≤ z0.toInt)) ∧ (∃ z0 z1 : Int32, tw_fv Eq a1 3 = .int z0 ∧ tw_fv Eq a1 4 = .int z1 ∧ (z0.toInt ≤ z1.toInt ∧ z1.toInt ≤ fv1_1.toInt ∧ z0.toInt ≤ fv1_1.toInt))) (va_A (va_pl L E) sz)) 0 0 (va_A (va_pl L E) sz) := by
  refine tw_ofW (by decide) (Nat.le_of_ble_eq_true rfl) ?_
  intro p e s m below meth c A ls hx hb hr hml hB hown hlocks hK hN hA TH hS hl
  have hown : s.vm.findClass "TreeMerge$Grammar" = some m.cls := hown
  have hl : lv_has ls 3 [(0, .ref a0), (1, .ref a1), (2, .int x2)] := hl
  obtain ⟨kp0, ekp⟩ : ∃ z, z = kp := ⟨_, rfl⟩
  obtain ⟨L0, eL⟩ : ∃ z, z = L := ⟨_, rfl⟩
  rw [show tw_Q D cs kp L = tw_Q D cs kp0 L0 by rw [ekp, eL]]
  have hex : ∀ a : Nat, a ∈ L0 → a ∈ L ∧ kp a = kp0 a := fun a h => ⟨by rw [← eL]; exact h, by rw [ekp]⟩
  have hF : tw_fr kp L [(2, 7), (9, 2), (9, 3), (9, 4)] [132, 134, 139] E E := tw_fr.rf
  obtain ⟨qfv1_3, hqfv1_3, hqfv1_3a, hqfv1_3b⟩ := tw_rd TH hm1 hk1 (by decide) (by decide) (k := 3) rfl
  have eqfv1_3 : qfv1_3 = fv1_3 := by have q := hqfv1_3.symm.trans hfv1_3; injection q
  rw [eqfv1_3] at hqfv1_3a hqfv1_3b
  obtain ⟨qfv1_4, hqfv1_4, hqfv1_4a, hqfv1_4b⟩ := tw_rd TH hm1 hk1 (by decide) (by decide) (k := 4) rfl
  have eqfv1_4 : qfv1_4 = fv1_4 := by have q := hqfv1_4.symm.trans hfv1_4; injection q
  rw [eqfv1_4] at hqfv1_4a hqfv1_4b
  obtain ⟨qfv1_1, hqfv1_1, hqfv1_1a, hqfv1_1b⟩ := tw_rd TH hm1 hk1 (by decide) (by decide) (k := 1) rfl
  have eqfv1_1 : qfv1_1 = fv1_1 := by have q := hqfv1_1.symm.trans hfv1_1; injection q
  rw [eqfv1_1] at hqfv1_1a hqfv1_1b
  obtain ⟨qfv1_2, hqfv1_2, hqfv1_2a, hqfv1_2b⟩ := tw_rd TH hm1 hk1 (by decide) (by decide) (k := 2) rfl
  have eqfv1_2 : qfv1_2 = fv1_2 := by have q := hqfv1_2.symm.trans hfv1_2; injection q
  rw [eqfv1_2] at hqfv1_2a hqfv1_2b
  obtain ⟨qfv0_1, hqfv0_1, hqfv0_1a, hqfv0_1b⟩ := tw_rd TH hm0 hk0 (by decide) (by decide) (k := 1) rfl
  have eqfv0_1 : qfv0_1 = fv0_1 := by have q := hqfv0_1.symm.trans hfv0_1; injection q
  rw [eqfv0_1] at hqfv0_1a hqfv0_1b
  obtain ⟨qfv0_7, hqfv0_7, hqfv0_7a, hqfv0_7b⟩ := tw_rd TH hm0 hk0 (by decide) (by decide) (k := 7) rfl
  have eqfv0_7 : qfv0_7 = fv0_7 := by have q := hqfv0_7.symm.trans hfv0_7; injection q
  rw [eqfv0_7] at hqfv0_7a hqfv0_7b
  have hJ0 : ∀ (n0 : Nat) (u0_1_3 : Int32) (u0_1_4 : Int32) (u0_1_2 : Int32) (u0_0_7 : Int32) (Eg0 : Nat → va_E) (H : Heap) (locs : List Loc) (ls : Array Slot), 0 ≤ u0_1_3.toInt → u0_1_3.toInt ≤ 500 → 0 ≤ u0_1_4.toInt → u0_1_4.toInt ≤ 500 → 0 ≤ u0_1_2.toInt → u0_1_2.toInt ≤ 255 → 0 ≤ u0_0_7.toInt → u0_0_7.toInt ≤ 500 → (u0_1_3.toInt ≤ u0_1_4.toInt) → (u0_1_4.toInt ≤ fv1_1.toInt) → (u0_1_3.toInt ≤ fv1_1.toInt) → (tc_tk (tw_el E a1 0) fv1_1.toInt (u0_1_3.toInt) (u0_1_4.toInt) (u0_1_2.toInt)) → (u0_1_2.toInt = 59 → gy_at (tw_el E a1 0) fv1_1.toInt 3 (u0_1_3.toInt) (fv0_1.toInt + 1) (prs (tw_el E a0 2) (tw_el E a0 3) (fv0_1.toInt + 1)) (prs (tw_el Eg0 a0 8) (tw_el Eg0 a0 9) (u0_0_7.toInt))) → (u0_1_2.toInt ≠ 59 → gy_at (tw_el E a1 0) fv1_1.toInt (cq_ (x2.toInt)) (u0_1_3.toInt) (fv0_1.toInt + 1) (prs (tw_el E a0 2) (tw_el E a0 3) (fv0_1.toInt + 1)) (prs (tw_el Eg0 a0 8) (tw_el Eg0 a0 9) (u0_0_7.toInt))) → (u0_0_7.toInt ≤ u0_1_3.toInt) → (ib fv1_1.toInt (prs (tw_el Eg0 a0 8) (tw_el Eg0 a0 9) (u0_0_7.toInt))) → (fv0_7.toInt ≤ u0_0_7.toInt) → 500 - u0_0_7.toInt ≤ (n0 : Int) → tw_fv Eg0 a1 3 = .int u0_1_3 → tw_fv Eg0 a1 4 = .int u0_1_4 → tw_fv Eg0 a1 2 = .int u0_1_2 → tw_fv Eg0 a0 7 = .int u0_0_7 → tw_fr kp L [(2, 7), (9, 2), (9, 3), (9, 4)] [132, 134, 139] E Eg0 → tw_H D cs kp L Eg0 A H → va_S A s.heap H locs → lv_has ls 3 [(0, .ref a0), (1, .ref a1), (2, .int x2)] → W p l e { frames := 7, cells := 0, slots := 0, locals := 147 } s m [.ref a0, .ref a1, .int x2].toArray below meth c H locs 0 0 (MQ below (tw_Q D cs kp0 L0 (fun v kq Lq Eq => v = none ∧ kp = kq ∧ L = Lq ∧ tw_fr kp L [(2, 7), (9, 2), (9, 3), (9, 4)] [132, 134, 139] E Eq ∧ (tc_tk (tw_el E a1 0) fv1_1.toInt (tw_fi Eq a1 3) (tw_fi Eq a1 4) (tw_fi Eq a1 2) ∧ tw_fi Eq a1 2 ≠ 1) ∧ ((tw_fi Eq a1 2 = 59 → gy_at (tw_el E a1 0) fv1_1.toInt 3 (tw_fi Eq a1 3) (fv0_1.toInt + 1) (prs (tw_el E a0 2) (tw_el E a0 3) (fv0_1.toInt + 1)) (prs (tw_el Eq a0 8) (tw_el Eq a0 9) (tw_fi Eq a0 7))) ∧ (tw_fi Eq a1 2 ≠ 59 → gy_at (tw_el E a1 0) fv1_1.toInt (cq_ x2.toInt) (tw_fi Eq a1 3) (fv0_1.toInt + 1) (prs (tw_el E a0 2) (tw_el E a0 3) (fv0_1.toInt + 1)) (prs (tw_el Eq a0 8) (tw_el Eq a0 9) (tw_fi Eq a0 7)))) ∧ (ib fv1_1.toInt (prs (tw_el Eq a0 8) (tw_el Eq a0 9) (tw_fi Eq a0 7))) ∧ (tw_fi Eq a0 7 ≤ tw_fi Eq a1 3) ∧ (∃ z0 : Int32, tw_fv Eq a0 7 = .int z0 ∧ (fv0_7.toInt ≤ z0.toInt)) ∧ (∃ z0 z1 : Int32, tw_fv Eq a1 3 = .int z0 ∧ tw_fv Eq a1 4 = .int z1 ∧ (z0.toInt ≤ z1.toInt ∧ z1.toInt ≤ fv1_1.toInt ∧ z0.toInt ≤ fv1_1.toInt))) A) [.ref a0, .ref a1, .int x2].toArray s 0 0 A) (F0 m 0 ls []) := by
    intro n0
    induction n0 using Nat.strongRecOn with
    | _ n0 ih0 =>
      intro u0_1_3 u0_1_4 u0_1_2 u0_0_7 Eg0 H locs ls hu0_1_3a hu0_1_3b hu0_1_4a hu0_1_4b hu0_1_2a hu0_1_2b hu0_0_7a hu0_0_7b hin0_0 hin0_1 hin0_2 hin0_3 hin0_4 hin0_5 hin0_6 hin0_7 hin0_8 hmeas0 hfm0_0 hfm0_1 hfm0_2 hfm0_3 hG0 TH hS hl
      have hF := hF.tr hG0 (fun _ h => ⟨h, rfl⟩) (by decide) (by decide)
      have hmf1 : tw_fv Eg0 a1 1 = .int fv1_1 := (hG0.1 a1 1 hm1 (by rw [hk1]; decide)).trans hfv1_1
      have hmf2 : tw_fv Eg0 a0 1 = .int fv0_1 := (hG0.1 a0 1 hm0 (by rw [hk0]; decide)).trans hfv0_1
      refine lv_aload_n hx hb dX2_readItems_0 rfl (lv_at hl 1 rfl) ?_
      refine tw_get (ci := 9) (C := RX9) (T := TX9) (N := 5) hx hb hB cx_inX9 hown hK TH hm1 hk1 rfl ⟨by decide, rfl⟩ 2 (by decide) cw_40 (fun _ h9 => h9) dX2_readItems_1 (fun hv => ?_)
      rw [hfm0_2]
      refine lv_iconst (v := 1) hx hb dX2_readItems_4 (by decide) ?_
      refine lv_icmp_ne (tgt := 110) hx hb dX2_readItems_5 (by decide) (fun hc3 => ?_) (fun hc3 => ?_)
      · have hf4 : ¬ (u0_1_2.toInt = 1) := fun q => hc3 ((fa_eq _ _).mpr (by have : ((1 : Int32).toInt) = 1 := (by decide); omega))
        exact tw_vret hx hb hr hlocks TH hS hex ⟨rfl, rfl, rfl, hF, (by  rw [tw_fi_of hfm0_0, tw_fi_of hfm0_1, tw_fi_of hfm0_2]; exact ⟨hin0_3, (fun z => (by have w := ((tc_nm hin0_3).mp z).1; omega))⟩), (by  rw [tw_fi_of hfm0_0, tw_fi_of hfm0_2, tw_fi_of hfm0_3]; exact ⟨hin0_4, hin0_5⟩), (by  rw [tw_fi_of hfm0_3]; exact hin0_7), (by  rw [tw_fi_of hfm0_3, tw_fi_of hfm0_0]; omega), ⟨u0_0_7, hfm0_3, by  omega⟩, ⟨u0_1_3, u0_1_4, hfm0_0, hfm0_1, by  omega⟩⟩ (Nat.le_of_ble_eq_true rfl) (Nat.le_of_ble_eq_true rfl) dX2_readItems_110
      · have hf5 : u0_1_2.toInt = 1 := by have z := (fa_eq _ _).mp hc3; have : ((1 : Int32).toInt) = 1 := (by decide); omega
        refine lv_aload_n hx hb dX2_readItems_8 rfl (lv_at hl 0 rfl) ?_
        refine tw_get (ci := 2) (C := RX2) (T := TX2) (N := 13) hx hb hB cx_inX2 hown hK TH hm0 hk0 rfl ⟨by decide, rfl⟩ 7 (by decide) cw_77 (fun _ h9 => h9) dX2_readItems_9 (fun hv => ?_)
        rw [hfm0_3]
        refine lv_sipush (v := 500) hx hb dX2_readItems_12 (by decide) ?_
        refine lv_icmp_ge (tgt := 110) hx hb dX2_readItems_15 (by decide) (fun hc6 => ?_) (fun hc6 => ?_)
        · have hf7 : 500 ≤ u0_0_7.toInt := by have z := (fa_le _ _).mp hc6; have : ((500 : Int32).toInt) = 500 := (by decide); omega
          exact tw_vret hx hb hr hlocks TH hS hex ⟨rfl, rfl, rfl, hF, (by  rw [tw_fi_of hfm0_0, tw_fi_of hfm0_1, tw_fi_of hfm0_2]; exact ⟨hin0_3, (fun z => (by have w := ((tc_nm hin0_3).mp z).1; omega))⟩), (by  rw [tw_fi_of hfm0_0, tw_fi_of hfm0_2, tw_fi_of hfm0_3]; exact ⟨hin0_4, hin0_5⟩), (by  rw [tw_fi_of hfm0_3]; exact hin0_7), (by  rw [tw_fi_of hfm0_3, tw_fi_of hfm0_0]; omega), ⟨u0_0_7, hfm0_3, by  omega⟩, ⟨u0_1_3, u0_1_4, hfm0_0, hfm0_1, by  omega⟩⟩ (Nat.le_of_ble_eq_true rfl) (Nat.le_of_ble_eq_true rfl) dX2_readItems_110
        · have hf8 : ¬ (500 ≤ u0_0_7.toInt) := fun q => hc6 ((fa_le _ _).mpr (by have : ((500 : Int32).toInt) = 500 := (by decide); omega))
          have hcf8 : cf_ok Eg0 a0 8 (tw_el Eg0 a0 8) := fun _ => rfl
          have hcf9 : cf_ok Eg0 a0 9 (tw_el Eg0 a0 9) := fun _ => rfl
          have hga := hin0_5 (by omega)
          have hlt18 := ((tc_nm hin0_3).mp (by omega)).1
          have hle18 := (tc_le hin0_3 (by omega)).2.2 hlt18
          refine lv_aload_n hx hb dX2_readItems_18 rfl (lv_at hl 0 rfl) ?_
          refine tw_get (ci := 2) (C := RX2) (T := TX2) (N := 13) hx hb hB cx_inX2 hown hK TH hm0 hk0 rfl ⟨by decide, rfl⟩ 8 (by decide) cw_78 (fun _ h9 => h9) dX2_readItems_19 (fun hv => ?_)
          obtain ⟨xr9, hxr9, hmxr9, hkxr9⟩ : ∃ a : Nat, tw_fv Eg0 a0 8 = .ref a ∧ a ∈ L ∧ kp a = 132 := hv
          rw [hxr9]
          refine lv_aload_n hx hb dX2_readItems_22 rfl (lv_at hl 0 rfl) ?_
          refine tw_get (ci := 2) (C := RX2) (T := TX2) (N := 13) hx hb hB cx_inX2 hown hK TH hm0 hk0 rfl ⟨by decide, rfl⟩ 7 (by decide) cw_77 (fun _ h9 => h9) dX2_readItems_23 (fun hv => ?_)
          rw [hfm0_3]
          refine lv_aload_n hx hb dX2_readItems_26 rfl (lv_at hl 1 rfl) ?_
          refine tw_get (ci := 9) (C := RX9) (T := TX9) (N := 5) hx hb hB cx_inX9 hown hK TH hm1 hk1 rfl ⟨by decide, rfl⟩ 3 (by decide) cw_44 (fun _ h9 => h9) dX2_readItems_27 (fun hv => ?_)
          rw [hfm0_0]
          refine tw_iast (k := 132) (n := 500) (lo := 0) (hi := 500) hx hb hK TH hS hmxr9 hkxr9 (by decide) rfl (i := u0_0_7) (x := u0_1_3) (vp_in_iff.mpr ⟨by  omega, by  omega⟩) (by omega) (by omega) dX2_readItems_30 (fun H locs E10 TH hS hp11 hp12 hp13 => ?_)
          have hst14 : tw_fr kp L [] [132] Eg0 E10 := tw_fr.ast tw_fr.rf (fun _ => hkxr9) hp11 hp12 (by decide)
          have hF := hF.tr hst14 (fun _ h => ⟨h, rfl⟩) (by decide) (by decide)
          have hG0 := hG0.tr hst14 (fun _ h => ⟨h, rfl⟩) (by decide) (by decide)
          have hmf15 : tw_fv E10 a1 1 = .int fv1_1 := (hst14.1 a1 1 hm1 (by rw [hk1]; decide)).trans hmf1
          have hmf16 : tw_fv E10 a0 1 = .int fv0_1 := (hst14.1 a0 1 hm0 (by rw [hk0]; decide)).trans hmf2
          have hmf17 : tw_fv E10 a1 3 = .int u0_1_3 := (hst14.1 a1 3 hm1 (by rw [hk1]; decide)).trans hfm0_0
          have hmf18 : tw_fv E10 a1 4 = .int u0_1_4 := (hst14.1 a1 4 hm1 (by rw [hk1]; decide)).trans hfm0_1
          have hmf19 : tw_fv E10 a1 2 = .int u0_1_2 := (hst14.1 a1 2 hm1 (by rw [hk1]; decide)).trans hfm0_2
          have hmf20 : tw_fv E10 a0 7 = .int u0_0_7 := (hst14.1 a0 7 hm0 (by rw [hk0]; decide)).trans hfm0_3
          have hmf21 : tw_fv E10 a0 8 = .ref xr9 := (hst14.1 a0 8 hm0 (by rw [hk0]; decide)).trans hxr9
          have hcf8_o := hcf8
          have hcf9_o := hcf9
          have hcf8 : cf_ok E10 a0 8 (fun j => if j = (u0_0_7.toInt).toNat then u0_1_3.toInt else (tw_el Eg0 a0 8) j) := (fun j => (by have w := tw_el_st hxr9 hp11 hp12 hp13 j; rw [w]; show _ = (if j = (u0_0_7.toInt).toNat then u0_1_3.toInt else (tw_el Eg0 a0 8) j); (by_cases e : j = (u0_0_7.toInt).toNat; (rw [if_pos ⟨rfl, e⟩, if_pos e]); (rw [if_neg (fun y => e y.2), if_neg e]; (try exact hcf8_o j)))))
          have hcf9 : cf_ok E10 a0 9 (tw_el Eg0 a0 9) := c9_ok_fr TH hst14 hm0 hk0 (by decide) (by decide) hcf9
          refine lv_aload_n hx hb dX2_readItems_31 rfl (lv_at hl 0 rfl) ?_
          refine tw_get (ci := 2) (C := RX2) (T := TX2) (N := 13) hx hb hB cx_inX2 hown hK TH hm0 hk0 rfl ⟨by decide, rfl⟩ 9 (by decide) cw_79 (fun _ h9 => h9) dX2_readItems_32 (fun hv => ?_)
          obtain ⟨xr22, hxr22, hmxr22, hkxr22⟩ : ∃ a : Nat, tw_fv E10 a0 9 = .ref a ∧ a ∈ L ∧ kp a = 139 := hv
          rw [hxr22]
          refine lv_aload_n hx hb dX2_readItems_35 rfl (lv_at hl 0 rfl) ?_
          refine tw_get (ci := 2) (C := RX2) (T := TX2) (N := 13) hx hb hB cx_inX2 hown hK TH hm0 hk0 rfl ⟨by decide, rfl⟩ 7 (by decide) cw_77 (fun _ h9 => h9) dX2_readItems_36 (fun hv => ?_)
          rw [hmf20]
          refine lv_aload_n hx hb dX2_readItems_39 rfl (lv_at hl 1 rfl) ?_
          refine tw_get (ci := 9) (C := RX9) (T := TX9) (N := 5) hx hb hB cx_inX9 hown hK TH hm1 hk1 rfl ⟨by decide, rfl⟩ 4 (by decide) cw_47 (fun _ h9 => h9) dX2_readItems_40 (fun hv => ?_)
          rw [hmf18]
          refine tw_iast (k := 139) (n := 500) (lo := 0) (hi := 500) hx hb hK TH hS hmxr22 hkxr22 (by decide) rfl (i := u0_0_7) (x := u0_1_4) (vp_in_iff.mpr ⟨by  omega, by  omega⟩) (by omega) (by omega) dX2_readItems_43 (fun H locs E23 TH hS hp24 hp25 hp26 => ?_)
          have hst27 : tw_fr kp L [] [139] E10 E23 := tw_fr.ast tw_fr.rf (fun _ => hkxr22) hp24 hp25 (by decide)
          have hF := hF.tr hst27 (fun _ h => ⟨h, rfl⟩) (by decide) (by decide)
          have hG0 := hG0.tr hst27 (fun _ h => ⟨h, rfl⟩) (by decide) (by decide)
          have hmf28 : tw_fv E23 a1 1 = .int fv1_1 := (hst27.1 a1 1 hm1 (by rw [hk1]; decide)).trans hmf15
          have hmf29 : tw_fv E23 a0 1 = .int fv0_1 := (hst27.1 a0 1 hm0 (by rw [hk0]; decide)).trans hmf16
          have hmf30 : tw_fv E23 a1 3 = .int u0_1_3 := (hst27.1 a1 3 hm1 (by rw [hk1]; decide)).trans hmf17
          have hmf31 : tw_fv E23 a1 4 = .int u0_1_4 := (hst27.1 a1 4 hm1 (by rw [hk1]; decide)).trans hmf18
          have hmf32 : tw_fv E23 a1 2 = .int u0_1_2 := (hst27.1 a1 2 hm1 (by rw [hk1]; decide)).trans hmf19
          have hmf33 : tw_fv E23 a0 7 = .int u0_0_7 := (hst27.1 a0 7 hm0 (by rw [hk0]; decide)).trans hmf20
          have hmf34 : tw_fv E23 a0 8 = .ref xr9 := (hst27.1 a0 8 hm0 (by rw [hk0]; decide)).trans hmf21
          have hmf35 : tw_fv E23 a0 9 = .ref xr22 := (hst27.1 a0 9 hm0 (by rw [hk0]; decide)).trans hxr22
          have hcf8_o := hcf8
          have hcf9_o := hcf9
          have hcf8 : cf_ok E23 a0 8 (fun j => if j = (u0_0_7.toInt).toNat then u0_1_3.toInt else (tw_el Eg0 a0 8) j) := c8_ok_fr TH hst27 hm0 hk0 (by decide) (by decide) hcf8
          have hcf9 : cf_ok E23 a0 9 (fun j => if j = (u0_0_7.toInt).toNat then u0_1_4.toInt else (tw_el Eg0 a0 9) j) := (fun j => (by have w := tw_el_st hxr22 hp24 hp25 hp26 j; rw [w]; show _ = (if j = (u0_0_7.toInt).toNat then u0_1_4.toInt else (tw_el Eg0 a0 9) j); (by_cases e : j = (u0_0_7.toInt).toNat; (rw [if_pos ⟨rfl, e⟩, if_pos e]); (rw [if_neg (fun y => e y.2), if_neg e]; (try exact hcf9_o j)))))
          refine lv_aload_n hx hb dX2_readItems_44 rfl (lv_at hl 0 rfl) ?_
          refine tw_get (ci := 2) (C := RX2) (T := TX2) (N := 13) hx hb hB cx_inX2 hown hK TH hm0 hk0 rfl ⟨by decide, rfl⟩ 11 (by decide) cw_81 (fun _ h9 => h9) dX2_readItems_45 (fun hv => ?_)
          obtain ⟨xr36, hxr36, hmxr36, hkxr36⟩ : ∃ a : Nat, tw_fv E23 a0 11 = .ref a ∧ a ∈ L ∧ kp a = 134 := hv
          rw [hxr36]
          refine lv_aload_n hx hb dX2_readItems_48 rfl (lv_at hl 0 rfl) ?_
          refine tw_get (ci := 2) (C := RX2) (T := TX2) (N := 13) hx hb hB cx_inX2 hown hK TH hm0 hk0 rfl ⟨by decide, rfl⟩ 7 (by decide) cw_77 (fun _ h9 => h9) dX2_readItems_49 (fun hv => ?_)
          rw [hmf33]
          refine lv_iconst (v := 0) hx hb dX2_readItems_52 (by decide) ?_
          refine tw_iast (k := 134) (n := 500) (lo := 0) (hi := 255) hx hb hK TH hS hmxr36 hkxr36 (by decide) rfl (i := u0_0_7) (x := 0) (vp_in_iff.mpr ⟨by  omega, by  omega⟩) (by have : ((0 : Int32).toInt) = 0 := (by decide); omega) (by have : ((0 : Int32).toInt) = 0 := (by decide); omega) dX2_readItems_53 (fun H locs E37 TH hS hp38 hp39 hp40 => ?_)
          have hst41 : tw_fr kp L [] [134] E23 E37 := tw_fr.ast tw_fr.rf (fun _ => hkxr36) hp38 hp39 (by decide)
          have hF := hF.tr hst41 (fun _ h => ⟨h, rfl⟩) (by decide) (by decide)
          have hG0 := hG0.tr hst41 (fun _ h => ⟨h, rfl⟩) (by decide) (by decide)
          have hmf42 : tw_fv E37 a1 1 = .int fv1_1 := (hst41.1 a1 1 hm1 (by rw [hk1]; decide)).trans hmf28
          have hmf43 : tw_fv E37 a0 1 = .int fv0_1 := (hst41.1 a0 1 hm0 (by rw [hk0]; decide)).trans hmf29
          have hmf44 : tw_fv E37 a1 3 = .int u0_1_3 := (hst41.1 a1 3 hm1 (by rw [hk1]; decide)).trans hmf30
          have hmf45 : tw_fv E37 a1 4 = .int u0_1_4 := (hst41.1 a1 4 hm1 (by rw [hk1]; decide)).trans hmf31
          have hmf46 : tw_fv E37 a1 2 = .int u0_1_2 := (hst41.1 a1 2 hm1 (by rw [hk1]; decide)).trans hmf32
          have hmf47 : tw_fv E37 a0 7 = .int u0_0_7 := (hst41.1 a0 7 hm0 (by rw [hk0]; decide)).trans hmf33
          have hmf48 : tw_fv E37 a0 8 = .ref xr9 := (hst41.1 a0 8 hm0 (by rw [hk0]; decide)).trans hmf34
          have hmf49 : tw_fv E37 a0 9 = .ref xr22 := (hst41.1 a0 9 hm0 (by rw [hk0]; decide)).trans hmf35
          have hmf50 : tw_fv E37 a0 11 = .ref xr36 := (hst41.1 a0 11 hm0 (by rw [hk0]; decide)).trans hxr36
          have hcf8 : cf_ok E37 a0 8 (fun j => if j = (u0_0_7.toInt).toNat then u0_1_3.toInt else (tw_el Eg0 a0 8) j) := c8_ok_fr TH hst41 hm0 hk0 (by decide) (by decide) hcf8
          have hcf9 : cf_ok E37 a0 9 (fun j => if j = (u0_0_7.toInt).toNat then u0_1_4.toInt else (tw_el Eg0 a0 9) j) := c9_ok_fr TH hst41 hm0 hk0 (by decide) (by decide) hcf9
          have ft54 := elg_fr TH hF hm1 hk1 (k := 0) (by decide) (by decide) rfl (by decide) (by decide) (by decide)
          refine lv_aload_n hx hb dX2_readItems_54 rfl (lv_at hl 1 rfl) ?_
          refine tw_Vc (o := a1) (ci := 9) (n := 0) (post := (fun v kq Lq Eq => v = none ∧ kp = kq ∧ L = Lq ∧ tw_fr kp L [(9, 2), (9, 3), (9, 4)] [] E37 Eq ∧ (lx_WS (tw_el E37 a1 0) fv1_1.toInt u0_1_4.toInt (tw_fi Eq a1 3) ∧ tc_tk (tw_el E37 a1 0) fv1_1.toInt (tw_fi Eq a1 3) (tw_fi Eq a1 4) (tw_fi Eq a1 2)) ∧ (∃ z0 z1 : Int32, tw_fv Eq a1 3 = .int z0 ∧ tw_fv Eq a1 4 = .int z1 ∧ (z0.toInt ≤ z1.toInt ∧ z1.toInt ≤ fv1_1.toInt ∧ u0_1_4.toInt ≤ z0.toInt)))) (As := []) (rest := []) ⟨hx, hb, hml, hown, hB⟩ (fun sz => tX9_advance_vG l D cs a1 u0_1_4 fv1_1 hm1 hk1 hmf45 hmf42 (by  omega) sz) cg_2_71_X9_advance rfl rfl (by decide +kernel) ⟨Nat.le_of_ble_eq_true rfl, Nat.le_of_ble_eq_true rfl⟩ hK hN TH hS hA rfl hm1 hk1 (by decide) rfl hl.1 rfl (Nat.le_of_ble_eq_true rfl) dX2_readItems_55 ⟨Nat.le_of_ble_eq_true rfl, Nat.le_of_ble_eq_true rfl⟩ (fun v51 kp51 L51 E51 H locs hq51 hx51 TH hS => ?_)
          obtain ⟨rfl, rfl, rfl, hst51, hpoxc52_0, ⟨zfxc52_0_0, zfxc52_0_1, hzfxc52_0_0, hzfxc52_0_1, hzpxc52_0⟩⟩ := hq51
          have hF := hF.tr hst51 (fun _ h => ⟨h, rfl⟩) (by decide) (by decide)
          have hG0 := hG0.tr hst51 (fun _ h => ⟨h, rfl⟩) (by decide) (by decide)
          have hmf53 : tw_fv E51 a1 1 = .int fv1_1 := (hst51.1 a1 1 hm1 (by rw [hk1]; decide)).trans hmf42
          have hmf54 : tw_fv E51 a0 1 = .int fv0_1 := (hst51.1 a0 1 hm0 (by rw [hk0]; decide)).trans hmf43
          have hmf55 : tw_fv E51 a0 7 = .int u0_0_7 := (hst51.1 a0 7 hm0 (by rw [hk0]; decide)).trans hmf47
          have hmf56 : tw_fv E51 a0 8 = .ref xr9 := (hst51.1 a0 8 hm0 (by rw [hk0]; decide)).trans hmf48
          have hmf57 : tw_fv E51 a0 9 = .ref xr22 := (hst51.1 a0 9 hm0 (by rw [hk0]; decide)).trans hmf49
          have hmf58 : tw_fv E51 a0 11 = .ref xr36 := (hst51.1 a0 11 hm0 (by rw [hk0]; decide)).trans hmf50
          have hcf8 : cf_ok E51 a0 8 (fun j => if j = (u0_0_7.toInt).toNat then u0_1_3.toInt else (tw_el Eg0 a0 8) j) := c8_ok_fr TH hst51 hm0 hk0 (by decide) (by decide) hcf8
          have hcf9 : cf_ok E51 a0 9 (fun j => if j = (u0_0_7.toInt).toNat then u0_1_4.toInt else (tw_el Eg0 a0 9) j) := c9_ok_fr TH hst51 hm0 hk0 (by decide) (by decide) hcf9
          obtain ⟨qzfxc52_0_0, hqzfxc52_0_0, hqzfxc52_0_0a, hqzfxc52_0_0b⟩ := tw_rd TH hm1 hk1 (by decide) (by decide) (k := 3) rfl
          have eqzfxc52_0_0 : qzfxc52_0_0 = zfxc52_0_0 := by have q := hqzfxc52_0_0.symm.trans hzfxc52_0_0; injection q
          rw [eqzfxc52_0_0] at hqzfxc52_0_0a hqzfxc52_0_0b
          obtain ⟨qzfxc52_0_1, hqzfxc52_0_1, hqzfxc52_0_1a, hqzfxc52_0_1b⟩ := tw_rd TH hm1 hk1 (by decide) (by decide) (k := 4) rfl
          have eqzfxc52_0_1 : qzfxc52_0_1 = zfxc52_0_1 := by have q := hqzfxc52_0_1.symm.trans hzfxc52_0_1; injection q
          rw [eqzfxc52_0_1] at hqzfxc52_0_1a hqzfxc52_0_1b
          refine W.eq (g2 := F0 m 58 ls []) rfl ?_
          obtain ⟨xi59, hxi59, hxi59a, hxi59b⟩ := tw_rd TH hm1 hk1 (by decide) (by decide) (k := 2) rfl
          have hp1 := hpoxc52_0
          rw [ft54, tw_fi_of hzfxc52_0_0, tw_fi_of hzfxc52_0_1, tw_fi_of hxi59] at hp1
          refine lv_iload_n hx hb dX2_readItems_58 rfl (lv_at hl 2 rfl) ?_
          refine lv_if_eq (tgt := 97) hx hb dX2_readItems_59 (by decide) (fun hc60 => ?_) (fun hc60 => ?_)
          · have hf61 : x2.toInt = 0 := by have z := (fa_eq _ _).mp hc60; have : ((0 : Int32).toInt) = 0 := (by decide); omega
            have hgy := cy_in (cq_12 _) hga hin0_3 (by omega) (by omega) (by omega) hp1.1 hp1.2 (fun z => (by have z1 := cq_n z.1; omega))
            refine lv_aload_n hx hb dX2_readItems_97 rfl (lv_at hl 0 rfl) ?_
            refine lv_dup hx hb dX2_readItems_98 rfl ?_
            refine tw_get (ci := 2) (C := RX2) (T := TX2) (N := 13) hx hb hB cx_inX2 hown hK TH hm0 hk0 rfl ⟨by decide, rfl⟩ 7 (by decide) cw_77 (fun _ h9 => h9) dX2_readItems_99 (fun hv => ?_)
            rw [hmf55]
            refine lv_iconst (v := 1) hx hb dX2_readItems_102 (by decide) ?_
            refine lv_iadd hx hb dX2_readItems_103 ?_
            refine lv_topi (fun zi62 ezi62 => ?_)
            have hzi62 : zi62.toInt = u0_0_7.toInt + 1 := by rw [ezi62]; have : ((1 : Int32).toInt) = 1 := (by decide); have := ia_lo u0_0_7; have := ia_hi u0_0_7; exact (ia_add (by omega) (by omega)).trans (by omega)
            refine tw_put (ci := 2) (v := .int zi62) (ty := .int) (C := RX2) (T := TX2) (N := 13) hx hb hB cx_inX2 tyX2 tyX2_ok nmX2 hown hK TH hS hm0 hk0 rfl ⟨by decide, rfl⟩ 7 (by decide) cw_77 (fun _ h9 => h9) rfl (by decide +kernel) rfl rfl ⟨_, rfl, (show 0 ≤ Int32.toInt zi62 from by  omega), (show Int32.toInt zi62 ≤ 500 from by  omega)⟩ dX2_readItems_104 (fun H locs E63 TH hS hmf67 hp64 hp65 => ?_)
            have hst66 : tw_fr kp L [(2, 7)] [] E51 E63 := tw_fr.put tw_fr.rf (fun _ => hk0) (by decide) hp64 hp65 (by decide)
            have hF := hF.tr hst66 (fun _ h => ⟨h, rfl⟩) (by decide) (by decide)
            have hG0 := hG0.tr hst66 (fun _ h => ⟨h, rfl⟩) (by decide) (by decide)
            have hmf68 : tw_fv E63 a1 1 = .int fv1_1 := (hst66.1 a1 1 hm1 (by rw [hk1]; decide)).trans hmf53
            have hmf69 : tw_fv E63 a0 1 = .int fv0_1 := (hst66.1 a0 1 hm0 (by rw [hk0]; decide)).trans hmf54
            have hmf70 : tw_fv E63 a0 8 = .ref xr9 := (hst66.1 a0 8 hm0 (by rw [hk0]; decide)).trans hmf56
            have hmf71 : tw_fv E63 a0 9 = .ref xr22 := (hst66.1 a0 9 hm0 (by rw [hk0]; decide)).trans hmf57
            have hmf72 : tw_fv E63 a0 11 = .ref xr36 := (hst66.1 a0 11 hm0 (by rw [hk0]; decide)).trans hmf58
            have hmf73 : tw_fv E63 a1 3 = .int zfxc52_0_0 := (hst66.1 a1 3 hm1 (by rw [hk1]; decide)).trans hzfxc52_0_0
            have hmf74 : tw_fv E63 a1 4 = .int zfxc52_0_1 := (hst66.1 a1 4 hm1 (by rw [hk1]; decide)).trans hzfxc52_0_1
            have hmf75 : tw_fv E63 a1 2 = .int xi59 := (hst66.1 a1 2 hm1 (by rw [hk1]; decide)).trans hxi59
            have hcf8 : cf_ok E63 a0 8 (fun j => if j = (u0_0_7.toInt).toNat then u0_1_3.toInt else (tw_el Eg0 a0 8) j) := c8_ok_fr TH hst66 hm0 hk0 (by decide) (by decide) hcf8
            have hcf9 : cf_ok E63 a0 9 (fun j => if j = (u0_0_7.toInt).toNat then u0_1_4.toInt else (tw_el Eg0 a0 9) j) := c9_ok_fr TH hst66 hm0 hk0 (by decide) (by decide) hcf9
            refine lv_goto (tgt := 0) hx hb dX2_readItems_107 (by decide) ?_
            exact ih0 (n0 - 1) (by   omega) zfxc52_0_0 zfxc52_0_1 xi59 zi62 _ _ _ ls (by omega) (by omega) (by omega) (by omega) (by omega) (by omega) (by omega) (by omega) (by  omega) (by  omega) (by  omega) (by  exact hp1.2) (by  have hI : (prs (tw_el E63 a0 8) (tw_el E63 a0 9) (zi62.toInt)) = gy_ins (prs (tw_el Eg0 a0 8) (tw_el Eg0 a0 9) (u0_0_7.toInt)) (u0_1_3.toInt, u0_1_4.toInt) := prs_push (k := u0_0_7.toInt) (by omega) (by omega) hcf8 hcf9; intro q; rw [hI]; exact hgy.1 q) (by  have hI : (prs (tw_el E63 a0 8) (tw_el E63 a0 9) (zi62.toInt)) = gy_ins (prs (tw_el Eg0 a0 8) (tw_el Eg0 a0 9) (u0_0_7.toInt)) (u0_1_3.toInt, u0_1_4.toInt) := prs_push (k := u0_0_7.toInt) (by omega) (by omega) hcf8 hcf9; intro q; rw [hI]; exact hgy.2 q) (by  omega) (by  have hI : (prs (tw_el E63 a0 8) (tw_el E63 a0 9) (zi62.toInt)) = gy_ins (prs (tw_el Eg0 a0 8) (tw_el Eg0 a0 9) (u0_0_7.toInt)) (u0_1_3.toInt, u0_1_4.toInt) := prs_push (k := u0_0_7.toInt) (by omega) (by omega) hcf8 hcf9; rw [hI]; exact ib_ins hin0_7 (by omega) (by omega) (by omega)) (by  omega) (by   omega) hmf73 hmf74 hmf75 hmf67 hG0 TH hS (lv_sub hl [0, 1, 2] rfl)
          · have hf76 : ¬ (x2.toInt = 0) := fun q => hc60 ((fa_eq _ _).mpr (by have : ((0 : Int32).toInt) = 0 := (by decide); omega))
            refine lv_aload_n hx hb dX2_readItems_62 rfl (lv_at hl 1 rfl) ?_
            refine tw_get (ci := 9) (C := RX9) (T := TX9) (N := 5) hx hb hB cx_inX9 hown hK TH hm1 hk1 rfl ⟨by decide, rfl⟩ 2 (by decide) cw_40 (fun _ h9 => h9) dX2_readItems_63 (fun hv => ?_)
            rw [hxi59]
            refine lv_bipush (v := 63) hx hb dX2_readItems_66 (by decide) ?_
            refine lv_icmp_eq (tgt := 80) hx hb dX2_readItems_68 (by decide) (fun hc77 => ?_) (fun hc77 => ?_)
            · have hf78 : xi59.toInt = 63 := by have z := (fa_eq _ _).mp hc77; have : ((63 : Int32).toInt) = 63 := (by decide); omega
              refine lv_aload_n hx hb dX2_readItems_80 rfl (lv_at hl 0 rfl) ?_
              refine tw_get (ci := 2) (C := RX2) (T := TX2) (N := 13) hx hb hB cx_inX2 hown hK TH hm0 hk0 rfl ⟨by decide, rfl⟩ 11 (by decide) cw_81 (fun _ h9 => h9) dX2_readItems_81 (fun hv => ?_)
              rw [hmf58]
              refine lv_aload_n hx hb dX2_readItems_84 rfl (lv_at hl 0 rfl) ?_
              refine tw_get (ci := 2) (C := RX2) (T := TX2) (N := 13) hx hb hB cx_inX2 hown hK TH hm0 hk0 rfl ⟨by decide, rfl⟩ 7 (by decide) cw_77 (fun _ h9 => h9) dX2_readItems_85 (fun hv => ?_)
              rw [hmf55]
              refine lv_aload_n hx hb dX2_readItems_88 rfl (lv_at hl 1 rfl) ?_
              refine tw_get (ci := 9) (C := RX9) (T := TX9) (N := 5) hx hb hB cx_inX9 hown hK TH hm1 hk1 rfl ⟨by decide, rfl⟩ 2 (by decide) cw_40 (fun _ h9 => h9) dX2_readItems_89 (fun hv => ?_)
              rw [hxi59]
              refine tw_iast (k := 134) (n := 500) (lo := 0) (hi := 255) hx hb hK TH hS hmxr36 hkxr36 (by decide) rfl (i := u0_0_7) (x := xi59) (vp_in_iff.mpr ⟨by  omega, by  omega⟩) (by omega) (by omega) dX2_readItems_92 (fun H locs E79 TH hS hp80 hp81 hp82 => ?_)
              have hst83 : tw_fr kp L [] [134] E51 E79 := tw_fr.ast tw_fr.rf (fun _ => hkxr36) hp80 hp81 (by decide)
              have hF := hF.tr hst83 (fun _ h => ⟨h, rfl⟩) (by decide) (by decide)
              have hG0 := hG0.tr hst83 (fun _ h => ⟨h, rfl⟩) (by decide) (by decide)
              have hmf84 : tw_fv E79 a1 1 = .int fv1_1 := (hst83.1 a1 1 hm1 (by rw [hk1]; decide)).trans hmf53
              have hmf85 : tw_fv E79 a0 1 = .int fv0_1 := (hst83.1 a0 1 hm0 (by rw [hk0]; decide)).trans hmf54
              have hmf86 : tw_fv E79 a0 7 = .int u0_0_7 := (hst83.1 a0 7 hm0 (by rw [hk0]; decide)).trans hmf55
              have hmf87 : tw_fv E79 a0 8 = .ref xr9 := (hst83.1 a0 8 hm0 (by rw [hk0]; decide)).trans hmf56
              have hmf88 : tw_fv E79 a0 9 = .ref xr22 := (hst83.1 a0 9 hm0 (by rw [hk0]; decide)).trans hmf57
              have hmf89 : tw_fv E79 a0 11 = .ref xr36 := (hst83.1 a0 11 hm0 (by rw [hk0]; decide)).trans hmf58
              have hmf90 : tw_fv E79 a1 3 = .int zfxc52_0_0 := (hst83.1 a1 3 hm1 (by rw [hk1]; decide)).trans hzfxc52_0_0
              have hmf91 : tw_fv E79 a1 4 = .int zfxc52_0_1 := (hst83.1 a1 4 hm1 (by rw [hk1]; decide)).trans hzfxc52_0_1
              have hmf92 : tw_fv E79 a1 2 = .int xi59 := (hst83.1 a1 2 hm1 (by rw [hk1]; decide)).trans hxi59
              have hcf8 : cf_ok E79 a0 8 (fun j => if j = (u0_0_7.toInt).toNat then u0_1_3.toInt else (tw_el Eg0 a0 8) j) := c8_ok_fr TH hst83 hm0 hk0 (by decide) (by decide) hcf8
              have hcf9 : cf_ok E79 a0 9 (fun j => if j = (u0_0_7.toInt).toNat then u0_1_4.toInt else (tw_el Eg0 a0 9) j) := c9_ok_fr TH hst83 hm0 hk0 (by decide) (by decide) hcf9
              have ft93 := elg_fr TH hF hm1 hk1 (k := 0) (by decide) (by decide) rfl (by decide) (by decide) (by decide)
              refine lv_aload_n hx hb dX2_readItems_93 rfl (lv_at hl 1 rfl) ?_
              refine tw_Vc (o := a1) (ci := 9) (n := 0) (post := (fun v kq Lq Eq => v = none ∧ kp = kq ∧ L = Lq ∧ tw_fr kp L [(9, 2), (9, 3), (9, 4)] [] E79 Eq ∧ (lx_WS (tw_el E79 a1 0) fv1_1.toInt zfxc52_0_1.toInt (tw_fi Eq a1 3) ∧ tc_tk (tw_el E79 a1 0) fv1_1.toInt (tw_fi Eq a1 3) (tw_fi Eq a1 4) (tw_fi Eq a1 2)) ∧ (∃ z0 z1 : Int32, tw_fv Eq a1 3 = .int z0 ∧ tw_fv Eq a1 4 = .int z1 ∧ (z0.toInt ≤ z1.toInt ∧ z1.toInt ≤ fv1_1.toInt ∧ zfxc52_0_1.toInt ≤ z0.toInt)))) (As := []) (rest := []) ⟨hx, hb, hml, hown, hB⟩ (fun sz => tX9_advance_vG l D cs a1 zfxc52_0_1 fv1_1 hm1 hk1 hmf91 hmf84 (by  omega) sz) cg_2_71_X9_advance rfl rfl (by decide +kernel) ⟨Nat.le_of_ble_eq_true rfl, Nat.le_of_ble_eq_true rfl⟩ hK hN TH hS hA rfl hm1 hk1 (by decide) rfl hl.1 rfl (Nat.le_of_ble_eq_true rfl) dX2_readItems_94 ⟨Nat.le_of_ble_eq_true rfl, Nat.le_of_ble_eq_true rfl⟩ (fun v93 kp93 L93 E93 H locs hq93 hx93 TH hS => ?_)
              obtain ⟨rfl, rfl, rfl, hst93, hpoxc94_0, ⟨zfxc94_0_0, zfxc94_0_1, hzfxc94_0_0, hzfxc94_0_1, hzpxc94_0⟩⟩ := hq93
              have hF := hF.tr hst93 (fun _ h => ⟨h, rfl⟩) (by decide) (by decide)
              have hG0 := hG0.tr hst93 (fun _ h => ⟨h, rfl⟩) (by decide) (by decide)
              have hmf95 : tw_fv E93 a1 1 = .int fv1_1 := (hst93.1 a1 1 hm1 (by rw [hk1]; decide)).trans hmf84
              have hmf96 : tw_fv E93 a0 1 = .int fv0_1 := (hst93.1 a0 1 hm0 (by rw [hk0]; decide)).trans hmf85
              have hmf97 : tw_fv E93 a0 7 = .int u0_0_7 := (hst93.1 a0 7 hm0 (by rw [hk0]; decide)).trans hmf86
              have hmf98 : tw_fv E93 a0 8 = .ref xr9 := (hst93.1 a0 8 hm0 (by rw [hk0]; decide)).trans hmf87
              have hmf99 : tw_fv E93 a0 9 = .ref xr22 := (hst93.1 a0 9 hm0 (by rw [hk0]; decide)).trans hmf88
              have hmf100 : tw_fv E93 a0 11 = .ref xr36 := (hst93.1 a0 11 hm0 (by rw [hk0]; decide)).trans hmf89
              have hcf8 : cf_ok E93 a0 8 (fun j => if j = (u0_0_7.toInt).toNat then u0_1_3.toInt else (tw_el Eg0 a0 8) j) := c8_ok_fr TH hst93 hm0 hk0 (by decide) (by decide) hcf8
              have hcf9 : cf_ok E93 a0 9 (fun j => if j = (u0_0_7.toInt).toNat then u0_1_4.toInt else (tw_el Eg0 a0 9) j) := c9_ok_fr TH hst93 hm0 hk0 (by decide) (by decide) hcf9
              obtain ⟨qzfxc94_0_0, hqzfxc94_0_0, hqzfxc94_0_0a, hqzfxc94_0_0b⟩ := tw_rd TH hm1 hk1 (by decide) (by decide) (k := 3) rfl
              have eqzfxc94_0_0 : qzfxc94_0_0 = zfxc94_0_0 := by have q := hqzfxc94_0_0.symm.trans hzfxc94_0_0; injection q
              rw [eqzfxc94_0_0] at hqzfxc94_0_0a hqzfxc94_0_0b
              obtain ⟨qzfxc94_0_1, hqzfxc94_0_1, hqzfxc94_0_1a, hqzfxc94_0_1b⟩ := tw_rd TH hm1 hk1 (by decide) (by decide) (k := 4) rfl
              have eqzfxc94_0_1 : qzfxc94_0_1 = zfxc94_0_1 := by have q := hqzfxc94_0_1.symm.trans hzfxc94_0_1; injection q
              rw [eqzfxc94_0_1] at hqzfxc94_0_1a hqzfxc94_0_1b
              refine W.eq (g2 := F0 m 97 ls []) rfl ?_
              obtain ⟨xi101, hxi101, hxi101a, hxi101b⟩ := tw_rd TH hm1 hk1 (by decide) (by decide) (k := 2) rfl
              have hp2 := hpoxc94_0
              rw [ft93, tw_fi_of hzfxc94_0_0, tw_fi_of hzfxc94_0_1, tw_fi_of hxi101] at hp2
              have hq2 : (cq_ (x2.toInt)) = 2 := cq_2 (by omega)
              have hgy := cy_im hq2 hga hin0_3 (by omega) (by omega) (by omega) hp1.1 hp1.2 (by omega) hp2.1 hp2.2
              refine lv_aload_n hx hb dX2_readItems_97 rfl (lv_at hl 0 rfl) ?_
              refine lv_dup hx hb dX2_readItems_98 rfl ?_
              refine tw_get (ci := 2) (C := RX2) (T := TX2) (N := 13) hx hb hB cx_inX2 hown hK TH hm0 hk0 rfl ⟨by decide, rfl⟩ 7 (by decide) cw_77 (fun _ h9 => h9) dX2_readItems_99 (fun hv => ?_)
              rw [hmf97]
              refine lv_iconst (v := 1) hx hb dX2_readItems_102 (by decide) ?_
              refine lv_iadd hx hb dX2_readItems_103 ?_
              refine lv_topi (fun zi102 ezi102 => ?_)
              have hzi102 : zi102.toInt = u0_0_7.toInt + 1 := by rw [ezi102]; have : ((1 : Int32).toInt) = 1 := (by decide); have := ia_lo u0_0_7; have := ia_hi u0_0_7; exact (ia_add (by omega) (by omega)).trans (by omega)
              refine tw_put (ci := 2) (v := .int zi102) (ty := .int) (C := RX2) (T := TX2) (N := 13) hx hb hB cx_inX2 tyX2 tyX2_ok nmX2 hown hK TH hS hm0 hk0 rfl ⟨by decide, rfl⟩ 7 (by decide) cw_77 (fun _ h9 => h9) rfl (by decide +kernel) rfl rfl ⟨_, rfl, (show 0 ≤ Int32.toInt zi102 from by  omega), (show Int32.toInt zi102 ≤ 500 from by  omega)⟩ dX2_readItems_104 (fun H locs E103 TH hS hmf107 hp104 hp105 => ?_)
              have hst106 : tw_fr kp L [(2, 7)] [] E93 E103 := tw_fr.put tw_fr.rf (fun _ => hk0) (by decide) hp104 hp105 (by decide)
              have hF := hF.tr hst106 (fun _ h => ⟨h, rfl⟩) (by decide) (by decide)
              have hG0 := hG0.tr hst106 (fun _ h => ⟨h, rfl⟩) (by decide) (by decide)
              have hmf108 : tw_fv E103 a1 1 = .int fv1_1 := (hst106.1 a1 1 hm1 (by rw [hk1]; decide)).trans hmf95
              have hmf109 : tw_fv E103 a0 1 = .int fv0_1 := (hst106.1 a0 1 hm0 (by rw [hk0]; decide)).trans hmf96
              have hmf110 : tw_fv E103 a0 8 = .ref xr9 := (hst106.1 a0 8 hm0 (by rw [hk0]; decide)).trans hmf98
              have hmf111 : tw_fv E103 a0 9 = .ref xr22 := (hst106.1 a0 9 hm0 (by rw [hk0]; decide)).trans hmf99
              have hmf112 : tw_fv E103 a0 11 = .ref xr36 := (hst106.1 a0 11 hm0 (by rw [hk0]; decide)).trans hmf100
              have hmf113 : tw_fv E103 a1 3 = .int zfxc94_0_0 := (hst106.1 a1 3 hm1 (by rw [hk1]; decide)).trans hzfxc94_0_0
              have hmf114 : tw_fv E103 a1 4 = .int zfxc94_0_1 := (hst106.1 a1 4 hm1 (by rw [hk1]; decide)).trans hzfxc94_0_1
              have hmf115 : tw_fv E103 a1 2 = .int xi101 := (hst106.1 a1 2 hm1 (by rw [hk1]; decide)).trans hxi101
              have hcf8 : cf_ok E103 a0 8 (fun j => if j = (u0_0_7.toInt).toNat then u0_1_3.toInt else (tw_el Eg0 a0 8) j) := c8_ok_fr TH hst106 hm0 hk0 (by decide) (by decide) hcf8
              have hcf9 : cf_ok E103 a0 9 (fun j => if j = (u0_0_7.toInt).toNat then u0_1_4.toInt else (tw_el Eg0 a0 9) j) := c9_ok_fr TH hst106 hm0 hk0 (by decide) (by decide) hcf9
              refine lv_goto (tgt := 0) hx hb dX2_readItems_107 (by decide) ?_
              exact ih0 (n0 - 1) (by   omega) zfxc94_0_0 zfxc94_0_1 xi101 zi102 _ _ _ ls (by omega) (by omega) (by omega) (by omega) (by omega) (by omega) (by omega) (by omega) (by  omega) (by  omega) (by  omega) (by  exact hp2.2) (by  have hI : (prs (tw_el E103 a0 8) (tw_el E103 a0 9) (zi102.toInt)) = gy_ins (prs (tw_el Eg0 a0 8) (tw_el Eg0 a0 9) (u0_0_7.toInt)) (u0_1_3.toInt, u0_1_4.toInt) := prs_push (k := u0_0_7.toInt) (by omega) (by omega) hcf8 hcf9; intro q; rw [hI]; exact hgy.1 q) (by  have hI : (prs (tw_el E103 a0 8) (tw_el E103 a0 9) (zi102.toInt)) = gy_ins (prs (tw_el Eg0 a0 8) (tw_el Eg0 a0 9) (u0_0_7.toInt)) (u0_1_3.toInt, u0_1_4.toInt) := prs_push (k := u0_0_7.toInt) (by omega) (by omega) hcf8 hcf9; intro q; rw [hI]; exact hgy.2 q) (by  omega) (by  have hI : (prs (tw_el E103 a0 8) (tw_el E103 a0 9) (zi102.toInt)) = gy_ins (prs (tw_el Eg0 a0 8) (tw_el Eg0 a0 9) (u0_0_7.toInt)) (u0_1_3.toInt, u0_1_4.toInt) := prs_push (k := u0_0_7.toInt) (by omega) (by omega) hcf8 hcf9; rw [hI]; exact ib_ins hin0_7 (by omega) (by omega) (by omega)) (by  omega) (by   omega) hmf113 hmf114 hmf115 hmf107 hG0 TH hS (lv_sub hl [0, 1, 2] rfl)
            · have hf116 : ¬ (xi59.toInt = 63) := fun q => hc77 ((fa_eq _ _).mpr (by have : ((63 : Int32).toInt) = 63 := (by decide); omega))
              refine lv_aload_n hx hb dX2_readItems_71 rfl (lv_at hl 1 rfl) ?_
              refine tw_get (ci := 9) (C := RX9) (T := TX9) (N := 5) hx hb hB cx_inX9 hown hK TH hm1 hk1 rfl ⟨by decide, rfl⟩ 2 (by decide) cw_40 (fun _ h9 => h9) dX2_readItems_72 (fun hv => ?_)
              rw [hxi59]
              refine lv_bipush (v := 42) hx hb dX2_readItems_75 (by decide) ?_
              refine lv_icmp_ne (tgt := 97) hx hb dX2_readItems_77 (by decide) (fun hc117 => ?_) (fun hc117 => ?_)
              · have hf118 : ¬ (xi59.toInt = 42) := fun q => hc117 ((fa_eq _ _).mpr (by have : ((42 : Int32).toInt) = 42 := (by decide); omega))
                have hgy := cy_in (cq_12 _) hga hin0_3 (by omega) (by omega) (by omega) hp1.1 hp1.2 (fun z => (by have z1 := cq_n z.1; omega))
                refine lv_aload_n hx hb dX2_readItems_97 rfl (lv_at hl 0 rfl) ?_
                refine lv_dup hx hb dX2_readItems_98 rfl ?_
                refine tw_get (ci := 2) (C := RX2) (T := TX2) (N := 13) hx hb hB cx_inX2 hown hK TH hm0 hk0 rfl ⟨by decide, rfl⟩ 7 (by decide) cw_77 (fun _ h9 => h9) dX2_readItems_99 (fun hv => ?_)
                rw [hmf55]
                refine lv_iconst (v := 1) hx hb dX2_readItems_102 (by decide) ?_
                refine lv_iadd hx hb dX2_readItems_103 ?_
                refine lv_topi (fun zi119 ezi119 => ?_)
                have hzi119 : zi119.toInt = u0_0_7.toInt + 1 := by rw [ezi119]; have : ((1 : Int32).toInt) = 1 := (by decide); have := ia_lo u0_0_7; have := ia_hi u0_0_7; exact (ia_add (by omega) (by omega)).trans (by omega)
                refine tw_put (ci := 2) (v := .int zi119) (ty := .int) (C := RX2) (T := TX2) (N := 13) hx hb hB cx_inX2 tyX2 tyX2_ok nmX2 hown hK TH hS hm0 hk0 rfl ⟨by decide, rfl⟩ 7 (by decide) cw_77 (fun _ h9 => h9) rfl (by decide +kernel) rfl rfl ⟨_, rfl, (show 0 ≤ Int32.toInt zi119 from by  omega), (show Int32.toInt zi119 ≤ 500 from by  omega)⟩ dX2_readItems_104 (fun H locs E120 TH hS hmf124 hp121 hp122 => ?_)
                have hst123 : tw_fr kp L [(2, 7)] [] E51 E120 := tw_fr.put tw_fr.rf (fun _ => hk0) (by decide) hp121 hp122 (by decide)
                have hF := hF.tr hst123 (fun _ h => ⟨h, rfl⟩) (by decide) (by decide)
                have hG0 := hG0.tr hst123 (fun _ h => ⟨h, rfl⟩) (by decide) (by decide)
                have hmf125 : tw_fv E120 a1 1 = .int fv1_1 := (hst123.1 a1 1 hm1 (by rw [hk1]; decide)).trans hmf53
                have hmf126 : tw_fv E120 a0 1 = .int fv0_1 := (hst123.1 a0 1 hm0 (by rw [hk0]; decide)).trans hmf54
                have hmf127 : tw_fv E120 a0 8 = .ref xr9 := (hst123.1 a0 8 hm0 (by rw [hk0]; decide)).trans hmf56
                have hmf128 : tw_fv E120 a0 9 = .ref xr22 := (hst123.1 a0 9 hm0 (by rw [hk0]; decide)).trans hmf57
                have hmf129 : tw_fv E120 a0 11 = .ref xr36 := (hst123.1 a0 11 hm0 (by rw [hk0]; decide)).trans hmf58
                have hmf130 : tw_fv E120 a1 3 = .int zfxc52_0_0 := (hst123.1 a1 3 hm1 (by rw [hk1]; decide)).trans hzfxc52_0_0
                have hmf131 : tw_fv E120 a1 4 = .int zfxc52_0_1 := (hst123.1 a1 4 hm1 (by rw [hk1]; decide)).trans hzfxc52_0_1
                have hmf132 : tw_fv E120 a1 2 = .int xi59 := (hst123.1 a1 2 hm1 (by rw [hk1]; decide)).trans hxi59
                have hcf8 : cf_ok E120 a0 8 (fun j => if j = (u0_0_7.toInt).toNat then u0_1_3.toInt else (tw_el Eg0 a0 8) j) := c8_ok_fr TH hst123 hm0 hk0 (by decide) (by decide) hcf8
                have hcf9 : cf_ok E120 a0 9 (fun j => if j = (u0_0_7.toInt).toNat then u0_1_4.toInt else (tw_el Eg0 a0 9) j) := c9_ok_fr TH hst123 hm0 hk0 (by decide) (by decide) hcf9
                refine lv_goto (tgt := 0) hx hb dX2_readItems_107 (by decide) ?_
                exact ih0 (n0 - 1) (by   omega) zfxc52_0_0 zfxc52_0_1 xi59 zi119 _ _ _ ls (by omega) (by omega) (by omega) (by omega) (by omega) (by omega) (by omega) (by omega) (by  omega) (by  omega) (by  omega) (by  exact hp1.2) (by  have hI : (prs (tw_el E120 a0 8) (tw_el E120 a0 9) (zi119.toInt)) = gy_ins (prs (tw_el Eg0 a0 8) (tw_el Eg0 a0 9) (u0_0_7.toInt)) (u0_1_3.toInt, u0_1_4.toInt) := prs_push (k := u0_0_7.toInt) (by omega) (by omega) hcf8 hcf9; intro q; rw [hI]; exact hgy.1 q) (by  have hI : (prs (tw_el E120 a0 8) (tw_el E120 a0 9) (zi119.toInt)) = gy_ins (prs (tw_el Eg0 a0 8) (tw_el Eg0 a0 9) (u0_0_7.toInt)) (u0_1_3.toInt, u0_1_4.toInt) := prs_push (k := u0_0_7.toInt) (by omega) (by omega) hcf8 hcf9; intro q; rw [hI]; exact hgy.2 q) (by  omega) (by  have hI : (prs (tw_el E120 a0 8) (tw_el E120 a0 9) (zi119.toInt)) = gy_ins (prs (tw_el Eg0 a0 8) (tw_el Eg0 a0 9) (u0_0_7.toInt)) (u0_1_3.toInt, u0_1_4.toInt) := prs_push (k := u0_0_7.toInt) (by omega) (by omega) hcf8 hcf9; rw [hI]; exact ib_ins hin0_7 (by omega) (by omega) (by omega)) (by  omega) (by   omega) hmf130 hmf131 hmf132 hmf124 hG0 TH hS (lv_sub hl [0, 1, 2] rfl)
              · have hf133 : xi59.toInt = 42 := by have z := (fa_eq _ _).mp hc117; have : ((42 : Int32).toInt) = 42 := (by decide); omega
                refine lv_aload_n hx hb dX2_readItems_80 rfl (lv_at hl 0 rfl) ?_
                refine tw_get (ci := 2) (C := RX2) (T := TX2) (N := 13) hx hb hB cx_inX2 hown hK TH hm0 hk0 rfl ⟨by decide, rfl⟩ 11 (by decide) cw_81 (fun _ h9 => h9) dX2_readItems_81 (fun hv => ?_)
                rw [hmf58]
                refine lv_aload_n hx hb dX2_readItems_84 rfl (lv_at hl 0 rfl) ?_
                refine tw_get (ci := 2) (C := RX2) (T := TX2) (N := 13) hx hb hB cx_inX2 hown hK TH hm0 hk0 rfl ⟨by decide, rfl⟩ 7 (by decide) cw_77 (fun _ h9 => h9) dX2_readItems_85 (fun hv => ?_)
                rw [hmf55]
                refine lv_aload_n hx hb dX2_readItems_88 rfl (lv_at hl 1 rfl) ?_
                refine tw_get (ci := 9) (C := RX9) (T := TX9) (N := 5) hx hb hB cx_inX9 hown hK TH hm1 hk1 rfl ⟨by decide, rfl⟩ 2 (by decide) cw_40 (fun _ h9 => h9) dX2_readItems_89 (fun hv => ?_)
                rw [hxi59]
                refine tw_iast (k := 134) (n := 500) (lo := 0) (hi := 255) hx hb hK TH hS hmxr36 hkxr36 (by decide) rfl (i := u0_0_7) (x := xi59) (vp_in_iff.mpr ⟨by  omega, by  omega⟩) (by omega) (by omega) dX2_readItems_92 (fun H locs E134 TH hS hp135 hp136 hp137 => ?_)
                have hst138 : tw_fr kp L [] [134] E51 E134 := tw_fr.ast tw_fr.rf (fun _ => hkxr36) hp135 hp136 (by decide)
                have hF := hF.tr hst138 (fun _ h => ⟨h, rfl⟩) (by decide) (by decide)
                have hG0 := hG0.tr hst138 (fun _ h => ⟨h, rfl⟩) (by decide) (by decide)
                have hmf139 : tw_fv E134 a1 1 = .int fv1_1 := (hst138.1 a1 1 hm1 (by rw [hk1]; decide)).trans hmf53
                have hmf140 : tw_fv E134 a0 1 = .int fv0_1 := (hst138.1 a0 1 hm0 (by rw [hk0]; decide)).trans hmf54
                have hmf141 : tw_fv E134 a0 7 = .int u0_0_7 := (hst138.1 a0 7 hm0 (by rw [hk0]; decide)).trans hmf55
                have hmf142 : tw_fv E134 a0 8 = .ref xr9 := (hst138.1 a0 8 hm0 (by rw [hk0]; decide)).trans hmf56
                have hmf143 : tw_fv E134 a0 9 = .ref xr22 := (hst138.1 a0 9 hm0 (by rw [hk0]; decide)).trans hmf57
                have hmf144 : tw_fv E134 a0 11 = .ref xr36 := (hst138.1 a0 11 hm0 (by rw [hk0]; decide)).trans hmf58
                have hmf145 : tw_fv E134 a1 3 = .int zfxc52_0_0 := (hst138.1 a1 3 hm1 (by rw [hk1]; decide)).trans hzfxc52_0_0
                have hmf146 : tw_fv E134 a1 4 = .int zfxc52_0_1 := (hst138.1 a1 4 hm1 (by rw [hk1]; decide)).trans hzfxc52_0_1
                have hmf147 : tw_fv E134 a1 2 = .int xi59 := (hst138.1 a1 2 hm1 (by rw [hk1]; decide)).trans hxi59
                have hcf8 : cf_ok E134 a0 8 (fun j => if j = (u0_0_7.toInt).toNat then u0_1_3.toInt else (tw_el Eg0 a0 8) j) := c8_ok_fr TH hst138 hm0 hk0 (by decide) (by decide) hcf8
                have hcf9 : cf_ok E134 a0 9 (fun j => if j = (u0_0_7.toInt).toNat then u0_1_4.toInt else (tw_el Eg0 a0 9) j) := c9_ok_fr TH hst138 hm0 hk0 (by decide) (by decide) hcf9
                have ft93 := elg_fr TH hF hm1 hk1 (k := 0) (by decide) (by decide) rfl (by decide) (by decide) (by decide)
                refine lv_aload_n hx hb dX2_readItems_93 rfl (lv_at hl 1 rfl) ?_
                refine tw_Vc (o := a1) (ci := 9) (n := 0) (post := (fun v kq Lq Eq => v = none ∧ kp = kq ∧ L = Lq ∧ tw_fr kp L [(9, 2), (9, 3), (9, 4)] [] E134 Eq ∧ (lx_WS (tw_el E134 a1 0) fv1_1.toInt zfxc52_0_1.toInt (tw_fi Eq a1 3) ∧ tc_tk (tw_el E134 a1 0) fv1_1.toInt (tw_fi Eq a1 3) (tw_fi Eq a1 4) (tw_fi Eq a1 2)) ∧ (∃ z0 z1 : Int32, tw_fv Eq a1 3 = .int z0 ∧ tw_fv Eq a1 4 = .int z1 ∧ (z0.toInt ≤ z1.toInt ∧ z1.toInt ≤ fv1_1.toInt ∧ zfxc52_0_1.toInt ≤ z0.toInt)))) (As := []) (rest := []) ⟨hx, hb, hml, hown, hB⟩ (fun sz => tX9_advance_vG l D cs a1 zfxc52_0_1 fv1_1 hm1 hk1 hmf146 hmf139 (by  omega) sz) cg_2_71_X9_advance rfl rfl (by decide +kernel) ⟨Nat.le_of_ble_eq_true rfl, Nat.le_of_ble_eq_true rfl⟩ hK hN TH hS hA rfl hm1 hk1 (by decide) rfl hl.1 rfl (Nat.le_of_ble_eq_true rfl) dX2_readItems_94 ⟨Nat.le_of_ble_eq_true rfl, Nat.le_of_ble_eq_true rfl⟩ (fun v148 kp148 L148 E148 H locs hq148 hx148 TH hS => ?_)
                obtain ⟨rfl, rfl, rfl, hst148, hpoxc149_0, ⟨zfxc149_0_0, zfxc149_0_1, hzfxc149_0_0, hzfxc149_0_1, hzpxc149_0⟩⟩ := hq148
                have hF := hF.tr hst148 (fun _ h => ⟨h, rfl⟩) (by decide) (by decide)
                have hG0 := hG0.tr hst148 (fun _ h => ⟨h, rfl⟩) (by decide) (by decide)
                have hmf150 : tw_fv E148 a1 1 = .int fv1_1 := (hst148.1 a1 1 hm1 (by rw [hk1]; decide)).trans hmf139
                have hmf151 : tw_fv E148 a0 1 = .int fv0_1 := (hst148.1 a0 1 hm0 (by rw [hk0]; decide)).trans hmf140
                have hmf152 : tw_fv E148 a0 7 = .int u0_0_7 := (hst148.1 a0 7 hm0 (by rw [hk0]; decide)).trans hmf141
                have hmf153 : tw_fv E148 a0 8 = .ref xr9 := (hst148.1 a0 8 hm0 (by rw [hk0]; decide)).trans hmf142
                have hmf154 : tw_fv E148 a0 9 = .ref xr22 := (hst148.1 a0 9 hm0 (by rw [hk0]; decide)).trans hmf143
                have hmf155 : tw_fv E148 a0 11 = .ref xr36 := (hst148.1 a0 11 hm0 (by rw [hk0]; decide)).trans hmf144
                have hcf8 : cf_ok E148 a0 8 (fun j => if j = (u0_0_7.toInt).toNat then u0_1_3.toInt else (tw_el Eg0 a0 8) j) := c8_ok_fr TH hst148 hm0 hk0 (by decide) (by decide) hcf8
                have hcf9 : cf_ok E148 a0 9 (fun j => if j = (u0_0_7.toInt).toNat then u0_1_4.toInt else (tw_el Eg0 a0 9) j) := c9_ok_fr TH hst148 hm0 hk0 (by decide) (by decide) hcf9
                obtain ⟨qzfxc149_0_0, hqzfxc149_0_0, hqzfxc149_0_0a, hqzfxc149_0_0b⟩ := tw_rd TH hm1 hk1 (by decide) (by decide) (k := 3) rfl
                have eqzfxc149_0_0 : qzfxc149_0_0 = zfxc149_0_0 := by have q := hqzfxc149_0_0.symm.trans hzfxc149_0_0; injection q
                rw [eqzfxc149_0_0] at hqzfxc149_0_0a hqzfxc149_0_0b
                obtain ⟨qzfxc149_0_1, hqzfxc149_0_1, hqzfxc149_0_1a, hqzfxc149_0_1b⟩ := tw_rd TH hm1 hk1 (by decide) (by decide) (k := 4) rfl
                have eqzfxc149_0_1 : qzfxc149_0_1 = zfxc149_0_1 := by have q := hqzfxc149_0_1.symm.trans hzfxc149_0_1; injection q
                rw [eqzfxc149_0_1] at hqzfxc149_0_1a hqzfxc149_0_1b
                refine W.eq (g2 := F0 m 97 ls []) rfl ?_
                obtain ⟨xi156, hxi156, hxi156a, hxi156b⟩ := tw_rd TH hm1 hk1 (by decide) (by decide) (k := 2) rfl
                have hp2 := hpoxc149_0
                rw [ft93, tw_fi_of hzfxc149_0_0, tw_fi_of hzfxc149_0_1, tw_fi_of hxi156] at hp2
                have hq2 : (cq_ (x2.toInt)) = 2 := cq_2 (by omega)
                have hgy := cy_im hq2 hga hin0_3 (by omega) (by omega) (by omega) hp1.1 hp1.2 (by omega) hp2.1 hp2.2
                refine lv_aload_n hx hb dX2_readItems_97 rfl (lv_at hl 0 rfl) ?_
                refine lv_dup hx hb dX2_readItems_98 rfl ?_
                refine tw_get (ci := 2) (C := RX2) (T := TX2) (N := 13) hx hb hB cx_inX2 hown hK TH hm0 hk0 rfl ⟨by decide, rfl⟩ 7 (by decide) cw_77 (fun _ h9 => h9) dX2_readItems_99 (fun hv => ?_)
                rw [hmf152]
                refine lv_iconst (v := 1) hx hb dX2_readItems_102 (by decide) ?_
                refine lv_iadd hx hb dX2_readItems_103 ?_
                refine lv_topi (fun zi157 ezi157 => ?_)
                have hzi157 : zi157.toInt = u0_0_7.toInt + 1 := by rw [ezi157]; have : ((1 : Int32).toInt) = 1 := (by decide); have := ia_lo u0_0_7; have := ia_hi u0_0_7; exact (ia_add (by omega) (by omega)).trans (by omega)
                refine tw_put (ci := 2) (v := .int zi157) (ty := .int) (C := RX2) (T := TX2) (N := 13) hx hb hB cx_inX2 tyX2 tyX2_ok nmX2 hown hK TH hS hm0 hk0 rfl ⟨by decide, rfl⟩ 7 (by decide) cw_77 (fun _ h9 => h9) rfl (by decide +kernel) rfl rfl ⟨_, rfl, (show 0 ≤ Int32.toInt zi157 from by  omega), (show Int32.toInt zi157 ≤ 500 from by  omega)⟩ dX2_readItems_104 (fun H locs E158 TH hS hmf162 hp159 hp160 => ?_)
                have hst161 : tw_fr kp L [(2, 7)] [] E148 E158 := tw_fr.put tw_fr.rf (fun _ => hk0) (by decide) hp159 hp160 (by decide)
                have hF := hF.tr hst161 (fun _ h => ⟨h, rfl⟩) (by decide) (by decide)
                have hG0 := hG0.tr hst161 (fun _ h => ⟨h, rfl⟩) (by decide) (by decide)
                have hmf163 : tw_fv E158 a1 1 = .int fv1_1 := (hst161.1 a1 1 hm1 (by rw [hk1]; decide)).trans hmf150
                have hmf164 : tw_fv E158 a0 1 = .int fv0_1 := (hst161.1 a0 1 hm0 (by rw [hk0]; decide)).trans hmf151
                have hmf165 : tw_fv E158 a0 8 = .ref xr9 := (hst161.1 a0 8 hm0 (by rw [hk0]; decide)).trans hmf153
                have hmf166 : tw_fv E158 a0 9 = .ref xr22 := (hst161.1 a0 9 hm0 (by rw [hk0]; decide)).trans hmf154
                have hmf167 : tw_fv E158 a0 11 = .ref xr36 := (hst161.1 a0 11 hm0 (by rw [hk0]; decide)).trans hmf155
                have hmf168 : tw_fv E158 a1 3 = .int zfxc149_0_0 := (hst161.1 a1 3 hm1 (by rw [hk1]; decide)).trans hzfxc149_0_0
                have hmf169 : tw_fv E158 a1 4 = .int zfxc149_0_1 := (hst161.1 a1 4 hm1 (by rw [hk1]; decide)).trans hzfxc149_0_1
                have hmf170 : tw_fv E158 a1 2 = .int xi156 := (hst161.1 a1 2 hm1 (by rw [hk1]; decide)).trans hxi156
                have hcf8 : cf_ok E158 a0 8 (fun j => if j = (u0_0_7.toInt).toNat then u0_1_3.toInt else (tw_el Eg0 a0 8) j) := c8_ok_fr TH hst161 hm0 hk0 (by decide) (by decide) hcf8
                have hcf9 : cf_ok E158 a0 9 (fun j => if j = (u0_0_7.toInt).toNat then u0_1_4.toInt else (tw_el Eg0 a0 9) j) := c9_ok_fr TH hst161 hm0 hk0 (by decide) (by decide) hcf9
                refine lv_goto (tgt := 0) hx hb dX2_readItems_107 (by decide) ?_
                exact ih0 (n0 - 1) (by   omega) zfxc149_0_0 zfxc149_0_1 xi156 zi157 _ _ _ ls (by omega) (by omega) (by omega) (by omega) (by omega) (by omega) (by omega) (by omega) (by  omega) (by  omega) (by  omega) (by  exact hp2.2) (by  have hI : (prs (tw_el E158 a0 8) (tw_el E158 a0 9) (zi157.toInt)) = gy_ins (prs (tw_el Eg0 a0 8) (tw_el Eg0 a0 9) (u0_0_7.toInt)) (u0_1_3.toInt, u0_1_4.toInt) := prs_push (k := u0_0_7.toInt) (by omega) (by omega) hcf8 hcf9; intro q; rw [hI]; exact hgy.1 q) (by  have hI : (prs (tw_el E158 a0 8) (tw_el E158 a0 9) (zi157.toInt)) = gy_ins (prs (tw_el Eg0 a0 8) (tw_el Eg0 a0 9) (u0_0_7.toInt)) (u0_1_3.toInt, u0_1_4.toInt) := prs_push (k := u0_0_7.toInt) (by omega) (by omega) hcf8 hcf9; intro q; rw [hI]; exact hgy.2 q) (by  omega) (by  have hI : (prs (tw_el E158 a0 8) (tw_el E158 a0 9) (zi157.toInt)) = gy_ins (prs (tw_el Eg0 a0 8) (tw_el Eg0 a0 9) (u0_0_7.toInt)) (u0_1_3.toInt, u0_1_4.toInt) := prs_push (k := u0_0_7.toInt) (by omega) (by omega) hcf8 hcf9; rw [hI]; exact ib_ins hin0_7 (by omega) (by omega) (by omega)) (by  omega) (by   omega) hmf168 hmf169 hmf170 hmf162 hG0 TH hS (lv_sub hl [0, 1, 2] rfl)
  exact hJ0 501 fv1_3 fv1_4 fv1_2 fv0_7 _ _ _ ls (by omega) (by omega) (by omega) (by omega) (by omega) (by omega) (by omega) (by omega) (by  omega) (by  omega) (by  omega) (by  exact hpre1) (by  exact hpre2.1) (by  exact hpre2.2) (by  omega) (by  exact hpre4) (by  omega) (by   omega) hfv1_3 hfv1_4 hfv1_2 hfv0_7 tw_fr.rf TH hS (lv_sub hl [0, 1, 2] rfl)
set_option maxHeartbeats 4000000 in
set_option maxRecDepth 100000 in
theorem tX2_resolveItems_vG (l : Launch) (D : va_G) (cs : Nat → ClassId) {kp : Nat → Nat} {L : List Nat} {E : Nat → va_E} (a0 : Nat) (fv0_1 : Int32) (fv0_7 : Int32) (hm0 : a0 ∈ L) (hk0 : kp a0 = 2) (hfv0_1 : tw_fv E a0 1 = .int fv0_1) (hfv0_7 : tw_fv E a0 7 = .int fv0_7) (hpre0 : ib 500 (prs (tw_el E a0 2) (tw_el E a0 3) (fv0_1.toInt))) (sz : Nat) : Met l yX2_resolveItems (.code yX2_resolveItems cX2_resolveItems 2 (some .int) :: cx_big) { frames := 2, cells := 0, slots := 0, locals := 50 } (tw_P D cs kp L E [.ref a0] sz) (tw_Q D cs kp L (fun v kq Lq Eq => (∃ x : Int32, v = some (.int x) ∧ (-1) ≤ x.toInt ∧ x.toInt ≤ 500 ∧ (x.toInt = -1 ↔ ∀ x : Int × Int, (prs (tw_el E a0 8) (tw_el E a0 9) (fv0_7.toInt)) x → gy_nm (tw_el E a0 0) (prs (tw_el E a0 2) (tw_el E a0 3) (fv0_1.toInt)) x)) ∧ kp = kq ∧ L = Lq ∧ tw_fr kp L [] [133] E Eq) (va_A (va_pl L E) sz)) 0 0 (va_A (va_pl L E) sz) := by
  refine tw_ofW (by decide) (Nat.le_of_ble_eq_true rfl) ?_
  intro p e s m below meth c A ls hx hb hr hml hB hown hlocks hK hN hA TH hS hl
  have hown : s.vm.findClass "TreeMerge$Grammar" = some m.cls := hown
  have hl : lv_has ls 2 [(0, .ref a0)] := hl
  obtain ⟨kp0, ekp⟩ : ∃ z, z = kp := ⟨_, rfl⟩
  obtain ⟨L0, eL⟩ : ∃ z, z = L := ⟨_, rfl⟩
  rw [show tw_Q D cs kp L = tw_Q D cs kp0 L0 by rw [ekp, eL]]
  have hex : ∀ a : Nat, a ∈ L0 → a ∈ L ∧ kp a = kp0 a := fun a h => ⟨by rw [← eL]; exact h, by rw [ekp]⟩
  have hF : tw_fr kp L [] [133] E E := tw_fr.rf
  obtain ⟨qfv0_1, hqfv0_1, hqfv0_1a, hqfv0_1b⟩ := tw_rd TH hm0 hk0 (by decide) (by decide) (k := 1) rfl
  have eqfv0_1 : qfv0_1 = fv0_1 := by have q := hqfv0_1.symm.trans hfv0_1; injection q
  rw [eqfv0_1] at hqfv0_1a hqfv0_1b
  obtain ⟨qfv0_7, hqfv0_7, hqfv0_7a, hqfv0_7b⟩ := tw_rd TH hm0 hk0 (by decide) (by decide) (k := 7) rfl
  have eqfv0_7 : qfv0_7 = fv0_7 := by have q := hqfv0_7.symm.trans hfv0_7; injection q
  rw [eqfv0_7] at hqfv0_7a hqfv0_7b
  refine lv_iconst (v := 0) hx hb dX2_resolveItems_0 (by decide) ?_
  refine lv_istore_n (lv' := [(1, .int 0), (0, .ref a0)]) hx hb dX2_resolveItems_1 rfl hl (by decide) rfl (fun ls hl => ?_)
  have hJ2 : ∀ (n2 : Nat) (y2_1 : Int32) (Eg2 : Nat → va_E) (H : Heap) (locs : List Loc) (ls : Array Slot), 0 ≤ y2_1.toInt → y2_1.toInt ≤ 500 → (rv_ok (fun j => gy_nm (tw_el E a0 0) (prs (tw_el E a0 2) (tw_el E a0 3) (fv0_1.toInt)) (tw_el E a0 8 j, tw_el E a0 9 j)) (y2_1.toInt)) → 500 - y2_1.toInt ≤ (n2 : Int) → tw_fr kp L [] [133] E Eg2 → tw_H D cs kp L Eg2 A H → va_S A s.heap H locs → lv_has ls 2 [(1, .int y2_1), (0, .ref a0)] → W p l e { frames := 2, cells := 0, slots := 0, locals := 50 } s m [.ref a0].toArray below meth c H locs 0 0 (MQ below (tw_Q D cs kp0 L0 (fun v kq Lq Eq => (∃ x : Int32, v = some (.int x) ∧ (-1) ≤ x.toInt ∧ x.toInt ≤ 500 ∧ (x.toInt = -1 ↔ ∀ x : Int × Int, (prs (tw_el E a0 8) (tw_el E a0 9) (fv0_7.toInt)) x → gy_nm (tw_el E a0 0) (prs (tw_el E a0 2) (tw_el E a0 3) (fv0_1.toInt)) x)) ∧ kp = kq ∧ L = Lq ∧ tw_fr kp L [] [133] E Eq) A) [.ref a0].toArray s 0 0 A) (F0 m 2 ls []) := by
    intro n2
    induction n2 using Nat.strongRecOn with
    | _ n2 ih2 =>
      intro y2_1 Eg2 H locs ls hy2_1a hy2_1b hin2_0 hmeas2 hG2 TH hS hl
      have hF := hF.tr hG2 (fun _ h => ⟨h, rfl⟩) (by decide) (by decide)
      have hmf1 : tw_fv Eg2 a0 1 = .int fv0_1 := (hG2.1 a0 1 hm0 (by rw [hk0]; decide)).trans hfv0_1
      have hmf2 : tw_fv Eg2 a0 7 = .int fv0_7 := (hG2.1 a0 7 hm0 (by rw [hk0]; decide)).trans hfv0_7
      refine lv_iload_n hx hb dX2_resolveItems_2 rfl (lv_at hl 0 rfl) ?_
      refine lv_aload_n hx hb dX2_resolveItems_3 rfl (lv_at hl 1 rfl) ?_
      refine tw_get (ci := 2) (C := RX2) (T := TX2) (N := 13) hx hb hB cx_inX2 hown hK TH hm0 hk0 rfl ⟨by decide, rfl⟩ 7 (by decide) cw_77 (fun _ h9 => h9) dX2_resolveItems_4 (fun hv => ?_)
      rw [hmf2]
      refine lv_icmp_ge (tgt := 59) hx hb dX2_resolveItems_7 (by decide) (fun hc3 => ?_) (fun hc3 => ?_)
      · have hf4 : fv0_7.toInt ≤ y2_1.toInt := by have z := (fa_le _ _).mp hc3;  omega
        refine lv_iconst (v := (-1)) hx hb dX2_resolveItems_59 (by decide) ?_
        exact tw_iret hx hb hr hlocks TH hS hex ⟨⟨_, rfl, (show (-1) ≤ Int32.toInt (-1) from by have : (((-1) : Int32).toInt) = (-1) := (by decide); omega), (show Int32.toInt (-1) ≤ 500 from by have : (((-1) : Int32).toInt) = (-1) := (by decide); omega), (by have : (((-1) : Int32).toInt) = (-1) := (by decide); refine ⟨fun _ => prs_all.mpr (fun j hj => hin2_0 j (by omega)), fun _ => by decide⟩)⟩, rfl, rfl, hF⟩ (Nat.le_of_ble_eq_true rfl) (Nat.le_of_ble_eq_true rfl) dX2_resolveItems_60
      · have hf5 : ¬ (fv0_7.toInt ≤ y2_1.toInt) := fun q => hc3 ((fa_le _ _).mpr (by  omega))
        refine lv_aload_n hx hb dX2_resolveItems_10 rfl (lv_at hl 1 rfl) ?_
        refine tw_get (ci := 2) (C := RX2) (T := TX2) (N := 13) hx hb hB cx_inX2 hown hK TH hm0 hk0 rfl ⟨by decide, rfl⟩ 10 (by decide) cw_80 (fun _ h9 => h9) dX2_resolveItems_11 (fun hv => ?_)
        obtain ⟨xr6, hxr6, hmxr6, hkxr6⟩ : ∃ a : Nat, tw_fv Eg2 a0 10 = .ref a ∧ a ∈ L ∧ kp a = 133 := hv
        rw [hxr6]
        refine lv_iload_n hx hb dX2_resolveItems_14 rfl (lv_at hl 0 rfl) ?_
        refine lv_aload_n hx hb dX2_resolveItems_15 rfl (lv_at hl 1 rfl) ?_
        refine lv_aload_n hx hb dX2_resolveItems_16 rfl (lv_at hl 1 rfl) ?_
        refine tw_get (ci := 2) (C := RX2) (T := TX2) (N := 13) hx hb hB cx_inX2 hown hK TH hm0 hk0 rfl ⟨by decide, rfl⟩ 0 (by decide) cw_66 (fun _ h9 => h9) dX2_resolveItems_17 (fun hv => ?_)
        obtain ⟨xr7, hxr7, hmxr7, hkxr7⟩ : ∃ a : Nat, tw_fv Eg2 a0 0 = .ref a ∧ a ∈ L ∧ kp a = 100 := hv
        rw [hxr7]
        refine lv_aload_n hx hb dX2_resolveItems_20 rfl (lv_at hl 1 rfl) ?_
        refine tw_get (ci := 2) (C := RX2) (T := TX2) (N := 13) hx hb hB cx_inX2 hown hK TH hm0 hk0 rfl ⟨by decide, rfl⟩ 8 (by decide) cw_78 (fun _ h9 => h9) dX2_resolveItems_21 (fun hv => ?_)
        obtain ⟨xr8, hxr8, hmxr8, hkxr8⟩ : ∃ a : Nat, tw_fv Eg2 a0 8 = .ref a ∧ a ∈ L ∧ kp a = 132 := hv
        rw [hxr8]
        refine lv_iload_n hx hb dX2_resolveItems_24 rfl (lv_at hl 0 rfl) ?_
        refine tw_iald (k := 132) (t0 := 0) (n := 500) (lo := 0) (hi := 500) hx hb hK TH hmxr8 hkxr8 (by decide) rfl rfl (i := y2_1) (vp_in_iff.mpr ⟨by  omega, by  omega⟩) dX2_resolveItems_25 (fun hxe9a hxe9b => ?_)
        obtain ⟨xe9, exe9⟩ : ∃ z : Int32, tw_iv Eg2 xr8 (Int32.toNatClampNeg y2_1) = z := ⟨_, rfl⟩
        rw [exe9] at hxe9a hxe9b ⊢
        refine lv_aload_n hx hb dX2_resolveItems_26 rfl (lv_at hl 1 rfl) ?_
        refine tw_get (ci := 2) (C := RX2) (T := TX2) (N := 13) hx hb hB cx_inX2 hown hK TH hm0 hk0 rfl ⟨by decide, rfl⟩ 9 (by decide) cw_79 (fun _ h9 => h9) dX2_resolveItems_27 (fun hv => ?_)
        obtain ⟨xr10, hxr10, hmxr10, hkxr10⟩ : ∃ a : Nat, tw_fv Eg2 a0 9 = .ref a ∧ a ∈ L ∧ kp a = 139 := hv
        rw [hxr10]
        refine lv_iload_n hx hb dX2_resolveItems_30 rfl (lv_at hl 0 rfl) ?_
        refine tw_iald (k := 139) (t0 := 0) (n := 500) (lo := 0) (hi := 500) hx hb hK TH hmxr10 hkxr10 (by decide) rfl rfl (i := y2_1) (vp_in_iff.mpr ⟨by  omega, by  omega⟩) dX2_resolveItems_31 (fun hxe11a hxe11b => ?_)
        obtain ⟨xe11, exe11⟩ : ∃ z : Int32, tw_iv Eg2 xr10 (Int32.toNatClampNeg y2_1) = z := ⟨_, rfl⟩
        rw [exe11] at hxe11a hxe11b ⊢
        have rf_xe9 : tw_el Eg2 a0 8 (y2_1.toInt).toNat = xe9.toInt := (by rw [tw_el_of hxr8]; exact congrArg Int32.toInt exe9)
        have rf_xe11 : tw_el Eg2 a0 9 (y2_1.toInt).toNat = xe11.toInt := (by rw [tw_el_of hxr10]; exact congrArg Int32.toInt exe11)
        have fv0 := elg_fr TH hF hm0 hk0 (k := 0) (by decide) (by decide) rfl (by decide) (by decide) (by decide)
        have fv2 := elg_fr TH hF hm0 hk0 (k := 2) (by decide) (by decide) rfl (by decide) (by decide) (by decide)
        have fv3 := elg_fr TH hF hm0 hk0 (k := 3) (by decide) (by decide) rfl (by decide) (by decide) (by decide)
        have fv8 := elg_fr TH hF hm0 hk0 (k := 8) (by decide) (by decide) rfl (by decide) (by decide) (by decide)
        have fv9 := elg_fr TH hF hm0 hk0 (k := 9) (by decide) (by decide) rfl (by decide) (by decide) (by decide)
        rw [fv8] at rf_xe9
        rw [fv9] at rf_xe11
        refine tw_Vc (o := a0) (ci := 2) (n := 3) (post := (fun v kq Lq Eq => (∃ x : Int32, v = some (.int x) ∧ (-1) ≤ x.toInt ∧ x.toInt ≤ 9 ∧ (x.toInt = -1 ↔ ¬ ∃ j : Nat, (j : Int) < fv0_1.toInt ∧ nm_is (fun j => (tw_iv Eg2 xr7 j).toInt) (tw_el Eg2 a0 0) (tw_el Eg2 a0 2 j) (tw_el Eg2 a0 3 j) xe9.toInt xe11.toInt) ∧ (x.toInt ≠ -1 → x.toInt < fv0_1.toInt)) ∧ kp = kq ∧ L = Lq ∧ Eg2 = Eq)) (As := [.ref xr7, .int xe9, .int xe11]) (rest := [.int y2_1, .ref xr6]) ⟨hx, hb, hml, hown, hB⟩ (fun sz => tX2_kindOf_vG l D cs a0 xr7 xe9 xe11 fv0_1 hm0 hk0 hmxr7 hkxr7 (by omega) (by omega) (by omega) (by omega) hmf1 sz) cg_2_98_X2_kindOf rfl rfl (by decide +kernel) ⟨Nat.le_of_ble_eq_true rfl, Nat.le_of_ble_eq_true rfl⟩ hK hN TH hS hA rfl hm0 hk0 (by decide) rfl hl.1 rfl (Nat.le_of_ble_eq_true rfl) dX2_resolveItems_32 ⟨Nat.le_of_ble_eq_true rfl, Nat.le_of_ble_eq_true rfl⟩ (fun v12 kp12 L12 E12 H locs hq12 hx12 TH hS => ?_)
        obtain ⟨⟨xc13, rfl, hxc13a, hxc13b, hpoxc13_0, hpoxc13_1⟩, rfl, rfl, rfl⟩ := hq12
        refine W.eq (g2 := F0 m 35 ls [.int xc13, .int y2_1, .ref xr6]) rfl ?_
        have hkn : xc13.toInt = -1 ↔ ¬ (fun j => gy_nm (tw_el E a0 0) (prs (tw_el E a0 2) (tw_el E a0 3) (fv0_1.toInt)) (tw_el E a0 8 j, tw_el E a0 9 j)) (y2_1.toInt).toNat := (by have w := hpoxc13_0; rw [fv0, fv2, fv3] at w; rw [nm_iff (r := fun j => (tw_iv Eg2 xr7 j).toInt) (u := tw_el E a0 0) (t := tw_el E a0 0) (n := 500) (fun i _ => (by rw [← fv0]; exact (tw_el_of hxr7 i).symm)) (fun i _ => rfl) hpre0 (by omega) (by omega)] at w; show _ ↔ ¬ gy_nm _ _ (tw_el E a0 8 (y2_1.toInt).toNat, tw_el E a0 9 (y2_1.toInt).toNat); rw [rf_xe9, rf_xe11]; exact w)
        refine tw_iast (k := 133) (n := 500) (lo := (-1)) (hi := 9) hx hb hK TH hS hmxr6 hkxr6 (by decide) rfl (i := y2_1) (x := xc13) (vp_in_iff.mpr ⟨by  omega, by  omega⟩) (by omega) (by omega) dX2_resolveItems_35 (fun H locs E14 TH hS hp15 hp16 hp17 => ?_)
        have hst18 : tw_fr kp L [] [133] Eg2 E14 := tw_fr.ast tw_fr.rf (fun _ => hkxr6) hp15 hp16 (by decide)
        have hF := hF.tr hst18 (fun _ h => ⟨h, rfl⟩) (by decide) (by decide)
        have hG2 := hG2.tr hst18 (fun _ h => ⟨h, rfl⟩) (by decide) (by decide)
        have hmf19 : tw_fv E14 a0 1 = .int fv0_1 := (hst18.1 a0 1 hm0 (by rw [hk0]; decide)).trans hmf1
        have hmf20 : tw_fv E14 a0 7 = .int fv0_7 := (hst18.1 a0 7 hm0 (by rw [hk0]; decide)).trans hmf2
        have hmf21 : tw_fv E14 a0 10 = .ref xr6 := (hst18.1 a0 10 hm0 (by rw [hk0]; decide)).trans hxr6
        have hmf22 : tw_fv E14 a0 0 = .ref xr7 := (hst18.1 a0 0 hm0 (by rw [hk0]; decide)).trans hxr7
        have hmf23 : tw_fv E14 a0 8 = .ref xr8 := (hst18.1 a0 8 hm0 (by rw [hk0]; decide)).trans hxr8
        have hmf24 : tw_fv E14 a0 9 = .ref xr10 := (hst18.1 a0 9 hm0 (by rw [hk0]; decide)).trans hxr10
        refine lv_aload_n hx hb dX2_resolveItems_36 rfl (lv_at hl 1 rfl) ?_
        refine tw_get (ci := 2) (C := RX2) (T := TX2) (N := 13) hx hb hB cx_inX2 hown hK TH hm0 hk0 rfl ⟨by decide, rfl⟩ 10 (by decide) cw_80 (fun _ h9 => h9) dX2_resolveItems_37 (fun hv => ?_)
        rw [hmf21]
        refine lv_iload_n hx hb dX2_resolveItems_40 rfl (lv_at hl 0 rfl) ?_
        refine tw_iald (k := 133) (t0 := 0) (n := 500) (lo := (-1)) (hi := 9) hx hb hK TH hmxr6 hkxr6 (by decide) rfl rfl (i := y2_1) (vp_in_iff.mpr ⟨by  omega, by  omega⟩) dX2_resolveItems_41 (fun hxe25a hxe25b => ?_)
        obtain ⟨xe25, exe25⟩ : ∃ z : Int32, tw_iv E14 xr6 (Int32.toNatClampNeg y2_1) = z := ⟨_, rfl⟩
        rw [exe25] at hxe25a hxe25b ⊢
        have hag : xe25 = xc13 := (by rw [← exe25, hp17]; exact if_pos rfl)
        have hagi : xe25.toInt = xc13.toInt := (by rw [hag])
        refine lv_iconst (v := (-1)) hx hb dX2_resolveItems_42 (by decide) ?_
        refine lv_icmp_ne (tgt := 53) hx hb dX2_resolveItems_43 (by decide) (fun hc26 => ?_) (fun hc26 => ?_)
        · have hf27 : ¬ (xe25.toInt = (-1)) := fun q => hc26 ((fa_eq _ _).mpr (by have : (((-1) : Int32).toInt) = (-1) := (by decide); omega))
          obtain ⟨zi28, ezi28⟩ : ∃ z : Int32, z = y2_1 + Int32.ofInt 1 := ⟨_, rfl⟩
          have hzi28 : zi28.toInt = y2_1.toInt + 1 := by rw [ezi28]; have : ((Int32.ofInt 1).toInt) = 1 := (by decide);  exact (ia_add (by omega) (by omega)).trans (by omega)
          refine lv_iinc (v := zi28) (lv' := [(1, .int zi28), (0, .ref a0)]) hx hb dX2_resolveItems_53 hl (k := 0) rfl ezi28.symm (by decide) rfl (fun ls hl => ?_)
          refine lv_goto (tgt := 2) hx hb dX2_resolveItems_56 (by decide) ?_
          exact ih2 (n2 - 1) (by   omega) zi28 _ _ _ ls (by omega) (by omega) (by  exact rv_push hin2_0 (by omega) (by omega) (Classical.byContradiction (fun y => (by have w := hkn.mpr y; omega)))) (by   omega) hG2 TH hS (lv_sub hl [0, 1] rfl)
        · have hf29 : xe25.toInt = (-1) := by have z := (fa_eq _ _).mp hc26; have : (((-1) : Int32).toInt) = (-1) := (by decide); omega
          refine lv_aload_n hx hb dX2_resolveItems_46 rfl (lv_at hl 1 rfl) ?_
          refine tw_get (ci := 2) (C := RX2) (T := TX2) (N := 13) hx hb hB cx_inX2 hown hK TH hm0 hk0 rfl ⟨by decide, rfl⟩ 8 (by decide) cw_78 (fun _ h9 => h9) dX2_resolveItems_47 (fun hv => ?_)
          rw [hmf23]
          refine lv_iload_n hx hb dX2_resolveItems_50 rfl (lv_at hl 0 rfl) ?_
          refine tw_iald (k := 132) (t0 := 0) (n := 500) (lo := 0) (hi := 500) hx hb hK TH hmxr8 hkxr8 (by decide) rfl rfl (i := y2_1) (vp_in_iff.mpr ⟨by  omega, by  omega⟩) dX2_resolveItems_51 (fun hxe30a hxe30b => ?_)
          obtain ⟨xe30, exe30⟩ : ∃ z : Int32, tw_iv E14 xr8 (Int32.toNatClampNeg y2_1) = z := ⟨_, rfl⟩
          rw [exe30] at hxe30a hxe30b ⊢
          exact tw_iret hx hb hr hlocks TH hS hex ⟨⟨_, rfl, (show (-1) ≤ Int32.toInt xe30 from by  omega), (show Int32.toInt xe30 ≤ 500 from by  omega), (by  refine ⟨fun q => (by exfalso; omega), fun z => ?_⟩; exfalso; exact (hkn.mp (by omega)) (prs_all.mp z (y2_1.toInt).toNat (by omega)))⟩, rfl, rfl, hF⟩ (Nat.le_of_ble_eq_true rfl) (Nat.le_of_ble_eq_true rfl) dX2_resolveItems_52
  exact hJ2 501 (0 : Int32) _ _ _ ls (by have : ((0 : Int32).toInt) = 0 := (by decide); omega) (by have : ((0 : Int32).toInt) = 0 := (by decide); omega) (by have : ((0 : Int32).toInt) = 0 := (by decide); intro j hj; exact absurd hj (by omega)) (by have : ((0 : Int32).toInt) = 0 := (by decide);  omega) tw_fr.rf TH hS (lv_sub hl [0, 1] rfl)
set_option maxHeartbeats 4000000 in
set_option maxRecDepth 100000 in
theorem tX2_readRule_vG (l : Launch) (D : va_G) (cs : Nat → ClassId) {kp : Nat → Nat} {L : List Nat} {E : Nat → va_E} (a0 : Nat) (a1 : Nat) (g0 : Nat) (fv1_3 : Int32) (fv1_4 : Int32) (fv1_1 : Int32) (fv1_2 : Int32) (fv0_1 : Int32) (fv0_7 : Int32) (hm0 : a0 ∈ L) (hk0 : kp a0 = 2) (hm1 : a1 ∈ L) (hk1 : kp a1 = 9) (hmg0 : g0 ∈ L) (hkg0 : kp g0 = 2) (hfv1_3 : tw_fv E a1 3 = .int fv1_3) (hfv1_4 : tw_fv E a1 4 = .int fv1_4) (hfv1_1 : tw_fv E a1 1 = .int fv1_1) (hfv1_2 : tw_fv E a1 2 = .int fv1_2) (hfv0_1 : tw_fv E a0 1 = .int fv0_1) (hfv0_7 : tw_fv E a0 7 = .int fv0_7) (hpre0 : fv1_3.toInt ≤ fv1_4.toInt ∧ fv1_4.toInt ≤ fv1_1.toInt ∧ fv1_3.toInt ≤ fv1_1.toInt) (hpre1 : tc_tk (tw_el E a1 0) fv1_1.toInt fv1_3.toInt fv1_4.toInt fv1_2.toInt) (hpre2 : gy_at (tw_el E a1 0) fv1_1.toInt 0 fv1_3.toInt fv0_1.toInt (prs (tw_el E a0 2) (tw_el E a0 3) (fv0_1.toInt)) (prs (tw_el E a0 8) (tw_el E a0 9) (fv0_7.toInt))) (hpre3 : fv0_7.toInt ≤ fv1_3.toInt) (hpre4 : ib fv1_1.toInt (prs (tw_el E a0 2) (tw_el E a0 3) (fv0_1.toInt))) (hpre5 : ib fv1_1.toInt (prs (tw_el E a0 8) (tw_el E a0 9) (fv0_7.toInt))) (hg0 : sp_ok E a0 g0) (hg1 : ctx_ok E a0 a1) (hg2 : gm_ok E a0) (hg3 : gm_ok E g0) (sz : Nat) : Met l yX2_readRule (.code yX2_readRule cX2_readRule 3 (some .int) :: cx_big) { frames := 8, cells := 0, slots := 0, locals := 169 } (tw_P D cs kp L E [.ref a0, .ref a1] sz) (tw_Q D cs kp L (fun v kq Lq Eq => (∃ x : Int32, v = some (.int x) ∧ (-1) ≤ x.toInt ∧ x.toInt ≤ 500 ∧ (x.toInt ≠ -1 → gy_all (tw_el E a1 0) fv1_1.toInt = -1) ∧ (x.toInt = -1 → tc_tk (tw_el E a1 0) fv1_1.toInt (tw_fi Eq a1 3) (tw_fi Eq a1 4) (tw_fi Eq a1 2)) ∧ (x.toInt = -1 → tw_fi Eq a0 1 = fv0_1.toInt + 1) ∧ (x.toInt = -1 → (fv1_1.toInt ≤ tw_fi Eq a1 3 → gy_all (tw_el E a1 0) fv1_1.toInt = gy_fin (tw_el E a1 0) (fv0_1.toInt + 1) (prs (tw_el Eq a0 2) (tw_el Eq a0 3) (fv0_1.toInt + 1)) (prs (tw_el Eq a0 8) (tw_el Eq a0 9) (tw_fi Eq a0 7))) ∧ (tw_fi Eq a1 3 < fv1_1.toInt → gy_at (tw_el E a1 0) fv1_1.toInt 0 (tw_fi Eq a1 3) (fv0_1.toInt + 1) (prs (tw_el Eq a0 2) (tw_el Eq a0 3) (fv0_1.toInt + 1)) (prs (tw_el Eq a0 8) (tw_el Eq a0 9) (tw_fi Eq a0 7)))) ∧ (x.toInt = -1 → ib fv1_1.toInt (prs (tw_el Eq a0 2) (tw_el Eq a0 3) (fv0_1.toInt + 1)) ∧ ib fv1_1.toInt (prs (tw_el Eq a0 8) (tw_el Eq a0 9) (tw_fi Eq a0 7))) ∧ (x.toInt = -1 → tw_fi Eq a0 7 ≤ tw_fi Eq a1 3) ∧ (tw_fi Eq g0 1 = tw_fi E g0 1) ∧ (∃ z0 z1 : Int32, tw_fv Eq a1 3 = .int z0 ∧ tw_fv Eq a1 4 = .int z1 ∧ (z0.toInt ≤ z1.toInt ∧ z1.toInt ≤ fv1_1.toInt ∧ z0.toInt ≤ fv1_1.toInt)) ∧ gm_ok Eq a0 ∧ gm_ok Eq g0) ∧ kp = kq ∧ L = Lq ∧ tw_fr kp L [(2, 1), (2, 7), (9, 2), (9, 3), (9, 4)] [130, 131, 132, 134, 136, 137, 138, 139] E Eq) (va_A (va_pl L E) sz)) 0 0 (va_A (va_pl L E) sz) := by
  refine tw_ofW (by decide) (Nat.le_of_ble_eq_true rfl) ?_
  intro p e s m below meth c A ls hx hb hr hml hB hown hlocks hK hN hA TH hS hl
  have hown : s.vm.findClass "TreeMerge$Grammar" = some m.cls := hown
  have hl : lv_has ls 3 [(0, .ref a0), (1, .ref a1)] := hl
  obtain ⟨kp0, ekp⟩ : ∃ z, z = kp := ⟨_, rfl⟩
  obtain ⟨L0, eL⟩ : ∃ z, z = L := ⟨_, rfl⟩
  rw [show tw_Q D cs kp L = tw_Q D cs kp0 L0 by rw [ekp, eL]]
  have hex : ∀ a : Nat, a ∈ L0 → a ∈ L ∧ kp a = kp0 a := fun a h => ⟨by rw [← eL]; exact h, by rw [ekp]⟩
  have hF : tw_fr kp L [(2, 1), (2, 7), (9, 2), (9, 3), (9, 4)] [130, 131, 132, 134, 136, 137, 138, 139] E E := tw_fr.rf
  obtain ⟨qfv1_3, hqfv1_3, hqfv1_3a, hqfv1_3b⟩ := tw_rd TH hm1 hk1 (by decide) (by decide) (k := 3) rfl
  have eqfv1_3 : qfv1_3 = fv1_3 := by have q := hqfv1_3.symm.trans hfv1_3; injection q
  rw [eqfv1_3] at hqfv1_3a hqfv1_3b
  obtain ⟨qfv1_4, hqfv1_4, hqfv1_4a, hqfv1_4b⟩ := tw_rd TH hm1 hk1 (by decide) (by decide) (k := 4) rfl
  have eqfv1_4 : qfv1_4 = fv1_4 := by have q := hqfv1_4.symm.trans hfv1_4; injection q
  rw [eqfv1_4] at hqfv1_4a hqfv1_4b
  obtain ⟨qfv1_1, hqfv1_1, hqfv1_1a, hqfv1_1b⟩ := tw_rd TH hm1 hk1 (by decide) (by decide) (k := 1) rfl
  have eqfv1_1 : qfv1_1 = fv1_1 := by have q := hqfv1_1.symm.trans hfv1_1; injection q
  rw [eqfv1_1] at hqfv1_1a hqfv1_1b
  obtain ⟨qfv1_2, hqfv1_2, hqfv1_2a, hqfv1_2b⟩ := tw_rd TH hm1 hk1 (by decide) (by decide) (k := 2) rfl
  have eqfv1_2 : qfv1_2 = fv1_2 := by have q := hqfv1_2.symm.trans hfv1_2; injection q
  rw [eqfv1_2] at hqfv1_2a hqfv1_2b
  obtain ⟨qfv0_1, hqfv0_1, hqfv0_1a, hqfv0_1b⟩ := tw_rd TH hm0 hk0 (by decide) (by decide) (k := 1) rfl
  have eqfv0_1 : qfv0_1 = fv0_1 := by have q := hqfv0_1.symm.trans hfv0_1; injection q
  rw [eqfv0_1] at hqfv0_1a hqfv0_1b
  obtain ⟨qfv0_7, hqfv0_7, hqfv0_7a, hqfv0_7b⟩ := tw_rd TH hm0 hk0 (by decide) (by decide) (k := 7) rfl
  have eqfv0_7 : qfv0_7 = fv0_7 := by have q := hqfv0_7.symm.trans hfv0_7; injection q
  rw [eqfv0_7] at hqfv0_7a hqfv0_7b
  have hkc0 : kc_ok E g0 (tw_fi E g0 1) := rfl
  have hb0 := hpre0.2.1
  have hb1 := hpre0.2.2
  have hb2 := hpre0.1
  refine lv_aload_n hx hb dX2_readRule_0 rfl (lv_at hl 1 rfl) ?_
  refine tw_get (ci := 9) (C := RX9) (T := TX9) (N := 5) hx hb hB cx_inX9 hown hK TH hm1 hk1 rfl ⟨by decide, rfl⟩ 2 (by decide) cw_40 (fun _ h9 => h9) dX2_readRule_1 (fun hv => ?_)
  rw [hfv1_2]
  refine lv_iconst (v := 1) hx hb dX2_readRule_4 (by decide) ?_
  refine lv_icmp_ne (tgt := 26) hx hb dX2_readRule_5 (by decide) (fun hc1 => ?_) (fun hc1 => ?_)
  · have hf2 : ¬ (fv1_2.toInt = 1) := fun q => hc1 ((fa_eq _ _).mpr (by have : ((1 : Int32).toInt) = 1 := (by decide); omega))
    refine lv_aload_n hx hb dX2_readRule_26 rfl (lv_at hl 1 rfl) ?_
    refine tw_get (ci := 9) (C := RX9) (T := TX9) (N := 5) hx hb hB cx_inX9 hown hK TH hm1 hk1 rfl ⟨by decide, rfl⟩ 3 (by decide) cw_44 (fun _ h9 => h9) dX2_readRule_27 (fun hv => ?_)
    rw [hfv1_3]
    exact tw_iret hx hb hr hlocks TH hS hex ⟨⟨_, rfl, (show (-1) ≤ Int32.toInt fv1_3 from by  omega), (show Int32.toInt fv1_3 ≤ 500 from by  omega), (by  intro _; exact cy_0f hpre2 hpre1 (by omega) (by omega) (fun z => (by have w := z.1; have w2 := z.2.1; omega))), (by  intro q; exfalso; omega), (by  intro q; exfalso; omega), (by  intro q; exfalso; omega), (by  intro q; exfalso; omega), (by  intro q; exfalso; omega), (by  exact hkc0), ⟨fv1_3, fv1_4, hfv1_3, hfv1_4, by  omega⟩, hg2, hg3⟩, rfl, rfl, hF⟩ (Nat.le_of_ble_eq_true rfl) (Nat.le_of_ble_eq_true rfl) dX2_readRule_30
  · have hf3 : fv1_2.toInt = 1 := by have z := (fa_eq _ _).mp hc1; have : ((1 : Int32).toInt) = 1 := (by decide); omega
    refine lv_aload_n hx hb dX2_readRule_8 rfl (lv_at hl 0 rfl) ?_
    refine tw_get (ci := 2) (C := RX2) (T := TX2) (N := 13) hx hb hB cx_inX2 hown hK TH hm0 hk0 rfl ⟨by decide, rfl⟩ 1 (by decide) cw_68 (fun _ h9 => h9) dX2_readRule_9 (fun hv => ?_)
    rw [hfv0_1]
    refine lv_bipush (v := 10) hx hb dX2_readRule_12 (by decide) ?_
    refine lv_icmp_ge (tgt := 26) hx hb dX2_readRule_14 (by decide) (fun hc4 => ?_) (fun hc4 => ?_)
    · have hf5 : 10 ≤ fv0_1.toInt := by have z := (fa_le _ _).mp hc4; have : ((10 : Int32).toInt) = 10 := (by decide); omega
      refine lv_aload_n hx hb dX2_readRule_26 rfl (lv_at hl 1 rfl) ?_
      refine tw_get (ci := 9) (C := RX9) (T := TX9) (N := 5) hx hb hB cx_inX9 hown hK TH hm1 hk1 rfl ⟨by decide, rfl⟩ 3 (by decide) cw_44 (fun _ h9 => h9) dX2_readRule_27 (fun hv => ?_)
      rw [hfv1_3]
      exact tw_iret hx hb hr hlocks TH hS hex ⟨⟨_, rfl, (show (-1) ≤ Int32.toInt fv1_3 from by  omega), (show Int32.toInt fv1_3 ≤ 500 from by  omega), (by  intro _; exact cy_0f hpre2 hpre1 (by omega) (by omega) (fun z => (by have w := z.1; have w2 := z.2.1; omega))), (by  intro q; exfalso; omega), (by  intro q; exfalso; omega), (by  intro q; exfalso; omega), (by  intro q; exfalso; omega), (by  intro q; exfalso; omega), (by  exact hkc0), ⟨fv1_3, fv1_4, hfv1_3, hfv1_4, by  omega⟩, hg2, hg3⟩, rfl, rfl, hF⟩ (Nat.le_of_ble_eq_true rfl) (Nat.le_of_ble_eq_true rfl) dX2_readRule_30
    · have hf6 : ¬ (10 ≤ fv0_1.toInt) := fun q => hc4 ((fa_le _ _).mpr (by have : ((10 : Int32).toInt) = 10 := (by decide); omega))
      refine lv_aload_n hx hb dX2_readRule_17 rfl (lv_at hl 0 rfl) ?_
      refine lv_aload_n hx hb dX2_readRule_18 rfl (lv_at hl 1 rfl) ?_
      refine tw_Vc (o := a0) (ci := 2) (n := 1) (post := (fun v kq Lq Eq => (∃ x : Int32, v = some (.int x) ∧ (-1) ≤ x.toInt ∧ x.toInt ≤ 9 ∧ (x.toInt = -1 ↔ ¬ gy_nm (tw_el E a1 0) (prs (tw_el E a0 2) (tw_el E a0 3) (fv0_1.toInt)) (fv1_3.toInt, fv1_4.toInt))) ∧ kp = kq ∧ L = Lq ∧ E = Eq)) (As := [.ref a1]) (rest := []) ⟨hx, hb, hml, hown, hB⟩ (fun sz => tX2_kindAt_vG l D cs a0 a1 fv1_1 fv0_1 fv1_4 fv1_3 hm0 hk0 hm1 hk1 hfv1_1 hfv0_1 hfv1_4 hfv1_3 (by  exact hpre4) (by  omega) hg1 sz) cg_2_85_X2_kindAt rfl rfl (by decide +kernel) ⟨Nat.le_of_ble_eq_true rfl, Nat.le_of_ble_eq_true rfl⟩ hK hN TH hS hA rfl hm0 hk0 (by decide) rfl hl.1 rfl (Nat.le_of_ble_eq_true rfl) dX2_readRule_19 ⟨Nat.le_of_ble_eq_true rfl, Nat.le_of_ble_eq_true rfl⟩ (fun v7 kp7 L7 E7 H locs hq7 hx7 TH hS => ?_)
      obtain ⟨⟨xc8, rfl, hxc8a, hxc8b, hpoxc8_0⟩, rfl, rfl, rfl⟩ := hq7
      refine W.eq (g2 := F0 m 22 ls [.int xc8]) rfl ?_
      refine lv_iconst (v := (-1)) hx hb dX2_readRule_22 (by decide) ?_
      refine lv_icmp_eq (tgt := 31) hx hb dX2_readRule_23 (by decide) (fun hc9 => ?_) (fun hc9 => ?_)
      · have hf10 : xc8.toInt = (-1) := by have z := (fa_eq _ _).mp hc9; have : (((-1) : Int32).toInt) = (-1) := (by decide); omega
        have hcf2 : cf_ok E a0 2 (tw_el E a0 2) := fun _ => rfl
        have hcf3 : cf_ok E a0 3 (tw_el E a0 3) := fun _ => rfl
        have hF31 : tw_fr kp L [(2, 1), (9, 2), (9, 3), (9, 4)] [130, 131, 136, 137, 138] E E := tw_fr.rf
        have hnn := hpoxc8_0.1 (by omega)
        refine lv_aload_n hx hb dX2_readRule_31 rfl (lv_at hl 0 rfl) ?_
        refine tw_get (ci := 2) (C := RX2) (T := TX2) (N := 13) hx hb hB cx_inX2 hown hK TH hm0 hk0 rfl ⟨by decide, rfl⟩ 2 (by decide) cw_70 (fun _ h9 => h9) dX2_readRule_32 (fun hv => ?_)
        obtain ⟨xr11, hxr11, hmxr11, hkxr11⟩ : ∃ a : Nat, tw_fv E a0 2 = .ref a ∧ a ∈ L ∧ kp a = 130 := hv
        rw [hxr11]
        refine lv_aload_n hx hb dX2_readRule_35 rfl (lv_at hl 0 rfl) ?_
        refine tw_get (ci := 2) (C := RX2) (T := TX2) (N := 13) hx hb hB cx_inX2 hown hK TH hm0 hk0 rfl ⟨by decide, rfl⟩ 1 (by decide) cw_68 (fun _ h9 => h9) dX2_readRule_36 (fun hv => ?_)
        rw [hfv0_1]
        refine lv_aload_n hx hb dX2_readRule_39 rfl (lv_at hl 1 rfl) ?_
        refine tw_get (ci := 9) (C := RX9) (T := TX9) (N := 5) hx hb hB cx_inX9 hown hK TH hm1 hk1 rfl ⟨by decide, rfl⟩ 3 (by decide) cw_44 (fun _ h9 => h9) dX2_readRule_40 (fun hv => ?_)
        rw [hfv1_3]
        refine tw_iast (k := 130) (n := 10) (lo := 0) (hi := 500) hx hb hK TH hS hmxr11 hkxr11 (by decide) rfl (i := fv0_1) (x := fv1_3) (vp_in_iff.mpr ⟨by  omega, by  omega⟩) (by omega) (by omega) dX2_readRule_43 (fun H locs E12 TH hS hp13 hp14 hp15 => ?_)
        have hst16 : tw_fr kp L [] [130] E E12 := tw_fr.ast tw_fr.rf (fun _ => hkxr11) hp13 hp14 (by decide)
        have hF := hF.tr hst16 (fun _ h => ⟨h, rfl⟩) (by decide) (by decide)
        have hF31 := hF31.tr hst16 (fun _ h => ⟨h, rfl⟩) (by decide) (by decide)
        have hmf17 : tw_fv E12 a1 3 = .int fv1_3 := (hst16.1 a1 3 hm1 (by rw [hk1]; decide)).trans hfv1_3
        have hmf18 : tw_fv E12 a1 4 = .int fv1_4 := (hst16.1 a1 4 hm1 (by rw [hk1]; decide)).trans hfv1_4
        have hmf19 : tw_fv E12 a1 1 = .int fv1_1 := (hst16.1 a1 1 hm1 (by rw [hk1]; decide)).trans hfv1_1
        have hmf20 : tw_fv E12 a1 2 = .int fv1_2 := (hst16.1 a1 2 hm1 (by rw [hk1]; decide)).trans hfv1_2
        have hmf21 : tw_fv E12 a0 1 = .int fv0_1 := (hst16.1 a0 1 hm0 (by rw [hk0]; decide)).trans hfv0_1
        have hmf22 : tw_fv E12 a0 7 = .int fv0_7 := (hst16.1 a0 7 hm0 (by rw [hk0]; decide)).trans hfv0_7
        have hmf23 : tw_fv E12 a0 2 = .ref xr11 := (hst16.1 a0 2 hm0 (by rw [hk0]; decide)).trans hxr11
        have hg0_o := hg0
        have hg1_o := hg1
        have hg2_o := hg2
        have hg3_o := hg3
        have hkc0_o := hkc0
        have hcf2_o := hcf2
        have hcf3_o := hcf3
        have hg0 : sp_ok E12 a0 g0 := sp_ok_fr TH hst16 hm0 hk0 hmg0 hkg0 (by decide) (by decide) hg0
        have hg1 : ctx_ok E12 a0 a1 := ctx_ok_fr TH hst16 hm0 hk0 hm1 hk1 (by decide) (by decide) hg1
        have hg2 : gm_ok E12 a0 := gm_ok_st TH hm0 hk0 hp13 hp14 hp15 (by omega) (by rw [tw_fi_of hfv0_1]; omega) hg2_o
        have hg3 : gm_ok E12 g0 := gm_ok_oth (f := 2) TH hmg0 hkg0 hkxr11 (by decide) hxr11 hp13 hp14 hg0_o hg3_o
        have hkc0 : kc_ok E12 g0 (tw_fi E g0 1) := kc_ok_fr TH hst16 hmg0 hkg0 (by decide) (by decide) hkc0
        have hcf2 : cf_ok E12 a0 2 (fun j => if j = (fv0_1.toInt).toNat then fv1_3.toInt else (tw_el E a0 2) j) := (fun j => (by have w := tw_el_st hxr11 hp13 hp14 hp15 j; rw [w]; show _ = (if j = (fv0_1.toInt).toNat then fv1_3.toInt else (tw_el E a0 2) j); (by_cases e : j = (fv0_1.toInt).toNat; (rw [if_pos ⟨rfl, e⟩, if_pos e]); (rw [if_neg (fun y => e y.2), if_neg e]; (try exact hcf2_o j)))))
        have hcf3 : cf_ok E12 a0 3 (tw_el E a0 3) := c3_ok_fr TH hst16 hm0 hk0 (by decide) (by decide) hcf3
        have hgn24 : el_is E12 a0 2 (fv0_1.toInt) (fv1_3.toInt) := el_is_st hxr11 hp13 hp14 hp15
        refine lv_aload_n hx hb dX2_readRule_44 rfl (lv_at hl 0 rfl) ?_
        refine tw_get (ci := 2) (C := RX2) (T := TX2) (N := 13) hx hb hB cx_inX2 hown hK TH hm0 hk0 rfl ⟨by decide, rfl⟩ 3 (by decide) cw_72 (fun _ h9 => h9) dX2_readRule_45 (fun hv => ?_)
        obtain ⟨xr25, hxr25, hmxr25, hkxr25⟩ : ∃ a : Nat, tw_fv E12 a0 3 = .ref a ∧ a ∈ L ∧ kp a = 137 := hv
        rw [hxr25]
        refine lv_aload_n hx hb dX2_readRule_48 rfl (lv_at hl 0 rfl) ?_
        refine tw_get (ci := 2) (C := RX2) (T := TX2) (N := 13) hx hb hB cx_inX2 hown hK TH hm0 hk0 rfl ⟨by decide, rfl⟩ 1 (by decide) cw_68 (fun _ h9 => h9) dX2_readRule_49 (fun hv => ?_)
        rw [hmf21]
        refine lv_aload_n hx hb dX2_readRule_52 rfl (lv_at hl 1 rfl) ?_
        refine tw_get (ci := 9) (C := RX9) (T := TX9) (N := 5) hx hb hB cx_inX9 hown hK TH hm1 hk1 rfl ⟨by decide, rfl⟩ 4 (by decide) cw_47 (fun _ h9 => h9) dX2_readRule_53 (fun hv => ?_)
        rw [hmf18]
        refine tw_iast (k := 137) (n := 10) (lo := 0) (hi := 500) hx hb hK TH hS hmxr25 hkxr25 (by decide) rfl (i := fv0_1) (x := fv1_4) (vp_in_iff.mpr ⟨by  omega, by  omega⟩) (by omega) (by omega) dX2_readRule_56 (fun H locs E26 TH hS hp27 hp28 hp29 => ?_)
        have hst30 : tw_fr kp L [] [137] E12 E26 := tw_fr.ast tw_fr.rf (fun _ => hkxr25) hp27 hp28 (by decide)
        have hF := hF.tr hst30 (fun _ h => ⟨h, rfl⟩) (by decide) (by decide)
        have hF31 := hF31.tr hst30 (fun _ h => ⟨h, rfl⟩) (by decide) (by decide)
        have hmf31 : tw_fv E26 a1 3 = .int fv1_3 := (hst30.1 a1 3 hm1 (by rw [hk1]; decide)).trans hmf17
        have hmf32 : tw_fv E26 a1 4 = .int fv1_4 := (hst30.1 a1 4 hm1 (by rw [hk1]; decide)).trans hmf18
        have hmf33 : tw_fv E26 a1 1 = .int fv1_1 := (hst30.1 a1 1 hm1 (by rw [hk1]; decide)).trans hmf19
        have hmf34 : tw_fv E26 a1 2 = .int fv1_2 := (hst30.1 a1 2 hm1 (by rw [hk1]; decide)).trans hmf20
        have hmf35 : tw_fv E26 a0 1 = .int fv0_1 := (hst30.1 a0 1 hm0 (by rw [hk0]; decide)).trans hmf21
        have hmf36 : tw_fv E26 a0 7 = .int fv0_7 := (hst30.1 a0 7 hm0 (by rw [hk0]; decide)).trans hmf22
        have hmf37 : tw_fv E26 a0 2 = .ref xr11 := (hst30.1 a0 2 hm0 (by rw [hk0]; decide)).trans hmf23
        have hmf38 : tw_fv E26 a0 3 = .ref xr25 := (hst30.1 a0 3 hm0 (by rw [hk0]; decide)).trans hxr25
        have hg0_o := hg0
        have hg1_o := hg1
        have hg2_o := hg2
        have hg3_o := hg3
        have hkc0_o := hkc0
        have hcf2_o := hcf2
        have hcf3_o := hcf3
        have hgn24_o := hgn24
        have hg0 : sp_ok E26 a0 g0 := sp_ok_fr TH hst30 hm0 hk0 hmg0 hkg0 (by decide) (by decide) hg0
        have hg1 : ctx_ok E26 a0 a1 := ctx_ok_fr TH hst30 hm0 hk0 hm1 hk1 (by decide) (by decide) hg1
        have hg2 : gm_ok E26 a0 := gm_ok_st TH hm0 hk0 hp27 hp28 hp29 (by omega) (by rw [tw_fi_of hmf21]; omega) hg2_o
        have hg3 : gm_ok E26 g0 := gm_ok_oth (f := 3) TH hmg0 hkg0 hkxr25 (by decide) hxr25 hp27 hp28 hg0_o hg3_o
        have hkc0 : kc_ok E26 g0 (tw_fi E g0 1) := kc_ok_fr TH hst30 hmg0 hkg0 (by decide) (by decide) hkc0
        have hcf2 : cf_ok E26 a0 2 (fun j => if j = (fv0_1.toInt).toNat then fv1_3.toInt else (tw_el E a0 2) j) := c2_ok_fr TH hst30 hm0 hk0 (by decide) (by decide) hcf2
        have hcf3 : cf_ok E26 a0 3 (fun j => if j = (fv0_1.toInt).toNat then fv1_4.toInt else (tw_el E a0 3) j) := (fun j => (by have w := tw_el_st hxr25 hp27 hp28 hp29 j; rw [w]; show _ = (if j = (fv0_1.toInt).toNat then fv1_4.toInt else (tw_el E a0 3) j); (by_cases e : j = (fv0_1.toInt).toNat; (rw [if_pos ⟨rfl, e⟩, if_pos e]); (rw [if_neg (fun y => e y.2), if_neg e]; (try exact hcf3_o j)))))
        have hgn24 : el_is E26 a0 2 (fv0_1.toInt) (fv1_3.toInt) := e2_ok_fr TH hst30 hm0 hk0 (by decide) (by decide) hgn24
        have hgn39 : el_is E26 a0 3 (fv0_1.toInt) (fv1_4.toInt) := el_is_st hxr25 hp27 hp28 hp29
        have ft57 := elg_fr TH hF hm1 hk1 (k := 0) (by decide) (by decide) rfl (by decide) (by decide) (by decide)
        refine lv_aload_n hx hb dX2_readRule_57 rfl (lv_at hl 1 rfl) ?_
        refine tw_Vc (o := a1) (ci := 9) (n := 0) (post := (fun v kq Lq Eq => v = none ∧ kp = kq ∧ L = Lq ∧ tw_fr kp L [(9, 2), (9, 3), (9, 4)] [] E26 Eq ∧ (lx_WS (tw_el E26 a1 0) fv1_1.toInt fv1_4.toInt (tw_fi Eq a1 3) ∧ tc_tk (tw_el E26 a1 0) fv1_1.toInt (tw_fi Eq a1 3) (tw_fi Eq a1 4) (tw_fi Eq a1 2)) ∧ (∃ z0 z1 : Int32, tw_fv Eq a1 3 = .int z0 ∧ tw_fv Eq a1 4 = .int z1 ∧ (z0.toInt ≤ z1.toInt ∧ z1.toInt ≤ fv1_1.toInt ∧ fv1_4.toInt ≤ z0.toInt)))) (As := []) (rest := []) ⟨hx, hb, hml, hown, hB⟩ (fun sz => tX9_advance_vG l D cs a1 fv1_4 fv1_1 hm1 hk1 hmf32 hmf33 (by  omega) sz) cg_2_71_X9_advance rfl rfl (by decide +kernel) ⟨Nat.le_of_ble_eq_true rfl, Nat.le_of_ble_eq_true rfl⟩ hK hN TH hS hA rfl hm1 hk1 (by decide) rfl hl.1 rfl (Nat.le_of_ble_eq_true rfl) dX2_readRule_58 ⟨Nat.le_of_ble_eq_true rfl, Nat.le_of_ble_eq_true rfl⟩ (fun v40 kp40 L40 E40 H locs hq40 hx40 TH hS => ?_)
        obtain ⟨rfl, rfl, rfl, hst40, hpoxc41_0, ⟨zfxc41_0_0, zfxc41_0_1, hzfxc41_0_0, hzfxc41_0_1, hzpxc41_0⟩⟩ := hq40
        have hF := hF.tr hst40 (fun _ h => ⟨h, rfl⟩) (by decide) (by decide)
        have hF31 := hF31.tr hst40 (fun _ h => ⟨h, rfl⟩) (by decide) (by decide)
        have hmf42 : tw_fv E40 a1 1 = .int fv1_1 := (hst40.1 a1 1 hm1 (by rw [hk1]; decide)).trans hmf33
        have hmf43 : tw_fv E40 a0 1 = .int fv0_1 := (hst40.1 a0 1 hm0 (by rw [hk0]; decide)).trans hmf35
        have hmf44 : tw_fv E40 a0 7 = .int fv0_7 := (hst40.1 a0 7 hm0 (by rw [hk0]; decide)).trans hmf36
        have hmf45 : tw_fv E40 a0 2 = .ref xr11 := (hst40.1 a0 2 hm0 (by rw [hk0]; decide)).trans hmf37
        have hmf46 : tw_fv E40 a0 3 = .ref xr25 := (hst40.1 a0 3 hm0 (by rw [hk0]; decide)).trans hmf38
        have hg0 : sp_ok E40 a0 g0 := sp_ok_fr TH hst40 hm0 hk0 hmg0 hkg0 (by decide) (by decide) hg0
        have hg1 : ctx_ok E40 a0 a1 := ctx_ok_fr TH hst40 hm0 hk0 hm1 hk1 (by decide) (by decide) hg1
        have hg2 : gm_ok E40 a0 := gm_ok_fr TH hst40 hm0 hk0 (by decide) (by decide) hg2
        have hg3 : gm_ok E40 g0 := gm_ok_fr TH hst40 hmg0 hkg0 (by decide) (by decide) hg3
        have hkc0 : kc_ok E40 g0 (tw_fi E g0 1) := kc_ok_fr TH hst40 hmg0 hkg0 (by decide) (by decide) hkc0
        have hcf2 : cf_ok E40 a0 2 (fun j => if j = (fv0_1.toInt).toNat then fv1_3.toInt else (tw_el E a0 2) j) := c2_ok_fr TH hst40 hm0 hk0 (by decide) (by decide) hcf2
        have hcf3 : cf_ok E40 a0 3 (fun j => if j = (fv0_1.toInt).toNat then fv1_4.toInt else (tw_el E a0 3) j) := c3_ok_fr TH hst40 hm0 hk0 (by decide) (by decide) hcf3
        have hgn24 : el_is E40 a0 2 (fv0_1.toInt) (fv1_3.toInt) := e2_ok_fr TH hst40 hm0 hk0 (by decide) (by decide) hgn24
        have hgn39 : el_is E40 a0 3 (fv0_1.toInt) (fv1_4.toInt) := e3_ok_fr TH hst40 hm0 hk0 (by decide) (by decide) hgn39
        obtain ⟨qzfxc41_0_0, hqzfxc41_0_0, hqzfxc41_0_0a, hqzfxc41_0_0b⟩ := tw_rd TH hm1 hk1 (by decide) (by decide) (k := 3) rfl
        have eqzfxc41_0_0 : qzfxc41_0_0 = zfxc41_0_0 := by have q := hqzfxc41_0_0.symm.trans hzfxc41_0_0; injection q
        rw [eqzfxc41_0_0] at hqzfxc41_0_0a hqzfxc41_0_0b
        obtain ⟨qzfxc41_0_1, hqzfxc41_0_1, hqzfxc41_0_1a, hqzfxc41_0_1b⟩ := tw_rd TH hm1 hk1 (by decide) (by decide) (k := 4) rfl
        have eqzfxc41_0_1 : qzfxc41_0_1 = zfxc41_0_1 := by have q := hqzfxc41_0_1.symm.trans hzfxc41_0_1; injection q
        rw [eqzfxc41_0_1] at hqzfxc41_0_1a hqzfxc41_0_1b
        refine W.eq (g2 := F0 m 61 ls []) rfl ?_
        obtain ⟨xi47, hxi47, hxi47a, hxi47b⟩ := tw_rd TH hm1 hk1 (by decide) (by decide) (k := 2) rfl
        have hp1 := hpoxc41_0
        rw [ft57, tw_fi_of hzfxc41_0_0, tw_fi_of hzfxc41_0_1, tw_fi_of hxi47] at hp1
        have hg4 := cy_0 hpre2 hpre1 (by omega) (by omega) (by omega) (by omega) hnn hp1.1
        refine lv_aload_n hx hb dX2_readRule_61 rfl (lv_at hl 1 rfl) ?_
        refine tw_get (ci := 9) (C := RX9) (T := TX9) (N := 5) hx hb hB cx_inX9 hown hK TH hm1 hk1 rfl ⟨by decide, rfl⟩ 2 (by decide) cw_40 (fun _ h9 => h9) dX2_readRule_62 (fun hv => ?_)
        rw [hxi47]
        refine lv_istore_n (lv' := [(2, .int xi47), (0, .ref a0), (1, .ref a1)]) hx hb dX2_readRule_65 rfl hl (by decide) rfl (fun ls hl => ?_)
        refine lv_iload_n hx hb dX2_readRule_66 rfl (lv_at hl 0 rfl) ?_
        refine lv_iconst (v := 2) hx hb dX2_readRule_67 (by decide) ?_
        refine lv_icmp_eq (tgt := 87) hx hb dX2_readRule_68 (by decide) (fun hc48 => ?_) (fun hc48 => ?_)
        · have hf49 : xi47.toInt = 2 := by have z := (fa_eq _ _).mp hc48; have : ((2 : Int32).toInt) = 2 := (by decide); omega
          refine lv_aload_n hx hb dX2_readRule_87 rfl (lv_at hl 1 rfl) ?_
          refine tw_get (ci := 2) (C := RX2) (T := TX2) (N := 13) hx hb hB cx_inX2 hown hK TH hm0 hk0 rfl ⟨by decide, rfl⟩ 4 (by decide) cw_74 (fun _ h9 => h9) dX2_readRule_88 (fun hv => ?_)
          obtain ⟨xr50, hxr50, hmxr50, hkxr50⟩ : ∃ a : Nat, tw_fv E40 a0 4 = .ref a ∧ a ∈ L ∧ kp a = 131 := hv
          rw [hxr50]
          refine lv_aload_n hx hb dX2_readRule_91 rfl (lv_at hl 1 rfl) ?_
          refine tw_get (ci := 2) (C := RX2) (T := TX2) (N := 13) hx hb hB cx_inX2 hown hK TH hm0 hk0 rfl ⟨by decide, rfl⟩ 1 (by decide) cw_68 (fun _ h9 => h9) dX2_readRule_92 (fun hv => ?_)
          rw [hmf43]
          refine lv_iload_n hx hb dX2_readRule_95 rfl (lv_at hl 0 rfl) ?_
          refine tw_iast (k := 131) (n := 10) (lo := 0) (hi := 255) hx hb hK TH hS hmxr50 hkxr50 (by decide) rfl (i := fv0_1) (x := xi47) (vp_in_iff.mpr ⟨by  omega, by  omega⟩) (by omega) (by omega) dX2_readRule_96 (fun H locs E51 TH hS hp52 hp53 hp54 => ?_)
          have hst55 : tw_fr kp L [] [131] E40 E51 := tw_fr.ast tw_fr.rf (fun _ => hkxr50) hp52 hp53 (by decide)
          have hF := hF.tr hst55 (fun _ h => ⟨h, rfl⟩) (by decide) (by decide)
          have hF31 := hF31.tr hst55 (fun _ h => ⟨h, rfl⟩) (by decide) (by decide)
          have hmf56 : tw_fv E51 a1 1 = .int fv1_1 := (hst55.1 a1 1 hm1 (by rw [hk1]; decide)).trans hmf42
          have hmf57 : tw_fv E51 a0 1 = .int fv0_1 := (hst55.1 a0 1 hm0 (by rw [hk0]; decide)).trans hmf43
          have hmf58 : tw_fv E51 a0 7 = .int fv0_7 := (hst55.1 a0 7 hm0 (by rw [hk0]; decide)).trans hmf44
          have hmf59 : tw_fv E51 a0 2 = .ref xr11 := (hst55.1 a0 2 hm0 (by rw [hk0]; decide)).trans hmf45
          have hmf60 : tw_fv E51 a0 3 = .ref xr25 := (hst55.1 a0 3 hm0 (by rw [hk0]; decide)).trans hmf46
          have hmf61 : tw_fv E51 a1 3 = .int zfxc41_0_0 := (hst55.1 a1 3 hm1 (by rw [hk1]; decide)).trans hzfxc41_0_0
          have hmf62 : tw_fv E51 a1 4 = .int zfxc41_0_1 := (hst55.1 a1 4 hm1 (by rw [hk1]; decide)).trans hzfxc41_0_1
          have hmf63 : tw_fv E51 a1 2 = .int xi47 := (hst55.1 a1 2 hm1 (by rw [hk1]; decide)).trans hxi47
          have hmf64 : tw_fv E51 a0 4 = .ref xr50 := (hst55.1 a0 4 hm0 (by rw [hk0]; decide)).trans hxr50
          have hg0 : sp_ok E51 a0 g0 := sp_ok_fr TH hst55 hm0 hk0 hmg0 hkg0 (by decide) (by decide) hg0
          have hg1 : ctx_ok E51 a0 a1 := ctx_ok_fr TH hst55 hm0 hk0 hm1 hk1 (by decide) (by decide) hg1
          have hg2 : gm_ok E51 a0 := gm_ok_fr TH hst55 hm0 hk0 (by decide) (by decide) hg2
          have hg3 : gm_ok E51 g0 := gm_ok_fr TH hst55 hmg0 hkg0 (by decide) (by decide) hg3
          have hkc0 : kc_ok E51 g0 (tw_fi E g0 1) := kc_ok_fr TH hst55 hmg0 hkg0 (by decide) (by decide) hkc0
          have hcf2 : cf_ok E51 a0 2 (fun j => if j = (fv0_1.toInt).toNat then fv1_3.toInt else (tw_el E a0 2) j) := c2_ok_fr TH hst55 hm0 hk0 (by decide) (by decide) hcf2
          have hcf3 : cf_ok E51 a0 3 (fun j => if j = (fv0_1.toInt).toNat then fv1_4.toInt else (tw_el E a0 3) j) := c3_ok_fr TH hst55 hm0 hk0 (by decide) (by decide) hcf3
          have hgn24 : el_is E51 a0 2 (fv0_1.toInt) (fv1_3.toInt) := e2_ok_fr TH hst55 hm0 hk0 (by decide) (by decide) hgn24
          have hgn39 : el_is E51 a0 3 (fv0_1.toInt) (fv1_4.toInt) := e3_ok_fr TH hst55 hm0 hk0 (by decide) (by decide) hgn39
          refine lv_aload_n hx hb dX2_readRule_97 rfl (lv_at hl 1 rfl) ?_
          refine tw_get (ci := 2) (C := RX2) (T := TX2) (N := 13) hx hb hB cx_inX2 hown hK TH hm0 hk0 rfl ⟨by decide, rfl⟩ 5 (by decide) cw_75 (fun _ h9 => h9) dX2_readRule_98 (fun hv => ?_)
          obtain ⟨xr65, hxr65, hmxr65, hkxr65⟩ : ∃ a : Nat, tw_fv E51 a0 5 = .ref a ∧ a ∈ L ∧ kp a = 136 := hv
          rw [hxr65]
          refine lv_aload_n hx hb dX2_readRule_101 rfl (lv_at hl 1 rfl) ?_
          refine tw_get (ci := 2) (C := RX2) (T := TX2) (N := 13) hx hb hB cx_inX2 hown hK TH hm0 hk0 rfl ⟨by decide, rfl⟩ 1 (by decide) cw_68 (fun _ h9 => h9) dX2_readRule_102 (fun hv => ?_)
          rw [hmf57]
          refine lv_aload_n hx hb dX2_readRule_105 rfl (lv_at hl 1 rfl) ?_
          refine tw_get (ci := 2) (C := RX2) (T := TX2) (N := 13) hx hb hB cx_inX2 hown hK TH hm0 hk0 rfl ⟨by decide, rfl⟩ 7 (by decide) cw_77 (fun _ h9 => h9) dX2_readRule_106 (fun hv => ?_)
          rw [hmf58]
          refine tw_iast (k := 136) (n := 10) (lo := 0) (hi := 500) hx hb hK TH hS hmxr65 hkxr65 (by decide) rfl (i := fv0_1) (x := fv0_7) (vp_in_iff.mpr ⟨by  omega, by  omega⟩) (by omega) (by omega) dX2_readRule_109 (fun H locs E66 TH hS hp67 hp68 hp69 => ?_)
          have hst70 : tw_fr kp L [] [136] E51 E66 := tw_fr.ast tw_fr.rf (fun _ => hkxr65) hp67 hp68 (by decide)
          have hF := hF.tr hst70 (fun _ h => ⟨h, rfl⟩) (by decide) (by decide)
          have hF31 := hF31.tr hst70 (fun _ h => ⟨h, rfl⟩) (by decide) (by decide)
          have hmf71 : tw_fv E66 a1 1 = .int fv1_1 := (hst70.1 a1 1 hm1 (by rw [hk1]; decide)).trans hmf56
          have hmf72 : tw_fv E66 a0 1 = .int fv0_1 := (hst70.1 a0 1 hm0 (by rw [hk0]; decide)).trans hmf57
          have hmf73 : tw_fv E66 a0 7 = .int fv0_7 := (hst70.1 a0 7 hm0 (by rw [hk0]; decide)).trans hmf58
          have hmf74 : tw_fv E66 a0 2 = .ref xr11 := (hst70.1 a0 2 hm0 (by rw [hk0]; decide)).trans hmf59
          have hmf75 : tw_fv E66 a0 3 = .ref xr25 := (hst70.1 a0 3 hm0 (by rw [hk0]; decide)).trans hmf60
          have hmf76 : tw_fv E66 a1 3 = .int zfxc41_0_0 := (hst70.1 a1 3 hm1 (by rw [hk1]; decide)).trans hmf61
          have hmf77 : tw_fv E66 a1 4 = .int zfxc41_0_1 := (hst70.1 a1 4 hm1 (by rw [hk1]; decide)).trans hmf62
          have hmf78 : tw_fv E66 a1 2 = .int xi47 := (hst70.1 a1 2 hm1 (by rw [hk1]; decide)).trans hmf63
          have hmf79 : tw_fv E66 a0 4 = .ref xr50 := (hst70.1 a0 4 hm0 (by rw [hk0]; decide)).trans hmf64
          have hmf80 : tw_fv E66 a0 5 = .ref xr65 := (hst70.1 a0 5 hm0 (by rw [hk0]; decide)).trans hxr65
          have hg0_o := hg0
          have hg1_o := hg1
          have hg2_o := hg2
          have hg3_o := hg3
          have hkc0_o := hkc0
          have hcf2_o := hcf2
          have hcf3_o := hcf3
          have hgn24_o := hgn24
          have hgn39_o := hgn39
          have hg0 : sp_ok E66 a0 g0 := sp_ok_fr TH hst70 hm0 hk0 hmg0 hkg0 (by decide) (by decide) hg0
          have hg1 : ctx_ok E66 a0 a1 := ctx_ok_fr TH hst70 hm0 hk0 hm1 hk1 (by decide) (by decide) hg1
          have hg2 : gm_ok E66 a0 := gm_ok_st TH hm0 hk0 hp67 hp68 hp69 (by omega) (by rw [tw_fi_of hmf57]; omega) hg2_o
          have hg3 : gm_ok E66 g0 := gm_ok_oth (f := 5) TH hmg0 hkg0 hkxr65 (by decide) hxr65 hp67 hp68 hg0_o hg3_o
          have hkc0 : kc_ok E66 g0 (tw_fi E g0 1) := kc_ok_fr TH hst70 hmg0 hkg0 (by decide) (by decide) hkc0
          have hcf2 : cf_ok E66 a0 2 (fun j => if j = (fv0_1.toInt).toNat then fv1_3.toInt else (tw_el E a0 2) j) := c2_ok_fr TH hst70 hm0 hk0 (by decide) (by decide) hcf2
          have hcf3 : cf_ok E66 a0 3 (fun j => if j = (fv0_1.toInt).toNat then fv1_4.toInt else (tw_el E a0 3) j) := c3_ok_fr TH hst70 hm0 hk0 (by decide) (by decide) hcf3
          have hgn24 : el_is E66 a0 2 (fv0_1.toInt) (fv1_3.toInt) := e2_ok_fr TH hst70 hm0 hk0 (by decide) (by decide) hgn24
          have hgn39 : el_is E66 a0 3 (fv0_1.toInt) (fv1_4.toInt) := e3_ok_fr TH hst70 hm0 hk0 (by decide) (by decide) hgn39
          have hgn81 : el_is E66 a0 5 (fv0_1.toInt) (fv0_7.toInt) := el_is_st hxr65 hp67 hp68 hp69
          have ft110 := elg_fr TH hF hm1 hk1 (k := 0) (by decide) (by decide) rfl (by decide) (by decide) (by decide)
          refine lv_aload_n hx hb dX2_readRule_110 rfl (lv_at hl 2 rfl) ?_
          refine tw_Vc (o := a1) (ci := 9) (n := 0) (post := (fun v kq Lq Eq => v = none ∧ kp = kq ∧ L = Lq ∧ tw_fr kp L [(9, 2), (9, 3), (9, 4)] [] E66 Eq ∧ (lx_WS (tw_el E66 a1 0) fv1_1.toInt zfxc41_0_1.toInt (tw_fi Eq a1 3) ∧ tc_tk (tw_el E66 a1 0) fv1_1.toInt (tw_fi Eq a1 3) (tw_fi Eq a1 4) (tw_fi Eq a1 2)) ∧ (∃ z0 z1 : Int32, tw_fv Eq a1 3 = .int z0 ∧ tw_fv Eq a1 4 = .int z1 ∧ (z0.toInt ≤ z1.toInt ∧ z1.toInt ≤ fv1_1.toInt ∧ zfxc41_0_1.toInt ≤ z0.toInt)))) (As := []) (rest := []) ⟨hx, hb, hml, hown, hB⟩ (fun sz => tX9_advance_vG l D cs a1 zfxc41_0_1 fv1_1 hm1 hk1 hmf77 hmf71 (by  omega) sz) cg_2_71_X9_advance rfl rfl (by decide +kernel) ⟨Nat.le_of_ble_eq_true rfl, Nat.le_of_ble_eq_true rfl⟩ hK hN TH hS hA rfl hm1 hk1 (by decide) rfl hl.1 rfl (Nat.le_of_ble_eq_true rfl) dX2_readRule_111 ⟨Nat.le_of_ble_eq_true rfl, Nat.le_of_ble_eq_true rfl⟩ (fun v82 kp82 L82 E82 H locs hq82 hx82 TH hS => ?_)
          obtain ⟨rfl, rfl, rfl, hst82, hpoxc83_0, ⟨zfxc83_0_0, zfxc83_0_1, hzfxc83_0_0, hzfxc83_0_1, hzpxc83_0⟩⟩ := hq82
          have hF := hF.tr hst82 (fun _ h => ⟨h, rfl⟩) (by decide) (by decide)
          have hF31 := hF31.tr hst82 (fun _ h => ⟨h, rfl⟩) (by decide) (by decide)
          have hmf84 : tw_fv E82 a1 1 = .int fv1_1 := (hst82.1 a1 1 hm1 (by rw [hk1]; decide)).trans hmf71
          have hmf85 : tw_fv E82 a0 1 = .int fv0_1 := (hst82.1 a0 1 hm0 (by rw [hk0]; decide)).trans hmf72
          have hmf86 : tw_fv E82 a0 7 = .int fv0_7 := (hst82.1 a0 7 hm0 (by rw [hk0]; decide)).trans hmf73
          have hmf87 : tw_fv E82 a0 2 = .ref xr11 := (hst82.1 a0 2 hm0 (by rw [hk0]; decide)).trans hmf74
          have hmf88 : tw_fv E82 a0 3 = .ref xr25 := (hst82.1 a0 3 hm0 (by rw [hk0]; decide)).trans hmf75
          have hmf89 : tw_fv E82 a0 4 = .ref xr50 := (hst82.1 a0 4 hm0 (by rw [hk0]; decide)).trans hmf79
          have hmf90 : tw_fv E82 a0 5 = .ref xr65 := (hst82.1 a0 5 hm0 (by rw [hk0]; decide)).trans hmf80
          have hg0 : sp_ok E82 a0 g0 := sp_ok_fr TH hst82 hm0 hk0 hmg0 hkg0 (by decide) (by decide) hg0
          have hg1 : ctx_ok E82 a0 a1 := ctx_ok_fr TH hst82 hm0 hk0 hm1 hk1 (by decide) (by decide) hg1
          have hg2 : gm_ok E82 a0 := gm_ok_fr TH hst82 hm0 hk0 (by decide) (by decide) hg2
          have hg3 : gm_ok E82 g0 := gm_ok_fr TH hst82 hmg0 hkg0 (by decide) (by decide) hg3
          have hkc0 : kc_ok E82 g0 (tw_fi E g0 1) := kc_ok_fr TH hst82 hmg0 hkg0 (by decide) (by decide) hkc0
          have hcf2 : cf_ok E82 a0 2 (fun j => if j = (fv0_1.toInt).toNat then fv1_3.toInt else (tw_el E a0 2) j) := c2_ok_fr TH hst82 hm0 hk0 (by decide) (by decide) hcf2
          have hcf3 : cf_ok E82 a0 3 (fun j => if j = (fv0_1.toInt).toNat then fv1_4.toInt else (tw_el E a0 3) j) := c3_ok_fr TH hst82 hm0 hk0 (by decide) (by decide) hcf3
          have hgn24 : el_is E82 a0 2 (fv0_1.toInt) (fv1_3.toInt) := e2_ok_fr TH hst82 hm0 hk0 (by decide) (by decide) hgn24
          have hgn39 : el_is E82 a0 3 (fv0_1.toInt) (fv1_4.toInt) := e3_ok_fr TH hst82 hm0 hk0 (by decide) (by decide) hgn39
          have hgn81 : el_is E82 a0 5 (fv0_1.toInt) (fv0_7.toInt) := e5_ok_fr TH hst82 hm0 hk0 (by decide) (by decide) hgn81
          obtain ⟨qzfxc83_0_0, hqzfxc83_0_0, hqzfxc83_0_0a, hqzfxc83_0_0b⟩ := tw_rd TH hm1 hk1 (by decide) (by decide) (k := 3) rfl
          have eqzfxc83_0_0 : qzfxc83_0_0 = zfxc83_0_0 := by have q := hqzfxc83_0_0.symm.trans hzfxc83_0_0; injection q
          rw [eqzfxc83_0_0] at hqzfxc83_0_0a hqzfxc83_0_0b
          obtain ⟨qzfxc83_0_1, hqzfxc83_0_1, hqzfxc83_0_1a, hqzfxc83_0_1b⟩ := tw_rd TH hm1 hk1 (by decide) (by decide) (k := 4) rfl
          have eqzfxc83_0_1 : qzfxc83_0_1 = zfxc83_0_1 := by have q := hqzfxc83_0_1.symm.trans hzfxc83_0_1; injection q
          rw [eqzfxc83_0_1] at hqzfxc83_0_1a hqzfxc83_0_1b
          refine W.eq (g2 := F0 m 114 ls []) rfl ?_
          obtain ⟨xi91, hxi91, hxi91a, hxi91b⟩ := tw_rd TH hm1 hk1 (by decide) (by decide) (k := 2) rfl
          have hp2 := hpoxc83_0
          rw [ft110, tw_fi_of hzfxc83_0_0, tw_fi_of hzfxc83_0_1, tw_fi_of hxi91] at hp2
          have hg5 := cy_4l hg4 hp1.2 (by omega) (by omega) (by omega) hp2.1
          refine lv_iload_n hx hb dX2_readRule_114 rfl (lv_at hl 0 rfl) ?_
          refine lv_iconst (v := 2) hx hb dX2_readRule_115 (by decide) ?_
          refine lv_icmp_eq (tgt := 148) hx hb dX2_readRule_116 (by decide) (fun hc92 => ?_) (fun hc92 => ?_)
          · have hf93 : xi47.toInt = 2 := by have z := (fa_eq _ _).mp hc92; have : ((2 : Int32).toInt) = 2 := (by decide); omega
            have hT3 := hp2.2
            have hg6 := hg5
            refine lv_aload_n hx hb dX2_readRule_148 rfl (lv_at hl 1 rfl) ?_
            refine tw_get (ci := 2) (C := RX2) (T := TX2) (N := 13) hx hb hB cx_inX2 hown hK TH hm0 hk0 rfl ⟨by decide, rfl⟩ 6 (by decide) cw_76 (fun _ h9 => h9) dX2_readRule_149 (fun hv => ?_)
            obtain ⟨xr94, hxr94, hmxr94, hkxr94⟩ : ∃ a : Nat, tw_fv E82 a0 6 = .ref a ∧ a ∈ L ∧ kp a = 138 := hv
            rw [hxr94]
            refine lv_aload_n hx hb dX2_readRule_152 rfl (lv_at hl 1 rfl) ?_
            refine tw_get (ci := 2) (C := RX2) (T := TX2) (N := 13) hx hb hB cx_inX2 hown hK TH hm0 hk0 rfl ⟨by decide, rfl⟩ 1 (by decide) cw_68 (fun _ h9 => h9) dX2_readRule_153 (fun hv => ?_)
            rw [hmf85]
            refine lv_aload_n hx hb dX2_readRule_156 rfl (lv_at hl 1 rfl) ?_
            refine tw_get (ci := 2) (C := RX2) (T := TX2) (N := 13) hx hb hB cx_inX2 hown hK TH hm0 hk0 rfl ⟨by decide, rfl⟩ 7 (by decide) cw_77 (fun _ h9 => h9) dX2_readRule_157 (fun hv => ?_)
            rw [hmf86]
            refine tw_iast (k := 138) (n := 10) (lo := 0) (hi := 500) hx hb hK TH hS hmxr94 hkxr94 (by decide) rfl (i := fv0_1) (x := fv0_7) (vp_in_iff.mpr ⟨by  omega, by  omega⟩) (by omega) (by omega) dX2_readRule_160 (fun H locs E95 TH hS hp96 hp97 hp98 => ?_)
            have hst99 : tw_fr kp L [] [138] E82 E95 := tw_fr.ast tw_fr.rf (fun _ => hkxr94) hp96 hp97 (by decide)
            have hF := hF.tr hst99 (fun _ h => ⟨h, rfl⟩) (by decide) (by decide)
            have hF31 := hF31.tr hst99 (fun _ h => ⟨h, rfl⟩) (by decide) (by decide)
            have hmf100 : tw_fv E95 a1 1 = .int fv1_1 := (hst99.1 a1 1 hm1 (by rw [hk1]; decide)).trans hmf84
            have hmf101 : tw_fv E95 a0 1 = .int fv0_1 := (hst99.1 a0 1 hm0 (by rw [hk0]; decide)).trans hmf85
            have hmf102 : tw_fv E95 a0 7 = .int fv0_7 := (hst99.1 a0 7 hm0 (by rw [hk0]; decide)).trans hmf86
            have hmf103 : tw_fv E95 a0 2 = .ref xr11 := (hst99.1 a0 2 hm0 (by rw [hk0]; decide)).trans hmf87
            have hmf104 : tw_fv E95 a0 3 = .ref xr25 := (hst99.1 a0 3 hm0 (by rw [hk0]; decide)).trans hmf88
            have hmf105 : tw_fv E95 a0 4 = .ref xr50 := (hst99.1 a0 4 hm0 (by rw [hk0]; decide)).trans hmf89
            have hmf106 : tw_fv E95 a0 5 = .ref xr65 := (hst99.1 a0 5 hm0 (by rw [hk0]; decide)).trans hmf90
            have hmf107 : tw_fv E95 a1 3 = .int zfxc83_0_0 := (hst99.1 a1 3 hm1 (by rw [hk1]; decide)).trans hzfxc83_0_0
            have hmf108 : tw_fv E95 a1 4 = .int zfxc83_0_1 := (hst99.1 a1 4 hm1 (by rw [hk1]; decide)).trans hzfxc83_0_1
            have hmf109 : tw_fv E95 a1 2 = .int xi91 := (hst99.1 a1 2 hm1 (by rw [hk1]; decide)).trans hxi91
            have hmf110 : tw_fv E95 a0 6 = .ref xr94 := (hst99.1 a0 6 hm0 (by rw [hk0]; decide)).trans hxr94
            have hg0_o := hg0
            have hg1_o := hg1
            have hg2_o := hg2
            have hg3_o := hg3
            have hkc0_o := hkc0
            have hcf2_o := hcf2
            have hcf3_o := hcf3
            have hgn24_o := hgn24
            have hgn39_o := hgn39
            have hgn81_o := hgn81
            have hg0 : sp_ok E95 a0 g0 := sp_ok_fr TH hst99 hm0 hk0 hmg0 hkg0 (by decide) (by decide) hg0
            have hg1 : ctx_ok E95 a0 a1 := ctx_ok_fr TH hst99 hm0 hk0 hm1 hk1 (by decide) (by decide) hg1
            have hg2 : gm_ok E95 a0 := gm_ok_st TH hm0 hk0 hp96 hp97 hp98 (by omega) (by rw [tw_fi_of hmf85]; omega) hg2_o
            have hg3 : gm_ok E95 g0 := gm_ok_oth (f := 6) TH hmg0 hkg0 hkxr94 (by decide) hxr94 hp96 hp97 hg0_o hg3_o
            have hkc0 : kc_ok E95 g0 (tw_fi E g0 1) := kc_ok_fr TH hst99 hmg0 hkg0 (by decide) (by decide) hkc0
            have hcf2 : cf_ok E95 a0 2 (fun j => if j = (fv0_1.toInt).toNat then fv1_3.toInt else (tw_el E a0 2) j) := c2_ok_fr TH hst99 hm0 hk0 (by decide) (by decide) hcf2
            have hcf3 : cf_ok E95 a0 3 (fun j => if j = (fv0_1.toInt).toNat then fv1_4.toInt else (tw_el E a0 3) j) := c3_ok_fr TH hst99 hm0 hk0 (by decide) (by decide) hcf3
            have hgn24 : el_is E95 a0 2 (fv0_1.toInt) (fv1_3.toInt) := e2_ok_fr TH hst99 hm0 hk0 (by decide) (by decide) hgn24
            have hgn39 : el_is E95 a0 3 (fv0_1.toInt) (fv1_4.toInt) := e3_ok_fr TH hst99 hm0 hk0 (by decide) (by decide) hgn39
            have hgn81 : el_is E95 a0 5 (fv0_1.toInt) (fv0_7.toInt) := e5_ok_fr TH hst99 hm0 hk0 (by decide) (by decide) hgn81
            have hgn111 : el_is E95 a0 6 (fv0_1.toInt) (fv0_7.toInt) := el_is_st hxr94 hp96 hp97 hp98
            refine lv_aload_n hx hb dX2_readRule_161 rfl (lv_at hl 2 rfl) ?_
            refine tw_get (ci := 9) (C := RX9) (T := TX9) (N := 5) hx hb hB cx_inX9 hown hK TH hm1 hk1 rfl ⟨by decide, rfl⟩ 2 (by decide) cw_40 (fun _ h9 => h9) dX2_readRule_162 (fun hv => ?_)
            rw [hmf109]
            refine lv_bipush (v := 59) hx hb dX2_readRule_165 (by decide) ?_
            refine lv_icmp_eq (tgt := 175) hx hb dX2_readRule_167 (by decide) (fun hc112 => ?_) (fun hc112 => ?_)
            · have hf113 : xi91.toInt = 59 := by have z := (fa_eq _ _).mp hc112; have : ((59 : Int32).toInt) = 59 := (by decide); omega
              refine lv_aload_n hx hb dX2_readRule_175 rfl (lv_at hl 1 rfl) ?_
              refine lv_dup hx hb dX2_readRule_176 rfl ?_
              refine tw_get (ci := 2) (C := RX2) (T := TX2) (N := 13) hx hb hB cx_inX2 hown hK TH hm0 hk0 rfl ⟨by decide, rfl⟩ 1 (by decide) cw_68 (fun _ h9 => h9) dX2_readRule_177 (fun hv => ?_)
              rw [hmf101]
              refine lv_iconst (v := 1) hx hb dX2_readRule_180 (by decide) ?_
              refine lv_iadd hx hb dX2_readRule_181 ?_
              refine lv_topi (fun zi114 ezi114 => ?_)
              have hzi114 : zi114.toInt = fv0_1.toInt + 1 := by rw [ezi114]; have : ((1 : Int32).toInt) = 1 := (by decide); have := ia_lo fv0_1; have := ia_hi fv0_1; exact (ia_add (by omega) (by omega)).trans (by omega)
              refine tw_put (ci := 2) (v := .int zi114) (ty := .int) (C := RX2) (T := TX2) (N := 13) hx hb hB cx_inX2 tyX2 tyX2_ok nmX2 hown hK TH hS hm0 hk0 rfl ⟨by decide, rfl⟩ 1 (by decide) cw_68 (fun _ h9 => h9) rfl (by decide +kernel) rfl rfl ⟨_, rfl, (show 0 ≤ Int32.toInt zi114 from by  omega), (show Int32.toInt zi114 ≤ 10 from by  omega)⟩ dX2_readRule_182 (fun H locs E115 TH hS hmf119 hp116 hp117 => ?_)
              have hst118 : tw_fr kp L [(2, 1)] [] E95 E115 := tw_fr.put tw_fr.rf (fun _ => hk0) (by decide) hp116 hp117 (by decide)
              have hF := hF.tr hst118 (fun _ h => ⟨h, rfl⟩) (by decide) (by decide)
              have hF31 := hF31.tr hst118 (fun _ h => ⟨h, rfl⟩) (by decide) (by decide)
              have hmf120 : tw_fv E115 a1 1 = .int fv1_1 := (hst118.1 a1 1 hm1 (by rw [hk1]; decide)).trans hmf100
              have hmf121 : tw_fv E115 a0 7 = .int fv0_7 := (hst118.1 a0 7 hm0 (by rw [hk0]; decide)).trans hmf102
              have hmf122 : tw_fv E115 a0 2 = .ref xr11 := (hst118.1 a0 2 hm0 (by rw [hk0]; decide)).trans hmf103
              have hmf123 : tw_fv E115 a0 3 = .ref xr25 := (hst118.1 a0 3 hm0 (by rw [hk0]; decide)).trans hmf104
              have hmf124 : tw_fv E115 a0 4 = .ref xr50 := (hst118.1 a0 4 hm0 (by rw [hk0]; decide)).trans hmf105
              have hmf125 : tw_fv E115 a0 5 = .ref xr65 := (hst118.1 a0 5 hm0 (by rw [hk0]; decide)).trans hmf106
              have hmf126 : tw_fv E115 a1 3 = .int zfxc83_0_0 := (hst118.1 a1 3 hm1 (by rw [hk1]; decide)).trans hmf107
              have hmf127 : tw_fv E115 a1 4 = .int zfxc83_0_1 := (hst118.1 a1 4 hm1 (by rw [hk1]; decide)).trans hmf108
              have hmf128 : tw_fv E115 a1 2 = .int xi91 := (hst118.1 a1 2 hm1 (by rw [hk1]; decide)).trans hmf109
              have hmf129 : tw_fv E115 a0 6 = .ref xr94 := (hst118.1 a0 6 hm0 (by rw [hk0]; decide)).trans hmf110
              have hg0_o := hg0
              have hg1_o := hg1
              have hg2_o := hg2
              have hg3_o := hg3
              have hkc0_o := hkc0
              have hcf2_o := hcf2
              have hcf3_o := hcf3
              have hgn24_o := hgn24
              have hgn39_o := hgn39
              have hgn81_o := hgn81
              have hgn111_o := hgn111
              have hg0 : sp_ok E115 a0 g0 := sp_ok_fr TH hst118 hm0 hk0 hmg0 hkg0 (by decide) (by decide) hg0
              have hg1 : ctx_ok E115 a0 a1 := ctx_ok_fr TH hst118 hm0 hk0 hm1 hk1 (by decide) (by decide) hg1
              have hg2 : gm_ok E115 a0 := gm_ok_inc hmf119 hp116 hp117 TH hm0 hk0 (tw_fi_of hmf101) (by omega) (by omega) hgn24_o hgn39_o (by omega) hgn81_o hgn111_o (by omega) hg2_o
              have hg3 : gm_ok E115 g0 := gm_ok_cnt hp116 hp117 TH hk0 hmg0 hkg0 (hg0_o).1 hg3_o
              have hkc0 : kc_ok E115 g0 (tw_fi E g0 1) := kc_oth hp116 (fun z => (sp_ne hg0_o) z.symm) hkc0_o
              have hcf2 : cf_ok E115 a0 2 (fun j => if j = (fv0_1.toInt).toNat then fv1_3.toInt else (tw_el E a0 2) j) := c2_ok_fr TH hst118 hm0 hk0 (by decide) (by decide) hcf2
              have hcf3 : cf_ok E115 a0 3 (fun j => if j = (fv0_1.toInt).toNat then fv1_4.toInt else (tw_el E a0 3) j) := c3_ok_fr TH hst118 hm0 hk0 (by decide) (by decide) hcf3
              have hgn24 : el_is E115 a0 2 (fv0_1.toInt) (fv1_3.toInt) := e2_ok_fr TH hst118 hm0 hk0 (by decide) (by decide) hgn24
              have hgn39 : el_is E115 a0 3 (fv0_1.toInt) (fv1_4.toInt) := e3_ok_fr TH hst118 hm0 hk0 (by decide) (by decide) hgn39
              have hgn81 : el_is E115 a0 5 (fv0_1.toInt) (fv0_7.toInt) := e5_ok_fr TH hst118 hm0 hk0 (by decide) (by decide) hgn81
              have hgn111 : el_is E115 a0 6 (fv0_1.toInt) (fv0_7.toInt) := e6_ok_fr TH hst118 hm0 hk0 (by decide) (by decide) hgn111
              have ft185 := elg_fr TH hF hm1 hk1 (k := 0) (by decide) (by decide) rfl (by decide) (by decide) (by decide)
              refine lv_aload_n hx hb dX2_readRule_185 rfl (lv_at hl 2 rfl) ?_
              refine tw_Vc (o := a1) (ci := 9) (n := 0) (post := (fun v kq Lq Eq => v = none ∧ kp = kq ∧ L = Lq ∧ tw_fr kp L [(9, 2), (9, 3), (9, 4)] [] E115 Eq ∧ (lx_WS (tw_el E115 a1 0) fv1_1.toInt zfxc83_0_1.toInt (tw_fi Eq a1 3) ∧ tc_tk (tw_el E115 a1 0) fv1_1.toInt (tw_fi Eq a1 3) (tw_fi Eq a1 4) (tw_fi Eq a1 2)) ∧ (∃ z0 z1 : Int32, tw_fv Eq a1 3 = .int z0 ∧ tw_fv Eq a1 4 = .int z1 ∧ (z0.toInt ≤ z1.toInt ∧ z1.toInt ≤ fv1_1.toInt ∧ zfxc83_0_1.toInt ≤ z0.toInt)))) (As := []) (rest := []) ⟨hx, hb, hml, hown, hB⟩ (fun sz => tX9_advance_vG l D cs a1 zfxc83_0_1 fv1_1 hm1 hk1 hmf127 hmf120 (by  omega) sz) cg_2_71_X9_advance rfl rfl (by decide +kernel) ⟨Nat.le_of_ble_eq_true rfl, Nat.le_of_ble_eq_true rfl⟩ hK hN TH hS hA rfl hm1 hk1 (by decide) rfl hl.1 rfl (Nat.le_of_ble_eq_true rfl) dX2_readRule_186 ⟨Nat.le_of_ble_eq_true rfl, Nat.le_of_ble_eq_true rfl⟩ (fun v130 kp130 L130 E130 H locs hq130 hx130 TH hS => ?_)
              obtain ⟨rfl, rfl, rfl, hst130, hpoxc131_0, ⟨zfxc131_0_0, zfxc131_0_1, hzfxc131_0_0, hzfxc131_0_1, hzpxc131_0⟩⟩ := hq130
              have hF := hF.tr hst130 (fun _ h => ⟨h, rfl⟩) (by decide) (by decide)
              have hF31 := hF31.tr hst130 (fun _ h => ⟨h, rfl⟩) (by decide) (by decide)
              have hmf132 : tw_fv E130 a1 1 = .int fv1_1 := (hst130.1 a1 1 hm1 (by rw [hk1]; decide)).trans hmf120
              have hmf133 : tw_fv E130 a0 7 = .int fv0_7 := (hst130.1 a0 7 hm0 (by rw [hk0]; decide)).trans hmf121
              have hmf134 : tw_fv E130 a0 2 = .ref xr11 := (hst130.1 a0 2 hm0 (by rw [hk0]; decide)).trans hmf122
              have hmf135 : tw_fv E130 a0 3 = .ref xr25 := (hst130.1 a0 3 hm0 (by rw [hk0]; decide)).trans hmf123
              have hmf136 : tw_fv E130 a0 4 = .ref xr50 := (hst130.1 a0 4 hm0 (by rw [hk0]; decide)).trans hmf124
              have hmf137 : tw_fv E130 a0 5 = .ref xr65 := (hst130.1 a0 5 hm0 (by rw [hk0]; decide)).trans hmf125
              have hmf138 : tw_fv E130 a0 6 = .ref xr94 := (hst130.1 a0 6 hm0 (by rw [hk0]; decide)).trans hmf129
              have hmf139 : tw_fv E130 a0 1 = .int zi114 := (hst130.1 a0 1 hm0 (by rw [hk0]; decide)).trans hmf119
              have hg0 : sp_ok E130 a0 g0 := sp_ok_fr TH hst130 hm0 hk0 hmg0 hkg0 (by decide) (by decide) hg0
              have hg1 : ctx_ok E130 a0 a1 := ctx_ok_fr TH hst130 hm0 hk0 hm1 hk1 (by decide) (by decide) hg1
              have hg2 : gm_ok E130 a0 := gm_ok_fr TH hst130 hm0 hk0 (by decide) (by decide) hg2
              have hg3 : gm_ok E130 g0 := gm_ok_fr TH hst130 hmg0 hkg0 (by decide) (by decide) hg3
              have hkc0 : kc_ok E130 g0 (tw_fi E g0 1) := kc_ok_fr TH hst130 hmg0 hkg0 (by decide) (by decide) hkc0
              have hcf2 : cf_ok E130 a0 2 (fun j => if j = (fv0_1.toInt).toNat then fv1_3.toInt else (tw_el E a0 2) j) := c2_ok_fr TH hst130 hm0 hk0 (by decide) (by decide) hcf2
              have hcf3 : cf_ok E130 a0 3 (fun j => if j = (fv0_1.toInt).toNat then fv1_4.toInt else (tw_el E a0 3) j) := c3_ok_fr TH hst130 hm0 hk0 (by decide) (by decide) hcf3
              have hgn24 : el_is E130 a0 2 (fv0_1.toInt) (fv1_3.toInt) := e2_ok_fr TH hst130 hm0 hk0 (by decide) (by decide) hgn24
              have hgn39 : el_is E130 a0 3 (fv0_1.toInt) (fv1_4.toInt) := e3_ok_fr TH hst130 hm0 hk0 (by decide) (by decide) hgn39
              have hgn81 : el_is E130 a0 5 (fv0_1.toInt) (fv0_7.toInt) := e5_ok_fr TH hst130 hm0 hk0 (by decide) (by decide) hgn81
              have hgn111 : el_is E130 a0 6 (fv0_1.toInt) (fv0_7.toInt) := e6_ok_fr TH hst130 hm0 hk0 (by decide) (by decide) hgn111
              obtain ⟨qzfxc131_0_0, hqzfxc131_0_0, hqzfxc131_0_0a, hqzfxc131_0_0b⟩ := tw_rd TH hm1 hk1 (by decide) (by decide) (k := 3) rfl
              have eqzfxc131_0_0 : qzfxc131_0_0 = zfxc131_0_0 := by have q := hqzfxc131_0_0.symm.trans hzfxc131_0_0; injection q
              rw [eqzfxc131_0_0] at hqzfxc131_0_0a hqzfxc131_0_0b
              obtain ⟨qzfxc131_0_1, hqzfxc131_0_1, hqzfxc131_0_1a, hqzfxc131_0_1b⟩ := tw_rd TH hm1 hk1 (by decide) (by decide) (k := 4) rfl
              have eqzfxc131_0_1 : qzfxc131_0_1 = zfxc131_0_1 := by have q := hqzfxc131_0_1.symm.trans hzfxc131_0_1; injection q
              rw [eqzfxc131_0_1] at hqzfxc131_0_1a hqzfxc131_0_1b
              refine W.eq (g2 := F0 m 189 ls []) rfl ?_
              obtain ⟨xi140, hxi140, hxi140a, hxi140b⟩ := tw_rd TH hm1 hk1 (by decide) (by decide) (k := 2) rfl
              have hp4 := hpoxc131_0
              rw [ft185, tw_fi_of hzfxc131_0_0, tw_fi_of hzfxc131_0_1, tw_fi_of hxi140] at hp4
              have hfin := cy_3 hg6 hT3 (by omega) (by omega) (by omega) hp4.1
              have hKq : (prs (tw_el E130 a0 2) (tw_el E130 a0 3) (fv0_1.toInt + 1)) = gy_ins (prs (tw_el E a0 2) (tw_el E a0 3) (fv0_1.toInt)) (fv1_3.toInt, fv1_4.toInt) := prs_push (k := fv0_1.toInt) (by omega) rfl hcf2 hcf3
              have fq8 := elg_fr TH hF31 hm0 hk0 (k := 8) (by decide) (by decide) rfl (by decide) (by decide) (by decide)
              have fq9 := elg_fr TH hF31 hm0 hk0 (k := 9) (by decide) (by decide) rfl (by decide) (by decide) (by decide)
              refine lv_iconst (v := (-1)) hx hb dX2_readRule_189 (by decide) ?_
              exact tw_iret hx hb hr hlocks TH hS hex ⟨⟨_, rfl, (show (-1) ≤ Int32.toInt (-1) from by have : (((-1) : Int32).toInt) = (-1) := (by decide); omega), (show Int32.toInt (-1) ≤ 500 from by have : (((-1) : Int32).toInt) = (-1) := (by decide); omega), (by have : (((-1) : Int32).toInt) = (-1) := (by decide); intro q; exact absurd (by decide) q), (by have : (((-1) : Int32).toInt) = (-1) := (by decide); intro _; rw [tw_fi_of hzfxc131_0_0, tw_fi_of hzfxc131_0_1, tw_fi_of hxi140]; exact hp4.2), (by have : (((-1) : Int32).toInt) = (-1) := (by decide); intro _; rw [tw_fi_of hmf139]; omega), (by have : (((-1) : Int32).toInt) = (-1) := (by decide); intro _; rw [tw_fi_of hzfxc131_0_0, tw_fi_of hmf133, hKq, fq8, fq9]; exact hfin), (by have : (((-1) : Int32).toInt) = (-1) := (by decide); intro _; rw [tw_fi_of hmf133, hKq, fq8, fq9]; exact ⟨ib_ins hpre4 (by omega) (by omega) (by omega), hpre5⟩), (by have : (((-1) : Int32).toInt) = (-1) := (by decide); intro _; rw [tw_fi_of hmf133, tw_fi_of hzfxc131_0_0]; omega), (by have : (((-1) : Int32).toInt) = (-1) := (by decide); exact hkc0), ⟨zfxc131_0_0, zfxc131_0_1, hzfxc131_0_0, hzfxc131_0_1, by have : (((-1) : Int32).toInt) = (-1) := (by decide); omega⟩, hg2, hg3⟩, rfl, rfl, hF⟩ (Nat.le_of_ble_eq_true rfl) (Nat.le_of_ble_eq_true rfl) dX2_readRule_190
            · have hf141 : ¬ (xi91.toInt = 59) := fun q => hc112 ((fa_eq _ _).mpr (by have : ((59 : Int32).toInt) = 59 := (by decide); omega))
              refine lv_aload_n hx hb dX2_readRule_170 rfl (lv_at hl 2 rfl) ?_
              refine tw_get (ci := 9) (C := RX9) (T := TX9) (N := 5) hx hb hB cx_inX9 hown hK TH hm1 hk1 rfl ⟨by decide, rfl⟩ 3 (by decide) cw_44 (fun _ h9 => h9) dX2_readRule_171 (fun hv => ?_)
              rw [hmf107]
              exact tw_iret hx hb hr hlocks TH hS hex ⟨⟨_, rfl, (show (-1) ≤ Int32.toInt zfxc83_0_0 from by  omega), (show Int32.toInt zfxc83_0_0 ≤ 500 from by  omega), (by  intro _; exact cy_3f hg6 hT3 (by omega) (by omega)), (by  intro q; exfalso; omega), (by  intro q; exfalso; omega), (by  intro q; exfalso; omega), (by  intro q; exfalso; omega), (by  intro q; exfalso; omega), (by  exact hkc0), ⟨zfxc83_0_0, zfxc83_0_1, hmf107, hmf108, by  omega⟩, hg2, hg3⟩, rfl, rfl, hF⟩ (Nat.le_of_ble_eq_true rfl) (Nat.le_of_ble_eq_true rfl) dX2_readRule_174
          · have hf142 : ¬ (xi47.toInt = 2) := fun q => hc92 ((fa_eq _ _).mpr (by have : ((2 : Int32).toInt) = 2 := (by decide); omega))
            exfalso; omega
        · have hf143 : ¬ (xi47.toInt = 2) := fun q => hc48 ((fa_eq _ _).mpr (by have : ((2 : Int32).toInt) = 2 := (by decide); omega))
          refine lv_iload_n hx hb dX2_readRule_71 rfl (lv_at hl 0 rfl) ?_
          refine lv_iconst (v := 3) hx hb dX2_readRule_72 (by decide) ?_
          refine lv_icmp_eq (tgt := 87) hx hb dX2_readRule_73 (by decide) (fun hc144 => ?_) (fun hc144 => ?_)
          · have hf145 : xi47.toInt = 3 := by have z := (fa_eq _ _).mp hc144; have : ((3 : Int32).toInt) = 3 := (by decide); omega
            refine lv_aload_n hx hb dX2_readRule_87 rfl (lv_at hl 1 rfl) ?_
            refine tw_get (ci := 2) (C := RX2) (T := TX2) (N := 13) hx hb hB cx_inX2 hown hK TH hm0 hk0 rfl ⟨by decide, rfl⟩ 4 (by decide) cw_74 (fun _ h9 => h9) dX2_readRule_88 (fun hv => ?_)
            obtain ⟨xr146, hxr146, hmxr146, hkxr146⟩ : ∃ a : Nat, tw_fv E40 a0 4 = .ref a ∧ a ∈ L ∧ kp a = 131 := hv
            rw [hxr146]
            refine lv_aload_n hx hb dX2_readRule_91 rfl (lv_at hl 1 rfl) ?_
            refine tw_get (ci := 2) (C := RX2) (T := TX2) (N := 13) hx hb hB cx_inX2 hown hK TH hm0 hk0 rfl ⟨by decide, rfl⟩ 1 (by decide) cw_68 (fun _ h9 => h9) dX2_readRule_92 (fun hv => ?_)
            rw [hmf43]
            refine lv_iload_n hx hb dX2_readRule_95 rfl (lv_at hl 0 rfl) ?_
            refine tw_iast (k := 131) (n := 10) (lo := 0) (hi := 255) hx hb hK TH hS hmxr146 hkxr146 (by decide) rfl (i := fv0_1) (x := xi47) (vp_in_iff.mpr ⟨by  omega, by  omega⟩) (by omega) (by omega) dX2_readRule_96 (fun H locs E147 TH hS hp148 hp149 hp150 => ?_)
            have hst151 : tw_fr kp L [] [131] E40 E147 := tw_fr.ast tw_fr.rf (fun _ => hkxr146) hp148 hp149 (by decide)
            have hF := hF.tr hst151 (fun _ h => ⟨h, rfl⟩) (by decide) (by decide)
            have hF31 := hF31.tr hst151 (fun _ h => ⟨h, rfl⟩) (by decide) (by decide)
            have hmf152 : tw_fv E147 a1 1 = .int fv1_1 := (hst151.1 a1 1 hm1 (by rw [hk1]; decide)).trans hmf42
            have hmf153 : tw_fv E147 a0 1 = .int fv0_1 := (hst151.1 a0 1 hm0 (by rw [hk0]; decide)).trans hmf43
            have hmf154 : tw_fv E147 a0 7 = .int fv0_7 := (hst151.1 a0 7 hm0 (by rw [hk0]; decide)).trans hmf44
            have hmf155 : tw_fv E147 a0 2 = .ref xr11 := (hst151.1 a0 2 hm0 (by rw [hk0]; decide)).trans hmf45
            have hmf156 : tw_fv E147 a0 3 = .ref xr25 := (hst151.1 a0 3 hm0 (by rw [hk0]; decide)).trans hmf46
            have hmf157 : tw_fv E147 a1 3 = .int zfxc41_0_0 := (hst151.1 a1 3 hm1 (by rw [hk1]; decide)).trans hzfxc41_0_0
            have hmf158 : tw_fv E147 a1 4 = .int zfxc41_0_1 := (hst151.1 a1 4 hm1 (by rw [hk1]; decide)).trans hzfxc41_0_1
            have hmf159 : tw_fv E147 a1 2 = .int xi47 := (hst151.1 a1 2 hm1 (by rw [hk1]; decide)).trans hxi47
            have hmf160 : tw_fv E147 a0 4 = .ref xr146 := (hst151.1 a0 4 hm0 (by rw [hk0]; decide)).trans hxr146
            have hg0 : sp_ok E147 a0 g0 := sp_ok_fr TH hst151 hm0 hk0 hmg0 hkg0 (by decide) (by decide) hg0
            have hg1 : ctx_ok E147 a0 a1 := ctx_ok_fr TH hst151 hm0 hk0 hm1 hk1 (by decide) (by decide) hg1
            have hg2 : gm_ok E147 a0 := gm_ok_fr TH hst151 hm0 hk0 (by decide) (by decide) hg2
            have hg3 : gm_ok E147 g0 := gm_ok_fr TH hst151 hmg0 hkg0 (by decide) (by decide) hg3
            have hkc0 : kc_ok E147 g0 (tw_fi E g0 1) := kc_ok_fr TH hst151 hmg0 hkg0 (by decide) (by decide) hkc0
            have hcf2 : cf_ok E147 a0 2 (fun j => if j = (fv0_1.toInt).toNat then fv1_3.toInt else (tw_el E a0 2) j) := c2_ok_fr TH hst151 hm0 hk0 (by decide) (by decide) hcf2
            have hcf3 : cf_ok E147 a0 3 (fun j => if j = (fv0_1.toInt).toNat then fv1_4.toInt else (tw_el E a0 3) j) := c3_ok_fr TH hst151 hm0 hk0 (by decide) (by decide) hcf3
            have hgn24 : el_is E147 a0 2 (fv0_1.toInt) (fv1_3.toInt) := e2_ok_fr TH hst151 hm0 hk0 (by decide) (by decide) hgn24
            have hgn39 : el_is E147 a0 3 (fv0_1.toInt) (fv1_4.toInt) := e3_ok_fr TH hst151 hm0 hk0 (by decide) (by decide) hgn39
            refine lv_aload_n hx hb dX2_readRule_97 rfl (lv_at hl 1 rfl) ?_
            refine tw_get (ci := 2) (C := RX2) (T := TX2) (N := 13) hx hb hB cx_inX2 hown hK TH hm0 hk0 rfl ⟨by decide, rfl⟩ 5 (by decide) cw_75 (fun _ h9 => h9) dX2_readRule_98 (fun hv => ?_)
            obtain ⟨xr161, hxr161, hmxr161, hkxr161⟩ : ∃ a : Nat, tw_fv E147 a0 5 = .ref a ∧ a ∈ L ∧ kp a = 136 := hv
            rw [hxr161]
            refine lv_aload_n hx hb dX2_readRule_101 rfl (lv_at hl 1 rfl) ?_
            refine tw_get (ci := 2) (C := RX2) (T := TX2) (N := 13) hx hb hB cx_inX2 hown hK TH hm0 hk0 rfl ⟨by decide, rfl⟩ 1 (by decide) cw_68 (fun _ h9 => h9) dX2_readRule_102 (fun hv => ?_)
            rw [hmf153]
            refine lv_aload_n hx hb dX2_readRule_105 rfl (lv_at hl 1 rfl) ?_
            refine tw_get (ci := 2) (C := RX2) (T := TX2) (N := 13) hx hb hB cx_inX2 hown hK TH hm0 hk0 rfl ⟨by decide, rfl⟩ 7 (by decide) cw_77 (fun _ h9 => h9) dX2_readRule_106 (fun hv => ?_)
            rw [hmf154]
            refine tw_iast (k := 136) (n := 10) (lo := 0) (hi := 500) hx hb hK TH hS hmxr161 hkxr161 (by decide) rfl (i := fv0_1) (x := fv0_7) (vp_in_iff.mpr ⟨by  omega, by  omega⟩) (by omega) (by omega) dX2_readRule_109 (fun H locs E162 TH hS hp163 hp164 hp165 => ?_)
            have hst166 : tw_fr kp L [] [136] E147 E162 := tw_fr.ast tw_fr.rf (fun _ => hkxr161) hp163 hp164 (by decide)
            have hF := hF.tr hst166 (fun _ h => ⟨h, rfl⟩) (by decide) (by decide)
            have hF31 := hF31.tr hst166 (fun _ h => ⟨h, rfl⟩) (by decide) (by decide)
            have hmf167 : tw_fv E162 a1 1 = .int fv1_1 := (hst166.1 a1 1 hm1 (by rw [hk1]; decide)).trans hmf152
            have hmf168 : tw_fv E162 a0 1 = .int fv0_1 := (hst166.1 a0 1 hm0 (by rw [hk0]; decide)).trans hmf153
            have hmf169 : tw_fv E162 a0 7 = .int fv0_7 := (hst166.1 a0 7 hm0 (by rw [hk0]; decide)).trans hmf154
            have hmf170 : tw_fv E162 a0 2 = .ref xr11 := (hst166.1 a0 2 hm0 (by rw [hk0]; decide)).trans hmf155
            have hmf171 : tw_fv E162 a0 3 = .ref xr25 := (hst166.1 a0 3 hm0 (by rw [hk0]; decide)).trans hmf156
            have hmf172 : tw_fv E162 a1 3 = .int zfxc41_0_0 := (hst166.1 a1 3 hm1 (by rw [hk1]; decide)).trans hmf157
            have hmf173 : tw_fv E162 a1 4 = .int zfxc41_0_1 := (hst166.1 a1 4 hm1 (by rw [hk1]; decide)).trans hmf158
            have hmf174 : tw_fv E162 a1 2 = .int xi47 := (hst166.1 a1 2 hm1 (by rw [hk1]; decide)).trans hmf159
            have hmf175 : tw_fv E162 a0 4 = .ref xr146 := (hst166.1 a0 4 hm0 (by rw [hk0]; decide)).trans hmf160
            have hmf176 : tw_fv E162 a0 5 = .ref xr161 := (hst166.1 a0 5 hm0 (by rw [hk0]; decide)).trans hxr161
            have hg0_o := hg0
            have hg1_o := hg1
            have hg2_o := hg2
            have hg3_o := hg3
            have hkc0_o := hkc0
            have hcf2_o := hcf2
            have hcf3_o := hcf3
            have hgn24_o := hgn24
            have hgn39_o := hgn39
            have hg0 : sp_ok E162 a0 g0 := sp_ok_fr TH hst166 hm0 hk0 hmg0 hkg0 (by decide) (by decide) hg0
            have hg1 : ctx_ok E162 a0 a1 := ctx_ok_fr TH hst166 hm0 hk0 hm1 hk1 (by decide) (by decide) hg1
            have hg2 : gm_ok E162 a0 := gm_ok_st TH hm0 hk0 hp163 hp164 hp165 (by omega) (by rw [tw_fi_of hmf153]; omega) hg2_o
            have hg3 : gm_ok E162 g0 := gm_ok_oth (f := 5) TH hmg0 hkg0 hkxr161 (by decide) hxr161 hp163 hp164 hg0_o hg3_o
            have hkc0 : kc_ok E162 g0 (tw_fi E g0 1) := kc_ok_fr TH hst166 hmg0 hkg0 (by decide) (by decide) hkc0
            have hcf2 : cf_ok E162 a0 2 (fun j => if j = (fv0_1.toInt).toNat then fv1_3.toInt else (tw_el E a0 2) j) := c2_ok_fr TH hst166 hm0 hk0 (by decide) (by decide) hcf2
            have hcf3 : cf_ok E162 a0 3 (fun j => if j = (fv0_1.toInt).toNat then fv1_4.toInt else (tw_el E a0 3) j) := c3_ok_fr TH hst166 hm0 hk0 (by decide) (by decide) hcf3
            have hgn24 : el_is E162 a0 2 (fv0_1.toInt) (fv1_3.toInt) := e2_ok_fr TH hst166 hm0 hk0 (by decide) (by decide) hgn24
            have hgn39 : el_is E162 a0 3 (fv0_1.toInt) (fv1_4.toInt) := e3_ok_fr TH hst166 hm0 hk0 (by decide) (by decide) hgn39
            have hgn177 : el_is E162 a0 5 (fv0_1.toInt) (fv0_7.toInt) := el_is_st hxr161 hp163 hp164 hp165
            have ft110 := elg_fr TH hF hm1 hk1 (k := 0) (by decide) (by decide) rfl (by decide) (by decide) (by decide)
            refine lv_aload_n hx hb dX2_readRule_110 rfl (lv_at hl 2 rfl) ?_
            refine tw_Vc (o := a1) (ci := 9) (n := 0) (post := (fun v kq Lq Eq => v = none ∧ kp = kq ∧ L = Lq ∧ tw_fr kp L [(9, 2), (9, 3), (9, 4)] [] E162 Eq ∧ (lx_WS (tw_el E162 a1 0) fv1_1.toInt zfxc41_0_1.toInt (tw_fi Eq a1 3) ∧ tc_tk (tw_el E162 a1 0) fv1_1.toInt (tw_fi Eq a1 3) (tw_fi Eq a1 4) (tw_fi Eq a1 2)) ∧ (∃ z0 z1 : Int32, tw_fv Eq a1 3 = .int z0 ∧ tw_fv Eq a1 4 = .int z1 ∧ (z0.toInt ≤ z1.toInt ∧ z1.toInt ≤ fv1_1.toInt ∧ zfxc41_0_1.toInt ≤ z0.toInt)))) (As := []) (rest := []) ⟨hx, hb, hml, hown, hB⟩ (fun sz => tX9_advance_vG l D cs a1 zfxc41_0_1 fv1_1 hm1 hk1 hmf173 hmf167 (by  omega) sz) cg_2_71_X9_advance rfl rfl (by decide +kernel) ⟨Nat.le_of_ble_eq_true rfl, Nat.le_of_ble_eq_true rfl⟩ hK hN TH hS hA rfl hm1 hk1 (by decide) rfl hl.1 rfl (Nat.le_of_ble_eq_true rfl) dX2_readRule_111 ⟨Nat.le_of_ble_eq_true rfl, Nat.le_of_ble_eq_true rfl⟩ (fun v178 kp178 L178 E178 H locs hq178 hx178 TH hS => ?_)
            obtain ⟨rfl, rfl, rfl, hst178, hpoxc179_0, ⟨zfxc179_0_0, zfxc179_0_1, hzfxc179_0_0, hzfxc179_0_1, hzpxc179_0⟩⟩ := hq178
            have hF := hF.tr hst178 (fun _ h => ⟨h, rfl⟩) (by decide) (by decide)
            have hF31 := hF31.tr hst178 (fun _ h => ⟨h, rfl⟩) (by decide) (by decide)
            have hmf180 : tw_fv E178 a1 1 = .int fv1_1 := (hst178.1 a1 1 hm1 (by rw [hk1]; decide)).trans hmf167
            have hmf181 : tw_fv E178 a0 1 = .int fv0_1 := (hst178.1 a0 1 hm0 (by rw [hk0]; decide)).trans hmf168
            have hmf182 : tw_fv E178 a0 7 = .int fv0_7 := (hst178.1 a0 7 hm0 (by rw [hk0]; decide)).trans hmf169
            have hmf183 : tw_fv E178 a0 2 = .ref xr11 := (hst178.1 a0 2 hm0 (by rw [hk0]; decide)).trans hmf170
            have hmf184 : tw_fv E178 a0 3 = .ref xr25 := (hst178.1 a0 3 hm0 (by rw [hk0]; decide)).trans hmf171
            have hmf185 : tw_fv E178 a0 4 = .ref xr146 := (hst178.1 a0 4 hm0 (by rw [hk0]; decide)).trans hmf175
            have hmf186 : tw_fv E178 a0 5 = .ref xr161 := (hst178.1 a0 5 hm0 (by rw [hk0]; decide)).trans hmf176
            have hg0 : sp_ok E178 a0 g0 := sp_ok_fr TH hst178 hm0 hk0 hmg0 hkg0 (by decide) (by decide) hg0
            have hg1 : ctx_ok E178 a0 a1 := ctx_ok_fr TH hst178 hm0 hk0 hm1 hk1 (by decide) (by decide) hg1
            have hg2 : gm_ok E178 a0 := gm_ok_fr TH hst178 hm0 hk0 (by decide) (by decide) hg2
            have hg3 : gm_ok E178 g0 := gm_ok_fr TH hst178 hmg0 hkg0 (by decide) (by decide) hg3
            have hkc0 : kc_ok E178 g0 (tw_fi E g0 1) := kc_ok_fr TH hst178 hmg0 hkg0 (by decide) (by decide) hkc0
            have hcf2 : cf_ok E178 a0 2 (fun j => if j = (fv0_1.toInt).toNat then fv1_3.toInt else (tw_el E a0 2) j) := c2_ok_fr TH hst178 hm0 hk0 (by decide) (by decide) hcf2
            have hcf3 : cf_ok E178 a0 3 (fun j => if j = (fv0_1.toInt).toNat then fv1_4.toInt else (tw_el E a0 3) j) := c3_ok_fr TH hst178 hm0 hk0 (by decide) (by decide) hcf3
            have hgn24 : el_is E178 a0 2 (fv0_1.toInt) (fv1_3.toInt) := e2_ok_fr TH hst178 hm0 hk0 (by decide) (by decide) hgn24
            have hgn39 : el_is E178 a0 3 (fv0_1.toInt) (fv1_4.toInt) := e3_ok_fr TH hst178 hm0 hk0 (by decide) (by decide) hgn39
            have hgn177 : el_is E178 a0 5 (fv0_1.toInt) (fv0_7.toInt) := e5_ok_fr TH hst178 hm0 hk0 (by decide) (by decide) hgn177
            obtain ⟨qzfxc179_0_0, hqzfxc179_0_0, hqzfxc179_0_0a, hqzfxc179_0_0b⟩ := tw_rd TH hm1 hk1 (by decide) (by decide) (k := 3) rfl
            have eqzfxc179_0_0 : qzfxc179_0_0 = zfxc179_0_0 := by have q := hqzfxc179_0_0.symm.trans hzfxc179_0_0; injection q
            rw [eqzfxc179_0_0] at hqzfxc179_0_0a hqzfxc179_0_0b
            obtain ⟨qzfxc179_0_1, hqzfxc179_0_1, hqzfxc179_0_1a, hqzfxc179_0_1b⟩ := tw_rd TH hm1 hk1 (by decide) (by decide) (k := 4) rfl
            have eqzfxc179_0_1 : qzfxc179_0_1 = zfxc179_0_1 := by have q := hqzfxc179_0_1.symm.trans hzfxc179_0_1; injection q
            rw [eqzfxc179_0_1] at hqzfxc179_0_1a hqzfxc179_0_1b
            refine W.eq (g2 := F0 m 114 ls []) rfl ?_
            obtain ⟨xi187, hxi187, hxi187a, hxi187b⟩ := tw_rd TH hm1 hk1 (by decide) (by decide) (k := 2) rfl
            have hp2 := hpoxc179_0
            rw [ft110, tw_fi_of hzfxc179_0_0, tw_fi_of hzfxc179_0_1, tw_fi_of hxi187] at hp2
            have hg5 := cy_4s hg4 hp1.2 (by omega) (by omega) (by omega) hp2.1
            refine lv_iload_n hx hb dX2_readRule_114 rfl (lv_at hl 0 rfl) ?_
            refine lv_iconst (v := 2) hx hb dX2_readRule_115 (by decide) ?_
            refine lv_icmp_eq (tgt := 148) hx hb dX2_readRule_116 (by decide) (fun hc188 => ?_) (fun hc188 => ?_)
            · have hf189 : xi47.toInt = 2 := by have z := (fa_eq _ _).mp hc188; have : ((2 : Int32).toInt) = 2 := (by decide); omega
              exfalso; omega
            · have hf190 : ¬ (xi47.toInt = 2) := fun q => hc188 ((fa_eq _ _).mpr (by have : ((2 : Int32).toInt) = 2 := (by decide); omega))
              refine lv_aload_n hx hb dX2_readRule_119 rfl (lv_at hl 2 rfl) ?_
              refine tw_get (ci := 9) (C := RX9) (T := TX9) (N := 5) hx hb hB cx_inX9 hown hK TH hm1 hk1 rfl ⟨by decide, rfl⟩ 2 (by decide) cw_40 (fun _ h9 => h9) dX2_readRule_120 (fun hv => ?_)
              rw [hxi187]
              refine lv_iconst (v := 1) hx hb dX2_readRule_123 (by decide) ?_
              refine lv_icmp_eq (tgt := 132) hx hb dX2_readRule_124 (by decide) (fun hc191 => ?_) (fun hc191 => ?_)
              · have hf192 : xi187.toInt = 1 := by have z := (fa_eq _ _).mp hc191; have : ((1 : Int32).toInt) = 1 := (by decide); omega
                refine lv_aload_n hx hb dX2_readRule_132 rfl (lv_at hl 1 rfl) ?_
                refine lv_aload_n hx hb dX2_readRule_133 rfl (lv_at hl 2 rfl) ?_
                refine lv_iload_n hx hb dX2_readRule_134 rfl (lv_at hl 0 rfl) ?_
                refine lv_bipush (v := 61) hx hb dX2_readRule_135 (by decide) ?_
                refine lv_icmp_ne (tgt := 144) hx hb dX2_readRule_137 (by decide) (fun hc193 => ?_) (fun hc193 => ?_)
                · have hf194 : ¬ (xi47.toInt = 61) := fun q => hc193 ((fa_eq _ _).mpr (by have : ((61 : Int32).toInt) = 61 := (by decide); omega))
                  refine lv_iconst (v := 0) hx hb dX2_readRule_144 (by decide) ?_
                  have ft132 := elg_fr TH hF hm1 hk1 (k := 0) (by decide) (by decide) rfl (by decide) (by decide) (by decide)
                  have hKc : (prs (tw_el E178 a0 2) (tw_el E178 a0 3) (fv0_1.toInt + 1)) = gy_ins (prs (tw_el E a0 2) (tw_el E a0 3) (fv0_1.toInt)) (fv1_3.toInt, fv1_4.toInt) := prs_push (k := fv0_1.toInt) (by omega) rfl hcf2 hcf3
                  have fc8 := elg_fr TH hF31 hm0 hk0 (k := 8) (by decide) (by decide) rfl (by decide) (by decide) (by decide)
                  have fc9 := elg_fr TH hF31 hm0 hk0 (k := 9) (by decide) (by decide) rfl (by decide) (by decide) (by decide)
                  refine tw_Vc (o := a0) (ci := 2) (n := 2) (post := (fun v kq Lq Eq => v = none ∧ kp = kq ∧ L = Lq ∧ tw_fr kp L [(2, 7), (9, 2), (9, 3), (9, 4)] [132, 134, 139] E178 Eq ∧ (tc_tk (tw_el E178 a1 0) fv1_1.toInt (tw_fi Eq a1 3) (tw_fi Eq a1 4) (tw_fi Eq a1 2) ∧ tw_fi Eq a1 2 ≠ 1) ∧ ((tw_fi Eq a1 2 = 59 → gy_at (tw_el E178 a1 0) fv1_1.toInt 3 (tw_fi Eq a1 3) (fv0_1.toInt + 1) (prs (tw_el E178 a0 2) (tw_el E178 a0 3) (fv0_1.toInt + 1)) (prs (tw_el Eq a0 8) (tw_el Eq a0 9) (tw_fi Eq a0 7))) ∧ (tw_fi Eq a1 2 ≠ 59 → gy_at (tw_el E178 a1 0) fv1_1.toInt (cq_ (0 : Int32).toInt) (tw_fi Eq a1 3) (fv0_1.toInt + 1) (prs (tw_el E178 a0 2) (tw_el E178 a0 3) (fv0_1.toInt + 1)) (prs (tw_el Eq a0 8) (tw_el Eq a0 9) (tw_fi Eq a0 7)))) ∧ (ib fv1_1.toInt (prs (tw_el Eq a0 8) (tw_el Eq a0 9) (tw_fi Eq a0 7))) ∧ (tw_fi Eq a0 7 ≤ tw_fi Eq a1 3) ∧ (∃ z0 : Int32, tw_fv Eq a0 7 = .int z0 ∧ (fv0_7.toInt ≤ z0.toInt)) ∧ (∃ z0 z1 : Int32, tw_fv Eq a1 3 = .int z0 ∧ tw_fv Eq a1 4 = .int z1 ∧ (z0.toInt ≤ z1.toInt ∧ z1.toInt ≤ fv1_1.toInt ∧ z0.toInt ≤ fv1_1.toInt)))) (As := [.ref a1, .int 0]) (rest := []) ⟨hx, hb, hml, hown, hB⟩ (fun sz => tX2_readItems_vG l D cs a0 a1 (0 : Int32) zfxc179_0_0 zfxc179_0_1 fv1_1 xi187 fv0_1 fv0_7 hm0 hk0 hm1 hk1 (by have : ((0 : Int32).toInt) = 0 := (by decide); omega) (by have : ((0 : Int32).toInt) = 0 := (by decide); omega) hzfxc179_0_0 hzfxc179_0_1 hmf180 hxi187 hmf181 hmf182 (by have : ((0 : Int32).toInt) = 0 := (by decide); omega) (by have : ((0 : Int32).toInt) = 0 := (by decide); rw [ft132]; exact hp2.2) (by have : ((0 : Int32).toInt) = 0 := (by decide); refine ⟨fun z => absurd z (by omega), fun _ => ?_⟩; rw [ft132, hKc, fc8, fc9, cq_1 (by decide)]; exact hg5) (by have : ((0 : Int32).toInt) = 0 := (by decide); omega) (by have : ((0 : Int32).toInt) = 0 := (by decide); rw [fc8, fc9]; exact hpre5) sz) cg_2_94_X2_readItems rfl rfl (by decide +kernel) ⟨Nat.le_of_ble_eq_true rfl, Nat.le_of_ble_eq_true rfl⟩ hK hN TH hS hA rfl hm0 hk0 (by decide) rfl hl.1 rfl (Nat.le_of_ble_eq_true rfl) dX2_readRule_145 ⟨Nat.le_of_ble_eq_true rfl, Nat.le_of_ble_eq_true rfl⟩ (fun v195 kp195 L195 E195 H locs hq195 hx195 TH hS => ?_)
                  obtain ⟨rfl, rfl, rfl, hst195, hpoxc196_0, hpoxc196_1, hpoxc196_2, hpoxc196_3, ⟨zfxc196_0_0, hzfxc196_0_0, hzpxc196_0⟩, ⟨zfxc196_1_0, zfxc196_1_1, hzfxc196_1_0, hzfxc196_1_1, hzpxc196_1⟩⟩ := hq195
                  have hF := hF.tr hst195 (fun _ h => ⟨h, rfl⟩) (by decide) (by decide)
                  have hmf197 : tw_fv E195 a1 1 = .int fv1_1 := (hst195.1 a1 1 hm1 (by rw [hk1]; decide)).trans hmf180
                  have hmf198 : tw_fv E195 a0 1 = .int fv0_1 := (hst195.1 a0 1 hm0 (by rw [hk0]; decide)).trans hmf181
                  have hmf199 : tw_fv E195 a0 2 = .ref xr11 := (hst195.1 a0 2 hm0 (by rw [hk0]; decide)).trans hmf183
                  have hmf200 : tw_fv E195 a0 3 = .ref xr25 := (hst195.1 a0 3 hm0 (by rw [hk0]; decide)).trans hmf184
                  have hmf201 : tw_fv E195 a0 4 = .ref xr146 := (hst195.1 a0 4 hm0 (by rw [hk0]; decide)).trans hmf185
                  have hmf202 : tw_fv E195 a0 5 = .ref xr161 := (hst195.1 a0 5 hm0 (by rw [hk0]; decide)).trans hmf186
                  have hg0 : sp_ok E195 a0 g0 := sp_ok_fr TH hst195 hm0 hk0 hmg0 hkg0 (by decide) (by decide) hg0
                  have hg1 : ctx_ok E195 a0 a1 := ctx_ok_fr TH hst195 hm0 hk0 hm1 hk1 (by decide) (by decide) hg1
                  have hg2 : gm_ok E195 a0 := gm_ok_fr TH hst195 hm0 hk0 (by decide) (by decide) hg2
                  have hg3 : gm_ok E195 g0 := gm_ok_fr TH hst195 hmg0 hkg0 (by decide) (by decide) hg3
                  have hkc0 : kc_ok E195 g0 (tw_fi E g0 1) := kc_ok_fr TH hst195 hmg0 hkg0 (by decide) (by decide) hkc0
                  have hcf2 : cf_ok E195 a0 2 (fun j => if j = (fv0_1.toInt).toNat then fv1_3.toInt else (tw_el E a0 2) j) := c2_ok_fr TH hst195 hm0 hk0 (by decide) (by decide) hcf2
                  have hcf3 : cf_ok E195 a0 3 (fun j => if j = (fv0_1.toInt).toNat then fv1_4.toInt else (tw_el E a0 3) j) := c3_ok_fr TH hst195 hm0 hk0 (by decide) (by decide) hcf3
                  have hgn24 : el_is E195 a0 2 (fv0_1.toInt) (fv1_3.toInt) := e2_ok_fr TH hst195 hm0 hk0 (by decide) (by decide) hgn24
                  have hgn39 : el_is E195 a0 3 (fv0_1.toInt) (fv1_4.toInt) := e3_ok_fr TH hst195 hm0 hk0 (by decide) (by decide) hgn39
                  have hgn177 : el_is E195 a0 5 (fv0_1.toInt) (fv0_7.toInt) := e5_ok_fr TH hst195 hm0 hk0 (by decide) (by decide) hgn177
                  obtain ⟨qzfxc196_0_0, hqzfxc196_0_0, hqzfxc196_0_0a, hqzfxc196_0_0b⟩ := tw_rd TH hm0 hk0 (by decide) (by decide) (k := 7) rfl
                  have eqzfxc196_0_0 : qzfxc196_0_0 = zfxc196_0_0 := by have q := hqzfxc196_0_0.symm.trans hzfxc196_0_0; injection q
                  rw [eqzfxc196_0_0] at hqzfxc196_0_0a hqzfxc196_0_0b
                  obtain ⟨qzfxc196_1_0, hqzfxc196_1_0, hqzfxc196_1_0a, hqzfxc196_1_0b⟩ := tw_rd TH hm1 hk1 (by decide) (by decide) (k := 3) rfl
                  have eqzfxc196_1_0 : qzfxc196_1_0 = zfxc196_1_0 := by have q := hqzfxc196_1_0.symm.trans hzfxc196_1_0; injection q
                  rw [eqzfxc196_1_0] at hqzfxc196_1_0a hqzfxc196_1_0b
                  obtain ⟨qzfxc196_1_1, hqzfxc196_1_1, hqzfxc196_1_1a, hqzfxc196_1_1b⟩ := tw_rd TH hm1 hk1 (by decide) (by decide) (k := 4) rfl
                  have eqzfxc196_1_1 : qzfxc196_1_1 = zfxc196_1_1 := by have q := hqzfxc196_1_1.symm.trans hzfxc196_1_1; injection q
                  rw [eqzfxc196_1_1] at hqzfxc196_1_1a hqzfxc196_1_1b
                  refine W.eq (g2 := F0 m 148 ls []) rfl ?_
                  obtain ⟨xi203, hxi203, hxi203a, hxi203b⟩ := tw_rd TH hm1 hk1 (by decide) (by decide) (k := 2) rfl
                  have hF148 : tw_fr kp L [(2, 1), (9, 2), (9, 3), (9, 4)] [130, 131, 136, 137, 138] E195 E195 := tw_fr.rf
                  have hri := hpoxc196_0
                  rw [ft132, tw_fi_of hzfxc196_1_0, tw_fi_of hzfxc196_1_1, tw_fi_of hxi203] at hri
                  have hT3 := hri.1
                  have hne1 := hri.2
                  have hg6 := hpoxc196_1
                  rw [ft132, hKc, tw_fi_of hzfxc196_1_0, tw_fi_of hxi203, tw_fi_of hzfxc196_0_0] at hg6
                  have hib6 := hpoxc196_2
                  rw [tw_fi_of hzfxc196_0_0] at hib6
                  have hle6 := hpoxc196_3
                  rw [tw_fi_of hzfxc196_0_0, tw_fi_of hzfxc196_1_0] at hle6
                  refine lv_aload_n hx hb dX2_readRule_148 rfl (lv_at hl 1 rfl) ?_
                  refine tw_get (ci := 2) (C := RX2) (T := TX2) (N := 13) hx hb hB cx_inX2 hown hK TH hm0 hk0 rfl ⟨by decide, rfl⟩ 6 (by decide) cw_76 (fun _ h9 => h9) dX2_readRule_149 (fun hv => ?_)
                  obtain ⟨xr204, hxr204, hmxr204, hkxr204⟩ : ∃ a : Nat, tw_fv E195 a0 6 = .ref a ∧ a ∈ L ∧ kp a = 138 := hv
                  rw [hxr204]
                  refine lv_aload_n hx hb dX2_readRule_152 rfl (lv_at hl 1 rfl) ?_
                  refine tw_get (ci := 2) (C := RX2) (T := TX2) (N := 13) hx hb hB cx_inX2 hown hK TH hm0 hk0 rfl ⟨by decide, rfl⟩ 1 (by decide) cw_68 (fun _ h9 => h9) dX2_readRule_153 (fun hv => ?_)
                  rw [hmf198]
                  refine lv_aload_n hx hb dX2_readRule_156 rfl (lv_at hl 1 rfl) ?_
                  refine tw_get (ci := 2) (C := RX2) (T := TX2) (N := 13) hx hb hB cx_inX2 hown hK TH hm0 hk0 rfl ⟨by decide, rfl⟩ 7 (by decide) cw_77 (fun _ h9 => h9) dX2_readRule_157 (fun hv => ?_)
                  rw [hzfxc196_0_0]
                  refine tw_iast (k := 138) (n := 10) (lo := 0) (hi := 500) hx hb hK TH hS hmxr204 hkxr204 (by decide) rfl (i := fv0_1) (x := zfxc196_0_0) (vp_in_iff.mpr ⟨by  omega, by  omega⟩) (by omega) (by omega) dX2_readRule_160 (fun H locs E205 TH hS hp206 hp207 hp208 => ?_)
                  have hst209 : tw_fr kp L [] [138] E195 E205 := tw_fr.ast tw_fr.rf (fun _ => hkxr204) hp206 hp207 (by decide)
                  have hF := hF.tr hst209 (fun _ h => ⟨h, rfl⟩) (by decide) (by decide)
                  have hF148 := hF148.tr hst209 (fun _ h => ⟨h, rfl⟩) (by decide) (by decide)
                  have hmf210 : tw_fv E205 a1 1 = .int fv1_1 := (hst209.1 a1 1 hm1 (by rw [hk1]; decide)).trans hmf197
                  have hmf211 : tw_fv E205 a0 1 = .int fv0_1 := (hst209.1 a0 1 hm0 (by rw [hk0]; decide)).trans hmf198
                  have hmf212 : tw_fv E205 a0 2 = .ref xr11 := (hst209.1 a0 2 hm0 (by rw [hk0]; decide)).trans hmf199
                  have hmf213 : tw_fv E205 a0 3 = .ref xr25 := (hst209.1 a0 3 hm0 (by rw [hk0]; decide)).trans hmf200
                  have hmf214 : tw_fv E205 a0 4 = .ref xr146 := (hst209.1 a0 4 hm0 (by rw [hk0]; decide)).trans hmf201
                  have hmf215 : tw_fv E205 a0 5 = .ref xr161 := (hst209.1 a0 5 hm0 (by rw [hk0]; decide)).trans hmf202
                  have hmf216 : tw_fv E205 a0 7 = .int zfxc196_0_0 := (hst209.1 a0 7 hm0 (by rw [hk0]; decide)).trans hzfxc196_0_0
                  have hmf217 : tw_fv E205 a1 3 = .int zfxc196_1_0 := (hst209.1 a1 3 hm1 (by rw [hk1]; decide)).trans hzfxc196_1_0
                  have hmf218 : tw_fv E205 a1 4 = .int zfxc196_1_1 := (hst209.1 a1 4 hm1 (by rw [hk1]; decide)).trans hzfxc196_1_1
                  have hmf219 : tw_fv E205 a1 2 = .int xi203 := (hst209.1 a1 2 hm1 (by rw [hk1]; decide)).trans hxi203
                  have hmf220 : tw_fv E205 a0 6 = .ref xr204 := (hst209.1 a0 6 hm0 (by rw [hk0]; decide)).trans hxr204
                  have hg0_o := hg0
                  have hg1_o := hg1
                  have hg2_o := hg2
                  have hg3_o := hg3
                  have hkc0_o := hkc0
                  have hcf2_o := hcf2
                  have hcf3_o := hcf3
                  have hgn24_o := hgn24
                  have hgn39_o := hgn39
                  have hgn177_o := hgn177
                  have hg0 : sp_ok E205 a0 g0 := sp_ok_fr TH hst209 hm0 hk0 hmg0 hkg0 (by decide) (by decide) hg0
                  have hg1 : ctx_ok E205 a0 a1 := ctx_ok_fr TH hst209 hm0 hk0 hm1 hk1 (by decide) (by decide) hg1
                  have hg2 : gm_ok E205 a0 := gm_ok_st TH hm0 hk0 hp206 hp207 hp208 (by omega) (by rw [tw_fi_of hmf198]; omega) hg2_o
                  have hg3 : gm_ok E205 g0 := gm_ok_oth (f := 6) TH hmg0 hkg0 hkxr204 (by decide) hxr204 hp206 hp207 hg0_o hg3_o
                  have hkc0 : kc_ok E205 g0 (tw_fi E g0 1) := kc_ok_fr TH hst209 hmg0 hkg0 (by decide) (by decide) hkc0
                  have hcf2 : cf_ok E205 a0 2 (fun j => if j = (fv0_1.toInt).toNat then fv1_3.toInt else (tw_el E a0 2) j) := c2_ok_fr TH hst209 hm0 hk0 (by decide) (by decide) hcf2
                  have hcf3 : cf_ok E205 a0 3 (fun j => if j = (fv0_1.toInt).toNat then fv1_4.toInt else (tw_el E a0 3) j) := c3_ok_fr TH hst209 hm0 hk0 (by decide) (by decide) hcf3
                  have hgn24 : el_is E205 a0 2 (fv0_1.toInt) (fv1_3.toInt) := e2_ok_fr TH hst209 hm0 hk0 (by decide) (by decide) hgn24
                  have hgn39 : el_is E205 a0 3 (fv0_1.toInt) (fv1_4.toInt) := e3_ok_fr TH hst209 hm0 hk0 (by decide) (by decide) hgn39
                  have hgn177 : el_is E205 a0 5 (fv0_1.toInt) (fv0_7.toInt) := e5_ok_fr TH hst209 hm0 hk0 (by decide) (by decide) hgn177
                  have hgn221 : el_is E205 a0 6 (fv0_1.toInt) (zfxc196_0_0.toInt) := el_is_st hxr204 hp206 hp207 hp208
                  refine lv_aload_n hx hb dX2_readRule_161 rfl (lv_at hl 2 rfl) ?_
                  refine tw_get (ci := 9) (C := RX9) (T := TX9) (N := 5) hx hb hB cx_inX9 hown hK TH hm1 hk1 rfl ⟨by decide, rfl⟩ 2 (by decide) cw_40 (fun _ h9 => h9) dX2_readRule_162 (fun hv => ?_)
                  rw [hmf219]
                  refine lv_bipush (v := 59) hx hb dX2_readRule_165 (by decide) ?_
                  refine lv_icmp_eq (tgt := 175) hx hb dX2_readRule_167 (by decide) (fun hc222 => ?_) (fun hc222 => ?_)
                  · have hf223 : xi203.toInt = 59 := by have z := (fa_eq _ _).mp hc222; have : ((59 : Int32).toInt) = 59 := (by decide); omega
                    refine lv_aload_n hx hb dX2_readRule_175 rfl (lv_at hl 1 rfl) ?_
                    refine lv_dup hx hb dX2_readRule_176 rfl ?_
                    refine tw_get (ci := 2) (C := RX2) (T := TX2) (N := 13) hx hb hB cx_inX2 hown hK TH hm0 hk0 rfl ⟨by decide, rfl⟩ 1 (by decide) cw_68 (fun _ h9 => h9) dX2_readRule_177 (fun hv => ?_)
                    rw [hmf211]
                    refine lv_iconst (v := 1) hx hb dX2_readRule_180 (by decide) ?_
                    refine lv_iadd hx hb dX2_readRule_181 ?_
                    refine lv_topi (fun zi224 ezi224 => ?_)
                    have hzi224 : zi224.toInt = fv0_1.toInt + 1 := by rw [ezi224]; have : ((1 : Int32).toInt) = 1 := (by decide); have := ia_lo fv0_1; have := ia_hi fv0_1; exact (ia_add (by omega) (by omega)).trans (by omega)
                    refine tw_put (ci := 2) (v := .int zi224) (ty := .int) (C := RX2) (T := TX2) (N := 13) hx hb hB cx_inX2 tyX2 tyX2_ok nmX2 hown hK TH hS hm0 hk0 rfl ⟨by decide, rfl⟩ 1 (by decide) cw_68 (fun _ h9 => h9) rfl (by decide +kernel) rfl rfl ⟨_, rfl, (show 0 ≤ Int32.toInt zi224 from by  omega), (show Int32.toInt zi224 ≤ 10 from by  omega)⟩ dX2_readRule_182 (fun H locs E225 TH hS hmf229 hp226 hp227 => ?_)
                    have hst228 : tw_fr kp L [(2, 1)] [] E205 E225 := tw_fr.put tw_fr.rf (fun _ => hk0) (by decide) hp226 hp227 (by decide)
                    have hF := hF.tr hst228 (fun _ h => ⟨h, rfl⟩) (by decide) (by decide)
                    have hF148 := hF148.tr hst228 (fun _ h => ⟨h, rfl⟩) (by decide) (by decide)
                    have hmf230 : tw_fv E225 a1 1 = .int fv1_1 := (hst228.1 a1 1 hm1 (by rw [hk1]; decide)).trans hmf210
                    have hmf231 : tw_fv E225 a0 2 = .ref xr11 := (hst228.1 a0 2 hm0 (by rw [hk0]; decide)).trans hmf212
                    have hmf232 : tw_fv E225 a0 3 = .ref xr25 := (hst228.1 a0 3 hm0 (by rw [hk0]; decide)).trans hmf213
                    have hmf233 : tw_fv E225 a0 4 = .ref xr146 := (hst228.1 a0 4 hm0 (by rw [hk0]; decide)).trans hmf214
                    have hmf234 : tw_fv E225 a0 5 = .ref xr161 := (hst228.1 a0 5 hm0 (by rw [hk0]; decide)).trans hmf215
                    have hmf235 : tw_fv E225 a0 7 = .int zfxc196_0_0 := (hst228.1 a0 7 hm0 (by rw [hk0]; decide)).trans hmf216
                    have hmf236 : tw_fv E225 a1 3 = .int zfxc196_1_0 := (hst228.1 a1 3 hm1 (by rw [hk1]; decide)).trans hmf217
                    have hmf237 : tw_fv E225 a1 4 = .int zfxc196_1_1 := (hst228.1 a1 4 hm1 (by rw [hk1]; decide)).trans hmf218
                    have hmf238 : tw_fv E225 a1 2 = .int xi203 := (hst228.1 a1 2 hm1 (by rw [hk1]; decide)).trans hmf219
                    have hmf239 : tw_fv E225 a0 6 = .ref xr204 := (hst228.1 a0 6 hm0 (by rw [hk0]; decide)).trans hmf220
                    have hg0_o := hg0
                    have hg1_o := hg1
                    have hg2_o := hg2
                    have hg3_o := hg3
                    have hkc0_o := hkc0
                    have hcf2_o := hcf2
                    have hcf3_o := hcf3
                    have hgn24_o := hgn24
                    have hgn39_o := hgn39
                    have hgn177_o := hgn177
                    have hgn221_o := hgn221
                    have hg0 : sp_ok E225 a0 g0 := sp_ok_fr TH hst228 hm0 hk0 hmg0 hkg0 (by decide) (by decide) hg0
                    have hg1 : ctx_ok E225 a0 a1 := ctx_ok_fr TH hst228 hm0 hk0 hm1 hk1 (by decide) (by decide) hg1
                    have hg2 : gm_ok E225 a0 := gm_ok_inc hmf229 hp226 hp227 TH hm0 hk0 (tw_fi_of hmf211) (by omega) (by omega) hgn24_o hgn39_o (by omega) hgn177_o hgn221_o (by omega) hg2_o
                    have hg3 : gm_ok E225 g0 := gm_ok_cnt hp226 hp227 TH hk0 hmg0 hkg0 (hg0_o).1 hg3_o
                    have hkc0 : kc_ok E225 g0 (tw_fi E g0 1) := kc_oth hp226 (fun z => (sp_ne hg0_o) z.symm) hkc0_o
                    have hcf2 : cf_ok E225 a0 2 (fun j => if j = (fv0_1.toInt).toNat then fv1_3.toInt else (tw_el E a0 2) j) := c2_ok_fr TH hst228 hm0 hk0 (by decide) (by decide) hcf2
                    have hcf3 : cf_ok E225 a0 3 (fun j => if j = (fv0_1.toInt).toNat then fv1_4.toInt else (tw_el E a0 3) j) := c3_ok_fr TH hst228 hm0 hk0 (by decide) (by decide) hcf3
                    have hgn24 : el_is E225 a0 2 (fv0_1.toInt) (fv1_3.toInt) := e2_ok_fr TH hst228 hm0 hk0 (by decide) (by decide) hgn24
                    have hgn39 : el_is E225 a0 3 (fv0_1.toInt) (fv1_4.toInt) := e3_ok_fr TH hst228 hm0 hk0 (by decide) (by decide) hgn39
                    have hgn177 : el_is E225 a0 5 (fv0_1.toInt) (fv0_7.toInt) := e5_ok_fr TH hst228 hm0 hk0 (by decide) (by decide) hgn177
                    have hgn221 : el_is E225 a0 6 (fv0_1.toInt) (zfxc196_0_0.toInt) := e6_ok_fr TH hst228 hm0 hk0 (by decide) (by decide) hgn221
                    have ft185 := elg_fr TH hF hm1 hk1 (k := 0) (by decide) (by decide) rfl (by decide) (by decide) (by decide)
                    refine lv_aload_n hx hb dX2_readRule_185 rfl (lv_at hl 2 rfl) ?_
                    refine tw_Vc (o := a1) (ci := 9) (n := 0) (post := (fun v kq Lq Eq => v = none ∧ kp = kq ∧ L = Lq ∧ tw_fr kp L [(9, 2), (9, 3), (9, 4)] [] E225 Eq ∧ (lx_WS (tw_el E225 a1 0) fv1_1.toInt zfxc196_1_1.toInt (tw_fi Eq a1 3) ∧ tc_tk (tw_el E225 a1 0) fv1_1.toInt (tw_fi Eq a1 3) (tw_fi Eq a1 4) (tw_fi Eq a1 2)) ∧ (∃ z0 z1 : Int32, tw_fv Eq a1 3 = .int z0 ∧ tw_fv Eq a1 4 = .int z1 ∧ (z0.toInt ≤ z1.toInt ∧ z1.toInt ≤ fv1_1.toInt ∧ zfxc196_1_1.toInt ≤ z0.toInt)))) (As := []) (rest := []) ⟨hx, hb, hml, hown, hB⟩ (fun sz => tX9_advance_vG l D cs a1 zfxc196_1_1 fv1_1 hm1 hk1 hmf237 hmf230 (by  omega) sz) cg_2_71_X9_advance rfl rfl (by decide +kernel) ⟨Nat.le_of_ble_eq_true rfl, Nat.le_of_ble_eq_true rfl⟩ hK hN TH hS hA rfl hm1 hk1 (by decide) rfl hl.1 rfl (Nat.le_of_ble_eq_true rfl) dX2_readRule_186 ⟨Nat.le_of_ble_eq_true rfl, Nat.le_of_ble_eq_true rfl⟩ (fun v240 kp240 L240 E240 H locs hq240 hx240 TH hS => ?_)
                    obtain ⟨rfl, rfl, rfl, hst240, hpoxc241_0, ⟨zfxc241_0_0, zfxc241_0_1, hzfxc241_0_0, hzfxc241_0_1, hzpxc241_0⟩⟩ := hq240
                    have hF := hF.tr hst240 (fun _ h => ⟨h, rfl⟩) (by decide) (by decide)
                    have hF148 := hF148.tr hst240 (fun _ h => ⟨h, rfl⟩) (by decide) (by decide)
                    have hmf242 : tw_fv E240 a1 1 = .int fv1_1 := (hst240.1 a1 1 hm1 (by rw [hk1]; decide)).trans hmf230
                    have hmf243 : tw_fv E240 a0 2 = .ref xr11 := (hst240.1 a0 2 hm0 (by rw [hk0]; decide)).trans hmf231
                    have hmf244 : tw_fv E240 a0 3 = .ref xr25 := (hst240.1 a0 3 hm0 (by rw [hk0]; decide)).trans hmf232
                    have hmf245 : tw_fv E240 a0 4 = .ref xr146 := (hst240.1 a0 4 hm0 (by rw [hk0]; decide)).trans hmf233
                    have hmf246 : tw_fv E240 a0 5 = .ref xr161 := (hst240.1 a0 5 hm0 (by rw [hk0]; decide)).trans hmf234
                    have hmf247 : tw_fv E240 a0 7 = .int zfxc196_0_0 := (hst240.1 a0 7 hm0 (by rw [hk0]; decide)).trans hmf235
                    have hmf248 : tw_fv E240 a0 6 = .ref xr204 := (hst240.1 a0 6 hm0 (by rw [hk0]; decide)).trans hmf239
                    have hmf249 : tw_fv E240 a0 1 = .int zi224 := (hst240.1 a0 1 hm0 (by rw [hk0]; decide)).trans hmf229
                    have hg0 : sp_ok E240 a0 g0 := sp_ok_fr TH hst240 hm0 hk0 hmg0 hkg0 (by decide) (by decide) hg0
                    have hg1 : ctx_ok E240 a0 a1 := ctx_ok_fr TH hst240 hm0 hk0 hm1 hk1 (by decide) (by decide) hg1
                    have hg2 : gm_ok E240 a0 := gm_ok_fr TH hst240 hm0 hk0 (by decide) (by decide) hg2
                    have hg3 : gm_ok E240 g0 := gm_ok_fr TH hst240 hmg0 hkg0 (by decide) (by decide) hg3
                    have hkc0 : kc_ok E240 g0 (tw_fi E g0 1) := kc_ok_fr TH hst240 hmg0 hkg0 (by decide) (by decide) hkc0
                    have hcf2 : cf_ok E240 a0 2 (fun j => if j = (fv0_1.toInt).toNat then fv1_3.toInt else (tw_el E a0 2) j) := c2_ok_fr TH hst240 hm0 hk0 (by decide) (by decide) hcf2
                    have hcf3 : cf_ok E240 a0 3 (fun j => if j = (fv0_1.toInt).toNat then fv1_4.toInt else (tw_el E a0 3) j) := c3_ok_fr TH hst240 hm0 hk0 (by decide) (by decide) hcf3
                    have hgn24 : el_is E240 a0 2 (fv0_1.toInt) (fv1_3.toInt) := e2_ok_fr TH hst240 hm0 hk0 (by decide) (by decide) hgn24
                    have hgn39 : el_is E240 a0 3 (fv0_1.toInt) (fv1_4.toInt) := e3_ok_fr TH hst240 hm0 hk0 (by decide) (by decide) hgn39
                    have hgn177 : el_is E240 a0 5 (fv0_1.toInt) (fv0_7.toInt) := e5_ok_fr TH hst240 hm0 hk0 (by decide) (by decide) hgn177
                    have hgn221 : el_is E240 a0 6 (fv0_1.toInt) (zfxc196_0_0.toInt) := e6_ok_fr TH hst240 hm0 hk0 (by decide) (by decide) hgn221
                    obtain ⟨qzfxc241_0_0, hqzfxc241_0_0, hqzfxc241_0_0a, hqzfxc241_0_0b⟩ := tw_rd TH hm1 hk1 (by decide) (by decide) (k := 3) rfl
                    have eqzfxc241_0_0 : qzfxc241_0_0 = zfxc241_0_0 := by have q := hqzfxc241_0_0.symm.trans hzfxc241_0_0; injection q
                    rw [eqzfxc241_0_0] at hqzfxc241_0_0a hqzfxc241_0_0b
                    obtain ⟨qzfxc241_0_1, hqzfxc241_0_1, hqzfxc241_0_1a, hqzfxc241_0_1b⟩ := tw_rd TH hm1 hk1 (by decide) (by decide) (k := 4) rfl
                    have eqzfxc241_0_1 : qzfxc241_0_1 = zfxc241_0_1 := by have q := hqzfxc241_0_1.symm.trans hzfxc241_0_1; injection q
                    rw [eqzfxc241_0_1] at hqzfxc241_0_1a hqzfxc241_0_1b
                    refine W.eq (g2 := F0 m 189 ls []) rfl ?_
                    obtain ⟨xi250, hxi250, hxi250a, hxi250b⟩ := tw_rd TH hm1 hk1 (by decide) (by decide) (k := 2) rfl
                    have hp4 := hpoxc241_0
                    rw [ft185, tw_fi_of hzfxc241_0_0, tw_fi_of hzfxc241_0_1, tw_fi_of hxi250] at hp4
                    have hfin := cy_3 (hg6.1 (by omega)) hT3 (by omega) (by omega) (by omega) hp4.1
                    have hKq : (prs (tw_el E240 a0 2) (tw_el E240 a0 3) (fv0_1.toInt + 1)) = gy_ins (prs (tw_el E a0 2) (tw_el E a0 3) (fv0_1.toInt)) (fv1_3.toInt, fv1_4.toInt) := prs_push (k := fv0_1.toInt) (by omega) rfl hcf2 hcf3
                    have fq8 := elg_fr TH hF148 hm0 hk0 (k := 8) (by decide) (by decide) rfl (by decide) (by decide) (by decide)
                    have fq9 := elg_fr TH hF148 hm0 hk0 (k := 9) (by decide) (by decide) rfl (by decide) (by decide) (by decide)
                    refine lv_iconst (v := (-1)) hx hb dX2_readRule_189 (by decide) ?_
                    exact tw_iret hx hb hr hlocks TH hS hex ⟨⟨_, rfl, (show (-1) ≤ Int32.toInt (-1) from by have : (((-1) : Int32).toInt) = (-1) := (by decide); omega), (show Int32.toInt (-1) ≤ 500 from by have : (((-1) : Int32).toInt) = (-1) := (by decide); omega), (by have : (((-1) : Int32).toInt) = (-1) := (by decide); intro q; exact absurd (by decide) q), (by have : (((-1) : Int32).toInt) = (-1) := (by decide); intro _; rw [tw_fi_of hzfxc241_0_0, tw_fi_of hzfxc241_0_1, tw_fi_of hxi250]; exact hp4.2), (by have : (((-1) : Int32).toInt) = (-1) := (by decide); intro _; rw [tw_fi_of hmf249]; omega), (by have : (((-1) : Int32).toInt) = (-1) := (by decide); intro _; rw [tw_fi_of hzfxc241_0_0, tw_fi_of hmf247, hKq, fq8, fq9]; exact hfin), (by have : (((-1) : Int32).toInt) = (-1) := (by decide); intro _; rw [tw_fi_of hmf247, hKq, fq8, fq9]; exact ⟨ib_ins hpre4 (by omega) (by omega) (by omega), hib6⟩), (by have : (((-1) : Int32).toInt) = (-1) := (by decide); intro _; rw [tw_fi_of hmf247, tw_fi_of hzfxc241_0_0]; omega), (by have : (((-1) : Int32).toInt) = (-1) := (by decide); exact hkc0), ⟨zfxc241_0_0, zfxc241_0_1, hzfxc241_0_0, hzfxc241_0_1, by have : (((-1) : Int32).toInt) = (-1) := (by decide); omega⟩, hg2, hg3⟩, rfl, rfl, hF⟩ (Nat.le_of_ble_eq_true rfl) (Nat.le_of_ble_eq_true rfl) dX2_readRule_190
                  · have hf251 : ¬ (xi203.toInt = 59) := fun q => hc222 ((fa_eq _ _).mpr (by have : ((59 : Int32).toInt) = 59 := (by decide); omega))
                    refine lv_aload_n hx hb dX2_readRule_170 rfl (lv_at hl 2 rfl) ?_
                    refine tw_get (ci := 9) (C := RX9) (T := TX9) (N := 5) hx hb hB cx_inX9 hown hK TH hm1 hk1 rfl ⟨by decide, rfl⟩ 3 (by decide) cw_44 (fun _ h9 => h9) dX2_readRule_171 (fun hv => ?_)
                    rw [hmf217]
                    exact tw_iret hx hb hr hlocks TH hS hex ⟨⟨_, rfl, (show (-1) ≤ Int32.toInt zfxc196_1_0 from by  omega), (show Int32.toInt zfxc196_1_0 ≤ 500 from by  omega), (by  intro _; exact cy_if (cq_12 _) (hg6.2 (by omega)) hT3 (by omega) (by omega) (by omega)), (by  intro q; exfalso; omega), (by  intro q; exfalso; omega), (by  intro q; exfalso; omega), (by  intro q; exfalso; omega), (by  intro q; exfalso; omega), (by  exact hkc0), ⟨zfxc196_1_0, zfxc196_1_1, hmf217, hmf218, by  omega⟩, hg2, hg3⟩, rfl, rfl, hF⟩ (Nat.le_of_ble_eq_true rfl) (Nat.le_of_ble_eq_true rfl) dX2_readRule_174
                · have hf252 : xi47.toInt = 61 := by have z := (fa_eq _ _).mp hc193; have : ((61 : Int32).toInt) = 61 := (by decide); omega
                  exfalso; omega
              · have hf253 : ¬ (xi187.toInt = 1) := fun q => hc191 ((fa_eq _ _).mpr (by have : ((1 : Int32).toInt) = 1 := (by decide); omega))
                refine lv_aload_n hx hb dX2_readRule_127 rfl (lv_at hl 2 rfl) ?_
                refine tw_get (ci := 9) (C := RX9) (T := TX9) (N := 5) hx hb hB cx_inX9 hown hK TH hm1 hk1 rfl ⟨by decide, rfl⟩ 3 (by decide) cw_44 (fun _ h9 => h9) dX2_readRule_128 (fun hv => ?_)
                rw [hzfxc179_0_0]
                exact tw_iret hx hb hr hlocks TH hS hex ⟨⟨_, rfl, (show (-1) ≤ Int32.toInt zfxc179_0_0 from by  omega), (show Int32.toInt zfxc179_0_0 ≤ 500 from by  omega), (by  intro _; exact cy_if (Or.inl rfl) hg5 hp2.2 (by omega) (by omega) (by omega)), (by  intro q; exfalso; omega), (by  intro q; exfalso; omega), (by  intro q; exfalso; omega), (by  intro q; exfalso; omega), (by  intro q; exfalso; omega), (by  exact hkc0), ⟨zfxc179_0_0, zfxc179_0_1, hzfxc179_0_0, hzfxc179_0_1, by  omega⟩, hg2, hg3⟩, rfl, rfl, hF⟩ (Nat.le_of_ble_eq_true rfl) (Nat.le_of_ble_eq_true rfl) dX2_readRule_131
          · have hf254 : ¬ (xi47.toInt = 3) := fun q => hc144 ((fa_eq _ _).mpr (by have : ((3 : Int32).toInt) = 3 := (by decide); omega))
            refine lv_iload_n hx hb dX2_readRule_76 rfl (lv_at hl 0 rfl) ?_
            refine lv_bipush (v := 61) hx hb dX2_readRule_77 (by decide) ?_
            refine lv_icmp_eq (tgt := 87) hx hb dX2_readRule_79 (by decide) (fun hc255 => ?_) (fun hc255 => ?_)
            · have hf256 : xi47.toInt = 61 := by have z := (fa_eq _ _).mp hc255; have : ((61 : Int32).toInt) = 61 := (by decide); omega
              refine lv_aload_n hx hb dX2_readRule_87 rfl (lv_at hl 1 rfl) ?_
              refine tw_get (ci := 2) (C := RX2) (T := TX2) (N := 13) hx hb hB cx_inX2 hown hK TH hm0 hk0 rfl ⟨by decide, rfl⟩ 4 (by decide) cw_74 (fun _ h9 => h9) dX2_readRule_88 (fun hv => ?_)
              obtain ⟨xr257, hxr257, hmxr257, hkxr257⟩ : ∃ a : Nat, tw_fv E40 a0 4 = .ref a ∧ a ∈ L ∧ kp a = 131 := hv
              rw [hxr257]
              refine lv_aload_n hx hb dX2_readRule_91 rfl (lv_at hl 1 rfl) ?_
              refine tw_get (ci := 2) (C := RX2) (T := TX2) (N := 13) hx hb hB cx_inX2 hown hK TH hm0 hk0 rfl ⟨by decide, rfl⟩ 1 (by decide) cw_68 (fun _ h9 => h9) dX2_readRule_92 (fun hv => ?_)
              rw [hmf43]
              refine lv_iload_n hx hb dX2_readRule_95 rfl (lv_at hl 0 rfl) ?_
              refine tw_iast (k := 131) (n := 10) (lo := 0) (hi := 255) hx hb hK TH hS hmxr257 hkxr257 (by decide) rfl (i := fv0_1) (x := xi47) (vp_in_iff.mpr ⟨by  omega, by  omega⟩) (by omega) (by omega) dX2_readRule_96 (fun H locs E258 TH hS hp259 hp260 hp261 => ?_)
              have hst262 : tw_fr kp L [] [131] E40 E258 := tw_fr.ast tw_fr.rf (fun _ => hkxr257) hp259 hp260 (by decide)
              have hF := hF.tr hst262 (fun _ h => ⟨h, rfl⟩) (by decide) (by decide)
              have hF31 := hF31.tr hst262 (fun _ h => ⟨h, rfl⟩) (by decide) (by decide)
              have hmf263 : tw_fv E258 a1 1 = .int fv1_1 := (hst262.1 a1 1 hm1 (by rw [hk1]; decide)).trans hmf42
              have hmf264 : tw_fv E258 a0 1 = .int fv0_1 := (hst262.1 a0 1 hm0 (by rw [hk0]; decide)).trans hmf43
              have hmf265 : tw_fv E258 a0 7 = .int fv0_7 := (hst262.1 a0 7 hm0 (by rw [hk0]; decide)).trans hmf44
              have hmf266 : tw_fv E258 a0 2 = .ref xr11 := (hst262.1 a0 2 hm0 (by rw [hk0]; decide)).trans hmf45
              have hmf267 : tw_fv E258 a0 3 = .ref xr25 := (hst262.1 a0 3 hm0 (by rw [hk0]; decide)).trans hmf46
              have hmf268 : tw_fv E258 a1 3 = .int zfxc41_0_0 := (hst262.1 a1 3 hm1 (by rw [hk1]; decide)).trans hzfxc41_0_0
              have hmf269 : tw_fv E258 a1 4 = .int zfxc41_0_1 := (hst262.1 a1 4 hm1 (by rw [hk1]; decide)).trans hzfxc41_0_1
              have hmf270 : tw_fv E258 a1 2 = .int xi47 := (hst262.1 a1 2 hm1 (by rw [hk1]; decide)).trans hxi47
              have hmf271 : tw_fv E258 a0 4 = .ref xr257 := (hst262.1 a0 4 hm0 (by rw [hk0]; decide)).trans hxr257
              have hg0 : sp_ok E258 a0 g0 := sp_ok_fr TH hst262 hm0 hk0 hmg0 hkg0 (by decide) (by decide) hg0
              have hg1 : ctx_ok E258 a0 a1 := ctx_ok_fr TH hst262 hm0 hk0 hm1 hk1 (by decide) (by decide) hg1
              have hg2 : gm_ok E258 a0 := gm_ok_fr TH hst262 hm0 hk0 (by decide) (by decide) hg2
              have hg3 : gm_ok E258 g0 := gm_ok_fr TH hst262 hmg0 hkg0 (by decide) (by decide) hg3
              have hkc0 : kc_ok E258 g0 (tw_fi E g0 1) := kc_ok_fr TH hst262 hmg0 hkg0 (by decide) (by decide) hkc0
              have hcf2 : cf_ok E258 a0 2 (fun j => if j = (fv0_1.toInt).toNat then fv1_3.toInt else (tw_el E a0 2) j) := c2_ok_fr TH hst262 hm0 hk0 (by decide) (by decide) hcf2
              have hcf3 : cf_ok E258 a0 3 (fun j => if j = (fv0_1.toInt).toNat then fv1_4.toInt else (tw_el E a0 3) j) := c3_ok_fr TH hst262 hm0 hk0 (by decide) (by decide) hcf3
              have hgn24 : el_is E258 a0 2 (fv0_1.toInt) (fv1_3.toInt) := e2_ok_fr TH hst262 hm0 hk0 (by decide) (by decide) hgn24
              have hgn39 : el_is E258 a0 3 (fv0_1.toInt) (fv1_4.toInt) := e3_ok_fr TH hst262 hm0 hk0 (by decide) (by decide) hgn39
              refine lv_aload_n hx hb dX2_readRule_97 rfl (lv_at hl 1 rfl) ?_
              refine tw_get (ci := 2) (C := RX2) (T := TX2) (N := 13) hx hb hB cx_inX2 hown hK TH hm0 hk0 rfl ⟨by decide, rfl⟩ 5 (by decide) cw_75 (fun _ h9 => h9) dX2_readRule_98 (fun hv => ?_)
              obtain ⟨xr272, hxr272, hmxr272, hkxr272⟩ : ∃ a : Nat, tw_fv E258 a0 5 = .ref a ∧ a ∈ L ∧ kp a = 136 := hv
              rw [hxr272]
              refine lv_aload_n hx hb dX2_readRule_101 rfl (lv_at hl 1 rfl) ?_
              refine tw_get (ci := 2) (C := RX2) (T := TX2) (N := 13) hx hb hB cx_inX2 hown hK TH hm0 hk0 rfl ⟨by decide, rfl⟩ 1 (by decide) cw_68 (fun _ h9 => h9) dX2_readRule_102 (fun hv => ?_)
              rw [hmf264]
              refine lv_aload_n hx hb dX2_readRule_105 rfl (lv_at hl 1 rfl) ?_
              refine tw_get (ci := 2) (C := RX2) (T := TX2) (N := 13) hx hb hB cx_inX2 hown hK TH hm0 hk0 rfl ⟨by decide, rfl⟩ 7 (by decide) cw_77 (fun _ h9 => h9) dX2_readRule_106 (fun hv => ?_)
              rw [hmf265]
              refine tw_iast (k := 136) (n := 10) (lo := 0) (hi := 500) hx hb hK TH hS hmxr272 hkxr272 (by decide) rfl (i := fv0_1) (x := fv0_7) (vp_in_iff.mpr ⟨by  omega, by  omega⟩) (by omega) (by omega) dX2_readRule_109 (fun H locs E273 TH hS hp274 hp275 hp276 => ?_)
              have hst277 : tw_fr kp L [] [136] E258 E273 := tw_fr.ast tw_fr.rf (fun _ => hkxr272) hp274 hp275 (by decide)
              have hF := hF.tr hst277 (fun _ h => ⟨h, rfl⟩) (by decide) (by decide)
              have hF31 := hF31.tr hst277 (fun _ h => ⟨h, rfl⟩) (by decide) (by decide)
              have hmf278 : tw_fv E273 a1 1 = .int fv1_1 := (hst277.1 a1 1 hm1 (by rw [hk1]; decide)).trans hmf263
              have hmf279 : tw_fv E273 a0 1 = .int fv0_1 := (hst277.1 a0 1 hm0 (by rw [hk0]; decide)).trans hmf264
              have hmf280 : tw_fv E273 a0 7 = .int fv0_7 := (hst277.1 a0 7 hm0 (by rw [hk0]; decide)).trans hmf265
              have hmf281 : tw_fv E273 a0 2 = .ref xr11 := (hst277.1 a0 2 hm0 (by rw [hk0]; decide)).trans hmf266
              have hmf282 : tw_fv E273 a0 3 = .ref xr25 := (hst277.1 a0 3 hm0 (by rw [hk0]; decide)).trans hmf267
              have hmf283 : tw_fv E273 a1 3 = .int zfxc41_0_0 := (hst277.1 a1 3 hm1 (by rw [hk1]; decide)).trans hmf268
              have hmf284 : tw_fv E273 a1 4 = .int zfxc41_0_1 := (hst277.1 a1 4 hm1 (by rw [hk1]; decide)).trans hmf269
              have hmf285 : tw_fv E273 a1 2 = .int xi47 := (hst277.1 a1 2 hm1 (by rw [hk1]; decide)).trans hmf270
              have hmf286 : tw_fv E273 a0 4 = .ref xr257 := (hst277.1 a0 4 hm0 (by rw [hk0]; decide)).trans hmf271
              have hmf287 : tw_fv E273 a0 5 = .ref xr272 := (hst277.1 a0 5 hm0 (by rw [hk0]; decide)).trans hxr272
              have hg0_o := hg0
              have hg1_o := hg1
              have hg2_o := hg2
              have hg3_o := hg3
              have hkc0_o := hkc0
              have hcf2_o := hcf2
              have hcf3_o := hcf3
              have hgn24_o := hgn24
              have hgn39_o := hgn39
              have hg0 : sp_ok E273 a0 g0 := sp_ok_fr TH hst277 hm0 hk0 hmg0 hkg0 (by decide) (by decide) hg0
              have hg1 : ctx_ok E273 a0 a1 := ctx_ok_fr TH hst277 hm0 hk0 hm1 hk1 (by decide) (by decide) hg1
              have hg2 : gm_ok E273 a0 := gm_ok_st TH hm0 hk0 hp274 hp275 hp276 (by omega) (by rw [tw_fi_of hmf264]; omega) hg2_o
              have hg3 : gm_ok E273 g0 := gm_ok_oth (f := 5) TH hmg0 hkg0 hkxr272 (by decide) hxr272 hp274 hp275 hg0_o hg3_o
              have hkc0 : kc_ok E273 g0 (tw_fi E g0 1) := kc_ok_fr TH hst277 hmg0 hkg0 (by decide) (by decide) hkc0
              have hcf2 : cf_ok E273 a0 2 (fun j => if j = (fv0_1.toInt).toNat then fv1_3.toInt else (tw_el E a0 2) j) := c2_ok_fr TH hst277 hm0 hk0 (by decide) (by decide) hcf2
              have hcf3 : cf_ok E273 a0 3 (fun j => if j = (fv0_1.toInt).toNat then fv1_4.toInt else (tw_el E a0 3) j) := c3_ok_fr TH hst277 hm0 hk0 (by decide) (by decide) hcf3
              have hgn24 : el_is E273 a0 2 (fv0_1.toInt) (fv1_3.toInt) := e2_ok_fr TH hst277 hm0 hk0 (by decide) (by decide) hgn24
              have hgn39 : el_is E273 a0 3 (fv0_1.toInt) (fv1_4.toInt) := e3_ok_fr TH hst277 hm0 hk0 (by decide) (by decide) hgn39
              have hgn288 : el_is E273 a0 5 (fv0_1.toInt) (fv0_7.toInt) := el_is_st hxr272 hp274 hp275 hp276
              have ft110 := elg_fr TH hF hm1 hk1 (k := 0) (by decide) (by decide) rfl (by decide) (by decide) (by decide)
              refine lv_aload_n hx hb dX2_readRule_110 rfl (lv_at hl 2 rfl) ?_
              refine tw_Vc (o := a1) (ci := 9) (n := 0) (post := (fun v kq Lq Eq => v = none ∧ kp = kq ∧ L = Lq ∧ tw_fr kp L [(9, 2), (9, 3), (9, 4)] [] E273 Eq ∧ (lx_WS (tw_el E273 a1 0) fv1_1.toInt zfxc41_0_1.toInt (tw_fi Eq a1 3) ∧ tc_tk (tw_el E273 a1 0) fv1_1.toInt (tw_fi Eq a1 3) (tw_fi Eq a1 4) (tw_fi Eq a1 2)) ∧ (∃ z0 z1 : Int32, tw_fv Eq a1 3 = .int z0 ∧ tw_fv Eq a1 4 = .int z1 ∧ (z0.toInt ≤ z1.toInt ∧ z1.toInt ≤ fv1_1.toInt ∧ zfxc41_0_1.toInt ≤ z0.toInt)))) (As := []) (rest := []) ⟨hx, hb, hml, hown, hB⟩ (fun sz => tX9_advance_vG l D cs a1 zfxc41_0_1 fv1_1 hm1 hk1 hmf284 hmf278 (by  omega) sz) cg_2_71_X9_advance rfl rfl (by decide +kernel) ⟨Nat.le_of_ble_eq_true rfl, Nat.le_of_ble_eq_true rfl⟩ hK hN TH hS hA rfl hm1 hk1 (by decide) rfl hl.1 rfl (Nat.le_of_ble_eq_true rfl) dX2_readRule_111 ⟨Nat.le_of_ble_eq_true rfl, Nat.le_of_ble_eq_true rfl⟩ (fun v289 kp289 L289 E289 H locs hq289 hx289 TH hS => ?_)
              obtain ⟨rfl, rfl, rfl, hst289, hpoxc290_0, ⟨zfxc290_0_0, zfxc290_0_1, hzfxc290_0_0, hzfxc290_0_1, hzpxc290_0⟩⟩ := hq289
              have hF := hF.tr hst289 (fun _ h => ⟨h, rfl⟩) (by decide) (by decide)
              have hF31 := hF31.tr hst289 (fun _ h => ⟨h, rfl⟩) (by decide) (by decide)
              have hmf291 : tw_fv E289 a1 1 = .int fv1_1 := (hst289.1 a1 1 hm1 (by rw [hk1]; decide)).trans hmf278
              have hmf292 : tw_fv E289 a0 1 = .int fv0_1 := (hst289.1 a0 1 hm0 (by rw [hk0]; decide)).trans hmf279
              have hmf293 : tw_fv E289 a0 7 = .int fv0_7 := (hst289.1 a0 7 hm0 (by rw [hk0]; decide)).trans hmf280
              have hmf294 : tw_fv E289 a0 2 = .ref xr11 := (hst289.1 a0 2 hm0 (by rw [hk0]; decide)).trans hmf281
              have hmf295 : tw_fv E289 a0 3 = .ref xr25 := (hst289.1 a0 3 hm0 (by rw [hk0]; decide)).trans hmf282
              have hmf296 : tw_fv E289 a0 4 = .ref xr257 := (hst289.1 a0 4 hm0 (by rw [hk0]; decide)).trans hmf286
              have hmf297 : tw_fv E289 a0 5 = .ref xr272 := (hst289.1 a0 5 hm0 (by rw [hk0]; decide)).trans hmf287
              have hg0 : sp_ok E289 a0 g0 := sp_ok_fr TH hst289 hm0 hk0 hmg0 hkg0 (by decide) (by decide) hg0
              have hg1 : ctx_ok E289 a0 a1 := ctx_ok_fr TH hst289 hm0 hk0 hm1 hk1 (by decide) (by decide) hg1
              have hg2 : gm_ok E289 a0 := gm_ok_fr TH hst289 hm0 hk0 (by decide) (by decide) hg2
              have hg3 : gm_ok E289 g0 := gm_ok_fr TH hst289 hmg0 hkg0 (by decide) (by decide) hg3
              have hkc0 : kc_ok E289 g0 (tw_fi E g0 1) := kc_ok_fr TH hst289 hmg0 hkg0 (by decide) (by decide) hkc0
              have hcf2 : cf_ok E289 a0 2 (fun j => if j = (fv0_1.toInt).toNat then fv1_3.toInt else (tw_el E a0 2) j) := c2_ok_fr TH hst289 hm0 hk0 (by decide) (by decide) hcf2
              have hcf3 : cf_ok E289 a0 3 (fun j => if j = (fv0_1.toInt).toNat then fv1_4.toInt else (tw_el E a0 3) j) := c3_ok_fr TH hst289 hm0 hk0 (by decide) (by decide) hcf3
              have hgn24 : el_is E289 a0 2 (fv0_1.toInt) (fv1_3.toInt) := e2_ok_fr TH hst289 hm0 hk0 (by decide) (by decide) hgn24
              have hgn39 : el_is E289 a0 3 (fv0_1.toInt) (fv1_4.toInt) := e3_ok_fr TH hst289 hm0 hk0 (by decide) (by decide) hgn39
              have hgn288 : el_is E289 a0 5 (fv0_1.toInt) (fv0_7.toInt) := e5_ok_fr TH hst289 hm0 hk0 (by decide) (by decide) hgn288
              obtain ⟨qzfxc290_0_0, hqzfxc290_0_0, hqzfxc290_0_0a, hqzfxc290_0_0b⟩ := tw_rd TH hm1 hk1 (by decide) (by decide) (k := 3) rfl
              have eqzfxc290_0_0 : qzfxc290_0_0 = zfxc290_0_0 := by have q := hqzfxc290_0_0.symm.trans hzfxc290_0_0; injection q
              rw [eqzfxc290_0_0] at hqzfxc290_0_0a hqzfxc290_0_0b
              obtain ⟨qzfxc290_0_1, hqzfxc290_0_1, hqzfxc290_0_1a, hqzfxc290_0_1b⟩ := tw_rd TH hm1 hk1 (by decide) (by decide) (k := 4) rfl
              have eqzfxc290_0_1 : qzfxc290_0_1 = zfxc290_0_1 := by have q := hqzfxc290_0_1.symm.trans hzfxc290_0_1; injection q
              rw [eqzfxc290_0_1] at hqzfxc290_0_1a hqzfxc290_0_1b
              refine W.eq (g2 := F0 m 114 ls []) rfl ?_
              obtain ⟨xi298, hxi298, hxi298a, hxi298b⟩ := tw_rd TH hm1 hk1 (by decide) (by decide) (k := 2) rfl
              have hp2 := hpoxc290_0
              rw [ft110, tw_fi_of hzfxc290_0_0, tw_fi_of hzfxc290_0_1, tw_fi_of hxi298] at hp2
              have hg5 := cy_4e hg4 hp1.2 (by omega) (by omega) (by omega) hp2.1
              refine lv_iload_n hx hb dX2_readRule_114 rfl (lv_at hl 0 rfl) ?_
              refine lv_iconst (v := 2) hx hb dX2_readRule_115 (by decide) ?_
              refine lv_icmp_eq (tgt := 148) hx hb dX2_readRule_116 (by decide) (fun hc299 => ?_) (fun hc299 => ?_)
              · have hf300 : xi47.toInt = 2 := by have z := (fa_eq _ _).mp hc299; have : ((2 : Int32).toInt) = 2 := (by decide); omega
                exfalso; omega
              · have hf301 : ¬ (xi47.toInt = 2) := fun q => hc299 ((fa_eq _ _).mpr (by have : ((2 : Int32).toInt) = 2 := (by decide); omega))
                refine lv_aload_n hx hb dX2_readRule_119 rfl (lv_at hl 2 rfl) ?_
                refine tw_get (ci := 9) (C := RX9) (T := TX9) (N := 5) hx hb hB cx_inX9 hown hK TH hm1 hk1 rfl ⟨by decide, rfl⟩ 2 (by decide) cw_40 (fun _ h9 => h9) dX2_readRule_120 (fun hv => ?_)
                rw [hxi298]
                refine lv_iconst (v := 1) hx hb dX2_readRule_123 (by decide) ?_
                refine lv_icmp_eq (tgt := 132) hx hb dX2_readRule_124 (by decide) (fun hc302 => ?_) (fun hc302 => ?_)
                · have hf303 : xi298.toInt = 1 := by have z := (fa_eq _ _).mp hc302; have : ((1 : Int32).toInt) = 1 := (by decide); omega
                  refine lv_aload_n hx hb dX2_readRule_132 rfl (lv_at hl 1 rfl) ?_
                  refine lv_aload_n hx hb dX2_readRule_133 rfl (lv_at hl 2 rfl) ?_
                  refine lv_iload_n hx hb dX2_readRule_134 rfl (lv_at hl 0 rfl) ?_
                  refine lv_bipush (v := 61) hx hb dX2_readRule_135 (by decide) ?_
                  refine lv_icmp_ne (tgt := 144) hx hb dX2_readRule_137 (by decide) (fun hc304 => ?_) (fun hc304 => ?_)
                  · have hf305 : ¬ (xi47.toInt = 61) := fun q => hc304 ((fa_eq _ _).mpr (by have : ((61 : Int32).toInt) = 61 := (by decide); omega))
                    exfalso; omega
                  · have hf306 : xi47.toInt = 61 := by have z := (fa_eq _ _).mp hc304; have : ((61 : Int32).toInt) = 61 := (by decide); omega
                    refine lv_iconst (v := 1) hx hb dX2_readRule_140 (by decide) ?_
                    refine lv_goto (tgt := 145) hx hb dX2_readRule_141 (by decide) ?_
                    have ft132 := elg_fr TH hF hm1 hk1 (k := 0) (by decide) (by decide) rfl (by decide) (by decide) (by decide)
                    have hKc : (prs (tw_el E289 a0 2) (tw_el E289 a0 3) (fv0_1.toInt + 1)) = gy_ins (prs (tw_el E a0 2) (tw_el E a0 3) (fv0_1.toInt)) (fv1_3.toInt, fv1_4.toInt) := prs_push (k := fv0_1.toInt) (by omega) rfl hcf2 hcf3
                    have fc8 := elg_fr TH hF31 hm0 hk0 (k := 8) (by decide) (by decide) rfl (by decide) (by decide) (by decide)
                    have fc9 := elg_fr TH hF31 hm0 hk0 (k := 9) (by decide) (by decide) rfl (by decide) (by decide) (by decide)
                    refine tw_Vc (o := a0) (ci := 2) (n := 2) (post := (fun v kq Lq Eq => v = none ∧ kp = kq ∧ L = Lq ∧ tw_fr kp L [(2, 7), (9, 2), (9, 3), (9, 4)] [132, 134, 139] E289 Eq ∧ (tc_tk (tw_el E289 a1 0) fv1_1.toInt (tw_fi Eq a1 3) (tw_fi Eq a1 4) (tw_fi Eq a1 2) ∧ tw_fi Eq a1 2 ≠ 1) ∧ ((tw_fi Eq a1 2 = 59 → gy_at (tw_el E289 a1 0) fv1_1.toInt 3 (tw_fi Eq a1 3) (fv0_1.toInt + 1) (prs (tw_el E289 a0 2) (tw_el E289 a0 3) (fv0_1.toInt + 1)) (prs (tw_el Eq a0 8) (tw_el Eq a0 9) (tw_fi Eq a0 7))) ∧ (tw_fi Eq a1 2 ≠ 59 → gy_at (tw_el E289 a1 0) fv1_1.toInt (cq_ (1 : Int32).toInt) (tw_fi Eq a1 3) (fv0_1.toInt + 1) (prs (tw_el E289 a0 2) (tw_el E289 a0 3) (fv0_1.toInt + 1)) (prs (tw_el Eq a0 8) (tw_el Eq a0 9) (tw_fi Eq a0 7)))) ∧ (ib fv1_1.toInt (prs (tw_el Eq a0 8) (tw_el Eq a0 9) (tw_fi Eq a0 7))) ∧ (tw_fi Eq a0 7 ≤ tw_fi Eq a1 3) ∧ (∃ z0 : Int32, tw_fv Eq a0 7 = .int z0 ∧ (fv0_7.toInt ≤ z0.toInt)) ∧ (∃ z0 z1 : Int32, tw_fv Eq a1 3 = .int z0 ∧ tw_fv Eq a1 4 = .int z1 ∧ (z0.toInt ≤ z1.toInt ∧ z1.toInt ≤ fv1_1.toInt ∧ z0.toInt ≤ fv1_1.toInt)))) (As := [.ref a1, .int 1]) (rest := []) ⟨hx, hb, hml, hown, hB⟩ (fun sz => tX2_readItems_vG l D cs a0 a1 (1 : Int32) zfxc290_0_0 zfxc290_0_1 fv1_1 xi298 fv0_1 fv0_7 hm0 hk0 hm1 hk1 (by have : ((1 : Int32).toInt) = 1 := (by decide); omega) (by have : ((1 : Int32).toInt) = 1 := (by decide); omega) hzfxc290_0_0 hzfxc290_0_1 hmf291 hxi298 hmf292 hmf293 (by have : ((1 : Int32).toInt) = 1 := (by decide); omega) (by have : ((1 : Int32).toInt) = 1 := (by decide); rw [ft132]; exact hp2.2) (by have : ((1 : Int32).toInt) = 1 := (by decide); refine ⟨fun z => absurd z (by omega), fun _ => ?_⟩; rw [ft132, hKc, fc8, fc9, cq_2 (by decide)]; exact hg5) (by have : ((1 : Int32).toInt) = 1 := (by decide); omega) (by have : ((1 : Int32).toInt) = 1 := (by decide); rw [fc8, fc9]; exact hpre5) sz) cg_2_94_X2_readItems rfl rfl (by decide +kernel) ⟨Nat.le_of_ble_eq_true rfl, Nat.le_of_ble_eq_true rfl⟩ hK hN TH hS hA rfl hm0 hk0 (by decide) rfl hl.1 rfl (Nat.le_of_ble_eq_true rfl) dX2_readRule_145 ⟨Nat.le_of_ble_eq_true rfl, Nat.le_of_ble_eq_true rfl⟩ (fun v307 kp307 L307 E307 H locs hq307 hx307 TH hS => ?_)
                    obtain ⟨rfl, rfl, rfl, hst307, hpoxc308_0, hpoxc308_1, hpoxc308_2, hpoxc308_3, ⟨zfxc308_0_0, hzfxc308_0_0, hzpxc308_0⟩, ⟨zfxc308_1_0, zfxc308_1_1, hzfxc308_1_0, hzfxc308_1_1, hzpxc308_1⟩⟩ := hq307
                    have hF := hF.tr hst307 (fun _ h => ⟨h, rfl⟩) (by decide) (by decide)
                    have hmf309 : tw_fv E307 a1 1 = .int fv1_1 := (hst307.1 a1 1 hm1 (by rw [hk1]; decide)).trans hmf291
                    have hmf310 : tw_fv E307 a0 1 = .int fv0_1 := (hst307.1 a0 1 hm0 (by rw [hk0]; decide)).trans hmf292
                    have hmf311 : tw_fv E307 a0 2 = .ref xr11 := (hst307.1 a0 2 hm0 (by rw [hk0]; decide)).trans hmf294
                    have hmf312 : tw_fv E307 a0 3 = .ref xr25 := (hst307.1 a0 3 hm0 (by rw [hk0]; decide)).trans hmf295
                    have hmf313 : tw_fv E307 a0 4 = .ref xr257 := (hst307.1 a0 4 hm0 (by rw [hk0]; decide)).trans hmf296
                    have hmf314 : tw_fv E307 a0 5 = .ref xr272 := (hst307.1 a0 5 hm0 (by rw [hk0]; decide)).trans hmf297
                    have hg0 : sp_ok E307 a0 g0 := sp_ok_fr TH hst307 hm0 hk0 hmg0 hkg0 (by decide) (by decide) hg0
                    have hg1 : ctx_ok E307 a0 a1 := ctx_ok_fr TH hst307 hm0 hk0 hm1 hk1 (by decide) (by decide) hg1
                    have hg2 : gm_ok E307 a0 := gm_ok_fr TH hst307 hm0 hk0 (by decide) (by decide) hg2
                    have hg3 : gm_ok E307 g0 := gm_ok_fr TH hst307 hmg0 hkg0 (by decide) (by decide) hg3
                    have hkc0 : kc_ok E307 g0 (tw_fi E g0 1) := kc_ok_fr TH hst307 hmg0 hkg0 (by decide) (by decide) hkc0
                    have hcf2 : cf_ok E307 a0 2 (fun j => if j = (fv0_1.toInt).toNat then fv1_3.toInt else (tw_el E a0 2) j) := c2_ok_fr TH hst307 hm0 hk0 (by decide) (by decide) hcf2
                    have hcf3 : cf_ok E307 a0 3 (fun j => if j = (fv0_1.toInt).toNat then fv1_4.toInt else (tw_el E a0 3) j) := c3_ok_fr TH hst307 hm0 hk0 (by decide) (by decide) hcf3
                    have hgn24 : el_is E307 a0 2 (fv0_1.toInt) (fv1_3.toInt) := e2_ok_fr TH hst307 hm0 hk0 (by decide) (by decide) hgn24
                    have hgn39 : el_is E307 a0 3 (fv0_1.toInt) (fv1_4.toInt) := e3_ok_fr TH hst307 hm0 hk0 (by decide) (by decide) hgn39
                    have hgn288 : el_is E307 a0 5 (fv0_1.toInt) (fv0_7.toInt) := e5_ok_fr TH hst307 hm0 hk0 (by decide) (by decide) hgn288
                    obtain ⟨qzfxc308_0_0, hqzfxc308_0_0, hqzfxc308_0_0a, hqzfxc308_0_0b⟩ := tw_rd TH hm0 hk0 (by decide) (by decide) (k := 7) rfl
                    have eqzfxc308_0_0 : qzfxc308_0_0 = zfxc308_0_0 := by have q := hqzfxc308_0_0.symm.trans hzfxc308_0_0; injection q
                    rw [eqzfxc308_0_0] at hqzfxc308_0_0a hqzfxc308_0_0b
                    obtain ⟨qzfxc308_1_0, hqzfxc308_1_0, hqzfxc308_1_0a, hqzfxc308_1_0b⟩ := tw_rd TH hm1 hk1 (by decide) (by decide) (k := 3) rfl
                    have eqzfxc308_1_0 : qzfxc308_1_0 = zfxc308_1_0 := by have q := hqzfxc308_1_0.symm.trans hzfxc308_1_0; injection q
                    rw [eqzfxc308_1_0] at hqzfxc308_1_0a hqzfxc308_1_0b
                    obtain ⟨qzfxc308_1_1, hqzfxc308_1_1, hqzfxc308_1_1a, hqzfxc308_1_1b⟩ := tw_rd TH hm1 hk1 (by decide) (by decide) (k := 4) rfl
                    have eqzfxc308_1_1 : qzfxc308_1_1 = zfxc308_1_1 := by have q := hqzfxc308_1_1.symm.trans hzfxc308_1_1; injection q
                    rw [eqzfxc308_1_1] at hqzfxc308_1_1a hqzfxc308_1_1b
                    refine W.eq (g2 := F0 m 148 ls []) rfl ?_
                    obtain ⟨xi315, hxi315, hxi315a, hxi315b⟩ := tw_rd TH hm1 hk1 (by decide) (by decide) (k := 2) rfl
                    have hF148 : tw_fr kp L [(2, 1), (9, 2), (9, 3), (9, 4)] [130, 131, 136, 137, 138] E307 E307 := tw_fr.rf
                    have hri := hpoxc308_0
                    rw [ft132, tw_fi_of hzfxc308_1_0, tw_fi_of hzfxc308_1_1, tw_fi_of hxi315] at hri
                    have hT3 := hri.1
                    have hne1 := hri.2
                    have hg6 := hpoxc308_1
                    rw [ft132, hKc, tw_fi_of hzfxc308_1_0, tw_fi_of hxi315, tw_fi_of hzfxc308_0_0] at hg6
                    have hib6 := hpoxc308_2
                    rw [tw_fi_of hzfxc308_0_0] at hib6
                    have hle6 := hpoxc308_3
                    rw [tw_fi_of hzfxc308_0_0, tw_fi_of hzfxc308_1_0] at hle6
                    refine lv_aload_n hx hb dX2_readRule_148 rfl (lv_at hl 1 rfl) ?_
                    refine tw_get (ci := 2) (C := RX2) (T := TX2) (N := 13) hx hb hB cx_inX2 hown hK TH hm0 hk0 rfl ⟨by decide, rfl⟩ 6 (by decide) cw_76 (fun _ h9 => h9) dX2_readRule_149 (fun hv => ?_)
                    obtain ⟨xr316, hxr316, hmxr316, hkxr316⟩ : ∃ a : Nat, tw_fv E307 a0 6 = .ref a ∧ a ∈ L ∧ kp a = 138 := hv
                    rw [hxr316]
                    refine lv_aload_n hx hb dX2_readRule_152 rfl (lv_at hl 1 rfl) ?_
                    refine tw_get (ci := 2) (C := RX2) (T := TX2) (N := 13) hx hb hB cx_inX2 hown hK TH hm0 hk0 rfl ⟨by decide, rfl⟩ 1 (by decide) cw_68 (fun _ h9 => h9) dX2_readRule_153 (fun hv => ?_)
                    rw [hmf310]
                    refine lv_aload_n hx hb dX2_readRule_156 rfl (lv_at hl 1 rfl) ?_
                    refine tw_get (ci := 2) (C := RX2) (T := TX2) (N := 13) hx hb hB cx_inX2 hown hK TH hm0 hk0 rfl ⟨by decide, rfl⟩ 7 (by decide) cw_77 (fun _ h9 => h9) dX2_readRule_157 (fun hv => ?_)
                    rw [hzfxc308_0_0]
                    refine tw_iast (k := 138) (n := 10) (lo := 0) (hi := 500) hx hb hK TH hS hmxr316 hkxr316 (by decide) rfl (i := fv0_1) (x := zfxc308_0_0) (vp_in_iff.mpr ⟨by  omega, by  omega⟩) (by omega) (by omega) dX2_readRule_160 (fun H locs E317 TH hS hp318 hp319 hp320 => ?_)
                    have hst321 : tw_fr kp L [] [138] E307 E317 := tw_fr.ast tw_fr.rf (fun _ => hkxr316) hp318 hp319 (by decide)
                    have hF := hF.tr hst321 (fun _ h => ⟨h, rfl⟩) (by decide) (by decide)
                    have hF148 := hF148.tr hst321 (fun _ h => ⟨h, rfl⟩) (by decide) (by decide)
                    have hmf322 : tw_fv E317 a1 1 = .int fv1_1 := (hst321.1 a1 1 hm1 (by rw [hk1]; decide)).trans hmf309
                    have hmf323 : tw_fv E317 a0 1 = .int fv0_1 := (hst321.1 a0 1 hm0 (by rw [hk0]; decide)).trans hmf310
                    have hmf324 : tw_fv E317 a0 2 = .ref xr11 := (hst321.1 a0 2 hm0 (by rw [hk0]; decide)).trans hmf311
                    have hmf325 : tw_fv E317 a0 3 = .ref xr25 := (hst321.1 a0 3 hm0 (by rw [hk0]; decide)).trans hmf312
                    have hmf326 : tw_fv E317 a0 4 = .ref xr257 := (hst321.1 a0 4 hm0 (by rw [hk0]; decide)).trans hmf313
                    have hmf327 : tw_fv E317 a0 5 = .ref xr272 := (hst321.1 a0 5 hm0 (by rw [hk0]; decide)).trans hmf314
                    have hmf328 : tw_fv E317 a0 7 = .int zfxc308_0_0 := (hst321.1 a0 7 hm0 (by rw [hk0]; decide)).trans hzfxc308_0_0
                    have hmf329 : tw_fv E317 a1 3 = .int zfxc308_1_0 := (hst321.1 a1 3 hm1 (by rw [hk1]; decide)).trans hzfxc308_1_0
                    have hmf330 : tw_fv E317 a1 4 = .int zfxc308_1_1 := (hst321.1 a1 4 hm1 (by rw [hk1]; decide)).trans hzfxc308_1_1
                    have hmf331 : tw_fv E317 a1 2 = .int xi315 := (hst321.1 a1 2 hm1 (by rw [hk1]; decide)).trans hxi315
                    have hmf332 : tw_fv E317 a0 6 = .ref xr316 := (hst321.1 a0 6 hm0 (by rw [hk0]; decide)).trans hxr316
                    have hg0_o := hg0
                    have hg1_o := hg1
                    have hg2_o := hg2
                    have hg3_o := hg3
                    have hkc0_o := hkc0
                    have hcf2_o := hcf2
                    have hcf3_o := hcf3
                    have hgn24_o := hgn24
                    have hgn39_o := hgn39
                    have hgn288_o := hgn288
                    have hg0 : sp_ok E317 a0 g0 := sp_ok_fr TH hst321 hm0 hk0 hmg0 hkg0 (by decide) (by decide) hg0
                    have hg1 : ctx_ok E317 a0 a1 := ctx_ok_fr TH hst321 hm0 hk0 hm1 hk1 (by decide) (by decide) hg1
                    have hg2 : gm_ok E317 a0 := gm_ok_st TH hm0 hk0 hp318 hp319 hp320 (by omega) (by rw [tw_fi_of hmf310]; omega) hg2_o
                    have hg3 : gm_ok E317 g0 := gm_ok_oth (f := 6) TH hmg0 hkg0 hkxr316 (by decide) hxr316 hp318 hp319 hg0_o hg3_o
                    have hkc0 : kc_ok E317 g0 (tw_fi E g0 1) := kc_ok_fr TH hst321 hmg0 hkg0 (by decide) (by decide) hkc0
                    have hcf2 : cf_ok E317 a0 2 (fun j => if j = (fv0_1.toInt).toNat then fv1_3.toInt else (tw_el E a0 2) j) := c2_ok_fr TH hst321 hm0 hk0 (by decide) (by decide) hcf2
                    have hcf3 : cf_ok E317 a0 3 (fun j => if j = (fv0_1.toInt).toNat then fv1_4.toInt else (tw_el E a0 3) j) := c3_ok_fr TH hst321 hm0 hk0 (by decide) (by decide) hcf3
                    have hgn24 : el_is E317 a0 2 (fv0_1.toInt) (fv1_3.toInt) := e2_ok_fr TH hst321 hm0 hk0 (by decide) (by decide) hgn24
                    have hgn39 : el_is E317 a0 3 (fv0_1.toInt) (fv1_4.toInt) := e3_ok_fr TH hst321 hm0 hk0 (by decide) (by decide) hgn39
                    have hgn288 : el_is E317 a0 5 (fv0_1.toInt) (fv0_7.toInt) := e5_ok_fr TH hst321 hm0 hk0 (by decide) (by decide) hgn288
                    have hgn333 : el_is E317 a0 6 (fv0_1.toInt) (zfxc308_0_0.toInt) := el_is_st hxr316 hp318 hp319 hp320
                    refine lv_aload_n hx hb dX2_readRule_161 rfl (lv_at hl 2 rfl) ?_
                    refine tw_get (ci := 9) (C := RX9) (T := TX9) (N := 5) hx hb hB cx_inX9 hown hK TH hm1 hk1 rfl ⟨by decide, rfl⟩ 2 (by decide) cw_40 (fun _ h9 => h9) dX2_readRule_162 (fun hv => ?_)
                    rw [hmf331]
                    refine lv_bipush (v := 59) hx hb dX2_readRule_165 (by decide) ?_
                    refine lv_icmp_eq (tgt := 175) hx hb dX2_readRule_167 (by decide) (fun hc334 => ?_) (fun hc334 => ?_)
                    · have hf335 : xi315.toInt = 59 := by have z := (fa_eq _ _).mp hc334; have : ((59 : Int32).toInt) = 59 := (by decide); omega
                      refine lv_aload_n hx hb dX2_readRule_175 rfl (lv_at hl 1 rfl) ?_
                      refine lv_dup hx hb dX2_readRule_176 rfl ?_
                      refine tw_get (ci := 2) (C := RX2) (T := TX2) (N := 13) hx hb hB cx_inX2 hown hK TH hm0 hk0 rfl ⟨by decide, rfl⟩ 1 (by decide) cw_68 (fun _ h9 => h9) dX2_readRule_177 (fun hv => ?_)
                      rw [hmf323]
                      refine lv_iconst (v := 1) hx hb dX2_readRule_180 (by decide) ?_
                      refine lv_iadd hx hb dX2_readRule_181 ?_
                      refine lv_topi (fun zi336 ezi336 => ?_)
                      have hzi336 : zi336.toInt = fv0_1.toInt + 1 := by rw [ezi336]; have : ((1 : Int32).toInt) = 1 := (by decide); have := ia_lo fv0_1; have := ia_hi fv0_1; exact (ia_add (by omega) (by omega)).trans (by omega)
                      refine tw_put (ci := 2) (v := .int zi336) (ty := .int) (C := RX2) (T := TX2) (N := 13) hx hb hB cx_inX2 tyX2 tyX2_ok nmX2 hown hK TH hS hm0 hk0 rfl ⟨by decide, rfl⟩ 1 (by decide) cw_68 (fun _ h9 => h9) rfl (by decide +kernel) rfl rfl ⟨_, rfl, (show 0 ≤ Int32.toInt zi336 from by  omega), (show Int32.toInt zi336 ≤ 10 from by  omega)⟩ dX2_readRule_182 (fun H locs E337 TH hS hmf341 hp338 hp339 => ?_)
                      have hst340 : tw_fr kp L [(2, 1)] [] E317 E337 := tw_fr.put tw_fr.rf (fun _ => hk0) (by decide) hp338 hp339 (by decide)
                      have hF := hF.tr hst340 (fun _ h => ⟨h, rfl⟩) (by decide) (by decide)
                      have hF148 := hF148.tr hst340 (fun _ h => ⟨h, rfl⟩) (by decide) (by decide)
                      have hmf342 : tw_fv E337 a1 1 = .int fv1_1 := (hst340.1 a1 1 hm1 (by rw [hk1]; decide)).trans hmf322
                      have hmf343 : tw_fv E337 a0 2 = .ref xr11 := (hst340.1 a0 2 hm0 (by rw [hk0]; decide)).trans hmf324
                      have hmf344 : tw_fv E337 a0 3 = .ref xr25 := (hst340.1 a0 3 hm0 (by rw [hk0]; decide)).trans hmf325
                      have hmf345 : tw_fv E337 a0 4 = .ref xr257 := (hst340.1 a0 4 hm0 (by rw [hk0]; decide)).trans hmf326
                      have hmf346 : tw_fv E337 a0 5 = .ref xr272 := (hst340.1 a0 5 hm0 (by rw [hk0]; decide)).trans hmf327
                      have hmf347 : tw_fv E337 a0 7 = .int zfxc308_0_0 := (hst340.1 a0 7 hm0 (by rw [hk0]; decide)).trans hmf328
                      have hmf348 : tw_fv E337 a1 3 = .int zfxc308_1_0 := (hst340.1 a1 3 hm1 (by rw [hk1]; decide)).trans hmf329
                      have hmf349 : tw_fv E337 a1 4 = .int zfxc308_1_1 := (hst340.1 a1 4 hm1 (by rw [hk1]; decide)).trans hmf330
                      have hmf350 : tw_fv E337 a1 2 = .int xi315 := (hst340.1 a1 2 hm1 (by rw [hk1]; decide)).trans hmf331
                      have hmf351 : tw_fv E337 a0 6 = .ref xr316 := (hst340.1 a0 6 hm0 (by rw [hk0]; decide)).trans hmf332
                      have hg0_o := hg0
                      have hg1_o := hg1
                      have hg2_o := hg2
                      have hg3_o := hg3
                      have hkc0_o := hkc0
                      have hcf2_o := hcf2
                      have hcf3_o := hcf3
                      have hgn24_o := hgn24
                      have hgn39_o := hgn39
                      have hgn288_o := hgn288
                      have hgn333_o := hgn333
                      have hg0 : sp_ok E337 a0 g0 := sp_ok_fr TH hst340 hm0 hk0 hmg0 hkg0 (by decide) (by decide) hg0
                      have hg1 : ctx_ok E337 a0 a1 := ctx_ok_fr TH hst340 hm0 hk0 hm1 hk1 (by decide) (by decide) hg1
                      have hg2 : gm_ok E337 a0 := gm_ok_inc hmf341 hp338 hp339 TH hm0 hk0 (tw_fi_of hmf323) (by omega) (by omega) hgn24_o hgn39_o (by omega) hgn288_o hgn333_o (by omega) hg2_o
                      have hg3 : gm_ok E337 g0 := gm_ok_cnt hp338 hp339 TH hk0 hmg0 hkg0 (hg0_o).1 hg3_o
                      have hkc0 : kc_ok E337 g0 (tw_fi E g0 1) := kc_oth hp338 (fun z => (sp_ne hg0_o) z.symm) hkc0_o
                      have hcf2 : cf_ok E337 a0 2 (fun j => if j = (fv0_1.toInt).toNat then fv1_3.toInt else (tw_el E a0 2) j) := c2_ok_fr TH hst340 hm0 hk0 (by decide) (by decide) hcf2
                      have hcf3 : cf_ok E337 a0 3 (fun j => if j = (fv0_1.toInt).toNat then fv1_4.toInt else (tw_el E a0 3) j) := c3_ok_fr TH hst340 hm0 hk0 (by decide) (by decide) hcf3
                      have hgn24 : el_is E337 a0 2 (fv0_1.toInt) (fv1_3.toInt) := e2_ok_fr TH hst340 hm0 hk0 (by decide) (by decide) hgn24
                      have hgn39 : el_is E337 a0 3 (fv0_1.toInt) (fv1_4.toInt) := e3_ok_fr TH hst340 hm0 hk0 (by decide) (by decide) hgn39
                      have hgn288 : el_is E337 a0 5 (fv0_1.toInt) (fv0_7.toInt) := e5_ok_fr TH hst340 hm0 hk0 (by decide) (by decide) hgn288
                      have hgn333 : el_is E337 a0 6 (fv0_1.toInt) (zfxc308_0_0.toInt) := e6_ok_fr TH hst340 hm0 hk0 (by decide) (by decide) hgn333
                      have ft185 := elg_fr TH hF hm1 hk1 (k := 0) (by decide) (by decide) rfl (by decide) (by decide) (by decide)
                      refine lv_aload_n hx hb dX2_readRule_185 rfl (lv_at hl 2 rfl) ?_
                      refine tw_Vc (o := a1) (ci := 9) (n := 0) (post := (fun v kq Lq Eq => v = none ∧ kp = kq ∧ L = Lq ∧ tw_fr kp L [(9, 2), (9, 3), (9, 4)] [] E337 Eq ∧ (lx_WS (tw_el E337 a1 0) fv1_1.toInt zfxc308_1_1.toInt (tw_fi Eq a1 3) ∧ tc_tk (tw_el E337 a1 0) fv1_1.toInt (tw_fi Eq a1 3) (tw_fi Eq a1 4) (tw_fi Eq a1 2)) ∧ (∃ z0 z1 : Int32, tw_fv Eq a1 3 = .int z0 ∧ tw_fv Eq a1 4 = .int z1 ∧ (z0.toInt ≤ z1.toInt ∧ z1.toInt ≤ fv1_1.toInt ∧ zfxc308_1_1.toInt ≤ z0.toInt)))) (As := []) (rest := []) ⟨hx, hb, hml, hown, hB⟩ (fun sz => tX9_advance_vG l D cs a1 zfxc308_1_1 fv1_1 hm1 hk1 hmf349 hmf342 (by  omega) sz) cg_2_71_X9_advance rfl rfl (by decide +kernel) ⟨Nat.le_of_ble_eq_true rfl, Nat.le_of_ble_eq_true rfl⟩ hK hN TH hS hA rfl hm1 hk1 (by decide) rfl hl.1 rfl (Nat.le_of_ble_eq_true rfl) dX2_readRule_186 ⟨Nat.le_of_ble_eq_true rfl, Nat.le_of_ble_eq_true rfl⟩ (fun v352 kp352 L352 E352 H locs hq352 hx352 TH hS => ?_)
                      obtain ⟨rfl, rfl, rfl, hst352, hpoxc353_0, ⟨zfxc353_0_0, zfxc353_0_1, hzfxc353_0_0, hzfxc353_0_1, hzpxc353_0⟩⟩ := hq352
                      have hF := hF.tr hst352 (fun _ h => ⟨h, rfl⟩) (by decide) (by decide)
                      have hF148 := hF148.tr hst352 (fun _ h => ⟨h, rfl⟩) (by decide) (by decide)
                      have hmf354 : tw_fv E352 a1 1 = .int fv1_1 := (hst352.1 a1 1 hm1 (by rw [hk1]; decide)).trans hmf342
                      have hmf355 : tw_fv E352 a0 2 = .ref xr11 := (hst352.1 a0 2 hm0 (by rw [hk0]; decide)).trans hmf343
                      have hmf356 : tw_fv E352 a0 3 = .ref xr25 := (hst352.1 a0 3 hm0 (by rw [hk0]; decide)).trans hmf344
                      have hmf357 : tw_fv E352 a0 4 = .ref xr257 := (hst352.1 a0 4 hm0 (by rw [hk0]; decide)).trans hmf345
                      have hmf358 : tw_fv E352 a0 5 = .ref xr272 := (hst352.1 a0 5 hm0 (by rw [hk0]; decide)).trans hmf346
                      have hmf359 : tw_fv E352 a0 7 = .int zfxc308_0_0 := (hst352.1 a0 7 hm0 (by rw [hk0]; decide)).trans hmf347
                      have hmf360 : tw_fv E352 a0 6 = .ref xr316 := (hst352.1 a0 6 hm0 (by rw [hk0]; decide)).trans hmf351
                      have hmf361 : tw_fv E352 a0 1 = .int zi336 := (hst352.1 a0 1 hm0 (by rw [hk0]; decide)).trans hmf341
                      have hg0 : sp_ok E352 a0 g0 := sp_ok_fr TH hst352 hm0 hk0 hmg0 hkg0 (by decide) (by decide) hg0
                      have hg1 : ctx_ok E352 a0 a1 := ctx_ok_fr TH hst352 hm0 hk0 hm1 hk1 (by decide) (by decide) hg1
                      have hg2 : gm_ok E352 a0 := gm_ok_fr TH hst352 hm0 hk0 (by decide) (by decide) hg2
                      have hg3 : gm_ok E352 g0 := gm_ok_fr TH hst352 hmg0 hkg0 (by decide) (by decide) hg3
                      have hkc0 : kc_ok E352 g0 (tw_fi E g0 1) := kc_ok_fr TH hst352 hmg0 hkg0 (by decide) (by decide) hkc0
                      have hcf2 : cf_ok E352 a0 2 (fun j => if j = (fv0_1.toInt).toNat then fv1_3.toInt else (tw_el E a0 2) j) := c2_ok_fr TH hst352 hm0 hk0 (by decide) (by decide) hcf2
                      have hcf3 : cf_ok E352 a0 3 (fun j => if j = (fv0_1.toInt).toNat then fv1_4.toInt else (tw_el E a0 3) j) := c3_ok_fr TH hst352 hm0 hk0 (by decide) (by decide) hcf3
                      have hgn24 : el_is E352 a0 2 (fv0_1.toInt) (fv1_3.toInt) := e2_ok_fr TH hst352 hm0 hk0 (by decide) (by decide) hgn24
                      have hgn39 : el_is E352 a0 3 (fv0_1.toInt) (fv1_4.toInt) := e3_ok_fr TH hst352 hm0 hk0 (by decide) (by decide) hgn39
                      have hgn288 : el_is E352 a0 5 (fv0_1.toInt) (fv0_7.toInt) := e5_ok_fr TH hst352 hm0 hk0 (by decide) (by decide) hgn288
                      have hgn333 : el_is E352 a0 6 (fv0_1.toInt) (zfxc308_0_0.toInt) := e6_ok_fr TH hst352 hm0 hk0 (by decide) (by decide) hgn333
                      obtain ⟨qzfxc353_0_0, hqzfxc353_0_0, hqzfxc353_0_0a, hqzfxc353_0_0b⟩ := tw_rd TH hm1 hk1 (by decide) (by decide) (k := 3) rfl
                      have eqzfxc353_0_0 : qzfxc353_0_0 = zfxc353_0_0 := by have q := hqzfxc353_0_0.symm.trans hzfxc353_0_0; injection q
                      rw [eqzfxc353_0_0] at hqzfxc353_0_0a hqzfxc353_0_0b
                      obtain ⟨qzfxc353_0_1, hqzfxc353_0_1, hqzfxc353_0_1a, hqzfxc353_0_1b⟩ := tw_rd TH hm1 hk1 (by decide) (by decide) (k := 4) rfl
                      have eqzfxc353_0_1 : qzfxc353_0_1 = zfxc353_0_1 := by have q := hqzfxc353_0_1.symm.trans hzfxc353_0_1; injection q
                      rw [eqzfxc353_0_1] at hqzfxc353_0_1a hqzfxc353_0_1b
                      refine W.eq (g2 := F0 m 189 ls []) rfl ?_
                      obtain ⟨xi362, hxi362, hxi362a, hxi362b⟩ := tw_rd TH hm1 hk1 (by decide) (by decide) (k := 2) rfl
                      have hp4 := hpoxc353_0
                      rw [ft185, tw_fi_of hzfxc353_0_0, tw_fi_of hzfxc353_0_1, tw_fi_of hxi362] at hp4
                      have hfin := cy_3 (hg6.1 (by omega)) hT3 (by omega) (by omega) (by omega) hp4.1
                      have hKq : (prs (tw_el E352 a0 2) (tw_el E352 a0 3) (fv0_1.toInt + 1)) = gy_ins (prs (tw_el E a0 2) (tw_el E a0 3) (fv0_1.toInt)) (fv1_3.toInt, fv1_4.toInt) := prs_push (k := fv0_1.toInt) (by omega) rfl hcf2 hcf3
                      have fq8 := elg_fr TH hF148 hm0 hk0 (k := 8) (by decide) (by decide) rfl (by decide) (by decide) (by decide)
                      have fq9 := elg_fr TH hF148 hm0 hk0 (k := 9) (by decide) (by decide) rfl (by decide) (by decide) (by decide)
                      refine lv_iconst (v := (-1)) hx hb dX2_readRule_189 (by decide) ?_
                      exact tw_iret hx hb hr hlocks TH hS hex ⟨⟨_, rfl, (show (-1) ≤ Int32.toInt (-1) from by have : (((-1) : Int32).toInt) = (-1) := (by decide); omega), (show Int32.toInt (-1) ≤ 500 from by have : (((-1) : Int32).toInt) = (-1) := (by decide); omega), (by have : (((-1) : Int32).toInt) = (-1) := (by decide); intro q; exact absurd (by decide) q), (by have : (((-1) : Int32).toInt) = (-1) := (by decide); intro _; rw [tw_fi_of hzfxc353_0_0, tw_fi_of hzfxc353_0_1, tw_fi_of hxi362]; exact hp4.2), (by have : (((-1) : Int32).toInt) = (-1) := (by decide); intro _; rw [tw_fi_of hmf361]; omega), (by have : (((-1) : Int32).toInt) = (-1) := (by decide); intro _; rw [tw_fi_of hzfxc353_0_0, tw_fi_of hmf359, hKq, fq8, fq9]; exact hfin), (by have : (((-1) : Int32).toInt) = (-1) := (by decide); intro _; rw [tw_fi_of hmf359, hKq, fq8, fq9]; exact ⟨ib_ins hpre4 (by omega) (by omega) (by omega), hib6⟩), (by have : (((-1) : Int32).toInt) = (-1) := (by decide); intro _; rw [tw_fi_of hmf359, tw_fi_of hzfxc353_0_0]; omega), (by have : (((-1) : Int32).toInt) = (-1) := (by decide); exact hkc0), ⟨zfxc353_0_0, zfxc353_0_1, hzfxc353_0_0, hzfxc353_0_1, by have : (((-1) : Int32).toInt) = (-1) := (by decide); omega⟩, hg2, hg3⟩, rfl, rfl, hF⟩ (Nat.le_of_ble_eq_true rfl) (Nat.le_of_ble_eq_true rfl) dX2_readRule_190
                    · have hf363 : ¬ (xi315.toInt = 59) := fun q => hc334 ((fa_eq _ _).mpr (by have : ((59 : Int32).toInt) = 59 := (by decide); omega))
                      refine lv_aload_n hx hb dX2_readRule_170 rfl (lv_at hl 2 rfl) ?_
                      refine tw_get (ci := 9) (C := RX9) (T := TX9) (N := 5) hx hb hB cx_inX9 hown hK TH hm1 hk1 rfl ⟨by decide, rfl⟩ 3 (by decide) cw_44 (fun _ h9 => h9) dX2_readRule_171 (fun hv => ?_)
                      rw [hmf329]
                      exact tw_iret hx hb hr hlocks TH hS hex ⟨⟨_, rfl, (show (-1) ≤ Int32.toInt zfxc308_1_0 from by  omega), (show Int32.toInt zfxc308_1_0 ≤ 500 from by  omega), (by  intro _; exact cy_if (cq_12 _) (hg6.2 (by omega)) hT3 (by omega) (by omega) (by omega)), (by  intro q; exfalso; omega), (by  intro q; exfalso; omega), (by  intro q; exfalso; omega), (by  intro q; exfalso; omega), (by  intro q; exfalso; omega), (by  exact hkc0), ⟨zfxc308_1_0, zfxc308_1_1, hmf329, hmf330, by  omega⟩, hg2, hg3⟩, rfl, rfl, hF⟩ (Nat.le_of_ble_eq_true rfl) (Nat.le_of_ble_eq_true rfl) dX2_readRule_174
                · have hf364 : ¬ (xi298.toInt = 1) := fun q => hc302 ((fa_eq _ _).mpr (by have : ((1 : Int32).toInt) = 1 := (by decide); omega))
                  refine lv_aload_n hx hb dX2_readRule_127 rfl (lv_at hl 2 rfl) ?_
                  refine tw_get (ci := 9) (C := RX9) (T := TX9) (N := 5) hx hb hB cx_inX9 hown hK TH hm1 hk1 rfl ⟨by decide, rfl⟩ 3 (by decide) cw_44 (fun _ h9 => h9) dX2_readRule_128 (fun hv => ?_)
                  rw [hzfxc290_0_0]
                  exact tw_iret hx hb hr hlocks TH hS hex ⟨⟨_, rfl, (show (-1) ≤ Int32.toInt zfxc290_0_0 from by  omega), (show Int32.toInt zfxc290_0_0 ≤ 500 from by  omega), (by  intro _; exact cy_if (Or.inr rfl) hg5 hp2.2 (by omega) (by omega) (by omega)), (by  intro q; exfalso; omega), (by  intro q; exfalso; omega), (by  intro q; exfalso; omega), (by  intro q; exfalso; omega), (by  intro q; exfalso; omega), (by  exact hkc0), ⟨zfxc290_0_0, zfxc290_0_1, hzfxc290_0_0, hzfxc290_0_1, by  omega⟩, hg2, hg3⟩, rfl, rfl, hF⟩ (Nat.le_of_ble_eq_true rfl) (Nat.le_of_ble_eq_true rfl) dX2_readRule_131
            · have hf365 : ¬ (xi47.toInt = 61) := fun q => hc255 ((fa_eq _ _).mpr (by have : ((61 : Int32).toInt) = 61 := (by decide); omega))
              refine lv_aload_n hx hb dX2_readRule_82 rfl (lv_at hl 2 rfl) ?_
              refine tw_get (ci := 9) (C := RX9) (T := TX9) (N := 5) hx hb hB cx_inX9 hown hK TH hm1 hk1 rfl ⟨by decide, rfl⟩ 3 (by decide) cw_44 (fun _ h9 => h9) dX2_readRule_83 (fun hv => ?_)
              rw [hzfxc41_0_0]
              exact tw_iret hx hb hr hlocks TH hS hex ⟨⟨_, rfl, (show (-1) ≤ Int32.toInt zfxc41_0_0 from by  omega), (show Int32.toInt zfxc41_0_0 ≤ 500 from by  omega), (by  intro _; exact cy_4f hg4 hp1.2 (by omega) (by omega) (by omega)), (by  intro q; exfalso; omega), (by  intro q; exfalso; omega), (by  intro q; exfalso; omega), (by  intro q; exfalso; omega), (by  intro q; exfalso; omega), (by  exact hkc0), ⟨zfxc41_0_0, zfxc41_0_1, hzfxc41_0_0, hzfxc41_0_1, by  omega⟩, hg2, hg3⟩, rfl, rfl, hF⟩ (Nat.le_of_ble_eq_true rfl) (Nat.le_of_ble_eq_true rfl) dX2_readRule_86
      · have hf366 : ¬ (xc8.toInt = (-1)) := fun q => hc9 ((fa_eq _ _).mpr (by have : (((-1) : Int32).toInt) = (-1) := (by decide); omega))
        refine lv_aload_n hx hb dX2_readRule_26 rfl (lv_at hl 1 rfl) ?_
        refine tw_get (ci := 9) (C := RX9) (T := TX9) (N := 5) hx hb hB cx_inX9 hown hK TH hm1 hk1 rfl ⟨by decide, rfl⟩ 3 (by decide) cw_44 (fun _ h9 => h9) dX2_readRule_27 (fun hv => ?_)
        rw [hfv1_3]
        exact tw_iret hx hb hr hlocks TH hS hex ⟨⟨_, rfl, (show (-1) ≤ Int32.toInt fv1_3 from by  omega), (show Int32.toInt fv1_3 ≤ 500 from by  omega), (by  intro _; exact cy_0f hpre2 hpre1 (by omega) (by omega) (fun z => (by have w := hpoxc8_0.2 z.2.2; omega))), (by  intro q; exfalso; omega), (by  intro q; exfalso; omega), (by  intro q; exfalso; omega), (by  intro q; exfalso; omega), (by  intro q; exfalso; omega), (by  exact hkc0), ⟨fv1_3, fv1_4, hfv1_3, hfv1_4, by  omega⟩, hg2, hg3⟩, rfl, rfl, hF⟩ (Nat.le_of_ble_eq_true rfl) (Nat.le_of_ble_eq_true rfl) dX2_readRule_30
set_option maxHeartbeats 4000000 in
set_option maxRecDepth 100000 in
theorem tX2_readFrom_vG (l : Launch) (D : va_G) (cs : Nat → ClassId) {kp : Nat → Nat} {L : List Nat} {E : Nat → va_E} (a0 : Nat) (a1 : Nat) (g0 : Nat) (fv1_1 : Int32) (hm0 : a0 ∈ L) (hk0 : kp a0 = 2) (hm1 : a1 ∈ L) (hk1 : kp a1 = 9) (hmg0 : g0 ∈ L) (hkg0 : kp g0 = 2) (hfv1_1 : tw_fv E a1 1 = .int fv1_1) (hg0 : sp_ok E a0 g0) (hg1 : ab_ok E a0 a1) (hg2 : gm_ok E g0) (sz : Nat) : Met l yX2_readFrom (.code yX2_readFrom cX2_readFrom 4 (some .int) :: cx_big) { frames := 9, cells := 0, slots := 0, locals := 191 } (tw_P D cs kp L E [.ref a0, .ref a1] sz) (tw_Q D cs kp L (fun v kq Lq Eq => (∃ x : Int32, v = some (.int x) ∧ (-1) ≤ x.toInt ∧ x.toInt ≤ 500 ∧ (x.toInt = -1 → gy_all (tw_el E a1 0) fv1_1.toInt = tw_fi Eq a0 1 ∧ 1 ≤ tw_fi Eq a0 1) ∧ (x.toInt ≠ -1 → gy_all (tw_el E a1 0) fv1_1.toInt = -1) ∧ (tw_el Eq a1 0 = tw_el E a1 0) ∧ (tw_fi Eq g0 1 = tw_fi E g0 1) ∧ gm_ok Eq a0 ∧ gm_ok Eq g0) ∧ kp = kq ∧ L = Lq ∧ tw_fr kp L [(2, 1), (2, 7), (9, 2), (9, 3), (9, 4)] [100, 130, 131, 132, 133, 134, 136, 137, 138, 139] E Eq) (va_A (va_pl L E) sz)) 0 0 (va_A (va_pl L E) sz) := by
  refine tw_ofW (by decide) (Nat.le_of_ble_eq_true rfl) ?_
  intro p e s m below meth c A ls hx hb hr hml hB hown hlocks hK hN hA TH hS hl
  have hown : s.vm.findClass "TreeMerge$Grammar" = some m.cls := hown
  have hl : lv_has ls 4 [(0, .ref a0), (1, .ref a1)] := hl
  obtain ⟨kp0, ekp⟩ : ∃ z, z = kp := ⟨_, rfl⟩
  obtain ⟨L0, eL⟩ : ∃ z, z = L := ⟨_, rfl⟩
  rw [show tw_Q D cs kp L = tw_Q D cs kp0 L0 by rw [ekp, eL]]
  have hex : ∀ a : Nat, a ∈ L0 → a ∈ L ∧ kp a = kp0 a := fun a h => ⟨by rw [← eL]; exact h, by rw [ekp]⟩
  have hF : tw_fr kp L [(2, 1), (2, 7), (9, 2), (9, 3), (9, 4)] [100, 130, 131, 132, 133, 134, 136, 137, 138, 139] E E := tw_fr.rf
  obtain ⟨qfv1_1, hqfv1_1, hqfv1_1a, hqfv1_1b⟩ := tw_rd TH hm1 hk1 (by decide) (by decide) (k := 1) rfl
  have eqfv1_1 : qfv1_1 = fv1_1 := by have q := hqfv1_1.symm.trans hfv1_1; injection q
  rw [eqfv1_1] at hqfv1_1a hqfv1_1b
  have hkc0 : kc_ok E g0 (tw_fi E g0 1) := rfl
  refine lv_aload_n hx hb dX2_readFrom_0 rfl (lv_at hl 1 rfl) ?_
  refine tw_get (ci := 9) (C := RX9) (T := TX9) (N := 5) hx hb hB cx_inX9 hown hK TH hm1 hk1 rfl ⟨by decide, rfl⟩ 0 (by decide) cw_35 (fun _ h9 => h9) dX2_readFrom_1 (fun hv => ?_)
  obtain ⟨xr1, hxr1, hmxr1, hkxr1⟩ : ∃ a : Nat, tw_fv E a1 0 = .ref a ∧ a ∈ L ∧ kp a = 100 := hv
  rw [hxr1]
  refine lv_iconst (v := 0) hx hb dX2_readFrom_4 (by decide) ?_
  refine lv_aload_n hx hb dX2_readFrom_5 rfl (lv_at hl 0 rfl) ?_
  refine tw_get (ci := 2) (C := RX2) (T := TX2) (N := 13) hx hb hB cx_inX2 hown hK TH hm0 hk0 rfl ⟨by decide, rfl⟩ 0 (by decide) cw_66 (fun _ h9 => h9) dX2_readFrom_6 (fun hv => ?_)
  obtain ⟨xr2, hxr2, hmxr2, hkxr2⟩ : ∃ a : Nat, tw_fv E a0 0 = .ref a ∧ a ∈ L ∧ kp a = 100 := hv
  rw [hxr2]
  refine lv_iconst (v := 0) hx hb dX2_readFrom_9 (by decide) ?_
  refine lv_aload_n hx hb dX2_readFrom_10 rfl (lv_at hl 1 rfl) ?_
  refine tw_get (ci := 9) (C := RX9) (T := TX9) (N := 5) hx hb hB cx_inX9 hown hK TH hm1 hk1 rfl ⟨by decide, rfl⟩ 1 (by decide) cw_38 (fun _ h9 => h9) dX2_readFrom_11 (fun hv => ?_)
  rw [hfv1_1]
  have hab14 := hg1
  refine tw_copyi (n0 := 500) (n1 := 500) (lo0 := 0) (hi0 := 255) (lo := 0) (hi := 255) hx hb (hml.trans hl.1.symm) hown (hB _ cw_604) (hB _ cw_606) (hB _ cw_605) (hB _ cw_18) hK TH hS hmxr1 hkxr1 (by decide) rfl hmxr2 hkxr2 (by decide) rfl (by decide) (by decide) (by have : ((0 : Int32).toInt) = 0 := (by decide); omega) (by have : ((0 : Int32).toInt) = 0 := (by decide); omega) (by omega) (by have : ((0 : Int32).toInt) = 0 := (by decide); omega) (by have : ((0 : Int32).toInt) = 0 := (by decide); omega) (Nat.le_of_ble_eq_true rfl) (Nat.le_of_ble_eq_true rfl) dX2_readFrom_14 (fun H locs E3 TH hS hp4 hp5 hp6 => ?_)
  have hst7 : tw_fr kp L [] [100] E E3 := tw_fr.ast tw_fr.rf (fun _ => hkxr2) hp4 hp5 (by decide)
  have hF := hF.tr hst7 (fun _ h => ⟨h, rfl⟩) (by decide) (by decide)
  have hmf8 : tw_fv E3 a1 1 = .int fv1_1 := (hst7.1 a1 1 hm1 (by rw [hk1]; decide)).trans hfv1_1
  have hmf9 : tw_fv E3 a1 0 = .ref xr1 := (hst7.1 a1 0 hm1 (by rw [hk1]; decide)).trans hxr1
  have hmf10 : tw_fv E3 a0 0 = .ref xr2 := (hst7.1 a0 0 hm0 (by rw [hk0]; decide)).trans hxr2
  have hg0 : sp_ok E3 a0 g0 := sp_ok_fr TH hst7 hm0 hk0 hmg0 hkg0 (by decide) (by decide) hg0
  have hg1 : ab_ok E3 a0 a1 := ab_ok_fr TH hst7 hm0 hk0 hm1 hk1 (by decide) (by decide) hg1
  have hg2 : gm_ok E3 g0 := gm_ok_fr TH hst7 hmg0 hkg0 (by decide) (by decide) hg2
  have hkc0 : kc_ok E3 g0 (tw_fi E g0 1) := kc_ok_fr TH hst7 hmg0 hkg0 (by decide) (by decide) hkc0
  have hgn11 : ctx_ok E3 a0 a1 := (ctx_copy hxr2 hxr1 hfv1_1 (by omega) hab14 hp4 hp5 hp6).1
  have hte := (ctx_copy hxr2 hxr1 hfv1_1 (by omega) hab14 hp4 hp5 hp6).2
  have hF17 : tw_fr kp L [(2, 1), (2, 7), (9, 2), (9, 3), (9, 4)] [130, 131, 132, 133, 134, 136, 137, 138, 139] E3 E3 := tw_fr.rf
  refine lv_aload_n hx hb dX2_readFrom_17 rfl (lv_at hl 0 rfl) ?_
  refine lv_iconst (v := 0) hx hb dX2_readFrom_18 (by decide) ?_
  refine tw_put (ci := 2) (v := .int 0) (ty := .int) (C := RX2) (T := TX2) (N := 13) hx hb hB cx_inX2 tyX2 tyX2_ok nmX2 hown hK TH hS hm0 hk0 rfl ⟨by decide, rfl⟩ 1 (by decide) cw_68 (fun _ h9 => h9) rfl (by decide +kernel) rfl rfl ⟨_, rfl, (show 0 ≤ Int32.toInt 0 from by have : ((0 : Int32).toInt) = 0 := (by decide); omega), (show Int32.toInt 0 ≤ 10 from by have : ((0 : Int32).toInt) = 0 := (by decide); omega)⟩ dX2_readFrom_19 (fun H locs E12 TH hS hmf16 hp13 hp14 => ?_)
  have hst15 : tw_fr kp L [(2, 1)] [] E3 E12 := tw_fr.put tw_fr.rf (fun _ => hk0) (by decide) hp13 hp14 (by decide)
  have hF := hF.tr hst15 (fun _ h => ⟨h, rfl⟩) (by decide) (by decide)
  have hF17 := hF17.tr hst15 (fun _ h => ⟨h, rfl⟩) (by decide) (by decide)
  have hmf17 : tw_fv E12 a1 1 = .int fv1_1 := (hst15.1 a1 1 hm1 (by rw [hk1]; decide)).trans hmf8
  have hmf18 : tw_fv E12 a1 0 = .ref xr1 := (hst15.1 a1 0 hm1 (by rw [hk1]; decide)).trans hmf9
  have hmf19 : tw_fv E12 a0 0 = .ref xr2 := (hst15.1 a0 0 hm0 (by rw [hk0]; decide)).trans hmf10
  have hg0_o := hg0
  have hg1_o := hg1
  have hg2_o := hg2
  have hkc0_o := hkc0
  have hgn11_o := hgn11
  have hg0 : sp_ok E12 a0 g0 := sp_ok_fr TH hst15 hm0 hk0 hmg0 hkg0 (by decide) (by decide) hg0
  have hg1 : ab_ok E12 a0 a1 := ab_ok_fr TH hst15 hm0 hk0 hm1 hk1 (by decide) (by decide) hg1
  have hg2 : gm_ok E12 g0 := gm_ok_cnt hp13 hp14 TH hk0 hmg0 hkg0 (hg0_o).1 hg2_o
  have hkc0 : kc_ok E12 g0 (tw_fi E g0 1) := kc_oth hp13 (fun z => (sp_ne hg0_o) z.symm) hkc0_o
  have hgn11 : ctx_ok E12 a0 a1 := ctx_ok_fr TH hst15 hm0 hk0 hm1 hk1 (by decide) (by decide) hgn11
  have hgn20 : gm_ok E12 a0 := gm_ok_zero hmf16 (by have : ((0 : Int32).toInt) = 0 := (by decide); omega)
  refine lv_aload_n hx hb dX2_readFrom_22 rfl (lv_at hl 0 rfl) ?_
  refine lv_iconst (v := 0) hx hb dX2_readFrom_23 (by decide) ?_
  refine tw_put (ci := 2) (v := .int 0) (ty := .int) (C := RX2) (T := TX2) (N := 13) hx hb hB cx_inX2 tyX2 tyX2_ok nmX2 hown hK TH hS hm0 hk0 rfl ⟨by decide, rfl⟩ 7 (by decide) cw_77 (fun _ h9 => h9) rfl (by decide +kernel) rfl rfl ⟨_, rfl, (show 0 ≤ Int32.toInt 0 from by have : ((0 : Int32).toInt) = 0 := (by decide); omega), (show Int32.toInt 0 ≤ 500 from by have : ((0 : Int32).toInt) = 0 := (by decide); omega)⟩ dX2_readFrom_24 (fun H locs E21 TH hS hmf25 hp22 hp23 => ?_)
  have hst24 : tw_fr kp L [(2, 7)] [] E12 E21 := tw_fr.put tw_fr.rf (fun _ => hk0) (by decide) hp22 hp23 (by decide)
  have hF := hF.tr hst24 (fun _ h => ⟨h, rfl⟩) (by decide) (by decide)
  have hF17 := hF17.tr hst24 (fun _ h => ⟨h, rfl⟩) (by decide) (by decide)
  have hmf26 : tw_fv E21 a1 1 = .int fv1_1 := (hst24.1 a1 1 hm1 (by rw [hk1]; decide)).trans hmf17
  have hmf27 : tw_fv E21 a1 0 = .ref xr1 := (hst24.1 a1 0 hm1 (by rw [hk1]; decide)).trans hmf18
  have hmf28 : tw_fv E21 a0 0 = .ref xr2 := (hst24.1 a0 0 hm0 (by rw [hk0]; decide)).trans hmf19
  have hmf29 : tw_fv E21 a0 1 = .int 0 := (hst24.1 a0 1 hm0 (by rw [hk0]; decide)).trans hmf16
  have hg0 : sp_ok E21 a0 g0 := sp_ok_fr TH hst24 hm0 hk0 hmg0 hkg0 (by decide) (by decide) hg0
  have hg1 : ab_ok E21 a0 a1 := ab_ok_fr TH hst24 hm0 hk0 hm1 hk1 (by decide) (by decide) hg1
  have hg2 : gm_ok E21 g0 := gm_ok_fr TH hst24 hmg0 hkg0 (by decide) (by decide) hg2
  have hkc0 : kc_ok E21 g0 (tw_fi E g0 1) := kc_ok_fr TH hst24 hmg0 hkg0 (by decide) (by decide) hkc0
  have hgn11 : ctx_ok E21 a0 a1 := ctx_ok_fr TH hst24 hm0 hk0 hm1 hk1 (by decide) (by decide) hgn11
  have hgn20 : gm_ok E21 a0 := gm_ok_fr TH hst24 hm0 hk0 (by decide) (by decide) hgn20
  refine lv_aload_n hx hb dX2_readFrom_27 rfl (lv_at hl 1 rfl) ?_
  refine tw_Vc (o := a1) (ci := 9) (n := 0) (post := (fun v kq Lq Eq => v = none ∧ kp = kq ∧ L = Lq ∧ tw_fr kp L [(9, 4)] [] E21 Eq ∧ (∃ z0 : Int32, tw_fv Eq a1 4 = .int z0 ∧ (z0.toInt = 0)))) (As := []) (rest := []) ⟨hx, hb, hml, hown, hB⟩ (fun sz => tX9_rewind_vG l D cs a1 hm1 hk1 sz) cg_2_68_X9_rewind rfl rfl (by decide +kernel) ⟨Nat.le_of_ble_eq_true rfl, Nat.le_of_ble_eq_true rfl⟩ hK hN TH hS hA rfl hm1 hk1 (by decide) rfl hl.1 rfl (Nat.le_of_ble_eq_true rfl) dX2_readFrom_28 ⟨Nat.le_of_ble_eq_true rfl, Nat.le_of_ble_eq_true rfl⟩ (fun v30 kp30 L30 E30 H locs hq30 hx30 TH hS => ?_)
  obtain ⟨rfl, rfl, rfl, hst30, ⟨zfxc31_0_0, hzfxc31_0_0, hzpxc31_0⟩⟩ := hq30
  have hF := hF.tr hst30 (fun _ h => ⟨h, rfl⟩) (by decide) (by decide)
  have hF17 := hF17.tr hst30 (fun _ h => ⟨h, rfl⟩) (by decide) (by decide)
  have hmf32 : tw_fv E30 a1 1 = .int fv1_1 := (hst30.1 a1 1 hm1 (by rw [hk1]; decide)).trans hmf26
  have hmf33 : tw_fv E30 a1 0 = .ref xr1 := (hst30.1 a1 0 hm1 (by rw [hk1]; decide)).trans hmf27
  have hmf34 : tw_fv E30 a0 0 = .ref xr2 := (hst30.1 a0 0 hm0 (by rw [hk0]; decide)).trans hmf28
  have hmf35 : tw_fv E30 a0 1 = .int 0 := (hst30.1 a0 1 hm0 (by rw [hk0]; decide)).trans hmf29
  have hmf36 : tw_fv E30 a0 7 = .int 0 := (hst30.1 a0 7 hm0 (by rw [hk0]; decide)).trans hmf25
  have hg0 : sp_ok E30 a0 g0 := sp_ok_fr TH hst30 hm0 hk0 hmg0 hkg0 (by decide) (by decide) hg0
  have hg1 : ab_ok E30 a0 a1 := ab_ok_fr TH hst30 hm0 hk0 hm1 hk1 (by decide) (by decide) hg1
  have hg2 : gm_ok E30 g0 := gm_ok_fr TH hst30 hmg0 hkg0 (by decide) (by decide) hg2
  have hkc0 : kc_ok E30 g0 (tw_fi E g0 1) := kc_ok_fr TH hst30 hmg0 hkg0 (by decide) (by decide) hkc0
  have hgn11 : ctx_ok E30 a0 a1 := ctx_ok_fr TH hst30 hm0 hk0 hm1 hk1 (by decide) (by decide) hgn11
  have hgn20 : gm_ok E30 a0 := gm_ok_fr TH hst30 hm0 hk0 (by decide) (by decide) hgn20
  obtain ⟨qzfxc31_0_0, hqzfxc31_0_0, hqzfxc31_0_0a, hqzfxc31_0_0b⟩ := tw_rd TH hm1 hk1 (by decide) (by decide) (k := 4) rfl
  have eqzfxc31_0_0 : qzfxc31_0_0 = zfxc31_0_0 := by have q := hqzfxc31_0_0.symm.trans hzfxc31_0_0; injection q
  rw [eqzfxc31_0_0] at hqzfxc31_0_0a hqzfxc31_0_0b
  refine W.eq (g2 := F0 m 31 ls []) rfl ?_
  refine lv_aload_n hx hb dX2_readFrom_31 rfl (lv_at hl 1 rfl) ?_
  have ft31 := elg_fr TH hF17 hm1 hk1 (k := 0) (by decide) (by decide) rfl (by decide) (by decide) (by decide)
  rw [hte] at ft31
  refine tw_Vc (o := a1) (ci := 9) (n := 0) (post := (fun v kq Lq Eq => v = none ∧ kp = kq ∧ L = Lq ∧ tw_fr kp L [(9, 2), (9, 3), (9, 4)] [] E30 Eq ∧ (lx_WS (tw_el E30 a1 0) fv1_1.toInt zfxc31_0_0.toInt (tw_fi Eq a1 3) ∧ tc_tk (tw_el E30 a1 0) fv1_1.toInt (tw_fi Eq a1 3) (tw_fi Eq a1 4) (tw_fi Eq a1 2)) ∧ (∃ z0 z1 : Int32, tw_fv Eq a1 3 = .int z0 ∧ tw_fv Eq a1 4 = .int z1 ∧ (z0.toInt ≤ z1.toInt ∧ z1.toInt ≤ fv1_1.toInt ∧ zfxc31_0_0.toInt ≤ z0.toInt)))) (As := []) (rest := []) ⟨hx, hb, hml, hown, hB⟩ (fun sz => tX9_advance_vG l D cs a1 zfxc31_0_0 fv1_1 hm1 hk1 hzfxc31_0_0 hmf32 (by  omega) sz) cg_2_71_X9_advance rfl rfl (by decide +kernel) ⟨Nat.le_of_ble_eq_true rfl, Nat.le_of_ble_eq_true rfl⟩ hK hN TH hS hA rfl hm1 hk1 (by decide) rfl hl.1 rfl (Nat.le_of_ble_eq_true rfl) dX2_readFrom_32 ⟨Nat.le_of_ble_eq_true rfl, Nat.le_of_ble_eq_true rfl⟩ (fun v37 kp37 L37 E37 H locs hq37 hx37 TH hS => ?_)
  obtain ⟨rfl, rfl, rfl, hst37, hpoxc38_0, ⟨zfxc38_0_0, zfxc38_0_1, hzfxc38_0_0, hzfxc38_0_1, hzpxc38_0⟩⟩ := hq37
  have hF := hF.tr hst37 (fun _ h => ⟨h, rfl⟩) (by decide) (by decide)
  have hF17 := hF17.tr hst37 (fun _ h => ⟨h, rfl⟩) (by decide) (by decide)
  have hmf39 : tw_fv E37 a1 1 = .int fv1_1 := (hst37.1 a1 1 hm1 (by rw [hk1]; decide)).trans hmf32
  have hmf40 : tw_fv E37 a1 0 = .ref xr1 := (hst37.1 a1 0 hm1 (by rw [hk1]; decide)).trans hmf33
  have hmf41 : tw_fv E37 a0 0 = .ref xr2 := (hst37.1 a0 0 hm0 (by rw [hk0]; decide)).trans hmf34
  have hmf42 : tw_fv E37 a0 1 = .int 0 := (hst37.1 a0 1 hm0 (by rw [hk0]; decide)).trans hmf35
  have hmf43 : tw_fv E37 a0 7 = .int 0 := (hst37.1 a0 7 hm0 (by rw [hk0]; decide)).trans hmf36
  have hg0 : sp_ok E37 a0 g0 := sp_ok_fr TH hst37 hm0 hk0 hmg0 hkg0 (by decide) (by decide) hg0
  have hg1 : ab_ok E37 a0 a1 := ab_ok_fr TH hst37 hm0 hk0 hm1 hk1 (by decide) (by decide) hg1
  have hg2 : gm_ok E37 g0 := gm_ok_fr TH hst37 hmg0 hkg0 (by decide) (by decide) hg2
  have hkc0 : kc_ok E37 g0 (tw_fi E g0 1) := kc_ok_fr TH hst37 hmg0 hkg0 (by decide) (by decide) hkc0
  have hgn11 : ctx_ok E37 a0 a1 := ctx_ok_fr TH hst37 hm0 hk0 hm1 hk1 (by decide) (by decide) hgn11
  have hgn20 : gm_ok E37 a0 := gm_ok_fr TH hst37 hm0 hk0 (by decide) (by decide) hgn20
  obtain ⟨qzfxc38_0_0, hqzfxc38_0_0, hqzfxc38_0_0a, hqzfxc38_0_0b⟩ := tw_rd TH hm1 hk1 (by decide) (by decide) (k := 3) rfl
  have eqzfxc38_0_0 : qzfxc38_0_0 = zfxc38_0_0 := by have q := hqzfxc38_0_0.symm.trans hzfxc38_0_0; injection q
  rw [eqzfxc38_0_0] at hqzfxc38_0_0a hqzfxc38_0_0b
  obtain ⟨qzfxc38_0_1, hqzfxc38_0_1, hqzfxc38_0_1a, hqzfxc38_0_1b⟩ := tw_rd TH hm1 hk1 (by decide) (by decide) (k := 4) rfl
  have eqzfxc38_0_1 : qzfxc38_0_1 = zfxc38_0_1 := by have q := hqzfxc38_0_1.symm.trans hzfxc38_0_1; injection q
  rw [eqzfxc38_0_1] at hqzfxc38_0_1a hqzfxc38_0_1b
  refine W.eq (g2 := F0 m 35 ls []) rfl ?_
  obtain ⟨xi44, hxi44, hxi44a, hxi44b⟩ := tw_rd TH hm1 hk1 (by decide) (by decide) (k := 2) rfl
  have hp0 := hpoxc38_0
  rw [ft31, tw_fi_of hzfxc38_0_0, tw_fi_of hzfxc38_0_1, tw_fi_of hxi44] at hp0
  have hst0 := gy_start (by have w := hp0.1; rw [show (zfxc31_0_0.toInt : Int) = 0 by omega] at w; exact w)
  refine lv_iconst (v := 0) hx hb dX2_readFrom_35 (by decide) ?_
  refine lv_istore_n (lv' := [(2, .int 0), (0, .ref a0), (1, .ref a1)]) hx hb dX2_readFrom_36 rfl hl (by decide) rfl (fun ls hl => ?_)
  have hJ37 : ∀ (n37 : Nat) (y37_2 : Int32) (u37_1_3 : Int32) (u37_1_4 : Int32) (u37_1_2 : Int32) (u37_0_1 : Int32) (u37_0_7 : Int32) (Eg37 : Nat → va_E) (H : Heap) (locs : List Loc) (ls : Array Slot), 0 ≤ y37_2.toInt → y37_2.toInt ≤ 11 → 0 ≤ u37_1_3.toInt → u37_1_3.toInt ≤ 500 → 0 ≤ u37_1_4.toInt → u37_1_4.toInt ≤ 500 → 0 ≤ u37_1_2.toInt → u37_1_2.toInt ≤ 255 → 0 ≤ u37_0_1.toInt → u37_0_1.toInt ≤ 10 → 0 ≤ u37_0_7.toInt → u37_0_7.toInt ≤ 500 → (u37_1_3.toInt ≤ u37_1_4.toInt ∧ u37_1_4.toInt ≤ fv1_1.toInt ∧ u37_1_3.toInt ≤ fv1_1.toInt) → (tc_tk (tw_el E a1 0) fv1_1.toInt (u37_1_3.toInt) (u37_1_4.toInt) (u37_1_2.toInt)) → (gy_at (tw_el E a1 0) fv1_1.toInt 0 (u37_1_3.toInt) (u37_0_1.toInt) (prs (tw_el Eg37 a0 2) (tw_el Eg37 a0 3) (u37_0_1.toInt)) (prs (tw_el Eg37 a0 8) (tw_el Eg37 a0 9) (u37_0_7.toInt))) → (u37_0_7.toInt ≤ u37_1_3.toInt) → (ib fv1_1.toInt (prs (tw_el Eg37 a0 2) (tw_el Eg37 a0 3) (u37_0_1.toInt))) → (ib fv1_1.toInt (prs (tw_el Eg37 a0 8) (tw_el Eg37 a0 9) (u37_0_7.toInt))) → (u37_0_1.toInt = y37_2.toInt) → (0 ≤ u37_1_3.toInt) → 11 - y37_2.toInt ≤ (n37 : Int) → tw_fv Eg37 a1 3 = .int u37_1_3 → tw_fv Eg37 a1 4 = .int u37_1_4 → tw_fv Eg37 a1 2 = .int u37_1_2 → tw_fv Eg37 a0 1 = .int u37_0_1 → tw_fv Eg37 a0 7 = .int u37_0_7 → tw_fr kp L [(2, 1), (2, 7), (9, 2), (9, 3), (9, 4)] [130, 131, 132, 134, 136, 137, 138, 139] E37 Eg37 → gm_ok Eg37 a0 → gm_ok Eg37 g0 → sp_ok Eg37 a0 g0 → ctx_ok Eg37 a0 a1 → kc_ok Eg37 g0 (tw_fi E g0 1) → tw_H D cs kp L Eg37 A H → va_S A s.heap H locs → lv_has ls 4 [(2, .int y37_2), (0, .ref a0), (1, .ref a1)] → W p l e { frames := 9, cells := 0, slots := 0, locals := 191 } s m [.ref a0, .ref a1].toArray below meth c H locs 0 0 (MQ below (tw_Q D cs kp0 L0 (fun v kq Lq Eq => (∃ x : Int32, v = some (.int x) ∧ (-1) ≤ x.toInt ∧ x.toInt ≤ 500 ∧ (x.toInt = -1 → gy_all (tw_el E a1 0) fv1_1.toInt = tw_fi Eq a0 1 ∧ 1 ≤ tw_fi Eq a0 1) ∧ (x.toInt ≠ -1 → gy_all (tw_el E a1 0) fv1_1.toInt = -1) ∧ (tw_el Eq a1 0 = tw_el E a1 0) ∧ (tw_fi Eq g0 1 = tw_fi E g0 1) ∧ gm_ok Eq a0 ∧ gm_ok Eq g0) ∧ kp = kq ∧ L = Lq ∧ tw_fr kp L [(2, 1), (2, 7), (9, 2), (9, 3), (9, 4)] [100, 130, 131, 132, 133, 134, 136, 137, 138, 139] E Eq) A) [.ref a0, .ref a1].toArray s 0 0 A) (F0 m 37 ls []) := by
    intro n37
    induction n37 using Nat.strongRecOn with
    | _ n37 ih37 =>
      intro y37_2 u37_1_3 u37_1_4 u37_1_2 u37_0_1 u37_0_7 Eg37 H locs ls hy37_2a hy37_2b hu37_1_3a hu37_1_3b hu37_1_4a hu37_1_4b hu37_1_2a hu37_1_2b hu37_0_1a hu37_0_1b hu37_0_7a hu37_0_7b hin37_0 hin37_1 hin37_2 hin37_3 hin37_4 hin37_5 hin37_6 hin37_7 hmeas37 hfm37_0 hfm37_1 hfm37_2 hfm37_3 hfm37_4 hG37 hcg37_0 hcg37_1 hcg37_2 hcg37_3 hcg37_4 TH hS hl
      have hF := hF.tr hG37 (fun _ h => ⟨h, rfl⟩) (by decide) (by decide)
      have hF17 := hF17.tr hG37 (fun _ h => ⟨h, rfl⟩) (by decide) (by decide)
      have hmf45 : tw_fv Eg37 a1 1 = .int fv1_1 := (hG37.1 a1 1 hm1 (by rw [hk1]; decide)).trans hmf39
      have hmf46 : tw_fv Eg37 a1 0 = .ref xr1 := (hG37.1 a1 0 hm1 (by rw [hk1]; decide)).trans hmf40
      have hmf47 : tw_fv Eg37 a0 0 = .ref xr2 := (hG37.1 a0 0 hm0 (by rw [hk0]; decide)).trans hmf41
      refine lv_iload_n hx hb dX2_readFrom_37 rfl (lv_at hl 0 rfl) ?_
      refine lv_bipush (v := 10) hx hb dX2_readFrom_38 (by decide) ?_
      refine lv_icmp_gt (tgt := 72) hx hb dX2_readFrom_40 (by decide) (fun hc48 => ?_) (fun hc48 => ?_)
      · have hf49 : 10 < y37_2.toInt := by have z := (fa_lt _ _).mp hc48; have : ((10 : Int32).toInt) = 10 := (by decide); omega
        exfalso
        omega
      · have hf50 : ¬ (10 < y37_2.toInt) := fun q => hc48 ((fa_lt _ _).mpr (by have : ((10 : Int32).toInt) = 10 := (by decide); omega))
        refine lv_aload_n hx hb dX2_readFrom_43 rfl (lv_at hl 1 rfl) ?_
        refine lv_aload_n hx hb dX2_readFrom_44 rfl (lv_at hl 2 rfl) ?_
        have ft45 := elg_fr TH hF17 hm1 hk1 (k := 0) (by decide) (by decide) rfl (by decide) (by decide) (by decide)
        rw [hte] at ft45
        refine tw_Vc (o := a0) (ci := 2) (n := 1) (post := (fun v kq Lq Eq => (∃ x : Int32, v = some (.int x) ∧ (-1) ≤ x.toInt ∧ x.toInt ≤ 500 ∧ (x.toInt ≠ -1 → gy_all (tw_el Eg37 a1 0) fv1_1.toInt = -1) ∧ (x.toInt = -1 → tc_tk (tw_el Eg37 a1 0) fv1_1.toInt (tw_fi Eq a1 3) (tw_fi Eq a1 4) (tw_fi Eq a1 2)) ∧ (x.toInt = -1 → tw_fi Eq a0 1 = u37_0_1.toInt + 1) ∧ (x.toInt = -1 → (fv1_1.toInt ≤ tw_fi Eq a1 3 → gy_all (tw_el Eg37 a1 0) fv1_1.toInt = gy_fin (tw_el Eg37 a1 0) (u37_0_1.toInt + 1) (prs (tw_el Eq a0 2) (tw_el Eq a0 3) (u37_0_1.toInt + 1)) (prs (tw_el Eq a0 8) (tw_el Eq a0 9) (tw_fi Eq a0 7))) ∧ (tw_fi Eq a1 3 < fv1_1.toInt → gy_at (tw_el Eg37 a1 0) fv1_1.toInt 0 (tw_fi Eq a1 3) (u37_0_1.toInt + 1) (prs (tw_el Eq a0 2) (tw_el Eq a0 3) (u37_0_1.toInt + 1)) (prs (tw_el Eq a0 8) (tw_el Eq a0 9) (tw_fi Eq a0 7)))) ∧ (x.toInt = -1 → ib fv1_1.toInt (prs (tw_el Eq a0 2) (tw_el Eq a0 3) (u37_0_1.toInt + 1)) ∧ ib fv1_1.toInt (prs (tw_el Eq a0 8) (tw_el Eq a0 9) (tw_fi Eq a0 7))) ∧ (x.toInt = -1 → tw_fi Eq a0 7 ≤ tw_fi Eq a1 3) ∧ (tw_fi Eq g0 1 = tw_fi Eg37 g0 1) ∧ (∃ z0 z1 : Int32, tw_fv Eq a1 3 = .int z0 ∧ tw_fv Eq a1 4 = .int z1 ∧ (z0.toInt ≤ z1.toInt ∧ z1.toInt ≤ fv1_1.toInt ∧ z0.toInt ≤ fv1_1.toInt)) ∧ gm_ok Eq a0 ∧ gm_ok Eq g0) ∧ kp = kq ∧ L = Lq ∧ tw_fr kp L [(2, 1), (2, 7), (9, 2), (9, 3), (9, 4)] [130, 131, 132, 134, 136, 137, 138, 139] Eg37 Eq)) (As := [.ref a1]) (rest := []) ⟨hx, hb, hml, hown, hB⟩ (fun sz => tX2_readRule_vG l D cs a0 a1 g0 u37_1_3 u37_1_4 fv1_1 u37_1_2 u37_0_1 u37_0_7 hm0 hk0 hm1 hk1 hmg0 hkg0 hfm37_0 hfm37_1 hmf45 hfm37_2 hfm37_3 hfm37_4 (by  omega) (by  rw [ft45]; exact hin37_1) (by  rw [ft45]; exact hin37_2) (by  omega) (by  exact hin37_4) (by  exact hin37_5) hcg37_2 hcg37_3 hcg37_0 hcg37_1 sz) cg_2_74_X2_readRule rfl rfl (by decide +kernel) ⟨Nat.le_of_ble_eq_true rfl, Nat.le_of_ble_eq_true rfl⟩ hK hN TH hS hA rfl hm0 hk0 (by decide) rfl hl.1 rfl (Nat.le_of_ble_eq_true rfl) dX2_readFrom_45 ⟨Nat.le_of_ble_eq_true rfl, Nat.le_of_ble_eq_true rfl⟩ (fun v51 kp51 L51 E51 H locs hq51 hx51 TH hS => ?_)
        obtain ⟨⟨xc52, rfl, hxc52a, hxc52b, hpoxc52_0, hpoxc52_1, hpoxc52_2, hpoxc52_3, hpoxc52_4, hpoxc52_5, hpoxc52_6, ⟨zfxc52_0_0, zfxc52_0_1, hzfxc52_0_0, hzfxc52_0_1, hzpxc52_0⟩, hgpxc52_0, hgpxc52_1⟩, rfl, rfl, hst51⟩ := hq51
        have hF := hF.tr hst51 (fun _ h => ⟨h, rfl⟩) (by decide) (by decide)
        have hF17 := hF17.tr hst51 (fun _ h => ⟨h, rfl⟩) (by decide) (by decide)
        have hG37 := hG37.tr hst51 (fun _ h => ⟨h, rfl⟩) (by decide) (by decide)
        have hmf53 : tw_fv E51 a1 1 = .int fv1_1 := (hst51.1 a1 1 hm1 (by rw [hk1]; decide)).trans hmf45
        have hmf54 : tw_fv E51 a1 0 = .ref xr1 := (hst51.1 a1 0 hm1 (by rw [hk1]; decide)).trans hmf46
        have hmf55 : tw_fv E51 a0 0 = .ref xr2 := (hst51.1 a0 0 hm0 (by rw [hk0]; decide)).trans hmf47
        have hcg37_2_o := hcg37_2
        have hcg37_3_o := hcg37_3
        have hcg37_4_o := hcg37_4
        have hcg37_2 : sp_ok E51 a0 g0 := sp_ok_fr TH hst51 hm0 hk0 hmg0 hkg0 (by decide) (by decide) hcg37_2
        have hcg37_3 : ctx_ok E51 a0 a1 := ctx_ok_fr TH hst51 hm0 hk0 hm1 hk1 (by decide) (by decide) hcg37_3
        have hcg37_4 : kc_ok E51 g0 (tw_fi E g0 1) := (show tw_fi _ g0 1 = _ from hpoxc52_6.trans hcg37_4_o)
        obtain ⟨qzfxc52_0_0, hqzfxc52_0_0, hqzfxc52_0_0a, hqzfxc52_0_0b⟩ := tw_rd TH hm1 hk1 (by decide) (by decide) (k := 3) rfl
        have eqzfxc52_0_0 : qzfxc52_0_0 = zfxc52_0_0 := by have q := hqzfxc52_0_0.symm.trans hzfxc52_0_0; injection q
        rw [eqzfxc52_0_0] at hqzfxc52_0_0a hqzfxc52_0_0b
        obtain ⟨qzfxc52_0_1, hqzfxc52_0_1, hqzfxc52_0_1a, hqzfxc52_0_1b⟩ := tw_rd TH hm1 hk1 (by decide) (by decide) (k := 4) rfl
        have eqzfxc52_0_1 : qzfxc52_0_1 = zfxc52_0_1 := by have q := hqzfxc52_0_1.symm.trans hzfxc52_0_1; injection q
        rw [eqzfxc52_0_1] at hqzfxc52_0_1a hqzfxc52_0_1b
        refine W.eq (g2 := F0 m 48 ls [.int xc52]) rfl ?_
        refine lv_istore_n (lv' := [(3, .int xc52), (2, .int y37_2), (0, .ref a0), (1, .ref a1)]) hx hb dX2_readFrom_48 rfl hl (by decide) rfl (fun ls hl => ?_)
        refine lv_iload_n hx hb dX2_readFrom_49 rfl (lv_at hl 0 rfl) ?_
        refine lv_iconst (v := (-1)) hx hb dX2_readFrom_50 (by decide) ?_
        refine lv_icmp_eq (tgt := 56) hx hb dX2_readFrom_51 (by decide) (fun hc56 => ?_) (fun hc56 => ?_)
        · have hf57 : xc52.toInt = (-1) := by have z := (fa_eq _ _).mp hc56; have : (((-1) : Int32).toInt) = (-1) := (by decide); omega
          obtain ⟨xi58, hxi58, hxi58a, hxi58b⟩ := tw_rd TH hm1 hk1 (by decide) (by decide) (k := 2) rfl
          obtain ⟨xi59, hxi59, hxi59a, hxi59b⟩ := tw_rd TH hm0 hk0 (by decide) (by decide) (k := 7) rfl
          obtain ⟨xi60, hxi60, hxi60a, hxi60b⟩ := tw_rd TH hm0 hk0 (by decide) (by decide) (k := 1) rfl
          have htk := hpoxc52_1 (by omega)
          rw [ft45, tw_fi_of hzfxc52_0_0, tw_fi_of hzfxc52_0_1, tw_fi_of hxi58] at htk
          have hkn1 := hpoxc52_2 (by omega)
          rw [tw_fi_of hxi60] at hkn1
          have hq3 := hpoxc52_3 (by omega)
          rw [ft45, tw_fi_of hzfxc52_0_0, tw_fi_of hxi59] at hq3
          have hq4 := hpoxc52_4 (by omega)
          rw [tw_fi_of hxi59] at hq4
          have hq5 := hpoxc52_5 (by omega)
          rw [tw_fi_of hxi59, tw_fi_of hzfxc52_0_0] at hq5
          have hend := tc_end htk
          refine lv_aload_n hx hb dX2_readFrom_56 rfl (lv_at hl 3 rfl) ?_
          refine tw_get (ci := 9) (C := RX9) (T := TX9) (N := 5) hx hb hB cx_inX9 hown hK TH hm1 hk1 rfl ⟨by decide, rfl⟩ 2 (by decide) cw_40 (fun _ h9 => h9) dX2_readFrom_57 (fun hv => ?_)
          rw [hxi58]
          refine lv_if_ne (tgt := 66) hx hb dX2_readFrom_60 (by decide) (fun hc61 => ?_) (fun hc61 => ?_)
          · have hf62 : ¬ (xi58.toInt = 0) := fun q => hc61 ((fa_eq _ _).mpr (by have : ((0 : Int32).toInt) = 0 := (by decide); omega))
            obtain ⟨zi63, ezi63⟩ : ∃ z : Int32, z = y37_2 + Int32.ofInt 1 := ⟨_, rfl⟩
            have hzi63 : zi63.toInt = y37_2.toInt + 1 := by rw [ezi63]; have : ((Int32.ofInt 1).toInt) = 1 := (by decide);  exact (ia_add (by omega) (by omega)).trans (by omega)
            refine lv_iinc (v := zi63) (lv' := [(2, .int zi63), (3, .int xc52), (0, .ref a0), (1, .ref a1)]) hx hb dX2_readFrom_66 hl (k := 1) rfl ezi63.symm (by decide) rfl (fun ls hl => ?_)
            refine lv_goto (tgt := 37) hx hb dX2_readFrom_69 (by decide) ?_
            exact ih37 (n37 - 1) (by   omega) zi63 zfxc52_0_0 zfxc52_0_1 xi58 xi60 xi59 _ _ _ ls (by omega) (by omega) (by omega) (by omega) (by omega) (by omega) (by omega) (by omega) (by omega) (by omega) (by omega) (by omega) (by  omega) (by  exact htk) (by  have w := hq3.2 (by omega); rw [show (u37_0_1.toInt : Int) + 1 = xi60.toInt by omega] at w; exact w) (by  omega) (by  have w := hq4.1; rw [show (u37_0_1.toInt : Int) + 1 = xi60.toInt by omega] at w; exact w) (by  exact hq4.2) (by  omega) (by  omega) (by   omega) hzfxc52_0_0 hzfxc52_0_1 hxi58 hxi60 hxi59 hG37 hgpxc52_0 hgpxc52_1 hcg37_2 hcg37_3 hcg37_4 TH hS (lv_sub hl [0, 2, 3] rfl)
          · have hf64 : xi58.toInt = 0 := by have z := (fa_eq _ _).mp hc61; have : ((0 : Int32).toInt) = 0 := (by decide); omega
            refine lv_goto (tgt := 72) hx hb dX2_readFrom_63 (by decide) ?_
            have ft72 := elg_fr TH hF17 hm1 hk1 (k := 0) (by decide) (by decide) rfl (by decide) (by decide) (by decide)
            rw [hte] at ft72
            have hgf := hq3.1 (by omega)
            have hkk : (u37_0_1.toInt : Int) + 1 = xi60.toInt := (by omega)
            rw [hkk] at hgf hq4
            have hctx := hcg37_3
            have hsame : ∀ i : Nat, (i : Int) < fv1_1.toInt → tw_el E51 a0 0 i = tw_el E a1 0 i := fun i hi => (by rw [hctx i (by rw [tw_fi_of hmf53]; exact hi)]; exact congrFun ft72 i)
            refine lv_aload_n hx hb dX2_readFrom_72 rfl (lv_at hl 2 rfl) ?_
            refine tw_Vc (o := a0) (ci := 2) (n := 0) (post := (fun v kq Lq Eq => (∃ x : Int32, v = some (.int x) ∧ (-1) ≤ x.toInt ∧ x.toInt ≤ 500 ∧ (x.toInt = -1 ↔ ∀ x : Int × Int, (prs (tw_el E51 a0 8) (tw_el E51 a0 9) (xi59.toInt)) x → gy_nm (tw_el E51 a0 0) (prs (tw_el E51 a0 2) (tw_el E51 a0 3) (xi60.toInt)) x)) ∧ kp = kq ∧ L = Lq ∧ tw_fr kp L [] [133] E51 Eq)) (As := []) (rest := []) ⟨hx, hb, hml, hown, hB⟩ (fun sz => tX2_resolveItems_vG l D cs a0 xi60 xi59 hm0 hk0 hxi60 hxi59 (by  exact ib_le hq4.1 (by omega)) sz) cg_2_81_X2_resolveItems rfl rfl (by decide +kernel) ⟨Nat.le_of_ble_eq_true rfl, Nat.le_of_ble_eq_true rfl⟩ hK hN TH hS hA rfl hm0 hk0 (by decide) rfl hl.1 rfl (Nat.le_of_ble_eq_true rfl) dX2_readFrom_73 ⟨Nat.le_of_ble_eq_true rfl, Nat.le_of_ble_eq_true rfl⟩ (fun v65 kp65 L65 E65 H locs hq65 hx65 TH hS => ?_)
            obtain ⟨⟨xc66, rfl, hxc66a, hxc66b, hpoxc66_0⟩, rfl, rfl, hst65⟩ := hq65
            have hF := hF.tr hst65 (fun _ h => ⟨h, rfl⟩) (by decide) (by decide)
            have hF17 := hF17.tr hst65 (fun _ h => ⟨h, rfl⟩) (by decide) (by decide)
            have hmf67 : tw_fv E65 a1 1 = .int fv1_1 := (hst65.1 a1 1 hm1 (by rw [hk1]; decide)).trans hmf53
            have hmf68 : tw_fv E65 a1 0 = .ref xr1 := (hst65.1 a1 0 hm1 (by rw [hk1]; decide)).trans hmf54
            have hmf69 : tw_fv E65 a0 0 = .ref xr2 := (hst65.1 a0 0 hm0 (by rw [hk0]; decide)).trans hmf55
            have hmf70 : tw_fv E65 a1 3 = .int zfxc52_0_0 := (hst65.1 a1 3 hm1 (by rw [hk1]; decide)).trans hzfxc52_0_0
            have hmf71 : tw_fv E65 a1 4 = .int zfxc52_0_1 := (hst65.1 a1 4 hm1 (by rw [hk1]; decide)).trans hzfxc52_0_1
            have hmf72 : tw_fv E65 a1 2 = .int xi58 := (hst65.1 a1 2 hm1 (by rw [hk1]; decide)).trans hxi58
            have hmf73 : tw_fv E65 a0 7 = .int xi59 := (hst65.1 a0 7 hm0 (by rw [hk0]; decide)).trans hxi59
            have hmf74 : tw_fv E65 a0 1 = .int xi60 := (hst65.1 a0 1 hm0 (by rw [hk0]; decide)).trans hxi60
            have hcg37_2 : sp_ok E65 a0 g0 := sp_ok_fr TH hst65 hm0 hk0 hmg0 hkg0 (by decide) (by decide) hcg37_2
            have hcg37_3 : ctx_ok E65 a0 a1 := ctx_ok_fr TH hst65 hm0 hk0 hm1 hk1 (by decide) (by decide) hcg37_3
            have hcg37_4 : kc_ok E65 g0 (tw_fi E g0 1) := kc_ok_fr TH hst65 hmg0 hkg0 (by decide) (by decide) hcg37_4
            have hgpxc52_0 : gm_ok E65 a0 := gm_ok_fr TH hst65 hm0 hk0 (by decide) (by decide) hgpxc52_0
            have hgpxc52_1 : gm_ok E65 g0 := gm_ok_fr TH hst65 hmg0 hkg0 (by decide) (by decide) hgpxc52_1
            refine W.eq (g2 := F0 m 76 ls [.int xc66]) rfl ?_
            exact tw_iret hx hb hr hlocks TH hS hex ⟨⟨_, rfl, (show (-1) ≤ Int32.toInt xc66 from by  omega), (show Int32.toInt xc66 ≤ 500 from by  omega), (by  have w := gy_fin_of (y := xc66.toInt) hgf (by rw [show (xc66.toInt = -1 ↔ _) from hpoxc66_0]; exact ⟨fun z x hx => (gy_nm_same hsame hq4.1 (hq4.2 x hx).1 (hq4.2 x hx).2.2).mp (z x hx), fun z x hx => (gy_nm_same hsame hq4.1 (hq4.2 x hx).1 (hq4.2 x hx).2.2).mpr (z x hx)⟩); intro q; rw [tw_fi_of hmf74]; exact ⟨w.1 q, by omega⟩), (by  have w := gy_fin_of (y := xc66.toInt) hgf (by rw [show (xc66.toInt = -1 ↔ _) from hpoxc66_0]; exact ⟨fun z x hx => (gy_nm_same hsame hq4.1 (hq4.2 x hx).1 (hq4.2 x hx).2.2).mp (z x hx), fun z x hx => (gy_nm_same hsame hq4.1 (hq4.2 x hx).1 (hq4.2 x hx).2.2).mpr (z x hx)⟩); exact w.2), (by  have ftz := elg_fr TH hF17 hm1 hk1 (k := 0) (by decide) (by decide) rfl (by decide) (by decide) (by decide); rw [hte] at ftz; exact ftz), (by  exact hcg37_4), hgpxc52_0, hgpxc52_1⟩, rfl, rfl, hF⟩ (Nat.le_of_ble_eq_true rfl) (Nat.le_of_ble_eq_true rfl) dX2_readFrom_76
        · have hf75 : ¬ (xc52.toInt = (-1)) := fun q => hc56 ((fa_eq _ _).mpr (by have : (((-1) : Int32).toInt) = (-1) := (by decide); omega))
          refine lv_iload_n hx hb dX2_readFrom_54 rfl (lv_at hl 0 rfl) ?_
          exact tw_iret hx hb hr hlocks TH hS hex ⟨⟨_, rfl, (show (-1) ≤ Int32.toInt xc52 from by  omega), (show Int32.toInt xc52 ≤ 500 from by  omega), (by  intro q; exfalso; omega), (by  intro _; have w := hpoxc52_0 (by omega); rw [ft45] at w; exact w), (by  have ftz := elg_fr TH hF17 hm1 hk1 (k := 0) (by decide) (by decide) rfl (by decide) (by decide) (by decide); rw [hte] at ftz; exact ftz), (by  exact hcg37_4), hgpxc52_0, hgpxc52_1⟩, rfl, rfl, hF⟩ (Nat.le_of_ble_eq_true rfl) (Nat.le_of_ble_eq_true rfl) dX2_readFrom_55
  exact hJ37 12 (0 : Int32) zfxc38_0_0 zfxc38_0_1 xi44 (0 : Int32) (0 : Int32) _ _ _ ls (by have : ((0 : Int32).toInt) = 0 := (by decide); omega) (by have : ((0 : Int32).toInt) = 0 := (by decide); omega) (by omega) (by omega) (by omega) (by omega) (by omega) (by omega) (by have : ((0 : Int32).toInt) = 0 := (by decide); omega) (by have : ((0 : Int32).toInt) = 0 := (by decide); omega) (by have : ((0 : Int32).toInt) = 0 := (by decide); omega) (by have : ((0 : Int32).toInt) = 0 := (by decide); omega) (by have : ((0 : Int32).toInt) = 0 := (by decide); omega) (by have : ((0 : Int32).toInt) = 0 := (by decide); exact hp0.2) (by have : ((0 : Int32).toInt) = 0 := (by decide); have e0 : ((0 : Int32).toInt) = 0 := (by decide); rw [e0, prs_zero _ _ (by decide), prs_zero _ _ (by decide)]; exact hst0) (by have : ((0 : Int32).toInt) = 0 := (by decide); omega) (by have : ((0 : Int32).toInt) = 0 := (by decide); have e0 : ((0 : Int32).toInt) = 0 := (by decide); rw [e0, prs_zero _ _ (by decide)]; exact ib_none _) (by have : ((0 : Int32).toInt) = 0 := (by decide); have e0 : ((0 : Int32).toInt) = 0 := (by decide); rw [e0, prs_zero _ _ (by decide)]; exact ib_none _) (by have : ((0 : Int32).toInt) = 0 := (by decide); omega) (by have : ((0 : Int32).toInt) = 0 := (by decide); omega) (by have : ((0 : Int32).toInt) = 0 := (by decide);  omega) hzfxc38_0_0 hzfxc38_0_1 hxi44 hmf42 hmf43 tw_fr.rf hgn20 hg2 hg0 hgn11 hkc0 TH hS (lv_sub hl [0, 1, 2] rfl)
set_option maxHeartbeats 4000000 in
set_option maxRecDepth 100000 in
theorem tX11_grammar_vG (l : Launch) (D : va_G) (cs : Nat → ClassId) {kp : Nat → Nat} {L : List Nat} {E : Nat → va_E} (a0 : Nat) (hm0 : a0 ∈ L) (hk0 : kp a0 = 11) (hg0 : gz_ok E a0) (hg1 : ss_ok E a0) (hg2 : ac_ok E a0) (sz : Nat) : Met l yX11_grammar (.code yX11_grammar cX11_grammar 2 (some .int) :: cx_big) { frames := 10, cells := 0, slots := 0, locals := 214 } (tw_P D cs kp L E [.ref a0] sz) (tw_Q D cs kp L (fun v kq Lq Eq => (∃ x : Int32, v = some (.int x) ∧ (0 < (tw_fi E (tw_fa E a0 1) 1) → x.toInt = -1 ∧ 0 < (tw_fi Eq (tw_fa Eq a0 1) 1)) ∧ ((tw_fi E (tw_fa E a0 1) 1) = 0 → x.toInt = gy_all (tw_el E (tw_fa E a0 0) 0) (tw_fi E (tw_fa E a0 0) 1)) ∧ ((tw_fi E (tw_fa E a0 1) 1) = 0 → (x.toInt = -1 ∧ (tw_fi Eq (tw_fa Eq a0 1) 1) = 0 ∧ tw_fi Eq (tw_fa E a0 0) 1 = (tw_fi E (tw_fa E a0 0) 1) ∧ tw_el Eq (tw_fa E a0 0) 0 = tw_el E (tw_fa E a0 0) 0) ∨ (1 ≤ (tw_fi Eq (tw_fa Eq a0 1) 1) ∧ x.toInt = (tw_fi Eq (tw_fa Eq a0 1) 1))) ∧ gz_ok Eq a0 ∧ ss_ok Eq a0 ∧ ac_ok Eq a0) ∧ kp = kq ∧ L = Lq ∧ tw_fr kp L [(2, 1), (2, 7), (9, 1), (9, 2), (9, 3), (9, 4), (11, 1), (11, 2)] [100, 130, 131, 132, 133, 134, 136, 137, 138, 139] E Eq) (va_A (va_pl L E) sz)) 0 0 (va_A (va_pl L E) sz) := by
  refine tw_ofW (by decide) (Nat.le_of_ble_eq_true rfl) ?_
  intro p e s m below meth c A ls hx hb hr hml hB hown hlocks hK hN hA TH hS hl
  have hown : s.vm.findClass "TreeMerge" = some m.cls := hown
  have hl : lv_has ls 2 [(0, .ref a0)] := hl
  obtain ⟨kp0, ekp⟩ : ∃ z, z = kp := ⟨_, rfl⟩
  obtain ⟨L0, eL⟩ : ∃ z, z = L := ⟨_, rfl⟩
  rw [show tw_Q D cs kp L = tw_Q D cs kp0 L0 by rw [ekp, eL]]
  have hex : ∀ a : Nat, a ∈ L0 → a ∈ L ∧ kp a = kp0 a := fun a h => ⟨by rw [← eL]; exact h, by rw [ekp]⟩
  have hF : tw_fr kp L [(2, 1), (2, 7), (9, 1), (9, 2), (9, 3), (9, 4), (11, 1), (11, 2)] [100, 130, 131, 132, 133, 134, 136, 137, 138, 139] E E := tw_fr.rf
  obtain ⟨xr1, hxr1, hmxr1, hkxr1⟩ := tw_ra TH hm0 hk0 (by decide) (by decide) (k := 0) rfl
  have hkxr1 : kp xr1 = 9 := hkxr1
  obtain ⟨xr2, hxr2, hmxr2, hkxr2⟩ := tw_ra TH hm0 hk0 (by decide) (by decide) (k := 1) rfl
  have hkxr2 : kp xr2 = 2 := hkxr2
  obtain ⟨xi3, hxi3, hxi3a, hxi3b⟩ := tw_rd TH hmxr2 hkxr2 (by decide) (by decide) (k := 1) rfl
  obtain ⟨xi4, hxi4, hxi4a, hxi4b⟩ := tw_rd TH hmxr1 hkxr1 (by decide) (by decide) (k := 1) rfl
  have er0 : tw_fa E a0 1 = xr2 := tw_fa_of hxr2
  have et0 : tw_fa E a0 0 = xr1 := tw_fa_of hxr1
  have ek0 : tw_fi E xr2 1 = xi3.toInt := tw_fi_of hxi3
  have en0 : tw_fi E xr1 1 = xi4.toInt := tw_fi_of hxi4
  refine lv_aload_n hx hb dX11_grammar_0 rfl (lv_at hl 0 rfl) ?_
  refine tw_get (ci := 11) (C := RX11) (T := TX11) (N := 19) hx hb hB cx_inX11 hown hK TH hm0 hk0 rfl ⟨by decide, rfl⟩ 1 (by decide) cw_384 (fun _ h9 => h9) dX11_grammar_1 (fun hv => ?_)
  rw [hxr2]
  have hgm5 : gm_ok E xr2 := by have q := hg0; unfold gz_ok at q; rw [tw_fa_of hxr2] at q; exact q
  refine tw_get (ci := 2) (C := RX2) (T := TX2) (N := 13) hx hb hB cx_inX2 hown hK TH hmxr2 hkxr2 rfl ⟨by decide, rfl⟩ 1 (by decide) cw_69 (fun _ h9 => h9) dX11_grammar_4 (fun hv => ?_)
  rw [hxi3]
  refine lv_if_gt (tgt := 25) hx hb dX11_grammar_7 (by decide) (fun hc6 => ?_) (fun hc6 => ?_)
  · have hf7 : 0 < xi3.toInt := by have z := (fa_lt _ _).mp hc6; have : ((0 : Int32).toInt) = 0 := (by decide); omega
    refine lv_iconst (v := (-1)) hx hb dX11_grammar_25 (by decide) ?_
    exact tw_iret hx hb hr hlocks TH hS hex ⟨⟨_, rfl, (by have : (((-1) : Int32).toInt) = (-1) := (by decide); rw [er0, ek0]; intro _; exact ⟨by decide, by (try rw [er0, ek0]); omega⟩), (by have : (((-1) : Int32).toInt) = (-1) := (by decide); rw [er0, ek0]; intro q; exfalso; omega), (by have : (((-1) : Int32).toInt) = (-1) := (by decide); rw [er0, ek0]; intro q; exfalso; omega), hg0, hg1, hg2⟩, rfl, rfl, hF⟩ (Nat.le_of_ble_eq_true rfl) (Nat.le_of_ble_eq_true rfl) dX11_grammar_26
  · have hf8 : ¬ (0 < xi3.toInt) := fun q => hc6 ((fa_lt _ _).mpr (by have : ((0 : Int32).toInt) = 0 := (by decide); omega))
    refine lv_aload_n hx hb dX11_grammar_10 rfl (lv_at hl 0 rfl) ?_
    refine tw_get (ci := 11) (C := RX11) (T := TX11) (N := 19) hx hb hB cx_inX11 hown hK TH hm0 hk0 rfl ⟨by decide, rfl⟩ 2 (by decide) cw_385 (fun _ h9 => h9) dX11_grammar_11 (fun hv => ?_)
    obtain ⟨xr9, hxr9, hmxr9, hkxr9⟩ : ∃ a : Nat, tw_fv E a0 2 = .ref a ∧ a ∈ L ∧ kp a = 2 := hv
    rw [hxr9]
    refine lv_aload_n hx hb dX11_grammar_14 rfl (lv_at hl 0 rfl) ?_
    refine tw_get (ci := 11) (C := RX11) (T := TX11) (N := 19) hx hb hB cx_inX11 hown hK TH hm0 hk0 rfl ⟨by decide, rfl⟩ 0 (by decide) cw_383 (fun _ h9 => h9) dX11_grammar_15 (fun hv => ?_)
    rw [hxr1]
    have hsp : sp_ok E xr9 xr2 := by have q := hg1; unfold ss_ok at q; rw [tw_fa_of hxr9, tw_fa_of hxr2] at q; exact q
    have habx : ab_ok E xr9 xr1 := (by have q := (hg2).2; rw [tw_fa_of hxr9, tw_fa_of hxr1] at q; exact q)
    refine tw_Vc (o := xr9) (ci := 2) (n := 1) (post := (fun v kq Lq Eq => (∃ x : Int32, v = some (.int x) ∧ (-1) ≤ x.toInt ∧ x.toInt ≤ 500 ∧ (x.toInt = -1 → gy_all (tw_el E xr1 0) xi4.toInt = tw_fi Eq xr9 1 ∧ 1 ≤ tw_fi Eq xr9 1) ∧ (x.toInt ≠ -1 → gy_all (tw_el E xr1 0) xi4.toInt = -1) ∧ (tw_el Eq xr1 0 = tw_el E xr1 0) ∧ (tw_fi Eq xr2 1 = tw_fi E xr2 1) ∧ gm_ok Eq xr9 ∧ gm_ok Eq xr2) ∧ kp = kq ∧ L = Lq ∧ tw_fr kp L [(2, 1), (2, 7), (9, 2), (9, 3), (9, 4)] [100, 130, 131, 132, 133, 134, 136, 137, 138, 139] E Eq)) (As := [.ref xr1]) (rest := []) ⟨hx, hb, hml, hown, hB⟩ (fun sz => tX2_readFrom_vG l D cs xr9 xr1 xr2 xi4 hmxr9 hkxr9 hmxr1 hkxr1 hmxr2 hkxr2 hxi4 hsp habx hgm5 sz) cg_11_117_X2_readFrom rfl rfl (by decide +kernel) ⟨Nat.le_of_ble_eq_true rfl, Nat.le_of_ble_eq_true rfl⟩ hK hN TH hS hA rfl hmxr9 hkxr9 (by decide) rfl hl.1 rfl (Nat.le_of_ble_eq_true rfl) dX11_grammar_18 ⟨Nat.le_of_ble_eq_true rfl, Nat.le_of_ble_eq_true rfl⟩ (fun v10 kp10 L10 E10 H locs hq10 hx10 TH hS => ?_)
    obtain ⟨⟨xc11, rfl, hxc11a, hxc11b, hpoxc11_0, hpoxc11_1, hpoxc11_2, hpoxc11_3, hgpxc11_0, hgpxc11_1⟩, rfl, rfl, hst10⟩ := hq10
    have hF := hF.tr hst10 (fun _ h => ⟨h, rfl⟩) (by decide) (by decide)
    have hmf12 : tw_fv E10 a0 0 = .ref xr1 := (hst10.1 a0 0 hm0 (by rw [hk0]; decide)).trans hxr1
    have hmf13 : tw_fv E10 a0 1 = .ref xr2 := (hst10.1 a0 1 hm0 (by rw [hk0]; decide)).trans hxr2
    have hmf14 : tw_fv E10 xr1 1 = .int xi4 := (hst10.1 xr1 1 hmxr1 (by rw [hkxr1]; decide)).trans hxi4
    have hmf15 : tw_fv E10 a0 2 = .ref xr9 := (hst10.1 a0 2 hm0 (by rw [hk0]; decide)).trans hxr9
    have hg0_o := hg0
    have hg1_o := hg1
    have hg2_o := hg2
    have hsp_o := hsp
    have habx_o := habx
    have hg0 : gz_ok E10 a0 := gz_ok_of ((hst10.1 a0 1 hm0 (by rw [hk0]; decide)).trans hxr2) hgpxc11_1
    have hg1 : ss_ok E10 a0 := ss_ok_fr TH hst10 hm0 hk0 (by decide) (by decide) hg1
    have hg2 : ac_ok E10 a0 := ac_ok_fr TH hst10 hm0 hk0 (by decide) (by decide) hg2
    have hsp : sp_ok E10 xr9 xr2 := sp_ok_fr TH hst10 hmxr9 hkxr9 hmxr2 hkxr2 (by decide) (by decide) hsp
    have habx : ab_ok E10 xr9 xr1 := ab_ok_fr TH hst10 hmxr9 hkxr9 hmxr1 hkxr1 (by decide) (by decide) habx
    refine W.eq (g2 := F0 m 21 ls [.int xc11]) rfl ?_
    refine lv_iconst (v := (-1)) hx hb dX11_grammar_21 (by decide) ?_
    refine lv_icmp_eq (tgt := 27) hx hb dX11_grammar_22 (by decide) (fun hc16 => ?_) (fun hc16 => ?_)
    · have hf17 : xc11.toInt = (-1) := by have z := (fa_eq _ _).mp hc16; have : (((-1) : Int32).toInt) = (-1) := (by decide); omega
      obtain ⟨xi18, hxi18, hxi18a, hxi18b⟩ := tw_rd TH hmxr9 hkxr9 (by decide) (by decide) (k := 1) rfl
      have hac27 := hg2
      have hF27 : tw_fr kp L [(9, 1), (11, 1), (11, 2)] [] E10 E10 := tw_fr.rf
      have hgg := hpoxc11_0 (by omega)
      rw [tw_fi_of hxi18] at hgg
      refine lv_aload_n hx hb dX11_grammar_27 rfl (lv_at hl 0 rfl) ?_
      refine tw_get (ci := 11) (C := RX11) (T := TX11) (N := 19) hx hb hB cx_inX11 hown hK TH hm0 hk0 rfl ⟨by decide, rfl⟩ 2 (by decide) cw_385 (fun _ h9 => h9) dX11_grammar_28 (fun hv => ?_)
      rw [hmf15]
      refine lv_astore_n (lv' := [(1, .ref xr9), (0, .ref a0)]) hx hb dX11_grammar_31 rfl hl (by decide) rfl (fun ls hl => ?_)
      refine lv_aload_n hx hb dX11_grammar_32 rfl (lv_at hl 1 rfl) ?_
      refine lv_aload_n hx hb dX11_grammar_33 rfl (lv_at hl 1 rfl) ?_
      refine tw_get (ci := 11) (C := RX11) (T := TX11) (N := 19) hx hb hB cx_inX11 hown hK TH hm0 hk0 rfl ⟨by decide, rfl⟩ 1 (by decide) cw_384 (fun _ h9 => h9) dX11_grammar_34 (fun hv => ?_)
      rw [hmf13]
      refine tw_put (ci := 11) (v := .ref xr2) (ty := .object "TreeMerge$Grammar") (C := RX11) (T := TX11) (N := 19) hx hb hB cx_inX11 tyX11 tyX11_ok nmX11 hown hK TH hS hm0 hk0 rfl ⟨by decide, rfl⟩ 2 (by decide) cw_385 (fun _ h9 => h9) rfl (by decide +kernel) rfl rfl ⟨_, rfl, hmxr2, hkxr2⟩ dX11_grammar_37 (fun H locs E19 TH hS hmf23 hp20 hp21 => ?_)
      have hst22 : tw_fr kp L [(11, 2)] [] E10 E19 := tw_fr.put tw_fr.rf (fun _ => hk0) (by decide) hp20 hp21 (by decide)
      have hF := hF.tr hst22 (fun _ h => ⟨h, rfl⟩) (by decide) (by decide)
      have hF27 := hF27.tr hst22 (fun _ h => ⟨h, rfl⟩) (by decide) (by decide)
      have hmf24 : tw_fv E19 a0 0 = .ref xr1 := (hst22.1 a0 0 hm0 (by rw [hk0]; decide)).trans hmf12
      have hmf25 : tw_fv E19 a0 1 = .ref xr2 := (hst22.1 a0 1 hm0 (by rw [hk0]; decide)).trans hmf13
      have hmf26 : tw_fv E19 xr1 1 = .int xi4 := (hst22.1 xr1 1 hmxr1 (by rw [hkxr1]; decide)).trans hmf14
      have hmf27 : tw_fv E19 xr9 1 = .int xi18 := (hst22.1 xr9 1 hmxr9 (by rw [hkxr9]; decide)).trans hxi18
      have hg0 : gz_ok E19 a0 := gz_ok_fr TH hst22 hm0 hk0 (by decide) (by decide) hg0
      have hsp : sp_ok E19 xr9 xr2 := sp_ok_fr TH hst22 hmxr9 hkxr9 hmxr2 hkxr2 (by decide) (by decide) hsp
      have habx : ab_ok E19 xr9 xr1 := ab_ok_fr TH hst22 hmxr9 hkxr9 hmxr1 hkxr1 (by decide) (by decide) habx
      have hgpxc11_0 : gm_ok E19 xr9 := gm_ok_fr TH hst22 hmxr9 hkxr9 (by decide) (by decide) hgpxc11_0
      have hgpxc11_1 : gm_ok E19 xr2 := gm_ok_fr TH hst22 hmxr2 hkxr2 (by decide) (by decide) hgpxc11_1
      refine lv_aload_n hx hb dX11_grammar_40 rfl (lv_at hl 1 rfl) ?_
      refine lv_aload_n hx hb dX11_grammar_41 rfl (lv_at hl 0 rfl) ?_
      refine tw_put (ci := 11) (v := .ref xr9) (ty := .object "TreeMerge$Grammar") (C := RX11) (T := TX11) (N := 19) hx hb hB cx_inX11 tyX11 tyX11_ok nmX11 hown hK TH hS hm0 hk0 rfl ⟨by decide, rfl⟩ 1 (by decide) cw_384 (fun _ h9 => h9) rfl (by decide +kernel) rfl rfl ⟨_, rfl, hmxr9, hkxr9⟩ dX11_grammar_42 (fun H locs E28 TH hS hmf32 hp29 hp30 => ?_)
      have hst31 : tw_fr kp L [(11, 1)] [] E19 E28 := tw_fr.put tw_fr.rf (fun _ => hk0) (by decide) hp29 hp30 (by decide)
      have hF := hF.tr hst31 (fun _ h => ⟨h, rfl⟩) (by decide) (by decide)
      have hF27 := hF27.tr hst31 (fun _ h => ⟨h, rfl⟩) (by decide) (by decide)
      have hmf33 : tw_fv E28 a0 0 = .ref xr1 := (hst31.1 a0 0 hm0 (by rw [hk0]; decide)).trans hmf24
      have hmf34 : tw_fv E28 xr1 1 = .int xi4 := (hst31.1 xr1 1 hmxr1 (by rw [hkxr1]; decide)).trans hmf26
      have hmf35 : tw_fv E28 xr9 1 = .int xi18 := (hst31.1 xr9 1 hmxr9 (by rw [hkxr9]; decide)).trans hmf27
      have hmf36 : tw_fv E28 a0 2 = .ref xr2 := (hst31.1 a0 2 hm0 (by rw [hk0]; decide)).trans hmf23
      have hsp : sp_ok E28 xr9 xr2 := sp_ok_fr TH hst31 hmxr9 hkxr9 hmxr2 hkxr2 (by decide) (by decide) hsp
      have habx : ab_ok E28 xr9 xr1 := ab_ok_fr TH hst31 hmxr9 hkxr9 hmxr1 hkxr1 (by decide) (by decide) habx
      have hgpxc11_0 : gm_ok E28 xr9 := gm_ok_fr TH hst31 hmxr9 hkxr9 (by decide) (by decide) hgpxc11_0
      have hgpxc11_1 : gm_ok E28 xr2 := gm_ok_fr TH hst31 hmxr2 hkxr2 (by decide) (by decide) hgpxc11_1
      have hgn37 : gz_ok E28 a0 := gz_ok_of hmf32 hgpxc11_0
      have hgn38 : ss_ok E28 a0 := ss_ok_of ((hp29 a0 2 (Or.inr (by decide))).trans hmf23) hmf32 (sp_ok.sym hsp)
      refine lv_aload_n hx hb dX11_grammar_45 rfl (lv_at hl 1 rfl) ?_
      refine tw_get (ci := 11) (C := RX11) (T := TX11) (N := 19) hx hb hB cx_inX11 hown hK TH hm0 hk0 rfl ⟨by decide, rfl⟩ 0 (by decide) cw_383 (fun _ h9 => h9) dX11_grammar_46 (fun hv => ?_)
      rw [hmf33]
      refine lv_iconst (v := 0) hx hb dX11_grammar_49 (by decide) ?_
      refine tw_put (ci := 9) (v := .int 0) (ty := .int) (C := RX9) (T := TX9) (N := 5) hx hb hB cx_inX9 tyX9 tyX9_ok nmX9 hown hK TH hS hmxr1 hkxr1 rfl ⟨by decide, rfl⟩ 1 (by decide) cw_37 (fun _ h9 => h9) rfl (by decide +kernel) rfl rfl ⟨_, rfl, (show 0 ≤ Int32.toInt 0 from by have : ((0 : Int32).toInt) = 0 := (by decide); omega), (show Int32.toInt 0 ≤ 500 from by have : ((0 : Int32).toInt) = 0 := (by decide); omega)⟩ dX11_grammar_50 (fun H locs E39 TH hS hmf43 hp40 hp41 => ?_)
      have hst42 : tw_fr kp L [(9, 1)] [] E28 E39 := tw_fr.put tw_fr.rf (fun _ => hkxr1) (by decide) hp40 hp41 (by decide)
      have hF := hF.tr hst42 (fun _ h => ⟨h, rfl⟩) (by decide) (by decide)
      have hF27 := hF27.tr hst42 (fun _ h => ⟨h, rfl⟩) (by decide) (by decide)
      have hmf44 : tw_fv E39 a0 0 = .ref xr1 := (hst42.1 a0 0 hm0 (by rw [hk0]; decide)).trans hmf33
      have hmf45 : tw_fv E39 xr9 1 = .int xi18 := (hst42.1 xr9 1 hmxr9 (by rw [hkxr9]; decide)).trans hmf35
      have hmf46 : tw_fv E39 a0 2 = .ref xr2 := (hst42.1 a0 2 hm0 (by rw [hk0]; decide)).trans hmf36
      have hmf47 : tw_fv E39 a0 1 = .ref xr9 := (hst42.1 a0 1 hm0 (by rw [hk0]; decide)).trans hmf32
      have hsp : sp_ok E39 xr9 xr2 := sp_ok_fr TH hst42 hmxr9 hkxr9 hmxr2 hkxr2 (by decide) (by decide) hsp
      have habx : ab_ok E39 xr9 xr1 := ab_ok_fr TH hst42 hmxr9 hkxr9 hmxr1 hkxr1 (by decide) (by decide) habx
      have hgpxc11_0 : gm_ok E39 xr9 := gm_ok_fr TH hst42 hmxr9 hkxr9 (by decide) (by decide) hgpxc11_0
      have hgpxc11_1 : gm_ok E39 xr2 := gm_ok_fr TH hst42 hmxr2 hkxr2 (by decide) (by decide) hgpxc11_1
      have hgn37 : gz_ok E39 a0 := gz_ok_fr TH hst42 hm0 hk0 (by decide) (by decide) hgn37
      have hgn38 : ss_ok E39 a0 := ss_ok_fr TH hst42 hm0 hk0 (by decide) (by decide) hgn38
      refine lv_aload_n hx hb dX11_grammar_53 rfl (lv_at hl 1 rfl) ?_
      refine tw_get (ci := 11) (C := RX11) (T := TX11) (N := 19) hx hb hB cx_inX11 hown hK TH hm0 hk0 rfl ⟨by decide, rfl⟩ 1 (by decide) cw_384 (fun _ h9 => h9) dX11_grammar_54 (fun hv => ?_)
      rw [hmf47]
      refine tw_get (ci := 2) (C := RX2) (T := TX2) (N := 13) hx hb hB cx_inX2 hown hK TH hmxr9 hkxr9 rfl ⟨by decide, rfl⟩ 1 (by decide) cw_69 (fun _ h9 => h9) dX11_grammar_57 (fun hv => ?_)
      rw [hmf45]
      have hac60 : ac_ok E39 a0 := ac_swap hac27 (tw_fa_of hmf12) (tw_fa_of hmf13) (tw_fa_of hmf15) (tw_fa_of hmf44) (tw_fa_of hmf47) (tw_fa_of hmf46) (tw_fa_fr hF27 hmxr1 hkxr1 (by decide)) (tw_fa_fr hF27 hmxr2 hkxr2 (by decide)) (tw_fa_fr hF27 hmxr9 hkxr9 (by decide))
      exact tw_iret hx hb hr hlocks TH hS hex ⟨⟨_, rfl, (by have : ((0 : Int32).toInt) = 0 := (by decide); rw [er0, ek0]; intro q; exfalso; omega), (by have : ((0 : Int32).toInt) = 0 := (by decide); rw [er0, ek0]; rw [et0, en0]; intro _; rw [hgg.1]), (by have : ((0 : Int32).toInt) = 0 := (by decide); rw [er0, ek0]; intro _; refine Or.inr ?_; rw [tw_fa_of hmf47, tw_fi_of hmf45]; have w := hgg.2; exact ⟨by omega, rfl⟩), hgn37, hgn38, hac60⟩, rfl, rfl, hF⟩ (Nat.le_of_ble_eq_true rfl) (Nat.le_of_ble_eq_true rfl) dX11_grammar_60
    · have hf48 : ¬ (xc11.toInt = (-1)) := fun q => hc16 ((fa_eq _ _).mpr (by have : (((-1) : Int32).toInt) = (-1) := (by decide); omega))
      refine lv_iconst (v := (-1)) hx hb dX11_grammar_25 (by decide) ?_
      exact tw_iret hx hb hr hlocks TH hS hex ⟨⟨_, rfl, (by have : (((-1) : Int32).toInt) = (-1) := (by decide); rw [er0, ek0]; intro q; exfalso; omega), (by have : (((-1) : Int32).toInt) = (-1) := (by decide); rw [er0, ek0]; rw [et0, en0]; intro _; exact (hpoxc11_1 (by omega)).symm), (by have : (((-1) : Int32).toInt) = (-1) := (by decide); rw [er0, ek0]; rw [et0, en0]; intro _; refine Or.inl ⟨by decide, ?_, tw_fi_of hmf14, hpoxc11_2⟩; rw [tw_fa_of hmf13, hpoxc11_3, ek0]; omega), hg0, hg1, hg2⟩, rfl, rfl, hF⟩ (Nat.le_of_ble_eq_true rfl) (Nat.le_of_ble_eq_true rfl) dX11_grammar_26
set_option maxHeartbeats 4000000 in
set_option maxRecDepth 100000 in
theorem tX11_fault_vG (l : Launch) (D : va_G) (cs : Nat → ClassId) {kp : Nat → Nat} {L : List Nat} {E : Nat → va_E} (a0 : Nat) (x1 : Int32) (hm0 : a0 ∈ L) (hk0 : kp a0 = 11) (hp1a : 0 ≤ x1.toInt) (hp1b : x1.toInt ≤ 1) (hg0 : gz_ok E a0) (hg1 : ss_ok E a0) (hg2 : ac_ok E a0) (sz : Nat) : Met l yX11_fault (.code yX11_fault cX11_fault 2 (some .int) :: cx_big) { frames := 10, cells := 0, slots := 0, locals := 214 } (tw_P D cs kp L E [.ref a0, .int x1] sz) (tw_Q D cs kp L (fun v kq Lq Eq => (∃ x : Int32, v = some (.int x) ∧ ((tw_fi Eq (tw_fa Eq a0 1) 1) = (tw_fi E (tw_fa E a0 1) 1)) ∧ (tw_el Eq (tw_fa E a0 0) 0 = tw_el E (tw_fa E a0 0) 0) ∧ gz_ok Eq a0 ∧ ss_ok Eq a0 ∧ ac_ok Eq a0) ∧ kp = kq ∧ L = Lq ∧ tw_fr kp L [(2, 1), (2, 7), (9, 2), (9, 3), (9, 4), (10, 0)] [100, 102, 110, 111, 112, 113, 114, 130, 131, 132, 133, 134, 136, 137, 138, 139] E Eq) (va_A (va_pl L E) sz)) 0 0 (va_A (va_pl L E) sz) := by
  refine tw_ofW (by decide) (Nat.le_of_ble_eq_true rfl) ?_
  intro p e s m below meth c A ls hx hb hr hml hB hown hlocks hK hN hA TH hS hl
  have hown : s.vm.findClass "TreeMerge" = some m.cls := hown
  have hl : lv_has ls 2 [(0, .ref a0), (1, .int x1)] := hl
  obtain ⟨kp0, ekp⟩ : ∃ z, z = kp := ⟨_, rfl⟩
  obtain ⟨L0, eL⟩ : ∃ z, z = L := ⟨_, rfl⟩
  rw [show tw_Q D cs kp L = tw_Q D cs kp0 L0 by rw [ekp, eL]]
  have hex : ∀ a : Nat, a ∈ L0 → a ∈ L ∧ kp a = kp0 a := fun a h => ⟨by rw [← eL]; exact h, by rw [ekp]⟩
  have hF : tw_fr kp L [(2, 1), (2, 7), (9, 2), (9, 3), (9, 4), (10, 0)] [100, 102, 110, 111, 112, 113, 114, 130, 131, 132, 133, 134, 136, 137, 138, 139] E E := tw_fr.rf
  obtain ⟨xr1, hxr1, hmxr1, hkxr1⟩ := tw_ra TH hm0 hk0 (by decide) (by decide) (k := 0) rfl
  have hkxr1 : kp xr1 = 9 := hkxr1
  obtain ⟨xr2, hxr2, hmxr2, hkxr2⟩ := tw_ra TH hm0 hk0 (by decide) (by decide) (k := 1) rfl
  have hkxr2 : kp xr2 = 2 := hkxr2
  obtain ⟨xi3, hxi3, hxi3a, hxi3b⟩ := tw_rd TH hmxr2 hkxr2 (by decide) (by decide) (k := 1) rfl
  obtain ⟨xi4, hxi4, hxi4a, hxi4b⟩ := tw_rd TH hmxr1 hkxr1 (by decide) (by decide) (k := 1) rfl
  have er0 : tw_fa E a0 1 = xr2 := tw_fa_of hxr2
  have et0 : tw_fa E a0 0 = xr1 := tw_fa_of hxr1
  have ek0 : tw_fi E xr2 1 = xi3.toInt := tw_fi_of hxi3
  have en0 : tw_fi E xr1 1 = xi4.toInt := tw_fi_of hxi4
  refine lv_iload_n hx hb dX11_fault_0 rfl (lv_at hl 1 rfl) ?_
  refine lv_if_eq (tgt := 11) hx hb dX11_fault_1 (by decide) (fun hc5 => ?_) (fun hc5 => ?_)
  · have hf6 : x1.toInt = 0 := by have z := (fa_eq _ _).mp hc5; have : ((0 : Int32).toInt) = 0 := (by decide); omega
    refine lv_aload_n hx hb dX11_fault_11 rfl (lv_at hl 0 rfl) ?_
    refine tw_get (ci := 11) (C := RX11) (T := TX11) (N := 19) hx hb hB cx_inX11 hown hK TH hm0 hk0 rfl ⟨by decide, rfl⟩ 2 (by decide) cw_385 (fun _ h9 => h9) dX11_fault_12 (fun hv => ?_)
    obtain ⟨xr7, hxr7, hmxr7, hkxr7⟩ : ∃ a : Nat, tw_fv E a0 2 = .ref a ∧ a ∈ L ∧ kp a = 2 := hv
    rw [hxr7]
    refine lv_aload_n hx hb dX11_fault_15 rfl (lv_at hl 0 rfl) ?_
    refine tw_get (ci := 11) (C := RX11) (T := TX11) (N := 19) hx hb hB cx_inX11 hown hK TH hm0 hk0 rfl ⟨by decide, rfl⟩ 0 (by decide) cw_383 (fun _ h9 => h9) dX11_fault_16 (fun hv => ?_)
    rw [hxr1]
    have hgmr : gm_ok E xr2 := by have q := hg0; unfold gz_ok at q; rw [tw_fa_of hxr2] at q; exact q
    have hsp : sp_ok E xr7 xr2 := by have q := hg1; unfold ss_ok at q; rw [tw_fa_of hxr7, tw_fa_of hxr2] at q; exact q
    have habx : ab_ok E xr7 xr1 := (by have q := (hg2).2; rw [tw_fa_of hxr7, tw_fa_of hxr1] at q; exact q)
    refine tw_Vc (o := xr7) (ci := 2) (n := 1) (post := (fun v kq Lq Eq => (∃ x : Int32, v = some (.int x) ∧ (-1) ≤ x.toInt ∧ x.toInt ≤ 500 ∧ (x.toInt = -1 → gy_all (tw_el E xr1 0) xi4.toInt = tw_fi Eq xr7 1 ∧ 1 ≤ tw_fi Eq xr7 1) ∧ (x.toInt ≠ -1 → gy_all (tw_el E xr1 0) xi4.toInt = -1) ∧ (tw_el Eq xr1 0 = tw_el E xr1 0) ∧ (tw_fi Eq xr2 1 = tw_fi E xr2 1) ∧ gm_ok Eq xr7 ∧ gm_ok Eq xr2) ∧ kp = kq ∧ L = Lq ∧ tw_fr kp L [(2, 1), (2, 7), (9, 2), (9, 3), (9, 4)] [100, 130, 131, 132, 133, 134, 136, 137, 138, 139] E Eq)) (As := [.ref xr1]) (rest := []) ⟨hx, hb, hml, hown, hB⟩ (fun sz => tX2_readFrom_vG l D cs xr7 xr1 xr2 xi4 hmxr7 hkxr7 hmxr1 hkxr1 hmxr2 hkxr2 hxi4 hsp habx hgmr sz) cg_11_117_X2_readFrom rfl rfl (by decide +kernel) ⟨Nat.le_of_ble_eq_true rfl, Nat.le_of_ble_eq_true rfl⟩ hK hN TH hS hA rfl hmxr7 hkxr7 (by decide) rfl hl.1 rfl (Nat.le_of_ble_eq_true rfl) dX11_fault_19 ⟨Nat.le_of_ble_eq_true rfl, Nat.le_of_ble_eq_true rfl⟩ (fun v8 kp8 L8 E8 H locs hq8 hx8 TH hS => ?_)
    obtain ⟨⟨xc9, rfl, hxc9a, hxc9b, hpoxc9_0, hpoxc9_1, hpoxc9_2, hpoxc9_3, hgpxc9_0, hgpxc9_1⟩, rfl, rfl, hst8⟩ := hq8
    have hF := hF.tr hst8 (fun _ h => ⟨h, rfl⟩) (by decide) (by decide)
    have hmf10 : tw_fv E8 a0 0 = .ref xr1 := (hst8.1 a0 0 hm0 (by rw [hk0]; decide)).trans hxr1
    have hmf11 : tw_fv E8 a0 1 = .ref xr2 := (hst8.1 a0 1 hm0 (by rw [hk0]; decide)).trans hxr2
    have hmf12 : tw_fv E8 xr1 1 = .int xi4 := (hst8.1 xr1 1 hmxr1 (by rw [hkxr1]; decide)).trans hxi4
    have hmf13 : tw_fv E8 a0 2 = .ref xr7 := (hst8.1 a0 2 hm0 (by rw [hk0]; decide)).trans hxr7
    have hg0_o := hg0
    have hg1_o := hg1
    have hg2_o := hg2
    have hsp_o := hsp
    have habx_o := habx
    have hg0 : gz_ok E8 a0 := gz_ok_of ((hst8.1 a0 1 hm0 (by rw [hk0]; decide)).trans hxr2) hgpxc9_1
    have hg1 : ss_ok E8 a0 := ss_ok_fr TH hst8 hm0 hk0 (by decide) (by decide) hg1
    have hg2 : ac_ok E8 a0 := ac_ok_fr TH hst8 hm0 hk0 (by decide) (by decide) hg2
    have hsp : sp_ok E8 xr7 xr2 := sp_ok_fr TH hst8 hmxr7 hkxr7 hmxr2 hkxr2 (by decide) (by decide) hsp
    have habx : ab_ok E8 xr7 xr1 := ab_ok_fr TH hst8 hmxr7 hkxr7 hmxr1 hkxr1 (by decide) (by decide) habx
    refine W.eq (g2 := F0 m 22 ls [.int xc9]) rfl ?_
    exact tw_iret hx hb hr hlocks TH hS hex ⟨⟨_, rfl, (by  rw [er0, ek0, tw_fa_of hmf11, hpoxc9_3, ek0]), (by  rw [et0]; exact hpoxc9_2), hg0, hg1, hg2⟩, rfl, rfl, hF⟩ (Nat.le_of_ble_eq_true rfl) (Nat.le_of_ble_eq_true rfl) dX11_fault_22
  · have hf14 : ¬ (x1.toInt = 0) := fun q => hc5 ((fa_eq _ _).mpr (by have : ((0 : Int32).toInt) = 0 := (by decide); omega))
    refine lv_aload_n hx hb dX11_fault_4 rfl (lv_at hl 0 rfl) ?_
    have hF5 : tw_fr kp L [(9, 2), (9, 3), (9, 4), (10, 0)] [102, 110, 111, 112, 113, 114] E E := tw_fr.rf
    refine tw_Vc (o := a0) (ci := 11) (n := 0) (post := (fun v kq Lq Eq => (∃ x : Int32, v = some (.int x) ∧ (-1) ≤ x.toInt ∧ x.toInt ≤ 500) ∧ kp = kq ∧ L = Lq ∧ tw_fr kp L [(9, 2), (9, 3), (9, 4), (10, 0)] [102, 110, 111, 112, 113, 114] E Eq)) (As := []) (rest := []) ⟨hx, hb, hml, hown, hB⟩ (fun sz => tX11_readTree l D cs a0 hm0 hk0 sz) cg_11_113_X11_readTree rfl rfl (by decide +kernel) ⟨Nat.le_of_ble_eq_true rfl, Nat.le_of_ble_eq_true rfl⟩ hK hN TH hS hA rfl hm0 hk0 (by decide) rfl hl.1 rfl (Nat.le_of_ble_eq_true rfl) dX11_fault_5 ⟨Nat.le_of_ble_eq_true rfl, Nat.le_of_ble_eq_true rfl⟩ (fun v15 kp15 L15 E15 H locs hq15 hx15 TH hS => ?_)
    obtain ⟨⟨xc16, rfl, hxc16a, hxc16b⟩, rfl, rfl, hst15⟩ := hq15
    have hF := hF.tr hst15 (fun _ h => ⟨h, rfl⟩) (by decide) (by decide)
    have hF5 := hF5.tr hst15 (fun _ h => ⟨h, rfl⟩) (by decide) (by decide)
    have hmf17 : tw_fv E15 a0 0 = .ref xr1 := (hst15.1 a0 0 hm0 (by rw [hk0]; decide)).trans hxr1
    have hmf18 : tw_fv E15 a0 1 = .ref xr2 := (hst15.1 a0 1 hm0 (by rw [hk0]; decide)).trans hxr2
    have hmf19 : tw_fv E15 xr2 1 = .int xi3 := (hst15.1 xr2 1 hmxr2 (by rw [hkxr2]; decide)).trans hxi3
    have hmf20 : tw_fv E15 xr1 1 = .int xi4 := (hst15.1 xr1 1 hmxr1 (by rw [hkxr1]; decide)).trans hxi4
    have hg0 : gz_ok E15 a0 := gz_ok_fr TH hst15 hm0 hk0 (by decide) (by decide) hg0
    have hg1 : ss_ok E15 a0 := ss_ok_fr TH hst15 hm0 hk0 (by decide) (by decide) hg1
    have hg2 : ac_ok E15 a0 := ac_ok_fr TH hst15 hm0 hk0 (by decide) (by decide) hg2
    refine W.eq (g2 := F0 m 8 ls [.int xc16]) rfl ?_
    refine lv_goto (tgt := 22) hx hb dX11_fault_8 (by decide) ?_
    exact tw_iret hx hb hr hlocks TH hS hex ⟨⟨_, rfl, (by  rw [er0, ek0, tw_fa_of hmf18]; exact (tw_fi_fr hF5 hmxr2 hkxr2 (by decide)).trans ek0), (by  rw [et0]; exact elg_fr TH hF5 hmxr1 hkxr1 (k := 0) (by decide) (by decide) rfl (by decide) (by decide) (by decide)), hg0, hg1, hg2⟩, rfl, rfl, hF⟩ (Nat.le_of_ble_eq_true rfl) (Nat.le_of_ble_eq_true rfl) dX11_fault_22
set_option maxHeartbeats 4000000 in
set_option maxRecDepth 100000 in
theorem tX10_readFrom_vG (l : Launch) (D : va_G) (cs : Nat → ClassId) {kp : Nat → Nat} {L : List Nat} {E : Nat → va_E} (a0 : Nat) (a1 : Nat) (a2 : Nat) (fv2_1 : Int32) (hm0 : a0 ∈ L) (hk0 : kp a0 = 10) (hm1 : a1 ∈ L) (hk1 : kp a1 = 9) (hm2 : a2 ∈ L) (hk2 : kp a2 = 2) (hfv2_1 : tw_fv E a2 1 = .int fv2_1) (sz : Nat) : Met l yX10_readFrom (.code yX10_readFrom cX10_readFrom 7 (some .int) :: cx_big) { frames := 7, cells := 0, slots := 0, locals := 147 } (tw_P D cs kp L E [.ref a0, .ref a1, .ref a2] sz) (tw_Q D cs kp L (fun v kq Lq Eq => (∃ x : Int32, v = some (.int x) ∧ (-1) ≤ x.toInt ∧ x.toInt ≤ 500 ∧ (x.toInt = -1 → 0 < fv2_1.toInt)) ∧ kp = kq ∧ L = Lq ∧ tw_fr kp L [(9, 2), (9, 3), (9, 4), (10, 0)] [102, 110, 111, 114] E Eq) (va_A (va_pl L E) sz)) 0 0 (va_A (va_pl L E) sz) := by
  refine tw_ofW (by decide) (Nat.le_of_ble_eq_true rfl) ?_
  intro p e s m below meth c A ls hx hb hr hml hB hown hlocks hK hN hA TH hS hl
  have hown : s.vm.findClass "TreeMerge$Tree" = some m.cls := hown
  have hl : lv_has ls 7 [(0, .ref a0), (1, .ref a1), (2, .ref a2)] := hl
  obtain ⟨kp0, ekp⟩ : ∃ z, z = kp := ⟨_, rfl⟩
  obtain ⟨L0, eL⟩ : ∃ z, z = L := ⟨_, rfl⟩
  rw [show tw_Q D cs kp L = tw_Q D cs kp0 L0 by rw [ekp, eL]]
  have hex : ∀ a : Nat, a ∈ L0 → a ∈ L ∧ kp a = kp0 a := fun a h => ⟨by rw [← eL]; exact h, by rw [ekp]⟩
  have hF : tw_fr kp L [(9, 2), (9, 3), (9, 4), (10, 0)] [102, 110, 111, 114] E E := tw_fr.rf
  obtain ⟨qfv2_1, hqfv2_1, hqfv2_1a, hqfv2_1b⟩ := tw_rd TH hm2 hk2 (by decide) (by decide) (k := 1) rfl
  have eqfv2_1 : qfv2_1 = fv2_1 := by have q := hqfv2_1.symm.trans hfv2_1; injection q
  rw [eqfv2_1] at hqfv2_1a hqfv2_1b
  refine lv_aload_n hx hb dX10_readFrom_0 rfl (lv_at hl 0 rfl) ?_
  refine tw_Vc (o := a0) (ci := 10) (n := 0) (post := (fun v kq Lq Eq => v = none ∧ kp = kq ∧ L = Lq ∧ tw_fr kp L [(10, 0)] [] E Eq ∧ (∃ z0 : Int32, tw_fv Eq a0 0 = .int z0 ∧ (z0.toInt = 0)))) (As := []) (rest := []) ⟨hx, hb, hml, hown, hB⟩ (fun sz => tX10_clear l D cs a0 hm0 hk0 sz) cg_10_42_X10_clear rfl rfl (by decide +kernel) ⟨Nat.le_of_ble_eq_true rfl, Nat.le_of_ble_eq_true rfl⟩ hK hN TH hS hA rfl hm0 hk0 (by decide) rfl hl.1 rfl (Nat.le_of_ble_eq_true rfl) dX10_readFrom_1 ⟨Nat.le_of_ble_eq_true rfl, Nat.le_of_ble_eq_true rfl⟩ (fun v1 kp1 L1 E1 H locs hq1 hx1 TH hS => ?_)
  obtain ⟨rfl, rfl, rfl, hst1, ⟨zfxc2_0_0, hzfxc2_0_0, hzpxc2_0⟩⟩ := hq1
  have hF := hF.tr hst1 (fun _ h => ⟨h, rfl⟩) (by decide) (by decide)
  have hmf3 : tw_fv E1 a2 1 = .int fv2_1 := (hst1.1 a2 1 hm2 (by rw [hk2]; decide)).trans hfv2_1
  obtain ⟨qzfxc2_0_0, hqzfxc2_0_0, hqzfxc2_0_0a, hqzfxc2_0_0b⟩ := tw_rd TH hm0 hk0 (by decide) (by decide) (k := 0) rfl
  have eqzfxc2_0_0 : qzfxc2_0_0 = zfxc2_0_0 := by have q := hqzfxc2_0_0.symm.trans hzfxc2_0_0; injection q
  rw [eqzfxc2_0_0] at hqzfxc2_0_0a hqzfxc2_0_0b
  refine W.eq (g2 := F0 m 4 ls []) rfl ?_
  have hup : up_ok E1 a0 (zfxc2_0_0.toInt) := up_ok_zero (by omega)
  refine lv_aload_n hx hb dX10_readFrom_4 rfl (lv_at hl 1 rfl) ?_
  refine tw_Vc (o := a1) (ci := 9) (n := 0) (post := (fun v kq Lq Eq => v = none ∧ kp = kq ∧ L = Lq ∧ tw_fr kp L [(9, 4)] [] E1 Eq)) (As := []) (rest := []) ⟨hx, hb, hml, hown, hB⟩ (fun sz => tX9_rewind l D cs a1 hm1 hk1 sz) cg_10_45_X9_rewind rfl rfl (by decide +kernel) ⟨Nat.le_of_ble_eq_true rfl, Nat.le_of_ble_eq_true rfl⟩ hK hN TH hS hA rfl hm1 hk1 (by decide) rfl hl.1 rfl (Nat.le_of_ble_eq_true rfl) dX10_readFrom_5 ⟨Nat.le_of_ble_eq_true rfl, Nat.le_of_ble_eq_true rfl⟩ (fun v4 kp4 L4 E4 H locs hq4 hx4 TH hS => ?_)
  obtain ⟨rfl, rfl, rfl, hst4⟩ := hq4
  have hF := hF.tr hst4 (fun _ h => ⟨h, rfl⟩) (by decide) (by decide)
  have hmf6 : tw_fv E4 a2 1 = .int fv2_1 := (hst4.1 a2 1 hm2 (by rw [hk2]; decide)).trans hmf3
  have hmf7 : tw_fv E4 a0 0 = .int zfxc2_0_0 := (hst4.1 a0 0 hm0 (by rw [hk0]; decide)).trans hzfxc2_0_0
  have hup : up_ok E4 a0 (zfxc2_0_0.toInt) := up_ok_fr TH hst4 hm0 hk0 (by decide) (by decide) hup
  refine W.eq (g2 := F0 m 8 ls []) rfl ?_
  refine lv_aload_n hx hb dX10_readFrom_8 rfl (lv_at hl 1 rfl) ?_
  refine tw_Vc (o := a1) (ci := 9) (n := 0) (post := (fun v kq Lq Eq => v = none ∧ kp = kq ∧ L = Lq ∧ tw_fr kp L [(9, 2), (9, 3), (9, 4)] [] E4 Eq ∧ (∃ z0 z1 : Int32, tw_fv Eq a1 3 = .int z0 ∧ tw_fv Eq a1 4 = .int z1 ∧ (z0.toInt ≤ z1.toInt)))) (As := []) (rest := []) ⟨hx, hb, hml, hown, hB⟩ (fun sz => tX9_advance l D cs a1 hm1 hk1 sz) cg_10_50_X9_advance rfl rfl (by decide +kernel) ⟨Nat.le_of_ble_eq_true rfl, Nat.le_of_ble_eq_true rfl⟩ hK hN TH hS hA rfl hm1 hk1 (by decide) rfl hl.1 rfl (Nat.le_of_ble_eq_true rfl) dX10_readFrom_9 ⟨Nat.le_of_ble_eq_true rfl, Nat.le_of_ble_eq_true rfl⟩ (fun v8 kp8 L8 E8 H locs hq8 hx8 TH hS => ?_)
  obtain ⟨rfl, rfl, rfl, hst8, ⟨zfxc9_0_0, zfxc9_0_1, hzfxc9_0_0, hzfxc9_0_1, hzpxc9_0⟩⟩ := hq8
  have hF := hF.tr hst8 (fun _ h => ⟨h, rfl⟩) (by decide) (by decide)
  have hmf10 : tw_fv E8 a2 1 = .int fv2_1 := (hst8.1 a2 1 hm2 (by rw [hk2]; decide)).trans hmf6
  have hmf11 : tw_fv E8 a0 0 = .int zfxc2_0_0 := (hst8.1 a0 0 hm0 (by rw [hk0]; decide)).trans hmf7
  have hup : up_ok E8 a0 (zfxc2_0_0.toInt) := up_ok_fr TH hst8 hm0 hk0 (by decide) (by decide) hup
  obtain ⟨qzfxc9_0_0, hqzfxc9_0_0, hqzfxc9_0_0a, hqzfxc9_0_0b⟩ := tw_rd TH hm1 hk1 (by decide) (by decide) (k := 3) rfl
  have eqzfxc9_0_0 : qzfxc9_0_0 = zfxc9_0_0 := by have q := hqzfxc9_0_0.symm.trans hzfxc9_0_0; injection q
  rw [eqzfxc9_0_0] at hqzfxc9_0_0a hqzfxc9_0_0b
  obtain ⟨qzfxc9_0_1, hqzfxc9_0_1, hqzfxc9_0_1a, hqzfxc9_0_1b⟩ := tw_rd TH hm1 hk1 (by decide) (by decide) (k := 4) rfl
  have eqzfxc9_0_1 : qzfxc9_0_1 = zfxc9_0_1 := by have q := hqzfxc9_0_1.symm.trans hzfxc9_0_1; injection q
  rw [eqzfxc9_0_1] at hqzfxc9_0_1a hqzfxc9_0_1b
  refine W.eq (g2 := F0 m 12 ls []) rfl ?_
  refine lv_iconst (v := 1) hx hb dX10_readFrom_12 (by decide) ?_
  refine lv_istore_n (lv' := [(3, .int 1), (0, .ref a0), (1, .ref a1), (2, .ref a2)]) hx hb dX10_readFrom_13 rfl hl (by decide) rfl (fun ls hl => ?_)
  refine lv_iconst (v := (-1)) hx hb dX10_readFrom_14 (by decide) ?_
  refine lv_istore (lv' := [(4, .int (-1)), (3, .int 1), (0, .ref a0), (1, .ref a1), (2, .ref a2)]) hx hb dX10_readFrom_15 hl (by decide) rfl (fun ls hl => ?_)
  refine lv_iconst (v := 0) hx hb dX10_readFrom_17 (by decide) ?_
  refine lv_istore (lv' := [(5, .int 0), (4, .int (-1)), (3, .int 1), (0, .ref a0), (1, .ref a1), (2, .ref a2)]) hx hb dX10_readFrom_18 hl (by decide) rfl (fun ls hl => ?_)
  have hJ20 : ∀ (n20 : Nat) (y20_5 : Int32) (y20_4 : Int32) (y20_3 : Int32) (u20_0_0 : Int32) (Eg20 : Nat → va_E) (H : Heap) (locs : List Loc) (ls : Array Slot), 0 ≤ y20_5.toInt → y20_5.toInt ≤ 25 → (-1) ≤ y20_4.toInt → y20_4.toInt ≤ 149 → 1 ≤ y20_3.toInt → y20_3.toInt ≤ 8 → 0 ≤ u20_0_0.toInt → u20_0_0.toInt ≤ 40 → (u20_0_0.toInt = y20_5.toInt) → (y20_4.toInt < u20_0_0.toInt) → 25 - y20_5.toInt ≤ (n20 : Int) → tw_fv Eg20 a0 0 = .int u20_0_0 → tw_fr kp L [(9, 2), (9, 3), (9, 4), (10, 0)] [102, 110, 111, 114] E8 Eg20 → up_ok Eg20 a0 (u20_0_0.toInt) → tw_H D cs kp L Eg20 A H → va_S A s.heap H locs → lv_has ls 7 [(5, .int y20_5), (4, .int y20_4), (3, .int y20_3), (0, .ref a0), (1, .ref a1), (2, .ref a2)] → W p l e { frames := 7, cells := 0, slots := 0, locals := 147 } s m [.ref a0, .ref a1, .ref a2].toArray below meth c H locs 0 0 (MQ below (tw_Q D cs kp0 L0 (fun v kq Lq Eq => (∃ x : Int32, v = some (.int x) ∧ (-1) ≤ x.toInt ∧ x.toInt ≤ 500 ∧ (x.toInt = -1 → 0 < fv2_1.toInt)) ∧ kp = kq ∧ L = Lq ∧ tw_fr kp L [(9, 2), (9, 3), (9, 4), (10, 0)] [102, 110, 111, 114] E Eq) A) [.ref a0, .ref a1, .ref a2].toArray s 0 0 A) (F0 m 20 ls []) := by
    intro n20
    induction n20 using Nat.strongRecOn with
    | _ n20 ih20 =>
      intro y20_5 y20_4 y20_3 u20_0_0 Eg20 H locs ls hy20_5a hy20_5b hy20_4a hy20_4b hy20_3a hy20_3b hu20_0_0a hu20_0_0b hin20_0 hin20_1 hmeas20 hfm20_0 hG20 hcg20_0 TH hS hl
      have hF := hF.tr hG20 (fun _ h => ⟨h, rfl⟩) (by decide) (by decide)
      have hmf12 : tw_fv Eg20 a2 1 = .int fv2_1 := (hG20.1 a2 1 hm2 (by rw [hk2]; decide)).trans hmf10
      refine lv_iload hx hb dX10_readFrom_20 (lv_at hl 0 rfl) ?_
      refine lv_bipush (v := 24) hx hb dX10_readFrom_22 (by decide) ?_
      refine lv_icmp_gt (tgt := 216) hx hb dX10_readFrom_24 (by decide) (fun hc13 => ?_) (fun hc13 => ?_)
      · have hf14 : 24 < y20_5.toInt := by have z := (fa_lt _ _).mp hc13; have : ((24 : Int32).toInt) = 24 := (by decide); omega
        refine lv_aload_n hx hb dX10_readFrom_216 rfl (lv_at hl 4 rfl) ?_
        refine tw_get (ci := 9) (C := RX9) (T := TX9) (N := 5) hx hb hB cx_inX9 hown hK TH hm1 hk1 rfl ⟨by decide, rfl⟩ 3 (by decide) cw_45 (fun _ h9 => h9) dX10_readFrom_217 (fun hv => ?_)
        obtain ⟨xi15, hxi15, hxi15a, hxi15b⟩ : ∃ x : Int32, tw_fv Eg20 a1 3 = .int x ∧ 0 ≤ x.toInt ∧ x.toInt ≤ 500 := hv
        rw [hxi15]
        exact tw_iret hx hb hr hlocks TH hS hex ⟨⟨_, rfl, (show (-1) ≤ Int32.toInt xi15 from by  omega), (show Int32.toInt xi15 ≤ 500 from by  omega), (by  intro q; first | exact hkk | (exfalso; omega))⟩, rfl, rfl, hF⟩ (Nat.le_of_ble_eq_true rfl) (Nat.le_of_ble_eq_true rfl) dX10_readFrom_220
      · have hf16 : ¬ (24 < y20_5.toInt) := fun q => hc13 ((fa_lt _ _).mpr (by have : ((24 : Int32).toInt) = 24 := (by decide); omega))
        refine lv_aload_n hx hb dX10_readFrom_27 rfl (lv_at hl 5 rfl) ?_
        refine lv_aload_n hx hb dX10_readFrom_28 rfl (lv_at hl 4 rfl) ?_
        refine tw_Vc (o := a2) (ci := 2) (n := 1) (post := (fun v kq Lq Eq => (∃ x : Int32, v = some (.int x) ∧ (-1) ≤ x.toInt ∧ x.toInt ≤ 9 ∧ (x.toInt ≠ -1 → x.toInt < fv2_1.toInt)) ∧ kp = kq ∧ L = Lq ∧ Eg20 = Eq)) (As := [.ref a1]) (rest := []) ⟨hx, hb, hml, hown, hB⟩ (fun sz => tX2_kindAt_vK l D cs a2 a1 fv2_1 hm2 hk2 hm1 hk1 hmf12 sz) cg_10_53_X2_kindAt rfl rfl (by decide +kernel) ⟨Nat.le_of_ble_eq_true rfl, Nat.le_of_ble_eq_true rfl⟩ hK hN TH hS hA rfl hm2 hk2 (by decide) rfl hl.1 rfl (Nat.le_of_ble_eq_true rfl) dX10_readFrom_29 ⟨Nat.le_of_ble_eq_true rfl, Nat.le_of_ble_eq_true rfl⟩ (fun v17 kp17 L17 E17 H locs hq17 hx17 TH hS => ?_)
        obtain ⟨⟨xc18, rfl, hxc18a, hxc18b, hpoxc18_0⟩, rfl, rfl, rfl⟩ := hq17
        refine W.eq (g2 := F0 m 32 ls [.int xc18]) rfl ?_
        refine lv_istore (lv' := [(6, .int xc18), (5, .int y20_5), (4, .int y20_4), (3, .int y20_3), (0, .ref a0), (1, .ref a1), (2, .ref a2)]) hx hb dX10_readFrom_32 hl (by decide) rfl (fun ls hl => ?_)
        refine lv_aload_n hx hb dX10_readFrom_34 rfl (lv_at hl 5 rfl) ?_
        refine tw_get (ci := 9) (C := RX9) (T := TX9) (N := 5) hx hb hB cx_inX9 hown hK TH hm1 hk1 rfl ⟨by decide, rfl⟩ 2 (by decide) cw_42 (fun _ h9 => h9) dX10_readFrom_35 (fun hv => ?_)
        obtain ⟨xi19, hxi19, hxi19a, hxi19b⟩ : ∃ x : Int32, tw_fv Eg20 a1 2 = .int x ∧ 0 ≤ x.toInt ∧ x.toInt ≤ 255 := hv
        rw [hxi19]
        refine lv_iconst (v := 1) hx hb dX10_readFrom_38 (by decide) ?_
        refine lv_icmp_ne (tgt := 57) hx hb dX10_readFrom_39 (by decide) (fun hc20 => ?_) (fun hc20 => ?_)
        · have hf21 : ¬ (xi19.toInt = 1) := fun q => hc20 ((fa_eq _ _).mpr (by have : ((1 : Int32).toInt) = 1 := (by decide); omega))
          refine lv_aload_n hx hb dX10_readFrom_57 rfl (lv_at hl 5 rfl) ?_
          refine tw_get (ci := 9) (C := RX9) (T := TX9) (N := 5) hx hb hB cx_inX9 hown hK TH hm1 hk1 rfl ⟨by decide, rfl⟩ 3 (by decide) cw_45 (fun _ h9 => h9) dX10_readFrom_58 (fun hv => ?_)
          obtain ⟨xi22, hxi22, hxi22a, hxi22b⟩ : ∃ x : Int32, tw_fv Eg20 a1 3 = .int x ∧ 0 ≤ x.toInt ∧ x.toInt ≤ 500 := hv
          rw [hxi22]
          exact tw_iret hx hb hr hlocks TH hS hex ⟨⟨_, rfl, (show (-1) ≤ Int32.toInt xi22 from by  omega), (show Int32.toInt xi22 ≤ 500 from by  omega), (by  intro q; first | exact hkk | (exfalso; omega))⟩, rfl, rfl, hF⟩ (Nat.le_of_ble_eq_true rfl) (Nat.le_of_ble_eq_true rfl) dX10_readFrom_61
        · have hf23 : xi19.toInt = 1 := by have z := (fa_eq _ _).mp hc20; have : ((1 : Int32).toInt) = 1 := (by decide); omega
          refine lv_aload_n hx hb dX10_readFrom_42 rfl (lv_at hl 4 rfl) ?_
          refine tw_get (ci := 10) (C := RX10) (T := TX10) (N := 8) hx hb hB cx_inX10 hown hK TH hm0 hk0 rfl ⟨by decide, rfl⟩ 0 (by decide) cw_116 (fun _ h9 => h9) dX10_readFrom_43 (fun hv => ?_)
          rw [hfm20_0]
          refine lv_bipush (v := 24) hx hb dX10_readFrom_46 (by decide) ?_
          refine lv_icmp_ge (tgt := 57) hx hb dX10_readFrom_48 (by decide) (fun hc24 => ?_) (fun hc24 => ?_)
          · have hf25 : 24 ≤ u20_0_0.toInt := by have z := (fa_le _ _).mp hc24; have : ((24 : Int32).toInt) = 24 := (by decide); omega
            refine lv_aload_n hx hb dX10_readFrom_57 rfl (lv_at hl 5 rfl) ?_
            refine tw_get (ci := 9) (C := RX9) (T := TX9) (N := 5) hx hb hB cx_inX9 hown hK TH hm1 hk1 rfl ⟨by decide, rfl⟩ 3 (by decide) cw_45 (fun _ h9 => h9) dX10_readFrom_58 (fun hv => ?_)
            obtain ⟨xi26, hxi26, hxi26a, hxi26b⟩ : ∃ x : Int32, tw_fv Eg20 a1 3 = .int x ∧ 0 ≤ x.toInt ∧ x.toInt ≤ 500 := hv
            rw [hxi26]
            exact tw_iret hx hb hr hlocks TH hS hex ⟨⟨_, rfl, (show (-1) ≤ Int32.toInt xi26 from by  omega), (show Int32.toInt xi26 ≤ 500 from by  omega), (by  intro q; first | exact hkk | (exfalso; omega))⟩, rfl, rfl, hF⟩ (Nat.le_of_ble_eq_true rfl) (Nat.le_of_ble_eq_true rfl) dX10_readFrom_61
          · have hf27 : ¬ (24 ≤ u20_0_0.toInt) := fun q => hc24 ((fa_le _ _).mpr (by have : ((24 : Int32).toInt) = 24 := (by decide); omega))
            refine lv_iload hx hb dX10_readFrom_51 (lv_at hl 0 rfl) ?_
            refine lv_iconst (v := (-1)) hx hb dX10_readFrom_53 (by decide) ?_
            refine lv_icmp_ne (tgt := 62) hx hb dX10_readFrom_54 (by decide) (fun hc28 => ?_) (fun hc28 => ?_)
            · have hf29 : ¬ (xc18.toInt = (-1)) := fun q => hc28 ((fa_eq _ _).mpr (by have : (((-1) : Int32).toInt) = (-1) := (by decide); omega))
              have hkk : 0 < fv2_1.toInt := (by have w := hpoxc18_0 (by omega); omega)
              refine lv_aload_n hx hb dX10_readFrom_62 rfl (lv_at hl 4 rfl) ?_
              refine lv_iload hx hb dX10_readFrom_63 (lv_at hl 1 rfl) ?_
              refine lv_iload hx hb dX10_readFrom_65 (lv_at hl 2 rfl) ?_
              refine lv_iload hx hb dX10_readFrom_67 (lv_at hl 0 rfl) ?_
              refine lv_lconst (v := 0) hx hb dX10_readFrom_69 (by decide) ?_
              refine tw_Vc (o := a0) (ci := 10) (n := 4) (post := (fun v kq Lq Eq => v = none ∧ kp = kq ∧ L = Lq ∧ tw_fr kp L [(10, 0)] [102, 110, 111, 114] Eg20 Eq ∧ (∃ z0 : Int32, tw_fv Eq a0 0 = .int z0 ∧ (z0.toInt = u20_0_0.toInt + 1) ∧ up_ok Eq a0 (z0.toInt)))) (As := [.int y20_5, .int y20_4, .int xc18, .long (0 : Int64)]) (rest := []) ⟨hx, hb, hml, hown, hB⟩ (fun sz => tX10_add_v1 l D cs a0 y20_5 y20_4 xc18 (0 : Int64) u20_0_0 hm0 hk0 (by omega) (by omega) (by omega) (by omega) (by omega) (by omega) hfm20_0 (by  omega) (by  omega) hcg20_0 sz) cg_10_65_X10_add rfl rfl (by decide +kernel) ⟨Nat.le_of_ble_eq_true rfl, Nat.le_of_ble_eq_true rfl⟩ hK hN TH hS hA rfl hm0 hk0 (by decide) rfl hl.1 rfl (Nat.le_of_ble_eq_true rfl) dX10_readFrom_70 ⟨Nat.le_of_ble_eq_true rfl, Nat.le_of_ble_eq_true rfl⟩ (fun v30 kp30 L30 E30 H locs hq30 hx30 TH hS => ?_)
              obtain ⟨rfl, rfl, rfl, hst30, ⟨zfxc31_0_0, hzfxc31_0_0, hzpxc31_0, hzgxc31_0_0⟩⟩ := hq30
              have hF := hF.tr hst30 (fun _ h => ⟨h, rfl⟩) (by decide) (by decide)
              have hG20 := hG20.tr hst30 (fun _ h => ⟨h, rfl⟩) (by decide) (by decide)
              have hmf32 : tw_fv E30 a2 1 = .int fv2_1 := (hst30.1 a2 1 hm2 (by rw [hk2]; decide)).trans hmf12
              have hmf33 : tw_fv E30 a1 2 = .int xi19 := (hst30.1 a1 2 hm1 (by rw [hk1]; decide)).trans hxi19
              obtain ⟨qzfxc31_0_0, hqzfxc31_0_0, hqzfxc31_0_0a, hqzfxc31_0_0b⟩ := tw_rd TH hm0 hk0 (by decide) (by decide) (k := 0) rfl
              have eqzfxc31_0_0 : qzfxc31_0_0 = zfxc31_0_0 := by have q := hqzfxc31_0_0.symm.trans hzfxc31_0_0; injection q
              rw [eqzfxc31_0_0] at hqzfxc31_0_0a hqzfxc31_0_0b
              refine W.eq (g2 := F0 m 73 ls []) rfl ?_
              refine lv_aload_n hx hb dX10_readFrom_73 rfl (lv_at hl 5 rfl) ?_
              refine tw_Vc (o := a1) (ci := 9) (n := 0) (post := (fun v kq Lq Eq => v = none ∧ kp = kq ∧ L = Lq ∧ tw_fr kp L [(9, 2), (9, 3), (9, 4)] [] E30 Eq ∧ (∃ z0 z1 : Int32, tw_fv Eq a1 3 = .int z0 ∧ tw_fv Eq a1 4 = .int z1 ∧ (z0.toInt ≤ z1.toInt)))) (As := []) (rest := []) ⟨hx, hb, hml, hown, hB⟩ (fun sz => tX9_advance l D cs a1 hm1 hk1 sz) cg_10_50_X9_advance rfl rfl (by decide +kernel) ⟨Nat.le_of_ble_eq_true rfl, Nat.le_of_ble_eq_true rfl⟩ hK hN TH hS hA rfl hm1 hk1 (by decide) rfl hl.1 rfl (Nat.le_of_ble_eq_true rfl) dX10_readFrom_74 ⟨Nat.le_of_ble_eq_true rfl, Nat.le_of_ble_eq_true rfl⟩ (fun v34 kp34 L34 E34 H locs hq34 hx34 TH hS => ?_)
              obtain ⟨rfl, rfl, rfl, hst34, ⟨zfxc35_0_0, zfxc35_0_1, hzfxc35_0_0, hzfxc35_0_1, hzpxc35_0⟩⟩ := hq34
              have hF := hF.tr hst34 (fun _ h => ⟨h, rfl⟩) (by decide) (by decide)
              have hG20 := hG20.tr hst34 (fun _ h => ⟨h, rfl⟩) (by decide) (by decide)
              have hmf36 : tw_fv E34 a2 1 = .int fv2_1 := (hst34.1 a2 1 hm2 (by rw [hk2]; decide)).trans hmf32
              have hmf37 : tw_fv E34 a0 0 = .int zfxc31_0_0 := (hst34.1 a0 0 hm0 (by rw [hk0]; decide)).trans hzfxc31_0_0
              have hzgxc31_0_0 : up_ok E34 a0 (zfxc31_0_0.toInt) := up_ok_fr TH hst34 hm0 hk0 (by decide) (by decide) hzgxc31_0_0
              obtain ⟨qzfxc35_0_0, hqzfxc35_0_0, hqzfxc35_0_0a, hqzfxc35_0_0b⟩ := tw_rd TH hm1 hk1 (by decide) (by decide) (k := 3) rfl
              have eqzfxc35_0_0 : qzfxc35_0_0 = zfxc35_0_0 := by have q := hqzfxc35_0_0.symm.trans hzfxc35_0_0; injection q
              rw [eqzfxc35_0_0] at hqzfxc35_0_0a hqzfxc35_0_0b
              obtain ⟨qzfxc35_0_1, hqzfxc35_0_1, hqzfxc35_0_1a, hqzfxc35_0_1b⟩ := tw_rd TH hm1 hk1 (by decide) (by decide) (k := 4) rfl
              have eqzfxc35_0_1 : qzfxc35_0_1 = zfxc35_0_1 := by have q := hqzfxc35_0_1.symm.trans hzfxc35_0_1; injection q
              rw [eqzfxc35_0_1] at hqzfxc35_0_1a hqzfxc35_0_1b
              refine W.eq (g2 := F0 m 77 ls []) rfl ?_
              refine lv_aload_n hx hb dX10_readFrom_77 rfl (lv_at hl 5 rfl) ?_
              refine tw_get (ci := 9) (C := RX9) (T := TX9) (N := 5) hx hb hB cx_inX9 hown hK TH hm1 hk1 rfl ⟨by decide, rfl⟩ 2 (by decide) cw_42 (fun _ h9 => h9) dX10_readFrom_78 (fun hv => ?_)
              obtain ⟨xi38, hxi38, hxi38a, hxi38b⟩ : ∃ x : Int32, tw_fv E34 a1 2 = .int x ∧ 0 ≤ x.toInt ∧ x.toInt ≤ 255 := hv
              rw [hxi38]
              refine lv_iconst (v := 5) hx hb dX10_readFrom_81 (by decide) ?_
              refine lv_icmp_ne (tgt := 90) hx hb dX10_readFrom_82 (by decide) (fun hc39 => ?_) (fun hc39 => ?_)
              · have hf40 : ¬ (xi38.toInt = 5) := fun q => hc39 ((fa_eq _ _).mpr (by have : ((5 : Int32).toInt) = 5 := (by decide); omega))
                refine lv_aload_n hx hb dX10_readFrom_90 rfl (lv_at hl 5 rfl) ?_
                refine tw_get (ci := 9) (C := RX9) (T := TX9) (N := 5) hx hb hB cx_inX9 hown hK TH hm1 hk1 rfl ⟨by decide, rfl⟩ 2 (by decide) cw_42 (fun _ h9 => h9) dX10_readFrom_91 (fun hv => ?_)
                rw [hxi38]
                refine lv_iconst (v := 4) hx hb dX10_readFrom_94 (by decide) ?_
                have hJ113 : ∀  (Eg113 : Nat → va_E) (H : Heap) (locs : List Loc) (ls : Array Slot), tw_fr kp L [(9, 2), (9, 3), (9, 4)] [102] E34 Eg113 → up_ok Eg113 a0 (zfxc31_0_0.toInt) → tw_H D cs kp L Eg113 A H → va_S A s.heap H locs → lv_has ls 7 [(5, .int y20_5), (4, .int y20_4), (3, .int y20_3), (0, .ref a0), (1, .ref a1), (2, .ref a2)] → W p l e { frames := 7, cells := 0, slots := 0, locals := 147 } s m [.ref a0, .ref a1, .ref a2].toArray below meth c H locs 0 0 (MQ below (tw_Q D cs kp0 L0 (fun v kq Lq Eq => (∃ x : Int32, v = some (.int x) ∧ (-1) ≤ x.toInt ∧ x.toInt ≤ 500 ∧ (x.toInt = -1 → 0 < fv2_1.toInt)) ∧ kp = kq ∧ L = Lq ∧ tw_fr kp L [(9, 2), (9, 3), (9, 4), (10, 0)] [102, 110, 111, 114] E Eq) A) [.ref a0, .ref a1, .ref a2].toArray s 0 0 A) (F0 m 113 ls []) := by
                  intro Eg113 H locs ls hG113 hzgxc31_0_0 TH hS hl
                  have hF := hF.tr hG113 (fun _ h => ⟨h, rfl⟩) (by decide) (by decide)
                  have hG20 := hG20.tr hG113 (fun _ h => ⟨h, rfl⟩) (by decide) (by decide)
                  have hmf41 : tw_fv Eg113 a2 1 = .int fv2_1 := (hG113.1 a2 1 hm2 (by rw [hk2]; decide)).trans hmf36
                  have hmf42 : tw_fv Eg113 a0 0 = .int zfxc31_0_0 := (hG113.1 a0 0 hm0 (by rw [hk0]; decide)).trans hmf37
                  refine lv_aload_n hx hb dX10_readFrom_113 rfl (lv_at hl 4 rfl) ?_
                  refine tw_get (ci := 9) (C := RX9) (T := TX9) (N := 5) hx hb hB cx_inX9 hown hK TH hm1 hk1 rfl ⟨by decide, rfl⟩ 2 (by decide) cw_42 (fun _ h9 => h9) dX10_readFrom_114 (fun hv => ?_)
                  obtain ⟨xi43, hxi43, hxi43a, hxi43b⟩ : ∃ x : Int32, tw_fv Eg113 a1 2 = .int x ∧ 0 ≤ x.toInt ∧ x.toInt ≤ 255 := hv
                  rw [hxi43]
                  refine lv_bipush (v := 40) hx hb dX10_readFrom_117 (by decide) ?_
                  have hJ210 : ∀ (y210_4 : Int32) (y210_3 : Int32) (Eg210 : Nat → va_E) (H : Heap) (locs : List Loc) (ls : Array Slot), (-1) ≤ y210_4.toInt → y210_4.toInt ≤ 149 → 2 ≤ y210_3.toInt → y210_3.toInt ≤ 8 → (y210_4.toInt < zfxc31_0_0.toInt) → tw_fr kp L [(9, 2), (9, 3), (9, 4)] [] Eg113 Eg210 → up_ok Eg210 a0 (zfxc31_0_0.toInt) → tw_H D cs kp L Eg210 A H → va_S A s.heap H locs → lv_has ls 7 [(5, .int y20_5), (4, .int y210_4), (3, .int y210_3), (0, .ref a0), (1, .ref a1), (2, .ref a2)] → W p l e { frames := 7, cells := 0, slots := 0, locals := 147 } s m [.ref a0, .ref a1, .ref a2].toArray below meth c H locs 0 0 (MQ below (tw_Q D cs kp0 L0 (fun v kq Lq Eq => (∃ x : Int32, v = some (.int x) ∧ (-1) ≤ x.toInt ∧ x.toInt ≤ 500 ∧ (x.toInt = -1 → 0 < fv2_1.toInt)) ∧ kp = kq ∧ L = Lq ∧ tw_fr kp L [(9, 2), (9, 3), (9, 4), (10, 0)] [102, 110, 111, 114] E Eq) A) [.ref a0, .ref a1, .ref a2].toArray s 0 0 A) (F0 m 210 ls []) := by
                    intro y210_4 y210_3 Eg210 H locs ls hy210_4a hy210_4b hy210_3a hy210_3b hin210_0 hG210 hzgxc31_0_0 TH hS hl
                    have hF := hF.tr hG210 (fun _ h => ⟨h, rfl⟩) (by decide) (by decide)
                    have hG20 := hG20.tr hG210 (fun _ h => ⟨h, rfl⟩) (by decide) (by decide)
                    have hmf44 : tw_fv Eg210 a2 1 = .int fv2_1 := (hG210.1 a2 1 hm2 (by rw [hk2]; decide)).trans hmf41
                    have hmf45 : tw_fv Eg210 a0 0 = .int zfxc31_0_0 := (hG210.1 a0 0 hm0 (by rw [hk0]; decide)).trans hmf42
                    obtain ⟨zi46, ezi46⟩ : ∃ z : Int32, z = y20_5 + Int32.ofInt 1 := ⟨_, rfl⟩
                    have hzi46 : zi46.toInt = y20_5.toInt + 1 := by rw [ezi46]; have : ((Int32.ofInt 1).toInt) = 1 := (by decide);  exact (ia_add (by omega) (by omega)).trans (by omega)
                    refine lv_iinc (v := zi46) (lv' := [(5, .int zi46), (4, .int y210_4), (3, .int y210_3), (0, .ref a0), (1, .ref a1), (2, .ref a2)]) hx hb dX10_readFrom_210 hl (k := 0) rfl ezi46.symm (by decide) rfl (fun ls hl => ?_)
                    refine lv_goto (tgt := 20) hx hb dX10_readFrom_213 (by decide) ?_
                    exact ih20 (n20 - 1) (by   omega) zi46 y210_4 y210_3 zfxc31_0_0 _ _ _ ls (by omega) (by omega) (by omega) (by omega) (by omega) (by omega) (by omega) (by omega) (by  omega) (by  omega) (by   omega) hmf45 hG20 (up_ok_cast (by  omega) hzgxc31_0_0) TH hS (lv_sub hl [0, 1, 2, 3, 4, 5] rfl)
                  have hG210 : tw_fr kp L [(9, 2), (9, 3), (9, 4)] [] Eg113 Eg113 := tw_fr.rf
                  refine lv_icmp_ne (tgt := 147) hx hb dX10_readFrom_119 (by decide) (fun hc47 => ?_) (fun hc47 => ?_)
                  · have hf48 : ¬ (xi43.toInt = 40) := fun q => hc47 ((fa_eq _ _).mpr (by have : ((40 : Int32).toInt) = 40 := (by decide); omega))
                    have hJ147 : ∀ (n147 : Nat) (y147_4 : Int32) (y147_3 : Int32) (Eg147 : Nat → va_E) (H : Heap) (locs : List Loc) (ls : Array Slot), (-1) ≤ y147_4.toInt → y147_4.toInt ≤ 149 → 1 ≤ y147_3.toInt → y147_3.toInt ≤ 8 → (zfxc31_0_0.toInt = y20_5.toInt + 1) → (y147_4.toInt < zfxc31_0_0.toInt) → y147_3.toInt ≤ (n147 : Int) → tw_fr kp L [(9, 2), (9, 3), (9, 4)] [] Eg113 Eg147 → up_ok Eg147 a0 (zfxc31_0_0.toInt) → tw_H D cs kp L Eg147 A H → va_S A s.heap H locs → lv_has ls 7 [(5, .int y20_5), (4, .int y147_4), (3, .int y147_3), (0, .ref a0), (1, .ref a1), (2, .ref a2)] → W p l e { frames := 7, cells := 0, slots := 0, locals := 147 } s m [.ref a0, .ref a1, .ref a2].toArray below meth c H locs 0 0 (MQ below (tw_Q D cs kp0 L0 (fun v kq Lq Eq => (∃ x : Int32, v = some (.int x) ∧ (-1) ≤ x.toInt ∧ x.toInt ≤ 500 ∧ (x.toInt = -1 → 0 < fv2_1.toInt)) ∧ kp = kq ∧ L = Lq ∧ tw_fr kp L [(9, 2), (9, 3), (9, 4), (10, 0)] [102, 110, 111, 114] E Eq) A) [.ref a0, .ref a1, .ref a2].toArray s 0 0 A) (F0 m 147 ls []) := by
                      intro n147
                      induction n147 using Nat.strongRecOn with
                      | _ n147 ih147 =>
                        intro y147_4 y147_3 Eg147 H locs ls hy147_4a hy147_4b hy147_3a hy147_3b hin147_0 hin147_1 hmeas147 hG147 hzgxc31_0_0 TH hS hl
                        have hF := hF.tr hG147 (fun _ h => ⟨h, rfl⟩) (by decide) (by decide)
                        have hG20 := hG20.tr hG147 (fun _ h => ⟨h, rfl⟩) (by decide) (by decide)
                        have hG210 := hG210.tr hG147 (fun _ h => ⟨h, rfl⟩) (by decide) (by decide)
                        have hmf49 : tw_fv Eg147 a2 1 = .int fv2_1 := (hG147.1 a2 1 hm2 (by rw [hk2]; decide)).trans hmf41
                        have hmf50 : tw_fv Eg147 a0 0 = .int zfxc31_0_0 := (hG147.1 a0 0 hm0 (by rw [hk0]; decide)).trans hmf42
                        refine lv_iload_n hx hb dX10_readFrom_147 rfl (lv_at hl 2 rfl) ?_
                        refine lv_iconst (v := 1) hx hb dX10_readFrom_148 (by decide) ?_
                        have hJ189 : ∀  (H : Heap) (locs : List Loc) (ls : Array Slot), tw_H D cs kp L Eg147 A H → va_S A s.heap H locs → lv_has ls 7 [(5, .int y20_5), (4, .int y147_4), (3, .int y147_3), (0, .ref a0), (1, .ref a1), (2, .ref a2)] → W p l e { frames := 7, cells := 0, slots := 0, locals := 147 } s m [.ref a0, .ref a1, .ref a2].toArray below meth c H locs 0 0 (MQ below (tw_Q D cs kp0 L0 (fun v kq Lq Eq => (∃ x : Int32, v = some (.int x) ∧ (-1) ≤ x.toInt ∧ x.toInt ≤ 500 ∧ (x.toInt = -1 → 0 < fv2_1.toInt)) ∧ kp = kq ∧ L = Lq ∧ tw_fr kp L [(9, 2), (9, 3), (9, 4), (10, 0)] [102, 110, 111, 114] E Eq) A) [.ref a0, .ref a1, .ref a2].toArray s 0 0 A) (F0 m 189 ls []) := by
                          intro H locs ls TH hS hl
                          refine lv_iload_n hx hb dX10_readFrom_189 rfl (lv_at hl 2 rfl) ?_
                          refine lv_iconst (v := 1) hx hb dX10_readFrom_190 (by decide) ?_
                          refine lv_icmp_ne (tgt := 210) hx hb dX10_readFrom_191 (by decide) (fun hc51 => ?_) (fun hc51 => ?_)
                          · have hf52 : ¬ (y147_3.toInt = 1) := fun q => hc51 ((fa_eq _ _).mpr (by have : ((1 : Int32).toInt) = 1 := (by decide); omega))
                            exact hJ210 y147_4 y147_3 _ _ _ ls (by omega) (by omega) (by omega) (by omega) (by  omega) hG210 hzgxc31_0_0 TH hS (lv_sub hl [0, 1, 2, 3, 4, 5] rfl)
                          · have hf53 : y147_3.toInt = 1 := by have z := (fa_eq _ _).mp hc51; have : ((1 : Int32).toInt) = 1 := (by decide); omega
                            refine lv_aload_n hx hb dX10_readFrom_194 rfl (lv_at hl 4 rfl) ?_
                            refine tw_get (ci := 9) (C := RX9) (T := TX9) (N := 5) hx hb hB cx_inX9 hown hK TH hm1 hk1 rfl ⟨by decide, rfl⟩ 2 (by decide) cw_42 (fun _ h9 => h9) dX10_readFrom_195 (fun hv => ?_)
                            obtain ⟨xi54, hxi54, hxi54a, hxi54b⟩ : ∃ x : Int32, tw_fv Eg147 a1 2 = .int x ∧ 0 ≤ x.toInt ∧ x.toInt ≤ 255 := hv
                            rw [hxi54]
                            refine lv_if_ne (tgt := 205) hx hb dX10_readFrom_198 (by decide) (fun hc55 => ?_) (fun hc55 => ?_)
                            · have hf56 : ¬ (xi54.toInt = 0) := fun q => hc55 ((fa_eq _ _).mpr (by have : ((0 : Int32).toInt) = 0 := (by decide); omega))
                              refine lv_aload_n hx hb dX10_readFrom_205 rfl (lv_at hl 4 rfl) ?_
                              refine tw_get (ci := 9) (C := RX9) (T := TX9) (N := 5) hx hb hB cx_inX9 hown hK TH hm1 hk1 rfl ⟨by decide, rfl⟩ 3 (by decide) cw_45 (fun _ h9 => h9) dX10_readFrom_206 (fun hv => ?_)
                              obtain ⟨xi57, hxi57, hxi57a, hxi57b⟩ : ∃ x : Int32, tw_fv Eg147 a1 3 = .int x ∧ 0 ≤ x.toInt ∧ x.toInt ≤ 500 := hv
                              rw [hxi57]
                              exact tw_iret hx hb hr hlocks TH hS hex ⟨⟨_, rfl, (show (-1) ≤ Int32.toInt xi57 from by  omega), (show Int32.toInt xi57 ≤ 500 from by  omega), (by  intro q; first | exact hkk | (exfalso; omega))⟩, rfl, rfl, hF⟩ (Nat.le_of_ble_eq_true rfl) (Nat.le_of_ble_eq_true rfl) dX10_readFrom_209
                            · have hf58 : xi54.toInt = 0 := by have z := (fa_eq _ _).mp hc55; have : ((0 : Int32).toInt) = 0 := (by decide); omega
                              refine lv_iconst (v := (-1)) hx hb dX10_readFrom_201 (by decide) ?_
                              refine lv_goto (tgt := 209) hx hb dX10_readFrom_202 (by decide) ?_
                              exact tw_iret hx hb hr hlocks TH hS hex ⟨⟨_, rfl, (show (-1) ≤ Int32.toInt (-1) from by have : (((-1) : Int32).toInt) = (-1) := (by decide); omega), (show Int32.toInt (-1) ≤ 500 from by have : (((-1) : Int32).toInt) = (-1) := (by decide); omega), (by have : (((-1) : Int32).toInt) = (-1) := (by decide); intro q; first | exact hkk | (exfalso; omega))⟩, rfl, rfl, hF⟩ (Nat.le_of_ble_eq_true rfl) (Nat.le_of_ble_eq_true rfl) dX10_readFrom_209
                        refine lv_icmp_le (tgt := 189) hx hb dX10_readFrom_149 (by decide) (fun hc59 => ?_) (fun hc59 => ?_)
                        · have hf60 : y147_3.toInt ≤ 1 := by have z := (fa_le _ _).mp hc59; have : ((1 : Int32).toInt) = 1 := (by decide); omega
                          exact hJ189  _ _ ls  TH hS (lv_sub hl [0, 1, 2, 3, 4, 5] rfl)
                        · have hf61 : ¬ (y147_3.toInt ≤ 1) := fun q => hc59 ((fa_le _ _).mpr (by have : ((1 : Int32).toInt) = 1 := (by decide); omega))
                          refine lv_aload_n hx hb dX10_readFrom_152 rfl (lv_at hl 4 rfl) ?_
                          refine tw_get (ci := 9) (C := RX9) (T := TX9) (N := 5) hx hb hB cx_inX9 hown hK TH hm1 hk1 rfl ⟨by decide, rfl⟩ 2 (by decide) cw_42 (fun _ h9 => h9) dX10_readFrom_153 (fun hv => ?_)
                          obtain ⟨xi62, hxi62, hxi62a, hxi62b⟩ : ∃ x : Int32, tw_fv Eg147 a1 2 = .int x ∧ 0 ≤ x.toInt ∧ x.toInt ≤ 255 := hv
                          rw [hxi62]
                          refine lv_bipush (v := 41) hx hb dX10_readFrom_156 (by decide) ?_
                          refine lv_icmp_ne (tgt := 189) hx hb dX10_readFrom_158 (by decide) (fun hc63 => ?_) (fun hc63 => ?_)
                          · have hf64 : ¬ (xi62.toInt = 41) := fun q => hc63 ((fa_eq _ _).mpr (by have : ((41 : Int32).toInt) = 41 := (by decide); omega))
                            exact hJ189  _ _ ls  TH hS (lv_sub hl [0, 1, 2, 3, 4, 5] rfl)
                          · have hf65 : xi62.toInt = 41 := by have z := (fa_eq _ _).mp hc63; have : ((41 : Int32).toInt) = 41 := (by decide); omega
                            obtain ⟨zi66, ezi66⟩ : ∃ z : Int32, z = y147_3 + Int32.ofInt (-1) := ⟨_, rfl⟩
                            have hzi66 : zi66.toInt = y147_3.toInt + (-1) := by rw [ezi66]; have : ((Int32.ofInt (-1)).toInt) = (-1) := (by decide);  exact (ia_add (by omega) (by omega)).trans (by omega)
                            refine lv_iinc (v := zi66) (lv' := [(3, .int zi66), (5, .int y20_5), (4, .int y147_4), (0, .ref a0), (1, .ref a1), (2, .ref a2)]) hx hb dX10_readFrom_161 hl (k := 2) rfl ezi66.symm (by decide) rfl (fun ls hl => ?_)
                            refine lv_iload hx hb dX10_readFrom_164 (lv_at hl 2 rfl) ?_
                            have hJ180 : ∀ (z180_0 : Int32) (H : Heap) (locs : List Loc) (ls : Array Slot), (-1) ≤ z180_0.toInt → z180_0.toInt ≤ 149 → (z180_0.toInt < zfxc31_0_0.toInt) → tw_H D cs kp L Eg147 A H → va_S A s.heap H locs → lv_has ls 7 [(3, .int zi66), (5, .int y20_5), (0, .ref a0), (1, .ref a1), (2, .ref a2)] → W p l e { frames := 7, cells := 0, slots := 0, locals := 147 } s m [.ref a0, .ref a1, .ref a2].toArray below meth c H locs 0 0 (MQ below (tw_Q D cs kp0 L0 (fun v kq Lq Eq => (∃ x : Int32, v = some (.int x) ∧ (-1) ≤ x.toInt ∧ x.toInt ≤ 500 ∧ (x.toInt = -1 → 0 < fv2_1.toInt)) ∧ kp = kq ∧ L = Lq ∧ tw_fr kp L [(9, 2), (9, 3), (9, 4), (10, 0)] [102, 110, 111, 114] E Eq) A) [.ref a0, .ref a1, .ref a2].toArray s 0 0 A) (F0 m 180 ls [.int z180_0]) := by
                              intro z180_0 H locs ls hz180_0a hz180_0b hin180_0 TH hS hl
                              refine lv_istore (lv' := [(4, .int z180_0), (3, .int zi66), (5, .int y20_5), (0, .ref a0), (1, .ref a1), (2, .ref a2)]) hx hb dX10_readFrom_180 hl (by decide) rfl (fun ls hl => ?_)
                              refine lv_aload_n hx hb dX10_readFrom_182 rfl (lv_at hl 4 rfl) ?_
                              refine tw_Vc (o := a1) (ci := 9) (n := 0) (post := (fun v kq Lq Eq => v = none ∧ kp = kq ∧ L = Lq ∧ tw_fr kp L [(9, 2), (9, 3), (9, 4)] [] Eg147 Eq ∧ (∃ z0 z1 : Int32, tw_fv Eq a1 3 = .int z0 ∧ tw_fv Eq a1 4 = .int z1 ∧ (z0.toInt ≤ z1.toInt)))) (As := []) (rest := []) ⟨hx, hb, hml, hown, hB⟩ (fun sz => tX9_advance l D cs a1 hm1 hk1 sz) cg_10_50_X9_advance rfl rfl (by decide +kernel) ⟨Nat.le_of_ble_eq_true rfl, Nat.le_of_ble_eq_true rfl⟩ hK hN TH hS hA rfl hm1 hk1 (by decide) rfl hl.1 rfl (Nat.le_of_ble_eq_true rfl) dX10_readFrom_183 ⟨Nat.le_of_ble_eq_true rfl, Nat.le_of_ble_eq_true rfl⟩ (fun v67 kp67 L67 E67 H locs hq67 hx67 TH hS => ?_)
                              obtain ⟨rfl, rfl, rfl, hst67, ⟨zfxc68_0_0, zfxc68_0_1, hzfxc68_0_0, hzfxc68_0_1, hzpxc68_0⟩⟩ := hq67
                              have hF := hF.tr hst67 (fun _ h => ⟨h, rfl⟩) (by decide) (by decide)
                              have hG20 := hG20.tr hst67 (fun _ h => ⟨h, rfl⟩) (by decide) (by decide)
                              have hG210 := hG210.tr hst67 (fun _ h => ⟨h, rfl⟩) (by decide) (by decide)
                              have hG147 := hG147.tr hst67 (fun _ h => ⟨h, rfl⟩) (by decide) (by decide)
                              have hmf69 : tw_fv E67 a2 1 = .int fv2_1 := (hst67.1 a2 1 hm2 (by rw [hk2]; decide)).trans hmf49
                              have hmf70 : tw_fv E67 a0 0 = .int zfxc31_0_0 := (hst67.1 a0 0 hm0 (by rw [hk0]; decide)).trans hmf50
                              have hzgxc31_0_0 : up_ok E67 a0 (zfxc31_0_0.toInt) := up_ok_fr TH hst67 hm0 hk0 (by decide) (by decide) hzgxc31_0_0
                              obtain ⟨qzfxc68_0_0, hqzfxc68_0_0, hqzfxc68_0_0a, hqzfxc68_0_0b⟩ := tw_rd TH hm1 hk1 (by decide) (by decide) (k := 3) rfl
                              have eqzfxc68_0_0 : qzfxc68_0_0 = zfxc68_0_0 := by have q := hqzfxc68_0_0.symm.trans hzfxc68_0_0; injection q
                              rw [eqzfxc68_0_0] at hqzfxc68_0_0a hqzfxc68_0_0b
                              obtain ⟨qzfxc68_0_1, hqzfxc68_0_1, hqzfxc68_0_1a, hqzfxc68_0_1b⟩ := tw_rd TH hm1 hk1 (by decide) (by decide) (k := 4) rfl
                              have eqzfxc68_0_1 : qzfxc68_0_1 = zfxc68_0_1 := by have q := hqzfxc68_0_1.symm.trans hzfxc68_0_1; injection q
                              rw [eqzfxc68_0_1] at hqzfxc68_0_1a hqzfxc68_0_1b
                              refine W.eq (g2 := F0 m 186 ls []) rfl ?_
                              refine lv_goto (tgt := 147) hx hb dX10_readFrom_186 (by decide) ?_
                              exact ih147 (n147 - 1) (by   omega) z180_0 zi66 _ _ _ ls (by omega) (by omega) (by omega) (by omega) (by  omega) (by  omega) (by   omega) hG147 hzgxc31_0_0 TH hS (lv_sub hl [2, 0, 1, 3, 4, 5] rfl)
                            refine lv_if_ge (tgt := 173) hx hb dX10_readFrom_166 (by decide) (fun hc71 => ?_) (fun hc71 => ?_)
                            · have hf72 : 0 ≤ y147_4.toInt := by have z := (fa_le _ _).mp hc71; have : ((0 : Int32).toInt) = 0 := (by decide); omega
                              refine lv_aload_n hx hb dX10_readFrom_173 rfl (lv_at hl 3 rfl) ?_
                              refine tw_get (ci := 10) (C := RX10) (T := TX10) (N := 8) hx hb hB cx_inX10 hown hK TH hm0 hk0 rfl ⟨by decide, rfl⟩ 2 (by decide) cw_127 (fun _ h9 => h9) dX10_readFrom_174 (fun hv => ?_)
                              obtain ⟨xr73, hxr73, hmxr73, hkxr73⟩ : ∃ a : Nat, tw_fv Eg147 a0 2 = .ref a ∧ a ∈ L ∧ kp a = 111 := hv
                              rw [hxr73]
                              refine lv_iload hx hb dX10_readFrom_177 (lv_at hl 2 rfl) ?_
                              refine tw_iald (k := 111) (t0 := 0) (n := 40) (lo := (-1)) (hi := 149) hx hb hK TH hmxr73 hkxr73 (by decide) rfl rfl (i := y147_4) (vp_in_iff.mpr ⟨by  omega, by  omega⟩) dX10_readFrom_179 (fun hxe74a hxe74b => ?_)
                              obtain ⟨xe74, exe74⟩ : ∃ z : Int32, tw_iv Eg147 xr73 (Int32.toNatClampNeg y147_4) = z := ⟨_, rfl⟩
                              rw [exe74] at hxe74a hxe74b ⊢
                              have hnt := ia_tn (i := y147_4) (by omega)
                              have htt := hzgxc31_0_0 (Int32.toNatClampNeg y147_4) (by omega)
                              rw [tw_el_of hxr73, exe74] at htt
                              exact hJ180 xe74 _ _ ls (by omega) (by omega) (by  omega) TH hS (lv_sub hl [0, 1, 3, 4, 5] rfl)
                            · have hf75 : ¬ (0 ≤ y147_4.toInt) := fun q => hc71 ((fa_le _ _).mpr (by have : ((0 : Int32).toInt) = 0 := (by decide); omega))
                              refine lv_iconst (v := (-1)) hx hb dX10_readFrom_169 (by decide) ?_
                              refine lv_goto (tgt := 180) hx hb dX10_readFrom_170 (by decide) ?_
                              exact hJ180 ((-1) : Int32) _ _ ls (by have : (((-1) : Int32).toInt) = (-1) := (by decide); omega) (by have : (((-1) : Int32).toInt) = (-1) := (by decide); omega) (by have : (((-1) : Int32).toInt) = (-1) := (by decide); omega) TH hS (lv_sub hl [0, 1, 3, 4, 5] rfl)
                    exact hJ147 9 y20_4 y20_3 _ _ _ ls (by omega) (by omega) (by omega) (by omega) (by  omega) (by  omega) (by   omega) tw_fr.rf hzgxc31_0_0 TH hS (lv_sub hl [0, 1, 2, 3, 4, 5] rfl)
                  · have hf76 : xi43.toInt = 40 := by have z := (fa_eq _ _).mp hc47; have : ((40 : Int32).toInt) = 40 := (by decide); omega
                    refine lv_iload_n hx hb dX10_readFrom_122 rfl (lv_at hl 2 rfl) ?_
                    refine lv_bipush (v := 8) hx hb dX10_readFrom_123 (by decide) ?_
                    refine lv_icmp_lt (tgt := 133) hx hb dX10_readFrom_125 (by decide) (fun hc77 => ?_) (fun hc77 => ?_)
                    · have hf78 : y20_3.toInt < 8 := by have z := (fa_lt _ _).mp hc77; have : ((8 : Int32).toInt) = 8 := (by decide); omega
                      obtain ⟨zi79, ezi79⟩ : ∃ z : Int32, z = y20_3 + Int32.ofInt 1 := ⟨_, rfl⟩
                      have hzi79 : zi79.toInt = y20_3.toInt + 1 := by rw [ezi79]; have : ((Int32.ofInt 1).toInt) = 1 := (by decide);  exact (ia_add (by omega) (by omega)).trans (by omega)
                      refine lv_iinc (v := zi79) (lv' := [(3, .int zi79), (5, .int y20_5), (4, .int y20_4), (0, .ref a0), (1, .ref a1), (2, .ref a2)]) hx hb dX10_readFrom_133 hl (k := 2) rfl ezi79.symm (by decide) rfl (fun ls hl => ?_)
                      refine lv_iload hx hb dX10_readFrom_136 (lv_at hl 1 rfl) ?_
                      refine lv_istore (lv' := [(4, .int y20_5), (3, .int zi79), (5, .int y20_5), (0, .ref a0), (1, .ref a1), (2, .ref a2)]) hx hb dX10_readFrom_138 hl (by decide) rfl (fun ls hl => ?_)
                      refine lv_aload_n hx hb dX10_readFrom_140 rfl (lv_at hl 4 rfl) ?_
                      refine tw_Vc (o := a1) (ci := 9) (n := 0) (post := (fun v kq Lq Eq => v = none ∧ kp = kq ∧ L = Lq ∧ tw_fr kp L [(9, 2), (9, 3), (9, 4)] [] Eg113 Eq ∧ (∃ z0 z1 : Int32, tw_fv Eq a1 3 = .int z0 ∧ tw_fv Eq a1 4 = .int z1 ∧ (z0.toInt ≤ z1.toInt)))) (As := []) (rest := []) ⟨hx, hb, hml, hown, hB⟩ (fun sz => tX9_advance l D cs a1 hm1 hk1 sz) cg_10_50_X9_advance rfl rfl (by decide +kernel) ⟨Nat.le_of_ble_eq_true rfl, Nat.le_of_ble_eq_true rfl⟩ hK hN TH hS hA rfl hm1 hk1 (by decide) rfl hl.1 rfl (Nat.le_of_ble_eq_true rfl) dX10_readFrom_141 ⟨Nat.le_of_ble_eq_true rfl, Nat.le_of_ble_eq_true rfl⟩ (fun v80 kp80 L80 E80 H locs hq80 hx80 TH hS => ?_)
                      obtain ⟨rfl, rfl, rfl, hst80, ⟨zfxc81_0_0, zfxc81_0_1, hzfxc81_0_0, hzfxc81_0_1, hzpxc81_0⟩⟩ := hq80
                      have hF := hF.tr hst80 (fun _ h => ⟨h, rfl⟩) (by decide) (by decide)
                      have hG20 := hG20.tr hst80 (fun _ h => ⟨h, rfl⟩) (by decide) (by decide)
                      have hG210 := hG210.tr hst80 (fun _ h => ⟨h, rfl⟩) (by decide) (by decide)
                      have hmf82 : tw_fv E80 a2 1 = .int fv2_1 := (hst80.1 a2 1 hm2 (by rw [hk2]; decide)).trans hmf41
                      have hmf83 : tw_fv E80 a0 0 = .int zfxc31_0_0 := (hst80.1 a0 0 hm0 (by rw [hk0]; decide)).trans hmf42
                      have hzgxc31_0_0 : up_ok E80 a0 (zfxc31_0_0.toInt) := up_ok_fr TH hst80 hm0 hk0 (by decide) (by decide) hzgxc31_0_0
                      obtain ⟨qzfxc81_0_0, hqzfxc81_0_0, hqzfxc81_0_0a, hqzfxc81_0_0b⟩ := tw_rd TH hm1 hk1 (by decide) (by decide) (k := 3) rfl
                      have eqzfxc81_0_0 : qzfxc81_0_0 = zfxc81_0_0 := by have q := hqzfxc81_0_0.symm.trans hzfxc81_0_0; injection q
                      rw [eqzfxc81_0_0] at hqzfxc81_0_0a hqzfxc81_0_0b
                      obtain ⟨qzfxc81_0_1, hqzfxc81_0_1, hqzfxc81_0_1a, hqzfxc81_0_1b⟩ := tw_rd TH hm1 hk1 (by decide) (by decide) (k := 4) rfl
                      have eqzfxc81_0_1 : qzfxc81_0_1 = zfxc81_0_1 := by have q := hqzfxc81_0_1.symm.trans hzfxc81_0_1; injection q
                      rw [eqzfxc81_0_1] at hqzfxc81_0_1a hqzfxc81_0_1b
                      refine W.eq (g2 := F0 m 144 ls []) rfl ?_
                      refine lv_goto (tgt := 210) hx hb dX10_readFrom_144 (by decide) ?_
                      exact hJ210 y20_5 zi79 _ _ _ ls (by omega) (by omega) (by omega) (by omega) (by  omega) hG210 hzgxc31_0_0 TH hS (lv_sub hl [2, 0, 1, 3, 4, 5] rfl)
                    · have hf84 : ¬ (y20_3.toInt < 8) := fun q => hc77 ((fa_lt _ _).mpr (by have : ((8 : Int32).toInt) = 8 := (by decide); omega))
                      refine lv_aload_n hx hb dX10_readFrom_128 rfl (lv_at hl 4 rfl) ?_
                      refine tw_get (ci := 9) (C := RX9) (T := TX9) (N := 5) hx hb hB cx_inX9 hown hK TH hm1 hk1 rfl ⟨by decide, rfl⟩ 3 (by decide) cw_45 (fun _ h9 => h9) dX10_readFrom_129 (fun hv => ?_)
                      obtain ⟨xi85, hxi85, hxi85a, hxi85b⟩ : ∃ x : Int32, tw_fv Eg113 a1 3 = .int x ∧ 0 ≤ x.toInt ∧ x.toInt ≤ 500 := hv
                      rw [hxi85]
                      exact tw_iret hx hb hr hlocks TH hS hex ⟨⟨_, rfl, (show (-1) ≤ Int32.toInt xi85 from by  omega), (show Int32.toInt xi85 ≤ 500 from by  omega), (by  intro q; first | exact hkk | (exfalso; omega))⟩, rfl, rfl, hF⟩ (Nat.le_of_ble_eq_true rfl) (Nat.le_of_ble_eq_true rfl) dX10_readFrom_132
                have hG113 : tw_fr kp L [(9, 2), (9, 3), (9, 4)] [102] E34 E34 := tw_fr.rf
                refine lv_icmp_ne (tgt := 113) hx hb dX10_readFrom_95 (by decide) (fun hc86 => ?_) (fun hc86 => ?_)
                · have hf87 : ¬ (xi38.toInt = 4) := fun q => hc86 ((fa_eq _ _).mpr (by have : ((4 : Int32).toInt) = 4 := (by decide); omega))
                  exact hJ113  _ _ _ ls hG113 hzgxc31_0_0 TH hS (lv_sub hl [1, 2, 3, 4, 5, 6] rfl)
                · have hf88 : xi38.toInt = 4 := by have z := (fa_eq _ _).mp hc86; have : ((4 : Int32).toInt) = 4 := (by decide); omega
                  refine lv_aload_n hx hb dX10_readFrom_98 rfl (lv_at hl 4 rfl) ?_
                  refine tw_get (ci := 10) (C := RX10) (T := TX10) (N := 8) hx hb hB cx_inX10 hown hK TH hm0 hk0 rfl ⟨by decide, rfl⟩ 6 (by decide) cw_144 (fun _ h9 => h9) dX10_readFrom_99 (fun hv => ?_)
                  obtain ⟨xr89, hxr89, hmxr89, hkxr89⟩ : ∃ a : Nat, tw_fv E34 a0 6 = .ref a ∧ a ∈ L ∧ kp a = 102 := hv
                  rw [hxr89]
                  refine lv_iload hx hb dX10_readFrom_102 (lv_at hl 1 rfl) ?_
                  refine lv_aload_n hx hb dX10_readFrom_104 rfl (lv_at hl 5 rfl) ?_
                  refine tw_Vc (o := a1) (ci := 9) (n := 0) (post := (fun v kq Lq Eq => (∃ x : Int64, v = some (.long x)) ∧ kp = kq ∧ L = Lq ∧ E34 = Eq)) (As := []) (rest := [.int y20_5, .ref xr89]) ⟨hx, hb, hml, hown, hB⟩ (fun sz => tX9_wordHere l D cs a1 hm1 hk1 sz) cg_10_72_X9_wordHere rfl rfl (by decide +kernel) ⟨Nat.le_of_ble_eq_true rfl, Nat.le_of_ble_eq_true rfl⟩ hK hN TH hS hA rfl hm1 hk1 (by decide) rfl hl.1 rfl (Nat.le_of_ble_eq_true rfl) dX10_readFrom_105 ⟨Nat.le_of_ble_eq_true rfl, Nat.le_of_ble_eq_true rfl⟩ (fun v90 kp90 L90 E90 H locs hq90 hx90 TH hS => ?_)
                  obtain ⟨⟨xc91, rfl⟩, rfl, rfl, rfl⟩ := hq90
                  refine W.eq (g2 := F0 m 108 ls [.long xc91, .int y20_5, .ref xr89]) rfl ?_
                  refine tw_last (k := 102) (n := 40) (lo := 0) (hi := 0) hx hb hK TH hS hmxr89 hkxr89 (by decide) rfl (i := y20_5) (x := xc91) (vp_in_iff.mpr ⟨by  omega, by  omega⟩) dX10_readFrom_108 (fun H locs E92 TH hS hp93 hp94  => ?_)
                  have hst95 : tw_fr kp L [] [102] E34 E92 := tw_fr.ast tw_fr.rf (fun _ => hkxr89) hp93 hp94 (by decide)
                  have hF := hF.tr hst95 (fun _ h => ⟨h, rfl⟩) (by decide) (by decide)
                  have hG20 := hG20.tr hst95 (fun _ h => ⟨h, rfl⟩) (by decide) (by decide)
                  have hG113 := hG113.tr hst95 (fun _ h => ⟨h, rfl⟩) (by decide) (by decide)
                  have hmf96 : tw_fv E92 a2 1 = .int fv2_1 := (hst95.1 a2 1 hm2 (by rw [hk2]; decide)).trans hmf36
                  have hmf97 : tw_fv E92 a0 0 = .int zfxc31_0_0 := (hst95.1 a0 0 hm0 (by rw [hk0]; decide)).trans hmf37
                  have hmf98 : tw_fv E92 a1 3 = .int zfxc35_0_0 := (hst95.1 a1 3 hm1 (by rw [hk1]; decide)).trans hzfxc35_0_0
                  have hmf99 : tw_fv E92 a1 4 = .int zfxc35_0_1 := (hst95.1 a1 4 hm1 (by rw [hk1]; decide)).trans hzfxc35_0_1
                  have hmf100 : tw_fv E92 a1 2 = .int xi38 := (hst95.1 a1 2 hm1 (by rw [hk1]; decide)).trans hxi38
                  have hmf101 : tw_fv E92 a0 6 = .ref xr89 := (hst95.1 a0 6 hm0 (by rw [hk0]; decide)).trans hxr89
                  have hzgxc31_0_0 : up_ok E92 a0 (zfxc31_0_0.toInt) := up_ok_fr TH hst95 hm0 hk0 (by decide) (by decide) hzgxc31_0_0
                  refine lv_aload_n hx hb dX10_readFrom_109 rfl (lv_at hl 5 rfl) ?_
                  refine tw_Vc (o := a1) (ci := 9) (n := 0) (post := (fun v kq Lq Eq => v = none ∧ kp = kq ∧ L = Lq ∧ tw_fr kp L [(9, 2), (9, 3), (9, 4)] [] E92 Eq ∧ (∃ z0 z1 : Int32, tw_fv Eq a1 3 = .int z0 ∧ tw_fv Eq a1 4 = .int z1 ∧ (z0.toInt ≤ z1.toInt)))) (As := []) (rest := []) ⟨hx, hb, hml, hown, hB⟩ (fun sz => tX9_advance l D cs a1 hm1 hk1 sz) cg_10_50_X9_advance rfl rfl (by decide +kernel) ⟨Nat.le_of_ble_eq_true rfl, Nat.le_of_ble_eq_true rfl⟩ hK hN TH hS hA rfl hm1 hk1 (by decide) rfl hl.1 rfl (Nat.le_of_ble_eq_true rfl) dX10_readFrom_110 ⟨Nat.le_of_ble_eq_true rfl, Nat.le_of_ble_eq_true rfl⟩ (fun v102 kp102 L102 E102 H locs hq102 hx102 TH hS => ?_)
                  obtain ⟨rfl, rfl, rfl, hst102, ⟨zfxc103_0_0, zfxc103_0_1, hzfxc103_0_0, hzfxc103_0_1, hzpxc103_0⟩⟩ := hq102
                  have hF := hF.tr hst102 (fun _ h => ⟨h, rfl⟩) (by decide) (by decide)
                  have hG20 := hG20.tr hst102 (fun _ h => ⟨h, rfl⟩) (by decide) (by decide)
                  have hG113 := hG113.tr hst102 (fun _ h => ⟨h, rfl⟩) (by decide) (by decide)
                  have hmf104 : tw_fv E102 a2 1 = .int fv2_1 := (hst102.1 a2 1 hm2 (by rw [hk2]; decide)).trans hmf96
                  have hmf105 : tw_fv E102 a0 0 = .int zfxc31_0_0 := (hst102.1 a0 0 hm0 (by rw [hk0]; decide)).trans hmf97
                  have hmf106 : tw_fv E102 a0 6 = .ref xr89 := (hst102.1 a0 6 hm0 (by rw [hk0]; decide)).trans hmf101
                  have hzgxc31_0_0 : up_ok E102 a0 (zfxc31_0_0.toInt) := up_ok_fr TH hst102 hm0 hk0 (by decide) (by decide) hzgxc31_0_0
                  obtain ⟨qzfxc103_0_0, hqzfxc103_0_0, hqzfxc103_0_0a, hqzfxc103_0_0b⟩ := tw_rd TH hm1 hk1 (by decide) (by decide) (k := 3) rfl
                  have eqzfxc103_0_0 : qzfxc103_0_0 = zfxc103_0_0 := by have q := hqzfxc103_0_0.symm.trans hzfxc103_0_0; injection q
                  rw [eqzfxc103_0_0] at hqzfxc103_0_0a hqzfxc103_0_0b
                  obtain ⟨qzfxc103_0_1, hqzfxc103_0_1, hqzfxc103_0_1a, hqzfxc103_0_1b⟩ := tw_rd TH hm1 hk1 (by decide) (by decide) (k := 4) rfl
                  have eqzfxc103_0_1 : qzfxc103_0_1 = zfxc103_0_1 := by have q := hqzfxc103_0_1.symm.trans hzfxc103_0_1; injection q
                  rw [eqzfxc103_0_1] at hqzfxc103_0_1a hqzfxc103_0_1b
                  refine W.eq (g2 := F0 m 113 ls []) rfl ?_
                  exact hJ113  _ _ _ ls hG113 hzgxc31_0_0 TH hS (lv_sub hl [1, 2, 3, 4, 5, 6] rfl)
              · have hf107 : xi38.toInt = 5 := by have z := (fa_eq _ _).mp hc39; have : ((5 : Int32).toInt) = 5 := (by decide); omega
                refine lv_aload_n hx hb dX10_readFrom_85 rfl (lv_at hl 5 rfl) ?_
                refine tw_get (ci := 9) (C := RX9) (T := TX9) (N := 5) hx hb hB cx_inX9 hown hK TH hm1 hk1 rfl ⟨by decide, rfl⟩ 1 (by decide) cw_39 (fun _ h9 => h9) dX10_readFrom_86 (fun hv => ?_)
                obtain ⟨xi108, hxi108, hxi108a, hxi108b⟩ : ∃ x : Int32, tw_fv E34 a1 1 = .int x ∧ 0 ≤ x.toInt ∧ x.toInt ≤ 500 := hv
                rw [hxi108]
                exact tw_iret hx hb hr hlocks TH hS hex ⟨⟨_, rfl, (show (-1) ≤ Int32.toInt xi108 from by  omega), (show Int32.toInt xi108 ≤ 500 from by  omega), (by  intro q; first | exact hkk | (exfalso; omega))⟩, rfl, rfl, hF⟩ (Nat.le_of_ble_eq_true rfl) (Nat.le_of_ble_eq_true rfl) dX10_readFrom_89
            · have hf109 : xc18.toInt = (-1) := by have z := (fa_eq _ _).mp hc28; have : (((-1) : Int32).toInt) = (-1) := (by decide); omega
              refine lv_aload_n hx hb dX10_readFrom_57 rfl (lv_at hl 5 rfl) ?_
              refine tw_get (ci := 9) (C := RX9) (T := TX9) (N := 5) hx hb hB cx_inX9 hown hK TH hm1 hk1 rfl ⟨by decide, rfl⟩ 3 (by decide) cw_45 (fun _ h9 => h9) dX10_readFrom_58 (fun hv => ?_)
              obtain ⟨xi110, hxi110, hxi110a, hxi110b⟩ : ∃ x : Int32, tw_fv Eg20 a1 3 = .int x ∧ 0 ≤ x.toInt ∧ x.toInt ≤ 500 := hv
              rw [hxi110]
              exact tw_iret hx hb hr hlocks TH hS hex ⟨⟨_, rfl, (show (-1) ≤ Int32.toInt xi110 from by  omega), (show Int32.toInt xi110 ≤ 500 from by  omega), (by  intro q; first | exact hkk | (exfalso; omega))⟩, rfl, rfl, hF⟩ (Nat.le_of_ble_eq_true rfl) (Nat.le_of_ble_eq_true rfl) dX10_readFrom_61
  exact hJ20 26 (0 : Int32) ((-1) : Int32) (1 : Int32) zfxc2_0_0 _ _ _ ls (by have : ((0 : Int32).toInt) = 0 := (by decide); omega) (by have : ((0 : Int32).toInt) = 0 := (by decide); omega) (by have : (((-1) : Int32).toInt) = (-1) := (by decide); omega) (by have : (((-1) : Int32).toInt) = (-1) := (by decide); omega) (by have : ((1 : Int32).toInt) = 1 := (by decide); omega) (by have : ((1 : Int32).toInt) = 1 := (by decide); omega) (by omega) (by omega) (by have : (((-1) : Int32).toInt) = (-1) := (by decide); have : ((0 : Int32).toInt) = 0 := (by decide); have : ((1 : Int32).toInt) = 1 := (by decide); omega) (by have : (((-1) : Int32).toInt) = (-1) := (by decide); have : ((0 : Int32).toInt) = 0 := (by decide); have : ((1 : Int32).toInt) = 1 := (by decide); omega) (by have : (((-1) : Int32).toInt) = (-1) := (by decide); have : ((0 : Int32).toInt) = 0 := (by decide); have : ((1 : Int32).toInt) = 1 := (by decide);  omega) hmf11 tw_fr.rf (up_ok_cast (by have : (((-1) : Int32).toInt) = (-1) := (by decide); have : ((0 : Int32).toInt) = 0 := (by decide); have : ((1 : Int32).toInt) = 1 := (by decide); omega) hup) TH hS (lv_sub hl [0, 1, 2, 3, 4, 5] rfl)
set_option maxHeartbeats 4000000 in
set_option maxRecDepth 100000 in
theorem tX11_readTree_vG (l : Launch) (D : va_G) (cs : Nat → ClassId) {kp : Nat → Nat} {L : List Nat} {E : Nat → va_E} (a0 : Nat) (hm0 : a0 ∈ L) (hk0 : kp a0 = 11) (sz : Nat) : Met l yX11_readTree (.code yX11_readTree cX11_readTree 2 (some .int) :: cx_big) { frames := 8, cells := 0, slots := 0, locals := 173 } (tw_P D cs kp L E [.ref a0] sz) (tw_Q D cs kp L (fun v kq Lq Eq => (∃ x : Int32, v = some (.int x) ∧ (-1) ≤ x.toInt ∧ x.toInt ≤ 500 ∧ (x.toInt = -1 → 0 < (tw_fi E (tw_fa E a0 1) 1))) ∧ kp = kq ∧ L = Lq ∧ tw_fr kp L [(9, 2), (9, 3), (9, 4), (10, 0)] [102, 110, 111, 112, 113, 114] E Eq) (va_A (va_pl L E) sz)) 0 0 (va_A (va_pl L E) sz) := by
  refine tw_ofW (by decide) (Nat.le_of_ble_eq_true rfl) ?_
  intro p e s m below meth c A ls hx hb hr hml hB hown hlocks hK hN hA TH hS hl
  have hown : s.vm.findClass "TreeMerge" = some m.cls := hown
  have hl : lv_has ls 2 [(0, .ref a0)] := hl
  obtain ⟨kp0, ekp⟩ : ∃ z, z = kp := ⟨_, rfl⟩
  obtain ⟨L0, eL⟩ : ∃ z, z = L := ⟨_, rfl⟩
  rw [show tw_Q D cs kp L = tw_Q D cs kp0 L0 by rw [ekp, eL]]
  have hex : ∀ a : Nat, a ∈ L0 → a ∈ L ∧ kp a = kp0 a := fun a h => ⟨by rw [← eL]; exact h, by rw [ekp]⟩
  have hF : tw_fr kp L [(9, 2), (9, 3), (9, 4), (10, 0)] [102, 110, 111, 112, 113, 114] E E := tw_fr.rf
  refine lv_aload_n hx hb dX11_readTree_0 rfl (lv_at hl 0 rfl) ?_
  refine tw_get (ci := 11) (C := RX11) (T := TX11) (N := 19) hx hb hB cx_inX11 hown hK TH hm0 hk0 rfl ⟨by decide, rfl⟩ 3 (by decide) cw_386 (fun _ h9 => h9) dX11_readTree_1 (fun hv => ?_)
  obtain ⟨xr1, hxr1, hmxr1, hkxr1⟩ : ∃ a : Nat, tw_fv E a0 3 = .ref a ∧ a ∈ L ∧ kp a = 10 := hv
  rw [hxr1]
  refine lv_aload_n hx hb dX11_readTree_4 rfl (lv_at hl 0 rfl) ?_
  refine tw_get (ci := 11) (C := RX11) (T := TX11) (N := 19) hx hb hB cx_inX11 hown hK TH hm0 hk0 rfl ⟨by decide, rfl⟩ 0 (by decide) cw_383 (fun _ h9 => h9) dX11_readTree_5 (fun hv => ?_)
  obtain ⟨xr2, hxr2, hmxr2, hkxr2⟩ : ∃ a : Nat, tw_fv E a0 0 = .ref a ∧ a ∈ L ∧ kp a = 9 := hv
  rw [hxr2]
  refine lv_aload_n hx hb dX11_readTree_8 rfl (lv_at hl 0 rfl) ?_
  refine tw_get (ci := 11) (C := RX11) (T := TX11) (N := 19) hx hb hB cx_inX11 hown hK TH hm0 hk0 rfl ⟨by decide, rfl⟩ 1 (by decide) cw_384 (fun _ h9 => h9) dX11_readTree_9 (fun hv => ?_)
  obtain ⟨xr3, hxr3, hmxr3, hkxr3⟩ : ∃ a : Nat, tw_fv E a0 1 = .ref a ∧ a ∈ L ∧ kp a = 2 := hv
  rw [hxr3]
  obtain ⟨xi4, hxi4, hxi4a, hxi4b⟩ := tw_rd TH hmxr3 hkxr3 (by decide) (by decide) (k := 1) rfl
  have er0 : tw_fa E a0 1 = xr3 := tw_fa_of hxr3
  have ek0 : tw_fi E xr3 1 = xi4.toInt := tw_fi_of hxi4
  refine tw_Vc (o := xr1) (ci := 10) (n := 2) (post := (fun v kq Lq Eq => (∃ x : Int32, v = some (.int x) ∧ (-1) ≤ x.toInt ∧ x.toInt ≤ 500 ∧ (x.toInt = -1 → 0 < xi4.toInt)) ∧ kp = kq ∧ L = Lq ∧ tw_fr kp L [(9, 2), (9, 3), (9, 4), (10, 0)] [102, 110, 111, 114] E Eq)) (As := [.ref xr2, .ref xr3]) (rest := []) ⟨hx, hb, hml, hown, hB⟩ (fun sz => tX10_readFrom_vG l D cs xr1 xr2 xr3 xi4 hmxr1 hkxr1 hmxr2 hkxr2 hmxr3 hkxr3 hxi4 sz) cg_11_128_X10_readFrom rfl rfl (by decide +kernel) ⟨Nat.le_of_ble_eq_true rfl, Nat.le_of_ble_eq_true rfl⟩ hK hN TH hS hA rfl hmxr1 hkxr1 (by decide) rfl hl.1 rfl (Nat.le_of_ble_eq_true rfl) dX11_readTree_12 ⟨Nat.le_of_ble_eq_true rfl, Nat.le_of_ble_eq_true rfl⟩ (fun v5 kp5 L5 E5 H locs hq5 hx5 TH hS => ?_)
  obtain ⟨⟨xc6, rfl, hxc6a, hxc6b, hpoxc6_0⟩, rfl, rfl, hst5⟩ := hq5
  have hF := hF.tr hst5 (fun _ h => ⟨h, rfl⟩) (by decide) (by decide)
  have hmf7 : tw_fv E5 a0 3 = .ref xr1 := (hst5.1 a0 3 hm0 (by rw [hk0]; decide)).trans hxr1
  have hmf8 : tw_fv E5 a0 0 = .ref xr2 := (hst5.1 a0 0 hm0 (by rw [hk0]; decide)).trans hxr2
  have hmf9 : tw_fv E5 a0 1 = .ref xr3 := (hst5.1 a0 1 hm0 (by rw [hk0]; decide)).trans hxr3
  have hmf10 : tw_fv E5 xr3 1 = .int xi4 := (hst5.1 xr3 1 hmxr3 (by rw [hkxr3]; decide)).trans hxi4
  refine W.eq (g2 := F0 m 15 ls [.int xc6]) rfl ?_
  refine lv_istore_n (lv' := [(1, .int xc6), (0, .ref a0)]) hx hb dX11_readTree_15 rfl hl (by decide) rfl (fun ls hl => ?_)
  refine lv_iload_n hx hb dX11_readTree_16 rfl (lv_at hl 0 rfl) ?_
  refine lv_iconst (v := (-1)) hx hb dX11_readTree_17 (by decide) ?_
  refine lv_icmp_ne (tgt := 36) hx hb dX11_readTree_18 (by decide) (fun hc11 => ?_) (fun hc11 => ?_)
  · have hf12 : ¬ (xc6.toInt = (-1)) := fun q => hc11 ((fa_eq _ _).mpr (by have : (((-1) : Int32).toInt) = (-1) := (by decide); omega))
    refine lv_iload_n hx hb dX11_readTree_36 rfl (lv_at hl 0 rfl) ?_
    exact tw_iret hx hb hr hlocks TH hS hex ⟨⟨_, rfl, (show (-1) ≤ Int32.toInt xc6 from by  omega), (show Int32.toInt xc6 ≤ 500 from by  omega), (by  rw [er0, ek0]; intro q; exact hpoxc6_0 (by omega))⟩, rfl, rfl, hF⟩ (Nat.le_of_ble_eq_true rfl) (Nat.le_of_ble_eq_true rfl) dX11_readTree_37
  · have hf13 : xc6.toInt = (-1) := by have z := (fa_eq _ _).mp hc11; have : (((-1) : Int32).toInt) = (-1) := (by decide); omega
    refine lv_aload_n hx hb dX11_readTree_21 rfl (lv_at hl 1 rfl) ?_
    refine tw_get (ci := 11) (C := RX11) (T := TX11) (N := 19) hx hb hB cx_inX11 hown hK TH hm0 hk0 rfl ⟨by decide, rfl⟩ 4 (by decide) cw_387 (fun _ h9 => h9) dX11_readTree_22 (fun hv => ?_)
    obtain ⟨xr14, hxr14, hmxr14, hkxr14⟩ : ∃ a : Nat, tw_fv E5 a0 4 = .ref a ∧ a ∈ L ∧ kp a = 10 := hv
    rw [hxr14]
    refine lv_aload_n hx hb dX11_readTree_25 rfl (lv_at hl 1 rfl) ?_
    refine tw_get (ci := 11) (C := RX11) (T := TX11) (N := 19) hx hb hB cx_inX11 hown hK TH hm0 hk0 rfl ⟨by decide, rfl⟩ 3 (by decide) cw_386 (fun _ h9 => h9) dX11_readTree_26 (fun hv => ?_)
    rw [hmf7]
    refine lv_aload_n hx hb dX11_readTree_29 rfl (lv_at hl 1 rfl) ?_
    refine tw_get (ci := 11) (C := RX11) (T := TX11) (N := 19) hx hb hB cx_inX11 hown hK TH hm0 hk0 rfl ⟨by decide, rfl⟩ 1 (by decide) cw_384 (fun _ h9 => h9) dX11_readTree_30 (fun hv => ?_)
    rw [hmf9]
    refine tw_Vc (o := xr14) (ci := 10) (n := 2) (post := (fun v kq Lq Eq => v = none ∧ kp = kq ∧ L = Lq ∧ tw_fr kp L [(10, 0)] [102, 110, 111, 112, 113, 114] E5 Eq)) (As := [.ref xr1, .ref xr3]) (rest := []) ⟨hx, hb, hml, hown, hB⟩ (fun sz => tX10_arrange l D cs xr14 xr1 xr3 hmxr14 hkxr14 hmxr1 hkxr1 hmxr3 hkxr3 sz) cg_11_131_X10_arrange rfl rfl (by decide +kernel) ⟨Nat.le_of_ble_eq_true rfl, Nat.le_of_ble_eq_true rfl⟩ hK hN TH hS hA rfl hmxr14 hkxr14 (by decide) rfl hl.1 rfl (Nat.le_of_ble_eq_true rfl) dX11_readTree_33 ⟨Nat.le_of_ble_eq_true rfl, Nat.le_of_ble_eq_true rfl⟩ (fun v15 kp15 L15 E15 H locs hq15 hx15 TH hS => ?_)
    obtain ⟨rfl, rfl, rfl, hst15⟩ := hq15
    have hF := hF.tr hst15 (fun _ h => ⟨h, rfl⟩) (by decide) (by decide)
    have hmf17 : tw_fv E15 a0 3 = .ref xr1 := (hst15.1 a0 3 hm0 (by rw [hk0]; decide)).trans hmf7
    have hmf18 : tw_fv E15 a0 0 = .ref xr2 := (hst15.1 a0 0 hm0 (by rw [hk0]; decide)).trans hmf8
    have hmf19 : tw_fv E15 a0 1 = .ref xr3 := (hst15.1 a0 1 hm0 (by rw [hk0]; decide)).trans hmf9
    have hmf20 : tw_fv E15 xr3 1 = .int xi4 := (hst15.1 xr3 1 hmxr3 (by rw [hkxr3]; decide)).trans hmf10
    have hmf21 : tw_fv E15 a0 4 = .ref xr14 := (hst15.1 a0 4 hm0 (by rw [hk0]; decide)).trans hxr14
    refine W.eq (g2 := F0 m 36 ls []) rfl ?_
    refine lv_iload_n hx hb dX11_readTree_36 rfl (lv_at hl 0 rfl) ?_
    exact tw_iret hx hb hr hlocks TH hS hex ⟨⟨_, rfl, (show (-1) ≤ Int32.toInt xc6 from by  omega), (show Int32.toInt xc6 ≤ 500 from by  omega), (by  rw [er0, ek0]; intro q; exact hpoxc6_0 (by omega))⟩, rfl, rfl, hF⟩ (Nat.le_of_ble_eq_true rfl) (Nat.le_of_ble_eq_true rfl) dX11_readTree_37
set_option maxHeartbeats 4000000 in
set_option maxRecDepth 100000 in
theorem tX11_readsAndFits_vG (l : Launch) (D : va_G) (cs : Nat → ClassId) {kp : Nat → Nat} {L : List Nat} {E : Nat → va_E} (a0 : Nat) (hm0 : a0 ∈ L) (hk0 : kp a0 = 11) (hg0 : gz_ok E a0) (sz : Nat) : Met l yX11_readsAndFits (.code yX11_readsAndFits cX11_readsAndFits 1 (some .boolean) :: cx_big) { frames := 9, cells := 0, slots := 0, locals := 194 } (tw_P D cs kp L E [.ref a0] sz) (tw_Q D cs kp L (fun v kq Lq Eq => (∃ x : Int32, v = some (.int x) ∧ 0 ≤ x.toInt ∧ x.toInt ≤ 1 ∧ (x.toInt ≠ 0 → 0 < (tw_fi E (tw_fa E a0 1) 1)) ∧ gz_ok Eq a0) ∧ kp = kq ∧ L = Lq ∧ tw_fr kp L [(3, 0), (9, 2), (9, 3), (9, 4), (10, 0)] [101, 102, 110, 111, 112, 113, 114, 135] E Eq) (va_A (va_pl L E) sz)) 0 0 (va_A (va_pl L E) sz) := by
  refine tw_ofW (by decide) (Nat.le_of_ble_eq_true rfl) ?_
  intro p e s m below meth c A ls hx hb hr hml hB hown hlocks hK hN hA TH hS hl
  have hown : s.vm.findClass "TreeMerge" = some m.cls := hown
  have hl : lv_has ls 1 [(0, .ref a0)] := hl
  obtain ⟨kp0, ekp⟩ : ∃ z, z = kp := ⟨_, rfl⟩
  obtain ⟨L0, eL⟩ : ∃ z, z = L := ⟨_, rfl⟩
  rw [show tw_Q D cs kp L = tw_Q D cs kp0 L0 by rw [ekp, eL]]
  have hex : ∀ a : Nat, a ∈ L0 → a ∈ L ∧ kp a = kp0 a := fun a h => ⟨by rw [← eL]; exact h, by rw [ekp]⟩
  have hF : tw_fr kp L [(3, 0), (9, 2), (9, 3), (9, 4), (10, 0)] [101, 102, 110, 111, 112, 113, 114, 135] E E := tw_fr.rf
  refine lv_aload_n hx hb dX11_readsAndFits_0 rfl (lv_at hl 0 rfl) ?_
  refine tw_Vc (o := a0) (ci := 11) (n := 0) (post := (fun v kq Lq Eq => (∃ x : Int32, v = some (.int x) ∧ (-1) ≤ x.toInt ∧ x.toInt ≤ 500 ∧ (x.toInt = -1 → 0 < (tw_fi E (tw_fa E a0 1) 1))) ∧ kp = kq ∧ L = Lq ∧ tw_fr kp L [(9, 2), (9, 3), (9, 4), (10, 0)] [102, 110, 111, 112, 113, 114] E Eq)) (As := []) (rest := []) ⟨hx, hb, hml, hown, hB⟩ (fun sz => tX11_readTree_vG l D cs a0 hm0 hk0 sz) cg_11_113_X11_readTree rfl rfl (by decide +kernel) ⟨Nat.le_of_ble_eq_true rfl, Nat.le_of_ble_eq_true rfl⟩ hK hN TH hS hA rfl hm0 hk0 (by decide) rfl hl.1 rfl (Nat.le_of_ble_eq_true rfl) dX11_readsAndFits_1 ⟨Nat.le_of_ble_eq_true rfl, Nat.le_of_ble_eq_true rfl⟩ (fun v1 kp1 L1 E1 H locs hq1 hx1 TH hS => ?_)
  obtain ⟨⟨xc2, rfl, hxc2a, hxc2b, hpoxc2_0⟩, rfl, rfl, hst1⟩ := hq1
  have hF := hF.tr hst1 (fun _ h => ⟨h, rfl⟩) (by decide) (by decide)
  have hg0 : gz_ok E1 a0 := gz_ok_fr TH hst1 hm0 hk0 (by decide) (by decide) hg0
  refine W.eq (g2 := F0 m 4 ls [.int xc2]) rfl ?_
  refine lv_iconst (v := (-1)) hx hb dX11_readsAndFits_4 (by decide) ?_
  refine lv_icmp_ne (tgt := 31) hx hb dX11_readsAndFits_5 (by decide) (fun hc3 => ?_) (fun hc3 => ?_)
  · have hf4 : ¬ (xc2.toInt = (-1)) := fun q => hc3 ((fa_eq _ _).mpr (by have : (((-1) : Int32).toInt) = (-1) := (by decide); omega))
    refine lv_iconst (v := 0) hx hb dX11_readsAndFits_31 (by decide) ?_
    exact tw_zret hx hb hr hlocks (by decide) TH hS hex ⟨⟨_, rfl, (show 0 ≤ Int32.toInt 0 from by have : ((0 : Int32).toInt) = 0 := (by decide); omega), (show Int32.toInt 0 ≤ 1 from by have : ((0 : Int32).toInt) = 0 := (by decide); omega), (by have : ((0 : Int32).toInt) = 0 := (by decide); intro q; exact absurd (by decide) q), hg0⟩, rfl, rfl, hF⟩ (Nat.le_of_ble_eq_true rfl) (Nat.le_of_ble_eq_true rfl) dX11_readsAndFits_32
  · have hf5 : xc2.toInt = (-1) := by have z := (fa_eq _ _).mp hc3; have : (((-1) : Int32).toInt) = (-1) := (by decide); omega
    refine lv_aload_n hx hb dX11_readsAndFits_8 rfl (lv_at hl 0 rfl) ?_
    refine tw_get (ci := 11) (C := RX11) (T := TX11) (N := 19) hx hb hB cx_inX11 hown hK TH hm0 hk0 rfl ⟨by decide, rfl⟩ 4 (by decide) cw_387 (fun _ h9 => h9) dX11_readsAndFits_9 (fun hv => ?_)
    obtain ⟨xr6, hxr6, hmxr6, hkxr6⟩ : ∃ a : Nat, tw_fv E1 a0 4 = .ref a ∧ a ∈ L ∧ kp a = 10 := hv
    rw [hxr6]
    refine lv_aload_n hx hb dX11_readsAndFits_12 rfl (lv_at hl 0 rfl) ?_
    refine tw_get (ci := 11) (C := RX11) (T := TX11) (N := 19) hx hb hB cx_inX11 hown hK TH hm0 hk0 rfl ⟨by decide, rfl⟩ 1 (by decide) cw_384 (fun _ h9 => h9) dX11_readsAndFits_13 (fun hv => ?_)
    obtain ⟨xr7, hxr7, hmxr7, hkxr7⟩ : ∃ a : Nat, tw_fv E1 a0 1 = .ref a ∧ a ∈ L ∧ kp a = 2 := hv
    rw [hxr7]
    have hgm8 : gm_ok E1 xr7 := by have q := hg0; unfold gz_ok at q; rw [tw_fa_of hxr7] at q; exact q
    refine lv_aload_n hx hb dX11_readsAndFits_16 rfl (lv_at hl 0 rfl) ?_
    refine tw_get (ci := 11) (C := RX11) (T := TX11) (N := 19) hx hb hB cx_inX11 hown hK TH hm0 hk0 rfl ⟨by decide, rfl⟩ 5 (by decide) cw_388 (fun _ h9 => h9) dX11_readsAndFits_17 (fun hv => ?_)
    obtain ⟨xr9, hxr9, hmxr9, hkxr9⟩ : ∃ a : Nat, tw_fv E1 a0 5 = .ref a ∧ a ∈ L ∧ kp a = 3 := hv
    rw [hxr9]
    refine tw_Vc (o := xr6) (ci := 10) (n := 2) (post := (fun v kq Lq Eq => (∃ x : Int32, v = some (.int x) ∧ (-1) ≤ x.toInt ∧ x.toInt ≤ 39 ∧ gm_ok Eq xr7) ∧ kp = kq ∧ L = Lq ∧ tw_fr kp L [(3, 0)] [101, 102, 135] E1 Eq)) (As := [.ref xr7, .ref xr9]) (rest := []) ⟨hx, hb, hml, hown, hB⟩ (fun sz => tX10_firstBreak l D cs xr6 xr7 xr9 hmxr6 hkxr6 hmxr7 hkxr7 hmxr9 hkxr9 hgm8 sz) cg_11_124_X10_firstBreak rfl rfl (by decide +kernel) ⟨Nat.le_of_ble_eq_true rfl, Nat.le_of_ble_eq_true rfl⟩ hK hN TH hS hA rfl hmxr6 hkxr6 (by decide) rfl hl.1 rfl (Nat.le_of_ble_eq_true rfl) dX11_readsAndFits_20 ⟨Nat.le_of_ble_eq_true rfl, Nat.le_of_ble_eq_true rfl⟩ (fun v10 kp10 L10 E10 H locs hq10 hx10 TH hS => ?_)
    obtain ⟨⟨xc11, rfl, hxc11a, hxc11b, hgpxc11_0⟩, rfl, rfl, hst10⟩ := hq10
    have hF := hF.tr hst10 (fun _ h => ⟨h, rfl⟩) (by decide) (by decide)
    have hmf12 : tw_fv E10 a0 4 = .ref xr6 := (hst10.1 a0 4 hm0 (by rw [hk0]; decide)).trans hxr6
    have hmf13 : tw_fv E10 a0 1 = .ref xr7 := (hst10.1 a0 1 hm0 (by rw [hk0]; decide)).trans hxr7
    have hmf14 : tw_fv E10 a0 5 = .ref xr9 := (hst10.1 a0 5 hm0 (by rw [hk0]; decide)).trans hxr9
    have hg0 : gz_ok E10 a0 := gz_ok_fr TH hst10 hm0 hk0 (by decide) (by decide) hg0
    refine W.eq (g2 := F0 m 23 ls [.int xc11]) rfl ?_
    refine lv_iconst (v := (-1)) hx hb dX11_readsAndFits_23 (by decide) ?_
    refine lv_icmp_ne (tgt := 31) hx hb dX11_readsAndFits_24 (by decide) (fun hc15 => ?_) (fun hc15 => ?_)
    · have hf16 : ¬ (xc11.toInt = (-1)) := fun q => hc15 ((fa_eq _ _).mpr (by have : (((-1) : Int32).toInt) = (-1) := (by decide); omega))
      refine lv_iconst (v := 0) hx hb dX11_readsAndFits_31 (by decide) ?_
      exact tw_zret hx hb hr hlocks (by decide) TH hS hex ⟨⟨_, rfl, (show 0 ≤ Int32.toInt 0 from by have : ((0 : Int32).toInt) = 0 := (by decide); omega), (show Int32.toInt 0 ≤ 1 from by have : ((0 : Int32).toInt) = 0 := (by decide); omega), (by have : ((0 : Int32).toInt) = 0 := (by decide); intro q; exact absurd (by decide) q), hg0⟩, rfl, rfl, hF⟩ (Nat.le_of_ble_eq_true rfl) (Nat.le_of_ble_eq_true rfl) dX11_readsAndFits_32
    · have hf17 : xc11.toInt = (-1) := by have z := (fa_eq _ _).mp hc15; have : (((-1) : Int32).toInt) = (-1) := (by decide); omega
      refine lv_iconst (v := 1) hx hb dX11_readsAndFits_27 (by decide) ?_
      refine lv_goto (tgt := 32) hx hb dX11_readsAndFits_28 (by decide) ?_
      exact tw_zret hx hb hr hlocks (by decide) TH hS hex ⟨⟨_, rfl, (show 0 ≤ Int32.toInt 1 from by have : ((1 : Int32).toInt) = 1 := (by decide); omega), (show Int32.toInt 1 ≤ 1 from by have : ((1 : Int32).toInt) = 1 := (by decide); omega), (by have : ((1 : Int32).toInt) = 1 := (by decide); intro q; exact hpoxc2_0 (by omega)), hg0⟩, rfl, rfl, hF⟩ (Nat.le_of_ble_eq_true rfl) (Nat.le_of_ble_eq_true rfl) dX11_readsAndFits_32
set_option maxHeartbeats 4000000 in
set_option maxRecDepth 100000 in
theorem tX11_first_vG (l : Launch) (D : va_G) (cs : Nat → ClassId) {kp : Nat → Nat} {L : List Nat} {E : Nat → va_E} (a0 : Nat) (hm0 : a0 ∈ L) (hk0 : kp a0 = 11) (hg0 : gz_ok E a0) (hg1 : ss_ok E a0) (sz : Nat) : Met l yX11_first (.code yX11_first cX11_first 1 (some .int) :: cx_big) { frames := 10, cells := 8, slots := 288, locals := 214 } (tw_P D cs kp L E [.ref a0] sz) (tw_Q D cs kp L (fun v kq Lq Eq => (∃ x : Int32, v = some (.int x) ∧ ((tw_fi E (tw_fa E a0 1) 1) = 0 → tw_fi Eq (tw_fa E a0 0) 1 = (tw_fi E (tw_fa E a0 0) 1)) ∧ gz_ok Eq a0 ∧ ss_ok Eq a0) ∧ tw_fr kp L [(1, 0), (3, 0), (9, 1), (9, 2), (9, 3), (9, 4), (10, 0), (11, 15)] [101, 102, 110, 111, 112, 113, 114, 115, 135, 140, 141, 142, 150, 151, 180] E Eq) (va_A (va_pl L E) sz)) 8 288 (va_A (va_pl L E) sz) := by
  refine tw_ofW (by decide) (Nat.le_of_ble_eq_true rfl) ?_
  intro p e s m below meth c A ls hx hb hr hml hB hown hlocks hK hN hA TH hS hl
  have hown : s.vm.findClass "TreeMerge" = some m.cls := hown
  have hl : lv_has ls 1 [(0, .ref a0)] := hl
  obtain ⟨kp0, ekp⟩ : ∃ z, z = kp := ⟨_, rfl⟩
  obtain ⟨L0, eL⟩ : ∃ z, z = L := ⟨_, rfl⟩
  rw [show tw_Q D cs kp L = tw_Q D cs kp0 L0 by rw [ekp, eL]]
  have hex : ∀ a : Nat, a ∈ L0 → a ∈ L ∧ kp a = kp0 a := fun a h => ⟨by rw [← eL]; exact h, by rw [ekp]⟩
  have hF : tw_fr kp L [(1, 0), (3, 0), (9, 1), (9, 2), (9, 3), (9, 4), (10, 0), (11, 15)] [101, 102, 110, 111, 112, 113, 114, 115, 135, 140, 141, 142, 150, 151, 180] E E := tw_fr.rf
  have hexb : ∀ a : Nat, a ∈ L → a ∈ L ∧ kp a = kp a := fun a h => ⟨h, rfl⟩
  obtain ⟨xr1, hxr1, hmxr1, hkxr1⟩ := tw_ra TH hm0 hk0 (by decide) (by decide) (k := 0) rfl
  have hkxr1 : kp xr1 = 9 := hkxr1
  obtain ⟨xr2, hxr2, hmxr2, hkxr2⟩ := tw_ra TH hm0 hk0 (by decide) (by decide) (k := 1) rfl
  have hkxr2 : kp xr2 = 2 := hkxr2
  obtain ⟨xi3, hxi3, hxi3a, hxi3b⟩ := tw_rd TH hmxr2 hkxr2 (by decide) (by decide) (k := 1) rfl
  obtain ⟨xi4, hxi4, hxi4a, hxi4b⟩ := tw_rd TH hmxr1 hkxr1 (by decide) (by decide) (k := 1) rfl
  have er0 : tw_fa E a0 1 = xr2 := tw_fa_of hxr2
  have et0 : tw_fa E a0 0 = xr1 := tw_fa_of hxr1
  have ek0 : tw_fi E xr2 1 = xi3.toInt := tw_fi_of hxi3
  have en0 : tw_fi E xr1 1 = xi4.toInt := tw_fi_of hxi4
  refine lv_aload_n hx hb dX11_first_0 rfl (lv_at hl 0 rfl) ?_
  refine tw_get (ci := 11) (C := RX11) (T := TX11) (N := 19) hx hb hB cx_inX11 hown hK TH hm0 hk0 rfl ⟨by decide, rfl⟩ 7 (by decide) cw_390 (fun _ h9 => h9) dX11_first_1 (fun hv => ?_)
  obtain ⟨xr5, hxr5, hmxr5, hkxr5⟩ : ∃ a : Nat, tw_fv E a0 7 = .ref a ∧ a ∈ L ∧ kp a = 1 := hv
  rw [hxr5]
  refine tw_Vc (o := xr5) (ci := 1) (n := 0) (post := (fun v kq Lq Eq => (∃ x : Int32, v = some (.int x) ∧ 0 ≤ x.toInt ∧ x.toInt ≤ 1 ∧ (∃ z0 : Int32, tw_fv Eq xr5 0 = .int z0 ∧ (x.toInt = 0 → z0.toInt ≤ 11))) ∧ kp = kq ∧ L = Lq ∧ E = Eq)) (As := []) (rest := []) ⟨hx, hb, hml, hown, hB⟩ (fun sz => tX1_isFull l D cs xr5 hmxr5 hkxr5 sz) cg_11_135_X1_isFull rfl rfl (by decide +kernel) ⟨Nat.le_of_ble_eq_true rfl, Nat.le_of_ble_eq_true rfl⟩ hK hN TH hS hA rfl hmxr5 hkxr5 (by decide) rfl hl.1 rfl (Nat.le_of_ble_eq_true rfl) dX11_first_4 ⟨Nat.le_of_ble_eq_true rfl, Nat.le_of_ble_eq_true rfl⟩ (fun v6 kp6 L6 E6 H locs hq6 hx6 TH hS => ?_)
  obtain ⟨⟨xc7, rfl, hxc7a, hxc7b, ⟨zfxc7_0_0, hzfxc7_0_0, hzpxc7_0⟩⟩, rfl, rfl, rfl⟩ := hq6
  obtain ⟨qzfxc7_0_0, hqzfxc7_0_0, hqzfxc7_0_0a, hqzfxc7_0_0b⟩ := tw_rd TH hmxr5 hkxr5 (by decide) (by decide) (k := 0) rfl
  have eqzfxc7_0_0 : qzfxc7_0_0 = zfxc7_0_0 := by have q := hqzfxc7_0_0.symm.trans hzfxc7_0_0; injection q
  rw [eqzfxc7_0_0] at hqzfxc7_0_0a hqzfxc7_0_0b
  refine W.eq (g2 := F0 m 7 ls [.int xc7]) rfl ?_
  refine lv_if_ne (tgt := 17) hx hb dX11_first_7 (by decide) (fun hc8 => ?_) (fun hc8 => ?_)
  · have hf9 : ¬ (xc7.toInt = 0) := fun q => hc8 ((fa_eq _ _).mpr (by have : ((0 : Int32).toInt) = 0 := (by decide); omega))
    refine lv_iconst (v := (-1)) hx hb dX11_first_17 (by decide) ?_
    exact tw_iret hx hb hr hlocks TH hS hex ⟨⟨_, rfl, (by have : (((-1) : Int32).toInt) = (-1) := (by decide); intro _; rfl), hg0, hg1⟩, hF⟩ (Nat.le_of_ble_eq_true rfl) (Nat.le_of_ble_eq_true rfl) dX11_first_18
  · have hf10 : xc7.toInt = 0 := by have z := (fa_eq _ _).mp hc8; have : ((0 : Int32).toInt) = 0 := (by decide); omega
    refine lv_aload_n hx hb dX11_first_10 rfl (lv_at hl 0 rfl) ?_
    have hF11 : tw_fr kp L [(3, 0), (9, 2), (9, 3), (9, 4), (10, 0)] [101, 102, 110, 111, 112, 113, 114, 135] E E := tw_fr.rf
    refine tw_Vc (o := a0) (ci := 11) (n := 0) (post := (fun v kq Lq Eq => (∃ x : Int32, v = some (.int x) ∧ 0 ≤ x.toInt ∧ x.toInt ≤ 1 ∧ (x.toInt ≠ 0 → 0 < (tw_fi E (tw_fa E a0 1) 1)) ∧ gz_ok Eq a0) ∧ kp = kq ∧ L = Lq ∧ tw_fr kp L [(3, 0), (9, 2), (9, 3), (9, 4), (10, 0)] [101, 102, 110, 111, 112, 113, 114, 135] E Eq)) (As := []) (rest := []) ⟨hx, hb, hml, hown, hB⟩ (fun sz => tX11_readsAndFits_vG l D cs a0 hm0 hk0 hg0 sz) cg_11_139_X11_readsAndFits rfl rfl (by decide +kernel) ⟨Nat.le_of_ble_eq_true rfl, Nat.le_of_ble_eq_true rfl⟩ hK hN TH hS hA rfl hm0 hk0 (by decide) rfl hl.1 rfl (Nat.le_of_ble_eq_true rfl) dX11_first_11 ⟨Nat.le_of_ble_eq_true rfl, Nat.le_of_ble_eq_true rfl⟩ (fun v11 kp11 L11 E11 H locs hq11 hx11 TH hS => ?_)
    obtain ⟨⟨xc12, rfl, hxc12a, hxc12b, hpoxc12_0, hgpxc12_0⟩, rfl, rfl, hst11⟩ := hq11
    have hF := hF.tr hst11 (fun _ h => ⟨h, rfl⟩) (by decide) (by decide)
    have hF11 := hF11.tr hst11 (fun _ h => ⟨h, rfl⟩) (by decide) (by decide)
    have hmf13 : tw_fv E11 a0 0 = .ref xr1 := (hst11.1 a0 0 hm0 (by rw [hk0]; decide)).trans hxr1
    have hmf14 : tw_fv E11 a0 1 = .ref xr2 := (hst11.1 a0 1 hm0 (by rw [hk0]; decide)).trans hxr2
    have hmf15 : tw_fv E11 xr2 1 = .int xi3 := (hst11.1 xr2 1 hmxr2 (by rw [hkxr2]; decide)).trans hxi3
    have hmf16 : tw_fv E11 xr1 1 = .int xi4 := (hst11.1 xr1 1 hmxr1 (by rw [hkxr1]; decide)).trans hxi4
    have hmf17 : tw_fv E11 a0 7 = .ref xr5 := (hst11.1 a0 7 hm0 (by rw [hk0]; decide)).trans hxr5
    have hmf18 : tw_fv E11 xr5 0 = .int zfxc7_0_0 := (hst11.1 xr5 0 hmxr5 (by rw [hkxr5]; decide)).trans hzfxc7_0_0
    have hg1 : ss_ok E11 a0 := ss_ok_fr TH hst11 hm0 hk0 (by decide) (by decide) hg1
    refine W.eq (g2 := F0 m 14 ls [.int xc12]) rfl ?_
    refine lv_if_ne (tgt := 19) hx hb dX11_first_14 (by decide) (fun hc19 => ?_) (fun hc19 => ?_)
    · have hf20 : ¬ (xc12.toInt = 0) := fun q => hc19 ((fa_eq _ _).mpr (by have : ((0 : Int32).toInt) = 0 := (by decide); omega))
      refine lv_aload_n hx hb dX11_first_19 rfl (lv_at hl 0 rfl) ?_
      refine tw_get (ci := 11) (C := RX11) (T := TX11) (N := 19) hx hb hB cx_inX11 hown hK TH hm0 hk0 rfl ⟨by decide, rfl⟩ 6 (by decide) cw_389 (fun _ h9 => h9) dX11_first_20 (fun hv => ?_)
      obtain ⟨xr21, hxr21, hmxr21, hkxr21⟩ : ∃ a : Nat, tw_fv E11 a0 6 = .ref a ∧ a ∈ L ∧ kp a = 4 := hv
      rw [hxr21]
      refine tw_Vc (o := xr21) (ci := 4) (n := 0) (post := (fun v kq Lq Eq => v = none ∧ kp = kq ∧ L = Lq ∧ tw_fr kp L [] [150, 151] E11 Eq)) (As := []) (rest := []) ⟨hx, hb, hml, hown, hB⟩ (fun sz => tX4_pairNothing l D cs xr21 hmxr21 hkxr21 sz) cg_11_142_X4_pairNothing rfl rfl (by decide +kernel) ⟨Nat.le_of_ble_eq_true rfl, Nat.le_of_ble_eq_true rfl⟩ hK hN TH hS hA rfl hmxr21 hkxr21 (by decide) rfl hl.1 rfl (Nat.le_of_ble_eq_true rfl) dX11_first_23 ⟨Nat.le_of_ble_eq_true rfl, Nat.le_of_ble_eq_true rfl⟩ (fun v22 kp22 L22 E22 H locs hq22 hx22 TH hS => ?_)
      obtain ⟨rfl, rfl, rfl, hst22⟩ := hq22
      have hF := hF.tr hst22 (fun _ h => ⟨h, rfl⟩) (by decide) (by decide)
      have hmf24 : tw_fv E22 a0 0 = .ref xr1 := (hst22.1 a0 0 hm0 (by rw [hk0]; decide)).trans hmf13
      have hmf25 : tw_fv E22 a0 1 = .ref xr2 := (hst22.1 a0 1 hm0 (by rw [hk0]; decide)).trans hmf14
      have hmf26 : tw_fv E22 xr2 1 = .int xi3 := (hst22.1 xr2 1 hmxr2 (by rw [hkxr2]; decide)).trans hmf15
      have hmf27 : tw_fv E22 xr1 1 = .int xi4 := (hst22.1 xr1 1 hmxr1 (by rw [hkxr1]; decide)).trans hmf16
      have hmf28 : tw_fv E22 a0 7 = .ref xr5 := (hst22.1 a0 7 hm0 (by rw [hk0]; decide)).trans hmf17
      have hmf29 : tw_fv E22 xr5 0 = .int zfxc7_0_0 := (hst22.1 xr5 0 hmxr5 (by rw [hkxr5]; decide)).trans hmf18
      have hmf30 : tw_fv E22 a0 6 = .ref xr21 := (hst22.1 a0 6 hm0 (by rw [hk0]; decide)).trans hxr21
      have hg1 : ss_ok E22 a0 := ss_ok_fr TH hst22 hm0 hk0 (by decide) (by decide) hg1
      have hgpxc12_0 : gz_ok E22 a0 := gz_ok_fr TH hst22 hm0 hk0 (by decide) (by decide) hgpxc12_0
      refine W.eq (g2 := F0 m 26 ls []) rfl ?_
      refine lv_aload_n hx hb dX11_first_26 rfl (lv_at hl 0 rfl) ?_
      refine lv_iconst (v := (-1)) hx hb dX11_first_27 (by decide) ?_
      have hTo := TH.2.2
      refine tw_Vc (o := a0) (ci := 11) (n := 1) (post := (fun v kq Lq Eq => (∃ x : Int32, v = some (.int x) ∧ (-1) ≤ x.toInt ∧ x.toInt ≤ 11 ∧ gz_ok Eq a0 ∧ ss_ok Eq a0) ∧ tw_fr kp L [(1, 0), (9, 1), (10, 0), (11, 15)] [102, 110, 111, 112, 113, 114, 115, 140, 141, 142, 180] E22 Eq)) (As := [.int (-1)]) (rest := []) ⟨hx, hb, hml, hown, hB⟩ (fun sz => tX11_comeOfText l D cs a0 ((-1) : Int32) hm0 hk0 hgpxc12_0 hg1 sz) cg_11_145_X11_comeOfText rfl rfl (by decide +kernel) ⟨Nat.le_of_ble_eq_true rfl, Nat.le_of_ble_eq_true rfl⟩ hK hN TH hS hA rfl hm0 hk0 (by decide) rfl hl.1 rfl (Nat.le_of_ble_eq_true rfl) dX11_first_28 ⟨Nat.le_of_ble_eq_true rfl, Nat.le_of_ble_eq_true rfl⟩ (fun v31 kp31 L31 E31 H locs hq31 hx31 TH hS => ?_)
      obtain ⟨⟨xc32, rfl, hxc32a, hxc32b, hgpxc32_0, hgpxc32_1⟩, hst31⟩ := hq31
      have hF := hF.tr hst31 (fun _ h => ⟨h, rfl⟩) (by decide) (by decide)
      have hex : ∀ a : Nat, a ∈ L0 → a ∈ L31 ∧ kp31 a = kp0 a := fun a h => ⟨(hx31 a (hex a h).1).1, ((hx31 a (hex a h).1).2).trans (hex a h).2⟩
      have hexb : ∀ a : Nat, a ∈ L → a ∈ L31 ∧ kp31 a = kp a := fun a h => ⟨(hx31 a (hexb a h).1).1, ((hx31 a (hexb a h).1).2).trans (hexb a h).2⟩
      have hmf33 : tw_fv E31 a0 0 = .ref xr1 := (hst31.1 a0 0 hm0 (by rw [hk0]; decide)).trans hmf24
      have hmf34 : tw_fv E31 a0 1 = .ref xr2 := (hst31.1 a0 1 hm0 (by rw [hk0]; decide)).trans hmf25
      have hmf35 : tw_fv E31 xr2 1 = .int xi3 := (hst31.1 xr2 1 hmxr2 (by rw [hkxr2]; decide)).trans hmf26
      have hmf36 : tw_fv E31 a0 7 = .ref xr5 := (hst31.1 a0 7 hm0 (by rw [hk0]; decide)).trans hmf28
      have hmf37 : tw_fv E31 a0 6 = .ref xr21 := (hst31.1 a0 6 hm0 (by rw [hk0]; decide)).trans hmf30
      have hm31_a0 := (hx31 a0 hm0).1
      have hk31_a0 : kp31 a0 = 11 := ((hx31 a0 hm0).2).trans hk0
      have hm31_xr1 := (hx31 xr1 hmxr1).1
      have hk31_xr1 : kp31 xr1 = 9 := ((hx31 xr1 hmxr1).2).trans hkxr1
      have hm31_xr2 := (hx31 xr2 hmxr2).1
      have hk31_xr2 : kp31 xr2 = 2 := ((hx31 xr2 hmxr2).2).trans hkxr2
      have hm31_xr5 := (hx31 xr5 hmxr5).1
      have hk31_xr5 : kp31 xr5 = 1 := ((hx31 xr5 hmxr5).2).trans hkxr5
      have hm31_xr21 := (hx31 xr21 hmxr21).1
      have hk31_xr21 : kp31 xr21 = 4 := ((hx31 xr21 hmxr21).2).trans hkxr21
      refine W.eq (g2 := F0 m 31 ls [.int xc32]) rfl ?_
      exact tw_iret hx hb hr hlocks TH hS hex ⟨⟨_, rfl, (by  intro q; exfalso; have w := hpoxc12_0 (by omega); omega), hgpxc32_0, hgpxc32_1⟩, hF⟩ (Nat.le_of_ble_eq_true rfl) (Nat.le_of_ble_eq_true rfl) dX11_first_31
    · have hf38 : xc12.toInt = 0 := by have z := (fa_eq _ _).mp hc19; have : ((0 : Int32).toInt) = 0 := (by decide); omega
      refine lv_iconst (v := (-1)) hx hb dX11_first_17 (by decide) ?_
      exact tw_iret hx hb hr hlocks TH hS hex ⟨⟨_, rfl, (by have : (((-1) : Int32).toInt) = (-1) := (by decide); intro _; rw [et0]; exact tw_fi_fr hF11 hmxr1 hkxr1 (by decide)), hgpxc12_0, hg1⟩, hF⟩ (Nat.le_of_ble_eq_true rfl) (Nat.le_of_ble_eq_true rfl) dX11_first_18
set_option maxHeartbeats 4000000 in
set_option maxRecDepth 100000 in
theorem tX11_next_vG (l : Launch) (D : va_G) (cs : Nat → ClassId) {kp : Nat → Nat} {L : List Nat} {E : Nat → va_E} (a0 : Nat) (x1 : Int32) (hm0 : a0 ∈ L) (hk0 : kp a0 = 11) (hg0 : gz_ok E a0) (hg1 : ss_ok E a0) (sz : Nat) : Met l yX11_next (.code yX11_next cX11_next 2 (some .int) :: cx_big) { frames := 10, cells := 8, slots := 288, locals := 235 } (tw_P D cs kp L E [.ref a0, .int x1] sz) (tw_Q D cs kp L (fun v kq Lq Eq => (∃ x : Int32, v = some (.int x) ∧ ((tw_fi E (tw_fa E a0 1) 1) = 0 → tw_fi Eq (tw_fa E a0 0) 1 = (tw_fi E (tw_fa E a0 0) 1)) ∧ gz_ok Eq a0 ∧ ss_ok Eq a0) ∧ tw_fr kp L [(1, 0), (3, 0), (4, 0), (4, 1), (4, 5), (4, 6), (9, 1), (9, 2), (9, 3), (9, 4), (10, 0), (11, 15)] [101, 102, 110, 111, 112, 113, 114, 115, 135, 140, 141, 142, 150, 151, 152, 180] E Eq) (va_A (va_pl L E) sz)) 8 288 (va_A (va_pl L E) sz) := by
  refine tw_ofW (by decide) (Nat.le_of_ble_eq_true rfl) ?_
  intro p e s m below meth c A ls hx hb hr hml hB hown hlocks hK hN hA TH hS hl
  have hown : s.vm.findClass "TreeMerge" = some m.cls := hown
  have hl : lv_has ls 2 [(0, .ref a0), (1, .int x1)] := hl
  obtain ⟨kp0, ekp⟩ : ∃ z, z = kp := ⟨_, rfl⟩
  obtain ⟨L0, eL⟩ : ∃ z, z = L := ⟨_, rfl⟩
  rw [show tw_Q D cs kp L = tw_Q D cs kp0 L0 by rw [ekp, eL]]
  have hex : ∀ a : Nat, a ∈ L0 → a ∈ L ∧ kp a = kp0 a := fun a h => ⟨by rw [← eL]; exact h, by rw [ekp]⟩
  have hF : tw_fr kp L [(1, 0), (3, 0), (4, 0), (4, 1), (4, 5), (4, 6), (9, 1), (9, 2), (9, 3), (9, 4), (10, 0), (11, 15)] [101, 102, 110, 111, 112, 113, 114, 115, 135, 140, 141, 142, 150, 151, 152, 180] E E := tw_fr.rf
  have hexb : ∀ a : Nat, a ∈ L → a ∈ L ∧ kp a = kp a := fun a h => ⟨h, rfl⟩
  obtain ⟨xr1, hxr1, hmxr1, hkxr1⟩ := tw_ra TH hm0 hk0 (by decide) (by decide) (k := 0) rfl
  have hkxr1 : kp xr1 = 9 := hkxr1
  obtain ⟨xr2, hxr2, hmxr2, hkxr2⟩ := tw_ra TH hm0 hk0 (by decide) (by decide) (k := 1) rfl
  have hkxr2 : kp xr2 = 2 := hkxr2
  obtain ⟨xi3, hxi3, hxi3a, hxi3b⟩ := tw_rd TH hmxr2 hkxr2 (by decide) (by decide) (k := 1) rfl
  obtain ⟨xi4, hxi4, hxi4a, hxi4b⟩ := tw_rd TH hmxr1 hkxr1 (by decide) (by decide) (k := 1) rfl
  have er0 : tw_fa E a0 1 = xr2 := tw_fa_of hxr2
  have et0 : tw_fa E a0 0 = xr1 := tw_fa_of hxr1
  have ek0 : tw_fi E xr2 1 = xi3.toInt := tw_fi_of hxi3
  have en0 : tw_fi E xr1 1 = xi4.toInt := tw_fi_of hxi4
  refine lv_aload_n hx hb dX11_next_0 rfl (lv_at hl 0 rfl) ?_
  refine tw_get (ci := 11) (C := RX11) (T := TX11) (N := 19) hx hb hB cx_inX11 hown hK TH hm0 hk0 rfl ⟨by decide, rfl⟩ 7 (by decide) cw_390 (fun _ h9 => h9) dX11_next_1 (fun hv => ?_)
  obtain ⟨xr5, hxr5, hmxr5, hkxr5⟩ : ∃ a : Nat, tw_fv E a0 7 = .ref a ∧ a ∈ L ∧ kp a = 1 := hv
  rw [hxr5]
  refine tw_Vc (o := xr5) (ci := 1) (n := 0) (post := (fun v kq Lq Eq => (∃ x : Int32, v = some (.int x) ∧ 0 ≤ x.toInt ∧ x.toInt ≤ 1 ∧ (∃ z0 : Int32, tw_fv Eq xr5 0 = .int z0 ∧ (x.toInt = 0 → z0.toInt ≤ 11))) ∧ kp = kq ∧ L = Lq ∧ E = Eq)) (As := []) (rest := []) ⟨hx, hb, hml, hown, hB⟩ (fun sz => tX1_isFull l D cs xr5 hmxr5 hkxr5 sz) cg_11_135_X1_isFull rfl rfl (by decide +kernel) ⟨Nat.le_of_ble_eq_true rfl, Nat.le_of_ble_eq_true rfl⟩ hK hN TH hS hA rfl hmxr5 hkxr5 (by decide) rfl hl.1 rfl (Nat.le_of_ble_eq_true rfl) dX11_next_4 ⟨Nat.le_of_ble_eq_true rfl, Nat.le_of_ble_eq_true rfl⟩ (fun v6 kp6 L6 E6 H locs hq6 hx6 TH hS => ?_)
  obtain ⟨⟨xc7, rfl, hxc7a, hxc7b, ⟨zfxc7_0_0, hzfxc7_0_0, hzpxc7_0⟩⟩, rfl, rfl, rfl⟩ := hq6
  obtain ⟨qzfxc7_0_0, hqzfxc7_0_0, hqzfxc7_0_0a, hqzfxc7_0_0b⟩ := tw_rd TH hmxr5 hkxr5 (by decide) (by decide) (k := 0) rfl
  have eqzfxc7_0_0 : qzfxc7_0_0 = zfxc7_0_0 := by have q := hqzfxc7_0_0.symm.trans hzfxc7_0_0; injection q
  rw [eqzfxc7_0_0] at hqzfxc7_0_0a hqzfxc7_0_0b
  refine W.eq (g2 := F0 m 7 ls [.int xc7]) rfl ?_
  refine lv_if_ne (tgt := 36) hx hb dX11_next_7 (by decide) (fun hc8 => ?_) (fun hc8 => ?_)
  · have hf9 : ¬ (xc7.toInt = 0) := fun q => hc8 ((fa_eq _ _).mpr (by have : ((0 : Int32).toInt) = 0 := (by decide); omega))
    refine lv_iconst (v := (-1)) hx hb dX11_next_36 (by decide) ?_
    exact tw_iret hx hb hr hlocks TH hS hex ⟨⟨_, rfl, (by have : (((-1) : Int32).toInt) = (-1) := (by decide); intro _; rfl), hg0, hg1⟩, hF⟩ (Nat.le_of_ble_eq_true rfl) (Nat.le_of_ble_eq_true rfl) dX11_next_37
  · have hf10 : xc7.toInt = 0 := by have z := (fa_eq _ _).mp hc8; have : ((0 : Int32).toInt) = 0 := (by decide); omega
    refine lv_aload_n hx hb dX11_next_10 rfl (lv_at hl 0 rfl) ?_
    refine tw_get (ci := 11) (C := RX11) (T := TX11) (N := 19) hx hb hB cx_inX11 hown hK TH hm0 hk0 rfl ⟨by decide, rfl⟩ 7 (by decide) cw_390 (fun _ h9 => h9) dX11_next_11 (fun hv => ?_)
    rw [hxr5]
    refine lv_iload_n hx hb dX11_next_14 rfl (lv_at hl 1 rfl) ?_
    refine tw_Vc (o := xr5) (ci := 1) (n := 1) (post := (fun v kq Lq Eq => (∃ x : Int32, v = some (.int x) ∧ 0 ≤ x.toInt ∧ x.toInt ≤ 1 ∧ (x.toInt ≠ 0 → 0 ≤ x1.toInt ∧ x1.toInt ≤ 11)) ∧ kp = kq ∧ L = Lq ∧ E = Eq)) (As := [.int x1]) (rest := []) ⟨hx, hb, hml, hown, hB⟩ (fun sz => tX1_has l D cs xr5 x1 hmxr5 hkxr5 sz) cg_11_165_X1_has rfl rfl (by decide +kernel) ⟨Nat.le_of_ble_eq_true rfl, Nat.le_of_ble_eq_true rfl⟩ hK hN TH hS hA rfl hmxr5 hkxr5 (by decide) rfl hl.1 rfl (Nat.le_of_ble_eq_true rfl) dX11_next_15 ⟨Nat.le_of_ble_eq_true rfl, Nat.le_of_ble_eq_true rfl⟩ (fun v11 kp11 L11 E11 H locs hq11 hx11 TH hS => ?_)
    obtain ⟨⟨xc12, rfl, hxc12a, hxc12b, hpoxc12_0⟩, rfl, rfl, rfl⟩ := hq11
    refine W.eq (g2 := F0 m 18 ls [.int xc12]) rfl ?_
    refine lv_if_eq (tgt := 36) hx hb dX11_next_18 (by decide) (fun hc13 => ?_) (fun hc13 => ?_)
    · have hf14 : xc12.toInt = 0 := by have z := (fa_eq _ _).mp hc13; have : ((0 : Int32).toInt) = 0 := (by decide); omega
      refine lv_iconst (v := (-1)) hx hb dX11_next_36 (by decide) ?_
      exact tw_iret hx hb hr hlocks TH hS hex ⟨⟨_, rfl, (by have : (((-1) : Int32).toInt) = (-1) := (by decide); intro _; rfl), hg0, hg1⟩, hF⟩ (Nat.le_of_ble_eq_true rfl) (Nat.le_of_ble_eq_true rfl) dX11_next_37
    · have hf15 : ¬ (xc12.toInt = 0) := fun q => hc13 ((fa_eq _ _).mpr (by have : ((0 : Int32).toInt) = 0 := (by decide); omega))
      refine lv_aload_n hx hb dX11_next_21 rfl (lv_at hl 0 rfl) ?_
      have hF11 : tw_fr kp L [(3, 0), (9, 2), (9, 3), (9, 4), (10, 0)] [101, 102, 110, 111, 112, 113, 114, 135] E E := tw_fr.rf
      refine tw_Vc (o := a0) (ci := 11) (n := 0) (post := (fun v kq Lq Eq => (∃ x : Int32, v = some (.int x) ∧ 0 ≤ x.toInt ∧ x.toInt ≤ 1 ∧ (x.toInt ≠ 0 → 0 < (tw_fi E (tw_fa E a0 1) 1)) ∧ gz_ok Eq a0) ∧ kp = kq ∧ L = Lq ∧ tw_fr kp L [(3, 0), (9, 2), (9, 3), (9, 4), (10, 0)] [101, 102, 110, 111, 112, 113, 114, 135] E Eq)) (As := []) (rest := []) ⟨hx, hb, hml, hown, hB⟩ (fun sz => tX11_readsAndFits_vG l D cs a0 hm0 hk0 hg0 sz) cg_11_139_X11_readsAndFits rfl rfl (by decide +kernel) ⟨Nat.le_of_ble_eq_true rfl, Nat.le_of_ble_eq_true rfl⟩ hK hN TH hS hA rfl hm0 hk0 (by decide) rfl hl.1 rfl (Nat.le_of_ble_eq_true rfl) dX11_next_22 ⟨Nat.le_of_ble_eq_true rfl, Nat.le_of_ble_eq_true rfl⟩ (fun v16 kp16 L16 E16 H locs hq16 hx16 TH hS => ?_)
      obtain ⟨⟨xc17, rfl, hxc17a, hxc17b, hpoxc17_0, hgpxc17_0⟩, rfl, rfl, hst16⟩ := hq16
      have hF := hF.tr hst16 (fun _ h => ⟨h, rfl⟩) (by decide) (by decide)
      have hF11 := hF11.tr hst16 (fun _ h => ⟨h, rfl⟩) (by decide) (by decide)
      have hmf18 : tw_fv E16 a0 0 = .ref xr1 := (hst16.1 a0 0 hm0 (by rw [hk0]; decide)).trans hxr1
      have hmf19 : tw_fv E16 a0 1 = .ref xr2 := (hst16.1 a0 1 hm0 (by rw [hk0]; decide)).trans hxr2
      have hmf20 : tw_fv E16 xr2 1 = .int xi3 := (hst16.1 xr2 1 hmxr2 (by rw [hkxr2]; decide)).trans hxi3
      have hmf21 : tw_fv E16 xr1 1 = .int xi4 := (hst16.1 xr1 1 hmxr1 (by rw [hkxr1]; decide)).trans hxi4
      have hmf22 : tw_fv E16 a0 7 = .ref xr5 := (hst16.1 a0 7 hm0 (by rw [hk0]; decide)).trans hxr5
      have hmf23 : tw_fv E16 xr5 0 = .int zfxc7_0_0 := (hst16.1 xr5 0 hmxr5 (by rw [hkxr5]; decide)).trans hzfxc7_0_0
      have hg1 : ss_ok E16 a0 := ss_ok_fr TH hst16 hm0 hk0 (by decide) (by decide) hg1
      refine W.eq (g2 := F0 m 25 ls [.int xc17]) rfl ?_
      refine lv_if_eq (tgt := 36) hx hb dX11_next_25 (by decide) (fun hc24 => ?_) (fun hc24 => ?_)
      · have hf25 : xc17.toInt = 0 := by have z := (fa_eq _ _).mp hc24; have : ((0 : Int32).toInt) = 0 := (by decide); omega
        refine lv_iconst (v := (-1)) hx hb dX11_next_36 (by decide) ?_
        exact tw_iret hx hb hr hlocks TH hS hex ⟨⟨_, rfl, (by have : (((-1) : Int32).toInt) = (-1) := (by decide); intro _; rw [et0]; exact tw_fi_fr hF11 hmxr1 hkxr1 (by decide)), hgpxc17_0, hg1⟩, hF⟩ (Nat.le_of_ble_eq_true rfl) (Nat.le_of_ble_eq_true rfl) dX11_next_37
      · have hf26 : ¬ (xc17.toInt = 0) := fun q => hc24 ((fa_eq _ _).mpr (by have : ((0 : Int32).toInt) = 0 := (by decide); omega))
        refine lv_aload_n hx hb dX11_next_28 rfl (lv_at hl 0 rfl) ?_
        refine lv_iload_n hx hb dX11_next_29 rfl (lv_at hl 1 rfl) ?_
        refine tw_Vc (o := a0) (ci := 11) (n := 1) (post := (fun v kq Lq Eq => (∃ x : Int32, v = some (.int x) ∧ 0 ≤ x.toInt ∧ x.toInt ≤ 1) ∧ kp = kq ∧ L = Lq ∧ tw_fr kp L [(4, 0), (4, 1), (4, 5), (4, 6), (9, 2), (9, 3), (9, 4), (10, 0)] [102, 110, 111, 112, 113, 114, 150, 151, 152] E16 Eq)) (As := [.int x1]) (rest := []) ⟨hx, hb, hml, hown, hB⟩ (fun sz => tX11_matchText l D cs a0 x1 hm0 hk0 sz) cg_11_149_X11_matchText rfl rfl (by decide +kernel) ⟨Nat.le_of_ble_eq_true rfl, Nat.le_of_ble_eq_true rfl⟩ hK hN TH hS hA rfl hm0 hk0 (by decide) rfl hl.1 rfl (Nat.le_of_ble_eq_true rfl) dX11_next_30 ⟨Nat.le_of_ble_eq_true rfl, Nat.le_of_ble_eq_true rfl⟩ (fun v27 kp27 L27 E27 H locs hq27 hx27 TH hS => ?_)
        obtain ⟨⟨xc28, rfl, hxc28a, hxc28b⟩, rfl, rfl, hst27⟩ := hq27
        have hF := hF.tr hst27 (fun _ h => ⟨h, rfl⟩) (by decide) (by decide)
        have hmf29 : tw_fv E27 a0 0 = .ref xr1 := (hst27.1 a0 0 hm0 (by rw [hk0]; decide)).trans hmf18
        have hmf30 : tw_fv E27 a0 1 = .ref xr2 := (hst27.1 a0 1 hm0 (by rw [hk0]; decide)).trans hmf19
        have hmf31 : tw_fv E27 xr2 1 = .int xi3 := (hst27.1 xr2 1 hmxr2 (by rw [hkxr2]; decide)).trans hmf20
        have hmf32 : tw_fv E27 xr1 1 = .int xi4 := (hst27.1 xr1 1 hmxr1 (by rw [hkxr1]; decide)).trans hmf21
        have hmf33 : tw_fv E27 a0 7 = .ref xr5 := (hst27.1 a0 7 hm0 (by rw [hk0]; decide)).trans hmf22
        have hmf34 : tw_fv E27 xr5 0 = .int zfxc7_0_0 := (hst27.1 xr5 0 hmxr5 (by rw [hkxr5]; decide)).trans hmf23
        have hg1 : ss_ok E27 a0 := ss_ok_fr TH hst27 hm0 hk0 (by decide) (by decide) hg1
        have hgpxc17_0 : gz_ok E27 a0 := gz_ok_fr TH hst27 hm0 hk0 (by decide) (by decide) hgpxc17_0
        refine W.eq (g2 := F0 m 33 ls [.int xc28]) rfl ?_
        refine lv_if_ne (tgt := 38) hx hb dX11_next_33 (by decide) (fun hc35 => ?_) (fun hc35 => ?_)
        · have hf36 : ¬ (xc28.toInt = 0) := fun q => hc35 ((fa_eq _ _).mpr (by have : ((0 : Int32).toInt) = 0 := (by decide); omega))
          refine lv_aload_n hx hb dX11_next_38 rfl (lv_at hl 0 rfl) ?_
          refine lv_iload_n hx hb dX11_next_39 rfl (lv_at hl 1 rfl) ?_
          have hTo := TH.2.2
          refine tw_Vc (o := a0) (ci := 11) (n := 1) (post := (fun v kq Lq Eq => (∃ x : Int32, v = some (.int x) ∧ (-1) ≤ x.toInt ∧ x.toInt ≤ 11 ∧ gz_ok Eq a0 ∧ ss_ok Eq a0) ∧ tw_fr kp L [(1, 0), (9, 1), (10, 0), (11, 15)] [102, 110, 111, 112, 113, 114, 115, 140, 141, 142, 180] E27 Eq)) (As := [.int x1]) (rest := []) ⟨hx, hb, hml, hown, hB⟩ (fun sz => tX11_comeOfText l D cs a0 x1 hm0 hk0 hgpxc17_0 hg1 sz) cg_11_145_X11_comeOfText rfl rfl (by decide +kernel) ⟨Nat.le_of_ble_eq_true rfl, Nat.le_of_ble_eq_true rfl⟩ hK hN TH hS hA rfl hm0 hk0 (by decide) rfl hl.1 rfl (Nat.le_of_ble_eq_true rfl) dX11_next_40 ⟨Nat.le_of_ble_eq_true rfl, Nat.le_of_ble_eq_true rfl⟩ (fun v37 kp37 L37 E37 H locs hq37 hx37 TH hS => ?_)
          obtain ⟨⟨xc38, rfl, hxc38a, hxc38b, hgpxc38_0, hgpxc38_1⟩, hst37⟩ := hq37
          have hF := hF.tr hst37 (fun _ h => ⟨h, rfl⟩) (by decide) (by decide)
          have hex : ∀ a : Nat, a ∈ L0 → a ∈ L37 ∧ kp37 a = kp0 a := fun a h => ⟨(hx37 a (hex a h).1).1, ((hx37 a (hex a h).1).2).trans (hex a h).2⟩
          have hexb : ∀ a : Nat, a ∈ L → a ∈ L37 ∧ kp37 a = kp a := fun a h => ⟨(hx37 a (hexb a h).1).1, ((hx37 a (hexb a h).1).2).trans (hexb a h).2⟩
          have hmf39 : tw_fv E37 a0 0 = .ref xr1 := (hst37.1 a0 0 hm0 (by rw [hk0]; decide)).trans hmf29
          have hmf40 : tw_fv E37 a0 1 = .ref xr2 := (hst37.1 a0 1 hm0 (by rw [hk0]; decide)).trans hmf30
          have hmf41 : tw_fv E37 xr2 1 = .int xi3 := (hst37.1 xr2 1 hmxr2 (by rw [hkxr2]; decide)).trans hmf31
          have hmf42 : tw_fv E37 a0 7 = .ref xr5 := (hst37.1 a0 7 hm0 (by rw [hk0]; decide)).trans hmf33
          have hm37_a0 := (hx37 a0 hm0).1
          have hk37_a0 : kp37 a0 = 11 := ((hx37 a0 hm0).2).trans hk0
          have hm37_xr1 := (hx37 xr1 hmxr1).1
          have hk37_xr1 : kp37 xr1 = 9 := ((hx37 xr1 hmxr1).2).trans hkxr1
          have hm37_xr2 := (hx37 xr2 hmxr2).1
          have hk37_xr2 : kp37 xr2 = 2 := ((hx37 xr2 hmxr2).2).trans hkxr2
          have hm37_xr5 := (hx37 xr5 hmxr5).1
          have hk37_xr5 : kp37 xr5 = 1 := ((hx37 xr5 hmxr5).2).trans hkxr5
          refine W.eq (g2 := F0 m 43 ls [.int xc38]) rfl ?_
          exact tw_iret hx hb hr hlocks TH hS hex ⟨⟨_, rfl, (by  intro q; exfalso; have w := hpoxc17_0 (by omega); omega), hgpxc38_0, hgpxc38_1⟩, hF⟩ (Nat.le_of_ble_eq_true rfl) (Nat.le_of_ble_eq_true rfl) dX11_next_43
        · have hf43 : xc28.toInt = 0 := by have z := (fa_eq _ _).mp hc35; have : ((0 : Int32).toInt) = 0 := (by decide); omega
          refine lv_iconst (v := (-1)) hx hb dX11_next_36 (by decide) ?_
          exact tw_iret hx hb hr hlocks TH hS hex ⟨⟨_, rfl, (by have : (((-1) : Int32).toInt) = (-1) := (by decide); intro q; exfalso; have w := hpoxc17_0 (by omega); omega), hgpxc17_0, hg1⟩, hF⟩ (Nat.le_of_ble_eq_true rfl) (Nat.le_of_ble_eq_true rfl) dX11_next_37
