set_option maxHeartbeats 4000000 in
set_option maxRecDepth 100000 in
theorem tX12_isName (l : Launch) (D : va_G) (cs : Nat → ClassId) {kp : Nat → Nat} {L : List Nat} {E : Nat → va_E} (a0 : Nat) (fv0_2 : Int32) (fv0_3 : Int32) (fv0_1 : Int32) (hm0 : a0 ∈ L) (hk0 : kp a0 = 12) (hfv0_2 : tw_fv E a0 2 = .int fv0_2) (hfv0_3 : tw_fv E a0 3 = .int fv0_3) (hfv0_1 : tw_fv E a0 1 = .int fv0_1) (hpre0 : fv0_2.toInt ≤ fv0_3.toInt) (hpre1 : fv0_3.toInt ≤ fv0_1.toInt) (sz : Nat) : Met l yX12_isName (.code yX12_isName cX12_isName 1 (some .boolean) :: cx_big) { frames := 5, cells := 0, slots := 0, locals := 107 } (tw_P D cs kp L E [.ref a0] sz) (tw_Q D cs kp L (fun v kq Lq Eq => (∃ x : Int32, v = some (.int x) ∧ 0 ≤ x.toInt ∧ x.toInt ≤ 1) ∧ kp = kq ∧ L = Lq ∧ E = Eq) (va_A (va_pl L E) sz)) 0 0 (va_A (va_pl L E) sz) := by
  refine tw_ofW (by decide) (Nat.le_of_ble_eq_true rfl) ?_
  intro p e s m below meth c A ls hx hb hr hml hB hown hlocks hK hN hA TH hS hl
  have hown : s.vm.findClass "TreeMergeModel" = some m.cls := hown
  have hl : lv_has ls 1 [(0, .ref a0)] := hl
  obtain ⟨kp0, ekp⟩ : ∃ z, z = kp := ⟨_, rfl⟩
  obtain ⟨L0, eL⟩ : ∃ z, z = L := ⟨_, rfl⟩
  rw [show tw_Q D cs kp L = tw_Q D cs kp0 L0 by rw [ekp, eL]]
  have hex : ∀ a : Nat, a ∈ L0 → a ∈ L ∧ kp a = kp0 a := fun a h => ⟨by rw [← eL]; exact h, by rw [ekp]⟩
  obtain ⟨qfv0_2, hqfv0_2, hqfv0_2a, hqfv0_2b⟩ := tw_rd TH hm0 hk0 (by decide) (by decide) (k := 2) rfl
  have eqfv0_2 : qfv0_2 = fv0_2 := by have q := hqfv0_2.symm.trans hfv0_2; injection q
  rw [eqfv0_2] at hqfv0_2a hqfv0_2b
  obtain ⟨qfv0_3, hqfv0_3, hqfv0_3a, hqfv0_3b⟩ := tw_rd TH hm0 hk0 (by decide) (by decide) (k := 3) rfl
  have eqfv0_3 : qfv0_3 = fv0_3 := by have q := hqfv0_3.symm.trans hfv0_3; injection q
  rw [eqfv0_3] at hqfv0_3a hqfv0_3b
  obtain ⟨qfv0_1, hqfv0_1, hqfv0_1a, hqfv0_1b⟩ := tw_rd TH hm0 hk0 (by decide) (by decide) (k := 1) rfl
  have eqfv0_1 : qfv0_1 = fv0_1 := by have q := hqfv0_1.symm.trans hfv0_1; injection q
  rw [eqfv0_1] at hqfv0_1a hqfv0_1b
  refine lv_aload_n hx hb dX12_isName_0 rfl (lv_at hl 0 rfl) ?_
  refine tw_get (ci := 12) (C := RX12) (T := TX12) (N := 64) hx hb hB cx_inX12 hown hK TH hm0 hk0 rfl ⟨by decide, rfl⟩ 2 (by decide) cw_1195 (fun _ h9 => h9) dX12_isName_1 (fun hv => ?_)
  rw [hfv0_2]
  refine lv_aload_n hx hb dX12_isName_4 rfl (lv_at hl 0 rfl) ?_
  refine tw_get (ci := 12) (C := RX12) (T := TX12) (N := 64) hx hb hB cx_inX12 hown hK TH hm0 hk0 rfl ⟨by decide, rfl⟩ 1 (by decide) cw_1194 (fun _ h9 => h9) dX12_isName_5 (fun hv => ?_)
  rw [hfv0_1]
  refine lv_icmp_ge (tgt := 48) hx hb dX12_isName_8 (by decide) (fun hc1 => ?_) (fun hc1 => ?_)
  · have hf2 : fv0_1.toInt ≤ fv0_2.toInt := by have z := (fa_le _ _).mp hc1;  omega
    refine lv_iconst (v := 0) hx hb dX12_isName_48 (by decide) ?_
    exact tw_zret hx hb hr hlocks (by decide) TH hS hex ⟨⟨_, rfl, (show 0 ≤ Int32.toInt 0 from by have : ((0 : Int32).toInt) = 0 := (by decide); omega), (show Int32.toInt 0 ≤ 1 from by have : ((0 : Int32).toInt) = 0 := (by decide); omega)⟩, rfl, rfl, rfl⟩ (Nat.le_of_ble_eq_true rfl) (Nat.le_of_ble_eq_true rfl) dX12_isName_49
  · have hf3 : ¬ (fv0_1.toInt ≤ fv0_2.toInt) := fun q => hc1 ((fa_le _ _).mpr (by  omega))
    refine lv_aload_n hx hb dX12_isName_11 rfl (lv_at hl 0 rfl) ?_
    refine tw_get (ci := 12) (C := RX12) (T := TX12) (N := 64) hx hb hB cx_inX12 hown hK TH hm0 hk0 rfl ⟨by decide, rfl⟩ 0 (by decide) cw_1193 (fun _ h9 => h9) dX12_isName_12 (fun hv => ?_)
    obtain ⟨xr4, hxr4, hmxr4, hkxr4⟩ : ∃ a : Nat, tw_fv E a0 0 = .ref a ∧ a ∈ L ∧ kp a = 300 := hv
    rw [hxr4]
    refine lv_aload_n hx hb dX12_isName_15 rfl (lv_at hl 0 rfl) ?_
    refine tw_get (ci := 12) (C := RX12) (T := TX12) (N := 64) hx hb hB cx_inX12 hown hK TH hm0 hk0 rfl ⟨by decide, rfl⟩ 2 (by decide) cw_1195 (fun _ h9 => h9) dX12_isName_16 (fun hv => ?_)
    rw [hfv0_2]
    refine tw_bald (k := 300) (t0 := 2) (n := 500) (lo := (-128)) (hi := 127) hx hb hK TH hmxr4 hkxr4 (by decide) rfl rfl (i := fv0_2) (vp_in_iff.mpr ⟨by  omega, by  omega⟩) dX12_isName_19 (fun hxe5a hxe5b => ?_)
    obtain ⟨xe5, exe5⟩ : ∃ z : Int32, tw_iv E xr4 (Int32.toNatClampNeg fv0_2) = z := ⟨_, rfl⟩
    rw [exe5] at hxe5a hxe5b ⊢
    refine tw_Sc (n := 1) (post := (fun v kq Lq Eq => (∃ x : Int32, v = some (.int x) ∧ 0 ≤ x.toInt ∧ x.toInt ≤ 1) ∧ kp = kq ∧ L = Lq ∧ E = Eq)) (As := [.int xe5]) (rest := []) ⟨hx, hb, hml, hown, hB⟩ (fun sz => tX12_isLetter l D cs xe5  sz) cg_12_175_X12_isLetter rfl rfl (by decide +kernel) ⟨Nat.le_of_ble_eq_true rfl, Nat.le_of_ble_eq_true rfl⟩ hK hN TH hS hA rfl hl.1 rfl (Nat.le_of_ble_eq_true rfl) dX12_isName_20 ⟨Nat.le_of_ble_eq_true rfl, Nat.le_of_ble_eq_true rfl⟩ (fun v6 kp6 L6 E6 H locs hq6 hx6 TH hS => ?_)
    obtain ⟨⟨xc7, rfl, hxc7a, hxc7b⟩, rfl, rfl, rfl⟩ := hq6
    refine W.eq (g2 := F0 m 23 ls [.int xc7]) rfl ?_
    refine lv_if_eq (tgt := 48) hx hb dX12_isName_23 (by decide) (fun hc8 => ?_) (fun hc8 => ?_)
    · have hf9 : xc7.toInt = 0 := by have z := (fa_eq _ _).mp hc8; have : ((0 : Int32).toInt) = 0 := (by decide); omega
      refine lv_iconst (v := 0) hx hb dX12_isName_48 (by decide) ?_
      exact tw_zret hx hb hr hlocks (by decide) TH hS hex ⟨⟨_, rfl, (show 0 ≤ Int32.toInt 0 from by have : ((0 : Int32).toInt) = 0 := (by decide); omega), (show Int32.toInt 0 ≤ 1 from by have : ((0 : Int32).toInt) = 0 := (by decide); omega)⟩, rfl, rfl, rfl⟩ (Nat.le_of_ble_eq_true rfl) (Nat.le_of_ble_eq_true rfl) dX12_isName_49
    · have hf10 : ¬ (xc7.toInt = 0) := fun q => hc8 ((fa_eq _ _).mpr (by have : ((0 : Int32).toInt) = 0 := (by decide); omega))
      refine lv_aload_n hx hb dX12_isName_26 rfl (lv_at hl 0 rfl) ?_
      refine va_ldcS (q := D.2 100 0) hx hb hown hN.2.2.2.2.2.2.1 dX12_isName_27 ?_
      refine tw_Vc (o := a0) (ci := 12) (n := 1) (post := (fun v kq Lq Eq => (∃ x : Int32, v = some (.int x) ∧ 0 ≤ x.toInt ∧ x.toInt ≤ 1) ∧ kp = kq ∧ L = Lq ∧ E = Eq)) (As := [.ref (D.2 100 0)]) (rest := []) ⟨hx, hb, hml, hown, hB⟩ (fun sz => tX12_isReserved_v0 l D cs a0 fv0_2 fv0_3 fv0_1 hm0 hk0 hfv0_2 hfv0_3 hfv0_1 (by  omega) (by  omega) sz) cg_12_215_X12_isReserved rfl rfl (by decide +kernel) ⟨Nat.le_of_ble_eq_true rfl, Nat.le_of_ble_eq_true rfl⟩ hK hN TH hS hA rfl hm0 hk0 (by decide) rfl hl.1 rfl (Nat.le_of_ble_eq_true rfl) dX12_isName_29 ⟨Nat.le_of_ble_eq_true rfl, Nat.le_of_ble_eq_true rfl⟩ (fun v11 kp11 L11 E11 H locs hq11 hx11 TH hS => ?_)
      obtain ⟨⟨xc12, rfl, hxc12a, hxc12b⟩, rfl, rfl, rfl⟩ := hq11
      refine W.eq (g2 := F0 m 32 ls [.int xc12]) rfl ?_
      refine lv_if_ne (tgt := 48) hx hb dX12_isName_32 (by decide) (fun hc13 => ?_) (fun hc13 => ?_)
      · have hf14 : ¬ (xc12.toInt = 0) := fun q => hc13 ((fa_eq _ _).mpr (by have : ((0 : Int32).toInt) = 0 := (by decide); omega))
        refine lv_iconst (v := 0) hx hb dX12_isName_48 (by decide) ?_
        exact tw_zret hx hb hr hlocks (by decide) TH hS hex ⟨⟨_, rfl, (show 0 ≤ Int32.toInt 0 from by have : ((0 : Int32).toInt) = 0 := (by decide); omega), (show Int32.toInt 0 ≤ 1 from by have : ((0 : Int32).toInt) = 0 := (by decide); omega)⟩, rfl, rfl, rfl⟩ (Nat.le_of_ble_eq_true rfl) (Nat.le_of_ble_eq_true rfl) dX12_isName_49
      · have hf15 : xc12.toInt = 0 := by have z := (fa_eq _ _).mp hc13; have : ((0 : Int32).toInt) = 0 := (by decide); omega
        refine lv_aload_n hx hb dX12_isName_35 rfl (lv_at hl 0 rfl) ?_
        refine va_ldcS (q := D.2 100 1) hx hb hown hN.2.2.2.2.2.2.2 dX12_isName_36 ?_
        refine tw_Vc (o := a0) (ci := 12) (n := 1) (post := (fun v kq Lq Eq => (∃ x : Int32, v = some (.int x) ∧ 0 ≤ x.toInt ∧ x.toInt ≤ 1) ∧ kp = kq ∧ L = Lq ∧ E = Eq)) (As := [.ref (D.2 100 1)]) (rest := []) ⟨hx, hb, hml, hown, hB⟩ (fun sz => tX12_isReserved_v1 l D cs a0 fv0_2 fv0_3 fv0_1 hm0 hk0 hfv0_2 hfv0_3 hfv0_1 (by  omega) (by  omega) sz) cg_12_215_X12_isReserved rfl rfl (by decide +kernel) ⟨Nat.le_of_ble_eq_true rfl, Nat.le_of_ble_eq_true rfl⟩ hK hN TH hS hA rfl hm0 hk0 (by decide) rfl hl.1 rfl (Nat.le_of_ble_eq_true rfl) dX12_isName_38 ⟨Nat.le_of_ble_eq_true rfl, Nat.le_of_ble_eq_true rfl⟩ (fun v16 kp16 L16 E16 H locs hq16 hx16 TH hS => ?_)
        obtain ⟨⟨xc17, rfl, hxc17a, hxc17b⟩, rfl, rfl, rfl⟩ := hq16
        refine W.eq (g2 := F0 m 41 ls [.int xc17]) rfl ?_
        refine lv_if_ne (tgt := 48) hx hb dX12_isName_41 (by decide) (fun hc18 => ?_) (fun hc18 => ?_)
        · have hf19 : ¬ (xc17.toInt = 0) := fun q => hc18 ((fa_eq _ _).mpr (by have : ((0 : Int32).toInt) = 0 := (by decide); omega))
          refine lv_iconst (v := 0) hx hb dX12_isName_48 (by decide) ?_
          exact tw_zret hx hb hr hlocks (by decide) TH hS hex ⟨⟨_, rfl, (show 0 ≤ Int32.toInt 0 from by have : ((0 : Int32).toInt) = 0 := (by decide); omega), (show Int32.toInt 0 ≤ 1 from by have : ((0 : Int32).toInt) = 0 := (by decide); omega)⟩, rfl, rfl, rfl⟩ (Nat.le_of_ble_eq_true rfl) (Nat.le_of_ble_eq_true rfl) dX12_isName_49
        · have hf20 : xc17.toInt = 0 := by have z := (fa_eq _ _).mp hc18; have : ((0 : Int32).toInt) = 0 := (by decide); omega
          refine lv_iconst (v := 1) hx hb dX12_isName_44 (by decide) ?_
          refine lv_goto (tgt := 49) hx hb dX12_isName_45 (by decide) ?_
          exact tw_zret hx hb hr hlocks (by decide) TH hS hex ⟨⟨_, rfl, (show 0 ≤ Int32.toInt 1 from by have : ((1 : Int32).toInt) = 1 := (by decide); omega), (show Int32.toInt 1 ≤ 1 from by have : ((1 : Int32).toInt) = 1 := (by decide); omega)⟩, rfl, rfl, rfl⟩ (Nat.le_of_ble_eq_true rfl) (Nat.le_of_ble_eq_true rfl) dX12_isName_49
set_option maxHeartbeats 4000000 in
set_option maxRecDepth 100000 in
theorem tX12_isWord (l : Launch) (D : va_G) (cs : Nat → ClassId) {kp : Nat → Nat} {L : List Nat} {E : Nat → va_E} (a0 : Nat) (hm0 : a0 ∈ L) (hk0 : kp a0 = 12) (sz : Nat) : Met l yX12_isWord (.code yX12_isWord cX12_isWord 1 (some .boolean) :: cx_big) { frames := 1, cells := 0, slots := 0, locals := 21 } (tw_P D cs kp L E [.ref a0] sz) (tw_Q D cs kp L (fun v kq Lq Eq => (∃ x : Int32, v = some (.int x) ∧ 0 ≤ x.toInt ∧ x.toInt ≤ 1) ∧ kp = kq ∧ L = Lq ∧ E = Eq) (va_A (va_pl L E) sz)) 0 0 (va_A (va_pl L E) sz) := by
  refine tw_ofW (by decide) (Nat.le_of_ble_eq_true rfl) ?_
  intro p e s m below meth c A ls hx hb hr hml hB hown hlocks hK hN hA TH hS hl
  have hown : s.vm.findClass "TreeMergeModel" = some m.cls := hown
  have hl : lv_has ls 1 [(0, .ref a0)] := hl
  obtain ⟨kp0, ekp⟩ : ∃ z, z = kp := ⟨_, rfl⟩
  obtain ⟨L0, eL⟩ : ∃ z, z = L := ⟨_, rfl⟩
  rw [show tw_Q D cs kp L = tw_Q D cs kp0 L0 by rw [ekp, eL]]
  have hex : ∀ a : Nat, a ∈ L0 → a ∈ L ∧ kp a = kp0 a := fun a h => ⟨by rw [← eL]; exact h, by rw [ekp]⟩
  refine lv_aload_n hx hb dX12_isWord_0 rfl (lv_at hl 0 rfl) ?_
  refine lv_bipush (v := 123) hx hb dX12_isWord_1 (by decide) ?_
  refine tw_Vc (o := a0) (ci := 12) (n := 1) (post := (fun v kq Lq Eq => (∃ x : Int32, v = some (.int x) ∧ 0 ≤ x.toInt ∧ x.toInt ≤ 1) ∧ kp = kq ∧ L = Lq ∧ E = Eq)) (As := [.int 123]) (rest := []) ⟨hx, hb, hml, hown, hB⟩ (fun sz => tX12_isSign l D cs a0 (123 : Int32) hm0 hk0 sz) cg_12_221_X12_isSign rfl rfl (by decide +kernel) ⟨Nat.le_of_ble_eq_true rfl, Nat.le_of_ble_eq_true rfl⟩ hK hN TH hS hA rfl hm0 hk0 (by decide) rfl hl.1 rfl (Nat.le_of_ble_eq_true rfl) dX12_isWord_3 ⟨Nat.le_of_ble_eq_true rfl, Nat.le_of_ble_eq_true rfl⟩ (fun v1 kp1 L1 E1 H locs hq1 hx1 TH hS => ?_)
  obtain ⟨⟨xc2, rfl, hxc2a, hxc2b⟩, rfl, rfl, rfl⟩ := hq1
  refine W.eq (g2 := F0 m 6 ls [.int xc2]) rfl ?_
  refine lv_if_eq (tgt := 26) hx hb dX12_isWord_6 (by decide) (fun hc3 => ?_) (fun hc3 => ?_)
  · have hf4 : xc2.toInt = 0 := by have z := (fa_eq _ _).mp hc3; have : ((0 : Int32).toInt) = 0 := (by decide); omega
    refine lv_iconst (v := 0) hx hb dX12_isWord_26 (by decide) ?_
    exact tw_zret hx hb hr hlocks (by decide) TH hS hex ⟨⟨_, rfl, (show 0 ≤ Int32.toInt 0 from by have : ((0 : Int32).toInt) = 0 := (by decide); omega), (show Int32.toInt 0 ≤ 1 from by have : ((0 : Int32).toInt) = 0 := (by decide); omega)⟩, rfl, rfl, rfl⟩ (Nat.le_of_ble_eq_true rfl) (Nat.le_of_ble_eq_true rfl) dX12_isWord_27
  · have hf5 : ¬ (xc2.toInt = 0) := fun q => hc3 ((fa_eq _ _).mpr (by have : ((0 : Int32).toInt) = 0 := (by decide); omega))
    refine lv_aload_n hx hb dX12_isWord_9 rfl (lv_at hl 0 rfl) ?_
    refine tw_get (ci := 12) (C := RX12) (T := TX12) (N := 64) hx hb hB cx_inX12 hown hK TH hm0 hk0 rfl ⟨by decide, rfl⟩ 3 (by decide) cw_1196 (fun _ h9 => h9) dX12_isWord_10 (fun hv => ?_)
    obtain ⟨xi6, hxi6, hxi6a, hxi6b⟩ : ∃ x : Int32, tw_fv E a0 3 = .int x ∧ 0 ≤ x.toInt ∧ x.toInt ≤ 500 := hv
    rw [hxi6]
    refine lv_aload_n hx hb dX12_isWord_13 rfl (lv_at hl 0 rfl) ?_
    refine tw_get (ci := 12) (C := RX12) (T := TX12) (N := 64) hx hb hB cx_inX12 hown hK TH hm0 hk0 rfl ⟨by decide, rfl⟩ 2 (by decide) cw_1195 (fun _ h9 => h9) dX12_isWord_14 (fun hv => ?_)
    obtain ⟨xi7, hxi7, hxi7a, hxi7b⟩ : ∃ x : Int32, tw_fv E a0 2 = .int x ∧ 0 ≤ x.toInt ∧ x.toInt ≤ 500 := hv
    rw [hxi7]
    refine lv_iconst (v := 1) hx hb dX12_isWord_17 (by decide) ?_
    refine lv_iadd hx hb dX12_isWord_18 ?_
    refine lv_topi (fun zi8 ezi8 => ?_)
    have hzi8 : zi8.toInt = xi7.toInt + 1 := by rw [ezi8]; have : ((1 : Int32).toInt) = 1 := (by decide); have := ia_lo xi7; have := ia_hi xi7; exact (ia_add (by omega) (by omega)).trans (by omega)
    refine lv_icmp_le (tgt := 26) hx hb dX12_isWord_19 (by decide) (fun hc9 => ?_) (fun hc9 => ?_)
    · have hf10 : xi6.toInt ≤ zi8.toInt := by have z := (fa_le _ _).mp hc9;  omega
      refine lv_iconst (v := 0) hx hb dX12_isWord_26 (by decide) ?_
      exact tw_zret hx hb hr hlocks (by decide) TH hS hex ⟨⟨_, rfl, (show 0 ≤ Int32.toInt 0 from by have : ((0 : Int32).toInt) = 0 := (by decide); omega), (show Int32.toInt 0 ≤ 1 from by have : ((0 : Int32).toInt) = 0 := (by decide); omega)⟩, rfl, rfl, rfl⟩ (Nat.le_of_ble_eq_true rfl) (Nat.le_of_ble_eq_true rfl) dX12_isWord_27
    · have hf11 : ¬ (xi6.toInt ≤ zi8.toInt) := fun q => hc9 ((fa_le _ _).mpr (by  omega))
      refine lv_iconst (v := 1) hx hb dX12_isWord_22 (by decide) ?_
      refine lv_goto (tgt := 27) hx hb dX12_isWord_23 (by decide) ?_
      exact tw_zret hx hb hr hlocks (by decide) TH hS hex ⟨⟨_, rfl, (show 0 ≤ Int32.toInt 1 from by have : ((1 : Int32).toInt) = 1 := (by decide); omega), (show Int32.toInt 1 ≤ 1 from by have : ((1 : Int32).toInt) = 1 := (by decide); omega)⟩, rfl, rfl, rfl⟩ (Nat.le_of_ble_eq_true rfl) (Nat.le_of_ble_eq_true rfl) dX12_isWord_27
set_option maxHeartbeats 4000000 in
set_option maxRecDepth 100000 in
theorem tX12_isCut (l : Launch) (D : va_G) (cs : Nat → ClassId) {kp : Nat → Nat} {L : List Nat} {E : Nat → va_E} (a0 : Nat) (hm0 : a0 ∈ L) (hk0 : kp a0 = 12) (sz : Nat) : Met l yX12_isCut (.code yX12_isCut cX12_isCut 2 (some .boolean) :: cx_big) { frames := 2, cells := 0, slots := 0, locals := 41 } (tw_P D cs kp L E [.ref a0] sz) (tw_Q D cs kp L (fun v kq Lq Eq => (∃ x : Int32, v = some (.int x) ∧ 0 ≤ x.toInt ∧ x.toInt ≤ 1) ∧ kp = kq ∧ L = Lq ∧ E = Eq) (va_A (va_pl L E) sz)) 0 0 (va_A (va_pl L E) sz) := by
  refine tw_ofW (by decide) (Nat.le_of_ble_eq_true rfl) ?_
  intro p e s m below meth c A ls hx hb hr hml hB hown hlocks hK hN hA TH hS hl
  have hown : s.vm.findClass "TreeMergeModel" = some m.cls := hown
  have hl : lv_has ls 2 [(0, .ref a0)] := hl
  obtain ⟨kp0, ekp⟩ : ∃ z, z = kp := ⟨_, rfl⟩
  obtain ⟨L0, eL⟩ : ∃ z, z = L := ⟨_, rfl⟩
  rw [show tw_Q D cs kp L = tw_Q D cs kp0 L0 by rw [ekp, eL]]
  have hex : ∀ a : Nat, a ∈ L0 → a ∈ L ∧ kp a = kp0 a := fun a h => ⟨by rw [← eL]; exact h, by rw [ekp]⟩
  refine lv_aload_n hx hb dX12_isCut_0 rfl (lv_at hl 0 rfl) ?_
  refine lv_bipush (v := 123) hx hb dX12_isCut_1 (by decide) ?_
  refine tw_Vc (o := a0) (ci := 12) (n := 1) (post := (fun v kq Lq Eq => (∃ x : Int32, v = some (.int x) ∧ 0 ≤ x.toInt ∧ x.toInt ≤ 1) ∧ kp = kq ∧ L = Lq ∧ E = Eq)) (As := [.int 123]) (rest := []) ⟨hx, hb, hml, hown, hB⟩ (fun sz => tX12_isSign l D cs a0 (123 : Int32) hm0 hk0 sz) cg_12_221_X12_isSign rfl rfl (by decide +kernel) ⟨Nat.le_of_ble_eq_true rfl, Nat.le_of_ble_eq_true rfl⟩ hK hN TH hS hA rfl hm0 hk0 (by decide) rfl hl.1 rfl (Nat.le_of_ble_eq_true rfl) dX12_isCut_3 ⟨Nat.le_of_ble_eq_true rfl, Nat.le_of_ble_eq_true rfl⟩ (fun v1 kp1 L1 E1 H locs hq1 hx1 TH hS => ?_)
  obtain ⟨⟨xc2, rfl, hxc2a, hxc2b⟩, rfl, rfl, rfl⟩ := hq1
  refine W.eq (g2 := F0 m 6 ls [.int xc2]) rfl ?_
  refine lv_if_eq (tgt := 16) hx hb dX12_isCut_6 (by decide) (fun hc3 => ?_) (fun hc3 => ?_)
  · have hf4 : xc2.toInt = 0 := by have z := (fa_eq _ _).mp hc3; have : ((0 : Int32).toInt) = 0 := (by decide); omega
    refine lv_iconst (v := 0) hx hb dX12_isCut_16 (by decide) ?_
    exact tw_zret hx hb hr hlocks (by decide) TH hS hex ⟨⟨_, rfl, (show 0 ≤ Int32.toInt 0 from by have : ((0 : Int32).toInt) = 0 := (by decide); omega), (show Int32.toInt 0 ≤ 1 from by have : ((0 : Int32).toInt) = 0 := (by decide); omega)⟩, rfl, rfl, rfl⟩ (Nat.le_of_ble_eq_true rfl) (Nat.le_of_ble_eq_true rfl) dX12_isCut_17
  · have hf5 : ¬ (xc2.toInt = 0) := fun q => hc3 ((fa_eq _ _).mpr (by have : ((0 : Int32).toInt) = 0 := (by decide); omega))
    refine lv_aload_n hx hb dX12_isCut_9 rfl (lv_at hl 0 rfl) ?_
    refine tw_Vc (o := a0) (ci := 12) (n := 0) (post := (fun v kq Lq Eq => (∃ x : Int32, v = some (.int x) ∧ 0 ≤ x.toInt ∧ x.toInt ≤ 1) ∧ kp = kq ∧ L = Lq ∧ E = Eq)) (As := []) (rest := []) ⟨hx, hb, hml, hown, hB⟩ (fun sz => tX12_isWord l D cs a0 hm0 hk0 sz) cg_12_224_X12_isWord rfl rfl (by decide +kernel) ⟨Nat.le_of_ble_eq_true rfl, Nat.le_of_ble_eq_true rfl⟩ hK hN TH hS hA rfl hm0 hk0 (by decide) rfl hl.1 rfl (Nat.le_of_ble_eq_true rfl) dX12_isCut_10 ⟨Nat.le_of_ble_eq_true rfl, Nat.le_of_ble_eq_true rfl⟩ (fun v6 kp6 L6 E6 H locs hq6 hx6 TH hS => ?_)
    obtain ⟨⟨xc7, rfl, hxc7a, hxc7b⟩, rfl, rfl, rfl⟩ := hq6
    refine W.eq (g2 := F0 m 13 ls [.int xc7]) rfl ?_
    refine lv_if_eq (tgt := 18) hx hb dX12_isCut_13 (by decide) (fun hc8 => ?_) (fun hc8 => ?_)
    · have hf9 : xc7.toInt = 0 := by have z := (fa_eq _ _).mp hc8; have : ((0 : Int32).toInt) = 0 := (by decide); omega
      refine lv_aload_n hx hb dX12_isCut_18 rfl (lv_at hl 0 rfl) ?_
      refine tw_get (ci := 12) (C := RX12) (T := TX12) (N := 64) hx hb hB cx_inX12 hown hK TH hm0 hk0 rfl ⟨by decide, rfl⟩ 2 (by decide) cw_1195 (fun _ h9 => h9) dX12_isCut_19 (fun hv => ?_)
      obtain ⟨xi10, hxi10, hxi10a, hxi10b⟩ : ∃ x : Int32, tw_fv E a0 2 = .int x ∧ 0 ≤ x.toInt ∧ x.toInt ≤ 500 := hv
      rw [hxi10]
      refine lv_iconst (v := 1) hx hb dX12_isCut_22 (by decide) ?_
      refine lv_iadd hx hb dX12_isCut_23 ?_
      refine lv_topi (fun zi11 ezi11 => ?_)
      have hzi11 : zi11.toInt = xi10.toInt + 1 := by rw [ezi11]; have : ((1 : Int32).toInt) = 1 := (by decide); have := ia_lo xi10; have := ia_hi xi10; exact (ia_add (by omega) (by omega)).trans (by omega)
      refine lv_istore_n (lv' := [(1, .int zi11), (0, .ref a0)]) hx hb dX12_isCut_24 rfl hl (by decide) rfl (fun ls hl => ?_)
      have hJ25 : ∀ (n25 : Nat) (y25_1 : Int32) (H : Heap) (locs : List Loc) (ls : Array Slot), 1 ≤ y25_1.toInt → y25_1.toInt ≤ 501 → 501 - y25_1.toInt ≤ (n25 : Int) → tw_H D cs kp L E A H → va_S A s.heap H locs → lv_has ls 2 [(1, .int y25_1), (0, .ref a0)] → W p l e { frames := 2, cells := 0, slots := 0, locals := 41 } s m [.ref a0].toArray below meth c H locs 0 0 (MQ below (tw_Q D cs kp0 L0 (fun v kq Lq Eq => (∃ x : Int32, v = some (.int x) ∧ 0 ≤ x.toInt ∧ x.toInt ≤ 1) ∧ kp = kq ∧ L = Lq ∧ E = Eq) A) [.ref a0].toArray s 0 0 A) (F0 m 25 ls []) := by
        intro n25
        induction n25 using Nat.strongRecOn with
        | _ n25 ih25 =>
          intro y25_1 H locs ls hy25_1a hy25_1b hmeas25 TH hS hl
          refine lv_iload_n hx hb dX12_isCut_25 rfl (lv_at hl 0 rfl) ?_
          refine lv_aload_n hx hb dX12_isCut_26 rfl (lv_at hl 1 rfl) ?_
          refine tw_get (ci := 12) (C := RX12) (T := TX12) (N := 64) hx hb hB cx_inX12 hown hK TH hm0 hk0 rfl ⟨by decide, rfl⟩ 1 (by decide) cw_1194 (fun _ h9 => h9) dX12_isCut_27 (fun hv => ?_)
          obtain ⟨xi12, hxi12, hxi12a, hxi12b⟩ : ∃ x : Int32, tw_fv E a0 1 = .int x ∧ 0 ≤ x.toInt ∧ x.toInt ≤ 500 := hv
          rw [hxi12]
          have hJ51 : ∀  (H : Heap) (locs : List Loc) (ls : Array Slot), tw_H D cs kp L E A H → va_S A s.heap H locs → lv_has ls 2 [(1, .int y25_1), (0, .ref a0)] → W p l e { frames := 2, cells := 0, slots := 0, locals := 41 } s m [.ref a0].toArray below meth c H locs 0 0 (MQ below (tw_Q D cs kp0 L0 (fun v kq Lq Eq => (∃ x : Int32, v = some (.int x) ∧ 0 ≤ x.toInt ∧ x.toInt ≤ 1) ∧ kp = kq ∧ L = Lq ∧ E = Eq) A) [.ref a0].toArray s 0 0 A) (F0 m 51 ls []) := by
            intro H locs ls TH hS hl
            refine lv_iload_n hx hb dX12_isCut_51 rfl (lv_at hl 0 rfl) ?_
            refine lv_aload_n hx hb dX12_isCut_52 rfl (lv_at hl 1 rfl) ?_
            refine tw_get (ci := 12) (C := RX12) (T := TX12) (N := 64) hx hb hB cx_inX12 hown hK TH hm0 hk0 rfl ⟨by decide, rfl⟩ 1 (by decide) cw_1194 (fun _ h9 => h9) dX12_isCut_53 (fun hv => ?_)
            rw [hxi12]
            refine lv_icmp_ne (tgt := 74) hx hb dX12_isCut_56 (by decide) (fun hc13 => ?_) (fun hc13 => ?_)
            · have hf14 : ¬ (y25_1.toInt = xi12.toInt) := fun q => hc13 ((fa_eq _ _).mpr (by  omega))
              refine lv_iconst (v := 0) hx hb dX12_isCut_74 (by decide) ?_
              exact tw_zret hx hb hr hlocks (by decide) TH hS hex ⟨⟨_, rfl, (show 0 ≤ Int32.toInt 0 from by have : ((0 : Int32).toInt) = 0 := (by decide); omega), (show Int32.toInt 0 ≤ 1 from by have : ((0 : Int32).toInt) = 0 := (by decide); omega)⟩, rfl, rfl, rfl⟩ (Nat.le_of_ble_eq_true rfl) (Nat.le_of_ble_eq_true rfl) dX12_isCut_75
            · have hf15 : y25_1.toInt = xi12.toInt := by have z := (fa_eq _ _).mp hc13;  omega
              refine lv_iload_n hx hb dX12_isCut_59 rfl (lv_at hl 0 rfl) ?_
              refine lv_aload_n hx hb dX12_isCut_60 rfl (lv_at hl 1 rfl) ?_
              refine tw_get (ci := 12) (C := RX12) (T := TX12) (N := 64) hx hb hB cx_inX12 hown hK TH hm0 hk0 rfl ⟨by decide, rfl⟩ 2 (by decide) cw_1195 (fun _ h9 => h9) dX12_isCut_61 (fun hv => ?_)
              rw [hxi10]
              refine lv_isub hx hb dX12_isCut_64 ?_
              refine lv_topi (fun zi16 ezi16 => ?_)
              have hzi16 : zi16.toInt = y25_1.toInt - xi10.toInt := by rw [ezi16];  have := ia_lo y25_1; have := ia_hi y25_1; have := ia_lo xi10; have := ia_hi xi10; exact (ia_sub (by omega) (by omega)).trans (by omega)
              refine lv_bipush (v := 9) hx hb dX12_isCut_65 (by decide) ?_
              refine lv_icmp_gt (tgt := 74) hx hb dX12_isCut_67 (by decide) (fun hc17 => ?_) (fun hc17 => ?_)
              · have hf18 : 9 < zi16.toInt := by have z := (fa_lt _ _).mp hc17; have : ((9 : Int32).toInt) = 9 := (by decide); omega
                refine lv_iconst (v := 0) hx hb dX12_isCut_74 (by decide) ?_
                exact tw_zret hx hb hr hlocks (by decide) TH hS hex ⟨⟨_, rfl, (show 0 ≤ Int32.toInt 0 from by have : ((0 : Int32).toInt) = 0 := (by decide); omega), (show Int32.toInt 0 ≤ 1 from by have : ((0 : Int32).toInt) = 0 := (by decide); omega)⟩, rfl, rfl, rfl⟩ (Nat.le_of_ble_eq_true rfl) (Nat.le_of_ble_eq_true rfl) dX12_isCut_75
              · have hf19 : ¬ (9 < zi16.toInt) := fun q => hc17 ((fa_lt _ _).mpr (by have : ((9 : Int32).toInt) = 9 := (by decide); omega))
                refine lv_iconst (v := 1) hx hb dX12_isCut_70 (by decide) ?_
                refine lv_goto (tgt := 75) hx hb dX12_isCut_71 (by decide) ?_
                exact tw_zret hx hb hr hlocks (by decide) TH hS hex ⟨⟨_, rfl, (show 0 ≤ Int32.toInt 1 from by have : ((1 : Int32).toInt) = 1 := (by decide); omega), (show Int32.toInt 1 ≤ 1 from by have : ((1 : Int32).toInt) = 1 := (by decide); omega)⟩, rfl, rfl, rfl⟩ (Nat.le_of_ble_eq_true rfl) (Nat.le_of_ble_eq_true rfl) dX12_isCut_75
          refine lv_icmp_ge (tgt := 51) hx hb dX12_isCut_30 (by decide) (fun hc20 => ?_) (fun hc20 => ?_)
          · have hf21 : xi12.toInt ≤ y25_1.toInt := by have z := (fa_le _ _).mp hc20;  omega
            exact hJ51  _ _ ls  TH hS (lv_sub hl [0, 1] rfl)
          · have hf22 : ¬ (xi12.toInt ≤ y25_1.toInt) := fun q => hc20 ((fa_le _ _).mpr (by  omega))
            refine lv_aload_n hx hb dX12_isCut_33 rfl (lv_at hl 1 rfl) ?_
            refine tw_get (ci := 12) (C := RX12) (T := TX12) (N := 64) hx hb hB cx_inX12 hown hK TH hm0 hk0 rfl ⟨by decide, rfl⟩ 0 (by decide) cw_1193 (fun _ h9 => h9) dX12_isCut_34 (fun hv => ?_)
            obtain ⟨xr23, hxr23, hmxr23, hkxr23⟩ : ∃ a : Nat, tw_fv E a0 0 = .ref a ∧ a ∈ L ∧ kp a = 300 := hv
            rw [hxr23]
            refine lv_iload_n hx hb dX12_isCut_37 rfl (lv_at hl 0 rfl) ?_
            refine tw_bald (k := 300) (t0 := 2) (n := 500) (lo := (-128)) (hi := 127) hx hb hK TH hmxr23 hkxr23 (by decide) rfl rfl (i := y25_1) (vp_in_iff.mpr ⟨by  omega, by  omega⟩) dX12_isCut_38 (fun hxe24a hxe24b => ?_)
            obtain ⟨xe24, exe24⟩ : ∃ z : Int32, tw_iv E xr23 (Int32.toNatClampNeg y25_1) = z := ⟨_, rfl⟩
            rw [exe24] at hxe24a hxe24b ⊢
            refine tw_Sc (n := 1) (post := (fun v kq Lq Eq => (∃ x : Int32, v = some (.int x) ∧ 0 ≤ x.toInt ∧ x.toInt ≤ 1) ∧ kp = kq ∧ L = Lq ∧ E = Eq)) (As := [.int xe24]) (rest := []) ⟨hx, hb, hml, hown, hB⟩ (fun sz => tX12_isOfWord l D cs xe24  sz) cg_12_185_X12_isOfWord rfl rfl (by decide +kernel) ⟨Nat.le_of_ble_eq_true rfl, Nat.le_of_ble_eq_true rfl⟩ hK hN TH hS hA rfl hl.1 rfl (Nat.le_of_ble_eq_true rfl) dX12_isCut_39 ⟨Nat.le_of_ble_eq_true rfl, Nat.le_of_ble_eq_true rfl⟩ (fun v25 kp25 L25 E25 H locs hq25 hx25 TH hS => ?_)
            obtain ⟨⟨xc26, rfl, hxc26a, hxc26b⟩, rfl, rfl, rfl⟩ := hq25
            refine W.eq (g2 := F0 m 42 ls [.int xc26]) rfl ?_
            refine lv_if_eq (tgt := 51) hx hb dX12_isCut_42 (by decide) (fun hc27 => ?_) (fun hc27 => ?_)
            · have hf28 : xc26.toInt = 0 := by have z := (fa_eq _ _).mp hc27; have : ((0 : Int32).toInt) = 0 := (by decide); omega
              exact hJ51  _ _ ls  TH hS (lv_sub hl [0, 1] rfl)
            · have hf29 : ¬ (xc26.toInt = 0) := fun q => hc27 ((fa_eq _ _).mpr (by have : ((0 : Int32).toInt) = 0 := (by decide); omega))
              obtain ⟨zi30, ezi30⟩ : ∃ z : Int32, z = y25_1 + Int32.ofInt 1 := ⟨_, rfl⟩
              have hzi30 : zi30.toInt = y25_1.toInt + 1 := by rw [ezi30]; have : ((Int32.ofInt 1).toInt) = 1 := (by decide);  exact (ia_add (by omega) (by omega)).trans (by omega)
              refine lv_iinc (v := zi30) (lv' := [(1, .int zi30), (0, .ref a0)]) hx hb dX12_isCut_45 hl (k := 0) rfl ezi30.symm (by decide) rfl (fun ls hl => ?_)
              refine lv_goto (tgt := 25) hx hb dX12_isCut_48 (by decide) ?_
              exact ih25 (n25 - 1) (by   omega) zi30 _ _ ls (by omega) (by omega) (by   omega) TH hS (lv_sub hl [0, 1] rfl)
      exact hJ25 501 zi11 _ _ ls (by omega) (by omega) (by   omega) TH hS (lv_sub hl [0, 1] rfl)
    · have hf31 : ¬ (xc7.toInt = 0) := fun q => hc8 ((fa_eq _ _).mpr (by have : ((0 : Int32).toInt) = 0 := (by decide); omega))
      refine lv_iconst (v := 0) hx hb dX12_isCut_16 (by decide) ?_
      exact tw_zret hx hb hr hlocks (by decide) TH hS hex ⟨⟨_, rfl, (show 0 ≤ Int32.toInt 0 from by have : ((0 : Int32).toInt) = 0 := (by decide); omega), (show Int32.toInt 0 ≤ 1 from by have : ((0 : Int32).toInt) = 0 := (by decide); omega)⟩, rfl, rfl, rfl⟩ (Nat.le_of_ble_eq_true rfl) (Nat.le_of_ble_eq_true rfl) dX12_isCut_17
set_option maxHeartbeats 4000000 in
set_option maxRecDepth 100000 in
theorem tX12_isAlike (l : Launch) (D : va_G) (cs : Nat → ClassId) {kp : Nat → Nat} {L : List Nat} {E : Nat → va_E} (a0 : Nat) (x1 : Int32) (x2 : Int32) (x3 : Int32) (hm0 : a0 ∈ L) (hk0 : kp a0 = 12) (hp1a : 0 ≤ x1.toInt) (hp1b : x1.toInt ≤ 500) (hp2a : 0 ≤ x2.toInt) (hp2b : x2.toInt ≤ 500) (hp3a : 0 ≤ x3.toInt) (hp3b : x3.toInt ≤ 500) (hpre0 : x1.toInt + x3.toInt ≤ 500) (hpre1 : x2.toInt + x3.toInt ≤ 500) (sz : Nat) : Met l yX12_isAlike (.code yX12_isAlike cX12_isAlike 5 (some .boolean) :: cx_big) { frames := 0, cells := 0, slots := 0, locals := 0 } (tw_P D cs kp L E [.ref a0, .int x1, .int x2, .int x3] sz) (tw_Q D cs kp L (fun v kq Lq Eq => (∃ x : Int32, v = some (.int x) ∧ 0 ≤ x.toInt ∧ x.toInt ≤ 1) ∧ kp = kq ∧ L = Lq ∧ E = Eq) (va_A (va_pl L E) sz)) 0 0 (va_A (va_pl L E) sz) := by
  refine tw_ofW (by decide) (Nat.le_of_ble_eq_true rfl) ?_
  intro p e s m below meth c A ls hx hb hr hml hB hown hlocks hK hN hA TH hS hl
  have hown : s.vm.findClass "TreeMergeModel" = some m.cls := hown
  have hl : lv_has ls 5 [(0, .ref a0), (1, .int x1), (2, .int x2), (3, .int x3)] := hl
  obtain ⟨kp0, ekp⟩ : ∃ z, z = kp := ⟨_, rfl⟩
  obtain ⟨L0, eL⟩ : ∃ z, z = L := ⟨_, rfl⟩
  rw [show tw_Q D cs kp L = tw_Q D cs kp0 L0 by rw [ekp, eL]]
  have hex : ∀ a : Nat, a ∈ L0 → a ∈ L ∧ kp a = kp0 a := fun a h => ⟨by rw [← eL]; exact h, by rw [ekp]⟩
  refine lv_iconst (v := 0) hx hb dX12_isAlike_0 (by decide) ?_
  refine lv_istore (lv' := [(4, .int 0), (0, .ref a0), (1, .int x1), (2, .int x2), (3, .int x3)]) hx hb dX12_isAlike_1 hl (by decide) rfl (fun ls hl => ?_)
  have hJ3 : ∀ (n3 : Nat) (y3_4 : Int32) (H : Heap) (locs : List Loc) (ls : Array Slot), 0 ≤ y3_4.toInt → y3_4.toInt ≤ 500 → 500 - y3_4.toInt ≤ (n3 : Int) → tw_H D cs kp L E A H → va_S A s.heap H locs → lv_has ls 5 [(4, .int y3_4), (0, .ref a0), (1, .int x1), (2, .int x2), (3, .int x3)] → W p l e { frames := 0, cells := 0, slots := 0, locals := 0 } s m [.ref a0, .int x1, .int x2, .int x3].toArray below meth c H locs 0 0 (MQ below (tw_Q D cs kp0 L0 (fun v kq Lq Eq => (∃ x : Int32, v = some (.int x) ∧ 0 ≤ x.toInt ∧ x.toInt ≤ 1) ∧ kp = kq ∧ L = Lq ∧ E = Eq) A) [.ref a0, .int x1, .int x2, .int x3].toArray s 0 0 A) (F0 m 3 ls []) := by
    intro n3
    induction n3 using Nat.strongRecOn with
    | _ n3 ih3 =>
      intro y3_4 H locs ls hy3_4a hy3_4b hmeas3 TH hS hl
      refine lv_iload hx hb dX12_isAlike_3 (lv_at hl 0 rfl) ?_
      refine lv_iload_n hx hb dX12_isAlike_5 rfl (lv_at hl 4 rfl) ?_
      refine lv_icmp_ge (tgt := 38) hx hb dX12_isAlike_6 (by decide) (fun hc1 => ?_) (fun hc1 => ?_)
      · have hf2 : x3.toInt ≤ y3_4.toInt := by have z := (fa_le _ _).mp hc1;  omega
        refine lv_iconst (v := 1) hx hb dX12_isAlike_38 (by decide) ?_
        exact tw_zret hx hb hr hlocks (by decide) TH hS hex ⟨⟨_, rfl, (show 0 ≤ Int32.toInt 1 from by have : ((1 : Int32).toInt) = 1 := (by decide); omega), (show Int32.toInt 1 ≤ 1 from by have : ((1 : Int32).toInt) = 1 := (by decide); omega)⟩, rfl, rfl, rfl⟩ (Nat.le_of_ble_eq_true rfl) (Nat.le_of_ble_eq_true rfl) dX12_isAlike_39
      · have hf3 : ¬ (x3.toInt ≤ y3_4.toInt) := fun q => hc1 ((fa_le _ _).mpr (by  omega))
        refine lv_aload_n hx hb dX12_isAlike_9 rfl (lv_at hl 1 rfl) ?_
        refine tw_get (ci := 12) (C := RX12) (T := TX12) (N := 64) hx hb hB cx_inX12 hown hK TH hm0 hk0 rfl ⟨by decide, rfl⟩ 5 (by decide) cw_1198 (fun _ h9 => h9) dX12_isAlike_10 (fun hv => ?_)
        obtain ⟨xr4, hxr4, hmxr4, hkxr4⟩ : ∃ a : Nat, tw_fv E a0 5 = .ref a ∧ a ∈ L ∧ kp a = 301 := hv
        rw [hxr4]
        refine lv_iload_n hx hb dX12_isAlike_13 rfl (lv_at hl 2 rfl) ?_
        refine lv_iload hx hb dX12_isAlike_14 (lv_at hl 0 rfl) ?_
        refine lv_iadd hx hb dX12_isAlike_16 ?_
        refine lv_topi (fun zi5 ezi5 => ?_)
        have hzi5 : zi5.toInt = x1.toInt + y3_4.toInt := by rw [ezi5];  have := ia_lo x1; have := ia_hi x1; have := ia_lo y3_4; have := ia_hi y3_4; exact (ia_add (by omega) (by omega)).trans (by omega)
        refine tw_bald (k := 301) (t0 := 2) (n := 500) (lo := (-128)) (hi := 127) hx hb hK TH hmxr4 hkxr4 (by decide) rfl rfl (i := zi5) (vp_in_iff.mpr ⟨by  omega, by  omega⟩) dX12_isAlike_17 (fun hxe6a hxe6b => ?_)
        obtain ⟨xe6, exe6⟩ : ∃ z : Int32, tw_iv E xr4 (Int32.toNatClampNeg zi5) = z := ⟨_, rfl⟩
        rw [exe6] at hxe6a hxe6b ⊢
        refine lv_aload_n hx hb dX12_isAlike_18 rfl (lv_at hl 1 rfl) ?_
        refine tw_get (ci := 12) (C := RX12) (T := TX12) (N := 64) hx hb hB cx_inX12 hown hK TH hm0 hk0 rfl ⟨by decide, rfl⟩ 5 (by decide) cw_1198 (fun _ h9 => h9) dX12_isAlike_19 (fun hv => ?_)
        rw [hxr4]
        refine lv_iload_n hx hb dX12_isAlike_22 rfl (lv_at hl 3 rfl) ?_
        refine lv_iload hx hb dX12_isAlike_23 (lv_at hl 0 rfl) ?_
        refine lv_iadd hx hb dX12_isAlike_25 ?_
        refine lv_topi (fun zi7 ezi7 => ?_)
        have hzi7 : zi7.toInt = x2.toInt + y3_4.toInt := by rw [ezi7];  have := ia_lo x2; have := ia_hi x2; have := ia_lo y3_4; have := ia_hi y3_4; exact (ia_add (by omega) (by omega)).trans (by omega)
        refine tw_bald (k := 301) (t0 := 2) (n := 500) (lo := (-128)) (hi := 127) hx hb hK TH hmxr4 hkxr4 (by decide) rfl rfl (i := zi7) (vp_in_iff.mpr ⟨by  omega, by  omega⟩) dX12_isAlike_26 (fun hxe8a hxe8b => ?_)
        obtain ⟨xe8, exe8⟩ : ∃ z : Int32, tw_iv E xr4 (Int32.toNatClampNeg zi7) = z := ⟨_, rfl⟩
        rw [exe8] at hxe8a hxe8b ⊢
        refine lv_icmp_eq (tgt := 32) hx hb dX12_isAlike_27 (by decide) (fun hc9 => ?_) (fun hc9 => ?_)
        · have hf10 : xe6.toInt = xe8.toInt := by have z := (fa_eq _ _).mp hc9;  omega
          obtain ⟨zi11, ezi11⟩ : ∃ z : Int32, z = y3_4 + Int32.ofInt 1 := ⟨_, rfl⟩
          have hzi11 : zi11.toInt = y3_4.toInt + 1 := by rw [ezi11]; have : ((Int32.ofInt 1).toInt) = 1 := (by decide);  exact (ia_add (by omega) (by omega)).trans (by omega)
          refine lv_iinc (v := zi11) (lv' := [(4, .int zi11), (0, .ref a0), (1, .int x1), (2, .int x2), (3, .int x3)]) hx hb dX12_isAlike_32 hl (k := 0) rfl ezi11.symm (by decide) rfl (fun ls hl => ?_)
          refine lv_goto (tgt := 3) hx hb dX12_isAlike_35 (by decide) ?_
          exact ih3 (n3 - 1) (by   omega) zi11 _ _ ls (by omega) (by omega) (by   omega) TH hS (lv_sub hl [0, 1, 2, 3, 4] rfl)
        · have hf12 : ¬ (xe6.toInt = xe8.toInt) := fun q => hc9 ((fa_eq _ _).mpr (by  omega))
          refine lv_iconst (v := 0) hx hb dX12_isAlike_30 (by decide) ?_
          exact tw_zret hx hb hr hlocks (by decide) TH hS hex ⟨⟨_, rfl, (show 0 ≤ Int32.toInt 0 from by have : ((0 : Int32).toInt) = 0 := (by decide); omega), (show Int32.toInt 0 ≤ 1 from by have : ((0 : Int32).toInt) = 0 := (by decide); omega)⟩, rfl, rfl, rfl⟩ (Nat.le_of_ble_eq_true rfl) (Nat.le_of_ble_eq_true rfl) dX12_isAlike_31
  exact hJ3 501 (0 : Int32) _ _ ls (by have : ((0 : Int32).toInt) = 0 := (by decide); omega) (by have : ((0 : Int32).toInt) = 0 := (by decide); omega) (by have : ((0 : Int32).toInt) = 0 := (by decide);  omega) TH hS (lv_sub hl [0, 1, 2, 3, 4] rfl)
set_option maxHeartbeats 4000000 in
set_option maxRecDepth 100000 in
theorem tX12_kindOf (l : Launch) (D : va_G) (cs : Nat → ClassId) {kp : Nat → Nat} {L : List Nat} {E : Nat → va_E} (a0 : Nat) (x1 : Int32) (x2 : Int32) (hm0 : a0 ∈ L) (hk0 : kp a0 = 12) (hp1a : 0 ≤ x1.toInt) (hp1b : x1.toInt ≤ 15) (hp2a : 0 ≤ x2.toInt) (hp2b : x2.toInt ≤ 149) (hpre0 : x1.toInt = 15 → x2.toInt ≤ 23) (sz : Nat) : Met l yX12_kindOf (.code yX12_kindOf cX12_kindOf 3 (some .int) :: cx_big) { frames := 0, cells := 0, slots := 0, locals := 0 } (tw_P D cs kp L E [.ref a0, .int x1, .int x2] sz) (tw_Q D cs kp L (fun v kq Lq Eq => (∃ x : Int32, v = some (.int x) ∧ 0 ≤ x.toInt ∧ x.toInt ≤ 9) ∧ kp = kq ∧ L = Lq ∧ E = Eq) (va_A (va_pl L E) sz)) 0 0 (va_A (va_pl L E) sz) := by
  refine tw_ofW (by decide) (Nat.le_of_ble_eq_true rfl) ?_
  intro p e s m below meth c A ls hx hb hr hml hB hown hlocks hK hN hA TH hS hl
  have hown : s.vm.findClass "TreeMergeModel" = some m.cls := hown
  have hl : lv_has ls 3 [(0, .ref a0), (1, .int x1), (2, .int x2)] := hl
  obtain ⟨kp0, ekp⟩ : ∃ z, z = kp := ⟨_, rfl⟩
  obtain ⟨L0, eL⟩ : ∃ z, z = L := ⟨_, rfl⟩
  rw [show tw_Q D cs kp L = tw_Q D cs kp0 L0 by rw [ekp, eL]]
  have hex : ∀ a : Nat, a ∈ L0 → a ∈ L ∧ kp a = kp0 a := fun a h => ⟨by rw [← eL]; exact h, by rw [ekp]⟩
  refine lv_iload_n hx hb dX12_kindOf_0 rfl (lv_at hl 1 rfl) ?_
  refine lv_bipush (v := 15) hx hb dX12_kindOf_1 (by decide) ?_
  refine lv_icmp_ne (tgt := 15) hx hb dX12_kindOf_3 (by decide) (fun hc1 => ?_) (fun hc1 => ?_)
  · have hf2 : ¬ (x1.toInt = 15) := fun q => hc1 ((fa_eq _ _).mpr (by have : ((15 : Int32).toInt) = 15 := (by decide); omega))
    refine lv_aload_n hx hb dX12_kindOf_15 rfl (lv_at hl 0 rfl) ?_
    refine tw_get (ci := 12) (C := RX12) (T := TX12) (N := 64) hx hb hB cx_inX12 hown hK TH hm0 hk0 rfl ⟨by decide, rfl⟩ 20 (by decide) cw_1213 (fun _ h9 => h9) dX12_kindOf_16 (fun hv => ?_)
    obtain ⟨xr3, hxr3, hmxr3, hkxr3⟩ : ∃ a : Nat, tw_fv E a0 20 = .ref a ∧ a ∈ L ∧ kp a = 330 := hv
    rw [hxr3]
    refine lv_iload_n hx hb dX12_kindOf_19 rfl (lv_at hl 2 rfl) ?_
    refine tw_iald (k := 330) (t0 := 0) (n := 150) (lo := 0) (hi := 9) hx hb hK TH hmxr3 hkxr3 (by decide) rfl rfl (i := x2) (vp_in_iff.mpr ⟨by  omega, by  omega⟩) dX12_kindOf_20 (fun hxe4a hxe4b => ?_)
    obtain ⟨xe4, exe4⟩ : ∃ z : Int32, tw_iv E xr3 (Int32.toNatClampNeg x2) = z := ⟨_, rfl⟩
    rw [exe4] at hxe4a hxe4b ⊢
    exact tw_iret hx hb hr hlocks TH hS hex ⟨⟨_, rfl, (show 0 ≤ Int32.toInt xe4 from by  omega), (show Int32.toInt xe4 ≤ 9 from by  omega)⟩, rfl, rfl, rfl⟩ (Nat.le_of_ble_eq_true rfl) (Nat.le_of_ble_eq_true rfl) dX12_kindOf_21
  · have hf5 : x1.toInt = 15 := by have z := (fa_eq _ _).mp hc1; have : ((15 : Int32).toInt) = 15 := (by decide); omega
    refine lv_aload_n hx hb dX12_kindOf_6 rfl (lv_at hl 0 rfl) ?_
    refine tw_get (ci := 12) (C := RX12) (T := TX12) (N := 64) hx hb hB cx_inX12 hown hK TH hm0 hk0 rfl ⟨by decide, rfl⟩ 22 (by decide) cw_1215 (fun _ h9 => h9) dX12_kindOf_7 (fun hv => ?_)
    obtain ⟨xr6, hxr6, hmxr6, hkxr6⟩ : ∃ a : Nat, tw_fv E a0 22 = .ref a ∧ a ∈ L ∧ kp a = 332 := hv
    rw [hxr6]
    refine lv_iload_n hx hb dX12_kindOf_10 rfl (lv_at hl 2 rfl) ?_
    refine tw_iald (k := 332) (t0 := 0) (n := 24) (lo := 0) (hi := 9) hx hb hK TH hmxr6 hkxr6 (by decide) rfl rfl (i := x2) (vp_in_iff.mpr ⟨by  omega, by  omega⟩) dX12_kindOf_11 (fun hxe7a hxe7b => ?_)
    obtain ⟨xe7, exe7⟩ : ∃ z : Int32, tw_iv E xr6 (Int32.toNatClampNeg x2) = z := ⟨_, rfl⟩
    rw [exe7] at hxe7a hxe7b ⊢
    refine lv_goto (tgt := 21) hx hb dX12_kindOf_12 (by decide) ?_
    exact tw_iret hx hb hr hlocks TH hS hex ⟨⟨_, rfl, (show 0 ≤ Int32.toInt xe7 from by  omega), (show Int32.toInt xe7 ≤ 9 from by  omega)⟩, rfl, rfl, rfl⟩ (Nat.le_of_ble_eq_true rfl) (Nat.le_of_ble_eq_true rfl) dX12_kindOf_21
set_option maxHeartbeats 4000000 in
set_option maxRecDepth 100000 in
theorem tX12_kidBehind (l : Launch) (D : va_G) (cs : Nat → ClassId) {kp : Nat → Nat} {L : List Nat} {E : Nat → va_E} (a0 : Nat) (x1 : Int32) (x2 : Int32) (x3 : Int32) (hm0 : a0 ∈ L) (hk0 : kp a0 = 12) (hp1a : 0 ≤ x1.toInt) (hp1b : x1.toInt ≤ 15) (sz : Nat) : Met l yX12_kidBehind (.code yX12_kidBehind cX12_kidBehind 6 (some .int) :: cx_big) { frames := 0, cells := 0, slots := 0, locals := 0 } (tw_P D cs kp L E [.ref a0, .int x1, .int x2, .int x3] sz) (tw_Q D cs kp L (fun v kq Lq Eq => (∃ x : Int32, v = some (.int x) ∧ (-1) ≤ x.toInt ∧ x.toInt ≤ 149 ∧ (rt_kbk (rw_h E a0 x1.toInt) (rw_p E a0 x1.toInt) (rw_q E a0 x1.toInt) 150 x2.toInt x3.toInt x.toInt)) ∧ kp = kq ∧ L = Lq ∧ E = Eq) (va_A (va_pl L E) sz)) 0 0 (va_A (va_pl L E) sz) := by
  refine tw_ofW (by decide) (Nat.le_of_ble_eq_true rfl) ?_
  intro p e s m below meth c A ls hx hb hr hml hB hown hlocks hK hN hA TH hS hl
  have hown : s.vm.findClass "TreeMergeModel" = some m.cls := hown
  have hl : lv_has ls 6 [(0, .ref a0), (1, .int x1), (2, .int x2), (3, .int x3)] := hl
  obtain ⟨kp0, ekp⟩ : ∃ z, z = kp := ⟨_, rfl⟩
  obtain ⟨L0, eL⟩ : ∃ z, z = L := ⟨_, rfl⟩
  rw [show tw_Q D cs kp L = tw_Q D cs kp0 L0 by rw [ekp, eL]]
  have hex : ∀ a : Nat, a ∈ L0 → a ∈ L ∧ kp a = kp0 a := fun a h => ⟨by rw [← eL]; exact h, by rw [ekp]⟩
  refine lv_iconst (v := (-1)) hx hb dX12_kidBehind_0 (by decide) ?_
  refine lv_istore (lv' := [(4, .int (-1)), (0, .ref a0), (1, .int x1), (2, .int x2), (3, .int x3)]) hx hb dX12_kidBehind_1 hl (by decide) rfl (fun ls hl => ?_)
  refine lv_iconst (v := 0) hx hb dX12_kidBehind_3 (by decide) ?_
  refine lv_istore (lv' := [(5, .int 0), (4, .int (-1)), (0, .ref a0), (1, .int x1), (2, .int x2), (3, .int x3)]) hx hb dX12_kidBehind_4 hl (by decide) rfl (fun ls hl => ?_)
  have hJ6 : ∀ (n6 : Nat) (y6_5 : Int32) (y6_4 : Int32) (H : Heap) (locs : List Loc) (ls : Array Slot), 0 ≤ y6_5.toInt → y6_5.toInt ≤ 150 → (-1) ≤ y6_4.toInt → y6_4.toInt ≤ 149 → (rt_kbk (rw_h E a0 (x1.toInt)) (rw_p E a0 (x1.toInt)) (rw_q E a0 (x1.toInt)) (y6_5.toInt).toNat (x2.toInt) (x3.toInt) (y6_4.toInt)) → 150 - y6_5.toInt ≤ (n6 : Int) → tw_H D cs kp L E A H → va_S A s.heap H locs → lv_has ls 6 [(5, .int y6_5), (4, .int y6_4), (0, .ref a0), (1, .int x1), (2, .int x2), (3, .int x3)] → W p l e { frames := 0, cells := 0, slots := 0, locals := 0 } s m [.ref a0, .int x1, .int x2, .int x3].toArray below meth c H locs 0 0 (MQ below (tw_Q D cs kp0 L0 (fun v kq Lq Eq => (∃ x : Int32, v = some (.int x) ∧ (-1) ≤ x.toInt ∧ x.toInt ≤ 149 ∧ (rt_kbk (rw_h E a0 x1.toInt) (rw_p E a0 x1.toInt) (rw_q E a0 x1.toInt) 150 x2.toInt x3.toInt x.toInt)) ∧ kp = kq ∧ L = Lq ∧ E = Eq) A) [.ref a0, .int x1, .int x2, .int x3].toArray s 0 0 A) (F0 m 6 ls []) := by
    intro n6
    induction n6 using Nat.strongRecOn with
    | _ n6 ih6 =>
      intro y6_5 y6_4 H locs ls hy6_5a hy6_5b hy6_4a hy6_4b hin6_0 hmeas6 TH hS hl
      refine lv_iload hx hb dX12_kidBehind_6 (lv_at hl 0 rfl) ?_
      refine lv_sipush (v := 150) hx hb dX12_kidBehind_8 (by decide) ?_
      refine lv_icmp_ge (tgt := 92) hx hb dX12_kidBehind_11 (by decide) (fun hc1 => ?_) (fun hc1 => ?_)
      · have hf2 : 150 ≤ y6_5.toInt := by have z := (fa_le _ _).mp hc1; have : ((150 : Int32).toInt) = 150 := (by decide); omega
        refine lv_iload hx hb dX12_kidBehind_92 (lv_at hl 1 rfl) ?_
        exact tw_iret hx hb hr hlocks TH hS hex ⟨⟨_, rfl, (show (-1) ≤ Int32.toInt y6_4 from by  omega), (show Int32.toInt y6_4 ≤ 149 from by  omega), (by  have h150 : (y6_5.toInt).toNat = 150 := (by omega); rw [h150] at hin6_0; exact hin6_0)⟩, rfl, rfl, rfl⟩ (Nat.le_of_ble_eq_true rfl) (Nat.le_of_ble_eq_true rfl) dX12_kidBehind_94
      · have hf3 : ¬ (150 ≤ y6_5.toInt) := fun q => hc1 ((fa_le _ _).mpr (by have : ((150 : Int32).toInt) = 150 := (by decide); omega))
        refine lv_aload_n hx hb dX12_kidBehind_14 rfl (lv_at hl 2 rfl) ?_
        refine tw_get (ci := 12) (C := RX12) (T := TX12) (N := 64) hx hb hB cx_inX12 hown hK TH hm0 hk0 rfl ⟨by decide, rfl⟩ 16 (by decide) cw_1209 (fun _ h9 => h9) dX12_kidBehind_15 (fun hv => ?_)
        obtain ⟨xr4, hxr4, hmxr4, hkxr4⟩ : ∃ a : Nat, tw_fv E a0 16 = .ref a ∧ a ∈ L ∧ kp a = 316 := hv
        rw [hxr4]
        refine lv_iload_n hx hb dX12_kidBehind_18 rfl (lv_at hl 3 rfl) ?_
        refine tw_aald (k := 316) (t0 := 5) (n := 16) (lo := 326) (hi := 0) (ty := .boolean) hx hb hK TH hmxr4 hkxr4 (by decide) rfl rfl (i := x1) (vp_in_iff.mpr ⟨by  omega, by  omega⟩) dX12_kidBehind_19 (fun xr5 exr5 hmxr5 hkxr5 => ?_)
        have hkxr5 : kp xr5 = 326 := hkxr5
        refine lv_iload hx hb dX12_kidBehind_20 (lv_at hl 0 rfl) ?_
        refine tw_zald (k := 326) (t0 := 3) (n := 150) (lo := 0) (hi := 1) hx hb hK TH hmxr5 hkxr5 (by decide) rfl rfl (i := y6_5) (vp_in_iff.mpr ⟨by  omega, by  omega⟩) dX12_kidBehind_22 (fun hxe6a hxe6b => ?_)
        obtain ⟨xe6, exe6⟩ : ∃ z : Int32, tw_iv E xr5 (Int32.toNatClampNeg y6_5) = z := ⟨_, rfl⟩
        rw [exe6] at hxe6a hxe6b ⊢
        have hJ86 : ∀ (y86_4 : Int32) (H : Heap) (locs : List Loc) (ls : Array Slot), (-1) ≤ y86_4.toInt → y86_4.toInt ≤ 149 → (rt_kbk (rw_h E a0 (x1.toInt)) (rw_p E a0 (x1.toInt)) (rw_q E a0 (x1.toInt)) ((y6_5.toInt).toNat + 1) (x2.toInt) (x3.toInt) (y86_4.toInt)) → tw_H D cs kp L E A H → va_S A s.heap H locs → lv_has ls 6 [(5, .int y6_5), (4, .int y86_4), (0, .ref a0), (1, .int x1), (2, .int x2), (3, .int x3)] → W p l e { frames := 0, cells := 0, slots := 0, locals := 0 } s m [.ref a0, .int x1, .int x2, .int x3].toArray below meth c H locs 0 0 (MQ below (tw_Q D cs kp0 L0 (fun v kq Lq Eq => (∃ x : Int32, v = some (.int x) ∧ (-1) ≤ x.toInt ∧ x.toInt ≤ 149 ∧ (rt_kbk (rw_h E a0 x1.toInt) (rw_p E a0 x1.toInt) (rw_q E a0 x1.toInt) 150 x2.toInt x3.toInt x.toInt)) ∧ kp = kq ∧ L = Lq ∧ E = Eq) A) [.ref a0, .int x1, .int x2, .int x3].toArray s 0 0 A) (F0 m 86 ls []) := by
          intro y86_4 H locs ls hy86_4a hy86_4b hin86_0 TH hS hl
          obtain ⟨zi7, ezi7⟩ : ∃ z : Int32, z = y6_5 + Int32.ofInt 1 := ⟨_, rfl⟩
          have hzi7 : zi7.toInt = y6_5.toInt + 1 := by rw [ezi7]; have : ((Int32.ofInt 1).toInt) = 1 := (by decide);  exact (ia_add (by omega) (by omega)).trans (by omega)
          refine lv_iinc (v := zi7) (lv' := [(5, .int zi7), (4, .int y86_4), (0, .ref a0), (1, .int x1), (2, .int x2), (3, .int x3)]) hx hb dX12_kidBehind_86 hl (k := 0) rfl ezi7.symm (by decide) rfl (fun ls hl => ?_)
          refine lv_goto (tgt := 6) hx hb dX12_kidBehind_89 (by decide) ?_
          exact ih6 (n6 - 1) (by   omega) zi7 y86_4 _ _ ls (by omega) (by omega) (by omega) (by omega) (by  rw [show (zi7.toInt).toNat = (y6_5.toInt).toNat + 1 by omega]; exact hin86_0) (by   omega) TH hS (lv_sub hl [0, 1, 2, 3, 4, 5] rfl)
        refine lv_if_eq (tgt := 86) hx hb dX12_kidBehind_23 (by decide) (fun hc8 => ?_) (fun hc8 => ?_)
        · have hf9 : xe6.toInt = 0 := by have z := (fa_eq _ _).mp hc8; have : ((0 : Int32).toInt) = 0 := (by decide); omega
          exact hJ86 y6_4 _ _ ls (by omega) (by omega) (by  have rf_xe6 : rw_h E a0 (x1.toInt) (y6_5.toInt).toNat = xe6.toInt := rw_h_of (m := a0) (i := x1) (c := y6_5) hxr4 exr5 exe6; have hk5 : (((y6_5.toInt).toNat : Nat) : Int) = y6_5.toInt := (by omega); refine rt_kbk_step hin6_0 rfl ?_; (try rw [rf_xe6]); omega) TH hS (lv_sub hl [0, 1, 2, 3, 4, 5] rfl)
        · have hf10 : ¬ (xe6.toInt = 0) := fun q => hc8 ((fa_eq _ _).mpr (by have : ((0 : Int32).toInt) = 0 := (by decide); omega))
          refine lv_aload_n hx hb dX12_kidBehind_26 rfl (lv_at hl 2 rfl) ?_
          refine tw_get (ci := 12) (C := RX12) (T := TX12) (N := 64) hx hb hB cx_inX12 hown hK TH hm0 hk0 rfl ⟨by decide, rfl⟩ 18 (by decide) cw_1211 (fun _ h9 => h9) dX12_kidBehind_27 (fun hv => ?_)
          obtain ⟨xr11, hxr11, hmxr11, hkxr11⟩ : ∃ a : Nat, tw_fv E a0 18 = .ref a ∧ a ∈ L ∧ kp a = 318 := hv
          rw [hxr11]
          refine lv_iload_n hx hb dX12_kidBehind_30 rfl (lv_at hl 3 rfl) ?_
          refine tw_aald (k := 318) (t0 := 4) (n := 16) (lo := 328) (hi := 0) (ty := .int) hx hb hK TH hmxr11 hkxr11 (by decide) rfl rfl (i := x1) (vp_in_iff.mpr ⟨by  omega, by  omega⟩) dX12_kidBehind_31 (fun xr12 exr12 hmxr12 hkxr12 => ?_)
          have hkxr12 : kp xr12 = 328 := hkxr12
          refine lv_iload hx hb dX12_kidBehind_32 (lv_at hl 0 rfl) ?_
          refine tw_iald (k := 328) (t0 := 0) (n := 150) (lo := (-1)) (hi := 149) hx hb hK TH hmxr12 hkxr12 (by decide) rfl rfl (i := y6_5) (vp_in_iff.mpr ⟨by  omega, by  omega⟩) dX12_kidBehind_34 (fun hxe13a hxe13b => ?_)
          obtain ⟨xe13, exe13⟩ : ∃ z : Int32, tw_iv E xr12 (Int32.toNatClampNeg y6_5) = z := ⟨_, rfl⟩
          rw [exe13] at hxe13a hxe13b ⊢
          refine lv_iload_n hx hb dX12_kidBehind_35 rfl (lv_at hl 4 rfl) ?_
          refine lv_icmp_ne (tgt := 86) hx hb dX12_kidBehind_36 (by decide) (fun hc14 => ?_) (fun hc14 => ?_)
          · have hf15 : ¬ (xe13.toInt = x2.toInt) := fun q => hc14 ((fa_eq _ _).mpr (by  omega))
            exact hJ86 y6_4 _ _ ls (by omega) (by omega) (by  have rf_xe6 : rw_h E a0 (x1.toInt) (y6_5.toInt).toNat = xe6.toInt := rw_h_of (m := a0) (i := x1) (c := y6_5) hxr4 exr5 exe6; have rf_xe13 : rw_p E a0 (x1.toInt) (y6_5.toInt).toNat = xe13.toInt := rw_p_of (m := a0) (i := x1) (c := y6_5) hxr11 exr12 exe13; have hk5 : (((y6_5.toInt).toNat : Nat) : Int) = y6_5.toInt := (by omega); refine rt_kbk_step hin6_0 rfl ?_; (try rw [rf_xe6]); (try rw [rf_xe13]); omega) TH hS (lv_sub hl [0, 1, 2, 3, 4, 5] rfl)
          · have hf16 : xe13.toInt = x2.toInt := by have z := (fa_eq _ _).mp hc14;  omega
            refine lv_aload_n hx hb dX12_kidBehind_39 rfl (lv_at hl 2 rfl) ?_
            refine tw_get (ci := 12) (C := RX12) (T := TX12) (N := 64) hx hb hB cx_inX12 hown hK TH hm0 hk0 rfl ⟨by decide, rfl⟩ 19 (by decide) cw_1212 (fun _ h9 => h9) dX12_kidBehind_40 (fun hv => ?_)
            obtain ⟨xr17, hxr17, hmxr17, hkxr17⟩ : ∃ a : Nat, tw_fv E a0 19 = .ref a ∧ a ∈ L ∧ kp a = 319 := hv
            rw [hxr17]
            refine lv_iload_n hx hb dX12_kidBehind_43 rfl (lv_at hl 3 rfl) ?_
            refine tw_aald (k := 319) (t0 := 4) (n := 16) (lo := 329) (hi := 0) (ty := .int) hx hb hK TH hmxr17 hkxr17 (by decide) rfl rfl (i := x1) (vp_in_iff.mpr ⟨by  omega, by  omega⟩) dX12_kidBehind_44 (fun xr18 exr18 hmxr18 hkxr18 => ?_)
            have hkxr18 : kp xr18 = 329 := hkxr18
            refine lv_iload hx hb dX12_kidBehind_45 (lv_at hl 0 rfl) ?_
            refine tw_iald (k := 329) (t0 := 0) (n := 150) (lo := (-2147483648)) (hi := 2147483647) hx hb hK TH hmxr18 hkxr18 (by decide) rfl rfl (i := y6_5) (vp_in_iff.mpr ⟨by  omega, by  omega⟩) dX12_kidBehind_47 (fun hxe19a hxe19b => ?_)
            obtain ⟨xe19, exe19⟩ : ∃ z : Int32, tw_iv E xr18 (Int32.toNatClampNeg y6_5) = z := ⟨_, rfl⟩
            rw [exe19] at hxe19a hxe19b ⊢
            refine lv_iload_n hx hb dX12_kidBehind_48 rfl (lv_at hl 5 rfl) ?_
            refine lv_icmp_gt (tgt := 55) hx hb dX12_kidBehind_49 (by decide) (fun hc20 => ?_) (fun hc20 => ?_)
            · have hf21 : x3.toInt < xe19.toInt := by have z := (fa_lt _ _).mp hc20;  omega
              refine lv_iload hx hb dX12_kidBehind_55 (lv_at hl 1 rfl) ?_
              refine lv_iconst (v := (-1)) hx hb dX12_kidBehind_57 (by decide) ?_
              refine lv_icmp_eq (tgt := 82) hx hb dX12_kidBehind_58 (by decide) (fun hc22 => ?_) (fun hc22 => ?_)
              · have hf23 : y6_4.toInt = (-1) := by have z := (fa_eq _ _).mp hc22; have : (((-1) : Int32).toInt) = (-1) := (by decide); omega
                refine lv_iload hx hb dX12_kidBehind_82 (lv_at hl 0 rfl) ?_
                refine lv_istore (lv' := [(4, .int y6_5), (5, .int y6_5), (0, .ref a0), (1, .int x1), (2, .int x2), (3, .int x3)]) hx hb dX12_kidBehind_84 hl (by decide) rfl (fun ls hl => ?_)
                exact hJ86 y6_5 _ _ ls (by omega) (by omega) (by  have rf_xe6 : rw_h E a0 (x1.toInt) (y6_5.toInt).toNat = xe6.toInt := rw_h_of (m := a0) (i := x1) (c := y6_5) hxr4 exr5 exe6; have rf_xe13 : rw_p E a0 (x1.toInt) (y6_5.toInt).toNat = xe13.toInt := rw_p_of (m := a0) (i := x1) (c := y6_5) hxr11 exr12 exe13; have rf_xe19 : rw_q E a0 (x1.toInt) (y6_5.toInt).toNat = xe19.toInt := rw_q_of (m := a0) (i := x1) (c := y6_5) hxr17 exr18 exe19; have hk5 : (((y6_5.toInt).toNat : Nat) : Int) = y6_5.toInt := (by omega); refine rt_kbk_step hin6_0 rfl ?_; (try rw [rf_xe6]); (try rw [rf_xe13]); (try rw [rf_xe19]); omega) TH hS (lv_sub hl [1, 0, 2, 3, 4, 5] rfl)
              · have hf24 : ¬ (y6_4.toInt = (-1)) := fun q => hc22 ((fa_eq _ _).mpr (by have : (((-1) : Int32).toInt) = (-1) := (by decide); omega))
                refine lv_aload_n hx hb dX12_kidBehind_61 rfl (lv_at hl 2 rfl) ?_
                refine tw_get (ci := 12) (C := RX12) (T := TX12) (N := 64) hx hb hB cx_inX12 hown hK TH hm0 hk0 rfl ⟨by decide, rfl⟩ 19 (by decide) cw_1212 (fun _ h9 => h9) dX12_kidBehind_62 (fun hv => ?_)
                rw [hxr17]
                refine lv_iload_n hx hb dX12_kidBehind_65 rfl (lv_at hl 3 rfl) ?_
                refine tw_aald (k := 319) (t0 := 4) (n := 16) (lo := 329) (hi := 0) (ty := .int) hx hb hK TH hmxr17 hkxr17 (by decide) rfl rfl (i := x1) (vp_in_iff.mpr ⟨by  omega, by  omega⟩) dX12_kidBehind_66 (fun xr25 exr25 hmxr25 hkxr25 => ?_)
                have ezxr25 : xr18 = xr25 := exr18.symm.trans exr25
                subst ezxr25
                refine lv_iload hx hb dX12_kidBehind_67 (lv_at hl 0 rfl) ?_
                refine tw_iald (k := 329) (t0 := 0) (n := 150) (lo := (-2147483648)) (hi := 2147483647) hx hb hK TH hmxr18 hkxr18 (by decide) rfl rfl (i := y6_5) (vp_in_iff.mpr ⟨by  omega, by  omega⟩) dX12_kidBehind_69 (fun hxe26a hxe26b => ?_)
                rw [exe19]
                refine lv_aload_n hx hb dX12_kidBehind_70 rfl (lv_at hl 2 rfl) ?_
                refine tw_get (ci := 12) (C := RX12) (T := TX12) (N := 64) hx hb hB cx_inX12 hown hK TH hm0 hk0 rfl ⟨by decide, rfl⟩ 19 (by decide) cw_1212 (fun _ h9 => h9) dX12_kidBehind_71 (fun hv => ?_)
                rw [hxr17]
                refine lv_iload_n hx hb dX12_kidBehind_74 rfl (lv_at hl 3 rfl) ?_
                refine tw_aald (k := 319) (t0 := 4) (n := 16) (lo := 329) (hi := 0) (ty := .int) hx hb hK TH hmxr17 hkxr17 (by decide) rfl rfl (i := x1) (vp_in_iff.mpr ⟨by  omega, by  omega⟩) dX12_kidBehind_75 (fun xr27 exr27 hmxr27 hkxr27 => ?_)
                have ezxr27 : xr18 = xr27 := exr18.symm.trans exr27
                subst ezxr27
                refine lv_iload hx hb dX12_kidBehind_76 (lv_at hl 1 rfl) ?_
                refine tw_iald (k := 329) (t0 := 0) (n := 150) (lo := (-2147483648)) (hi := 2147483647) hx hb hK TH hmxr18 hkxr18 (by decide) rfl rfl (i := y6_4) (vp_in_iff.mpr ⟨by  omega, by  omega⟩) dX12_kidBehind_78 (fun hxe28a hxe28b => ?_)
                obtain ⟨xe28, exe28⟩ : ∃ z : Int32, tw_iv E xr18 (Int32.toNatClampNeg y6_4) = z := ⟨_, rfl⟩
                rw [exe28] at hxe28a hxe28b ⊢
                refine lv_icmp_ge (tgt := 86) hx hb dX12_kidBehind_79 (by decide) (fun hc29 => ?_) (fun hc29 => ?_)
                · have hf30 : xe28.toInt ≤ xe19.toInt := by have z := (fa_le _ _).mp hc29;  omega
                  exact hJ86 y6_4 _ _ ls (by omega) (by omega) (by  have rf_xe6 : rw_h E a0 (x1.toInt) (y6_5.toInt).toNat = xe6.toInt := rw_h_of (m := a0) (i := x1) (c := y6_5) hxr4 exr5 exe6; have rf_xe13 : rw_p E a0 (x1.toInt) (y6_5.toInt).toNat = xe13.toInt := rw_p_of (m := a0) (i := x1) (c := y6_5) hxr11 exr12 exe13; have rf_xe19 : rw_q E a0 (x1.toInt) (y6_5.toInt).toNat = xe19.toInt := rw_q_of (m := a0) (i := x1) (c := y6_5) hxr17 exr18 exe19; have rf_xe28 : rw_q E a0 (x1.toInt) (y6_4.toInt).toNat = xe28.toInt := rw_q_of (m := a0) (i := x1) (c := y6_4) hxr17 exr18 exe28; have hk5 : (((y6_5.toInt).toNat : Nat) : Int) = y6_5.toInt := (by omega); refine rt_kbk_step hin6_0 rfl ?_; (try rw [rf_xe6]); (try rw [rf_xe13]); (try rw [rf_xe19]); (try rw [rf_xe28]); omega) TH hS (lv_sub hl [0, 1, 2, 3, 4, 5] rfl)
                · have hf31 : ¬ (xe28.toInt ≤ xe19.toInt) := fun q => hc29 ((fa_le _ _).mpr (by  omega))
                  refine lv_iload hx hb dX12_kidBehind_82 (lv_at hl 0 rfl) ?_
                  refine lv_istore (lv' := [(4, .int y6_5), (5, .int y6_5), (0, .ref a0), (1, .int x1), (2, .int x2), (3, .int x3)]) hx hb dX12_kidBehind_84 hl (by decide) rfl (fun ls hl => ?_)
                  exact hJ86 y6_5 _ _ ls (by omega) (by omega) (by  have rf_xe6 : rw_h E a0 (x1.toInt) (y6_5.toInt).toNat = xe6.toInt := rw_h_of (m := a0) (i := x1) (c := y6_5) hxr4 exr5 exe6; have rf_xe13 : rw_p E a0 (x1.toInt) (y6_5.toInt).toNat = xe13.toInt := rw_p_of (m := a0) (i := x1) (c := y6_5) hxr11 exr12 exe13; have rf_xe19 : rw_q E a0 (x1.toInt) (y6_5.toInt).toNat = xe19.toInt := rw_q_of (m := a0) (i := x1) (c := y6_5) hxr17 exr18 exe19; have rf_xe28 : rw_q E a0 (x1.toInt) (y6_4.toInt).toNat = xe28.toInt := rw_q_of (m := a0) (i := x1) (c := y6_4) hxr17 exr18 exe28; have hk5 : (((y6_5.toInt).toNat : Nat) : Int) = y6_5.toInt := (by omega); refine rt_kbk_step hin6_0 rfl ?_; (try rw [rf_xe6]); (try rw [rf_xe13]); (try rw [rf_xe19]); (try rw [rf_xe28]); omega) TH hS (lv_sub hl [1, 0, 2, 3, 4, 5] rfl)
            · have hf32 : ¬ (x3.toInt < xe19.toInt) := fun q => hc20 ((fa_lt _ _).mpr (by  omega))
              refine lv_goto (tgt := 86) hx hb dX12_kidBehind_52 (by decide) ?_
              exact hJ86 y6_4 _ _ ls (by omega) (by omega) (by  have rf_xe6 : rw_h E a0 (x1.toInt) (y6_5.toInt).toNat = xe6.toInt := rw_h_of (m := a0) (i := x1) (c := y6_5) hxr4 exr5 exe6; have rf_xe13 : rw_p E a0 (x1.toInt) (y6_5.toInt).toNat = xe13.toInt := rw_p_of (m := a0) (i := x1) (c := y6_5) hxr11 exr12 exe13; have rf_xe19 : rw_q E a0 (x1.toInt) (y6_5.toInt).toNat = xe19.toInt := rw_q_of (m := a0) (i := x1) (c := y6_5) hxr17 exr18 exe19; have hk5 : (((y6_5.toInt).toNat : Nat) : Int) = y6_5.toInt := (by omega); refine rt_kbk_step hin6_0 rfl ?_; (try rw [rf_xe6]); (try rw [rf_xe13]); (try rw [rf_xe19]); omega) TH hS (lv_sub hl [0, 1, 2, 3, 4, 5] rfl)
  exact hJ6 151 (0 : Int32) ((-1) : Int32) _ _ ls (by have : ((0 : Int32).toInt) = 0 := (by decide); omega) (by have : ((0 : Int32).toInt) = 0 := (by decide); omega) (by have : (((-1) : Int32).toInt) = (-1) := (by decide); omega) (by have : (((-1) : Int32).toInt) = (-1) := (by decide); omega) (by have : (((-1) : Int32).toInt) = (-1) := (by decide); have : ((0 : Int32).toInt) = 0 := (by decide); exact rt_kbk_zero (by omega) (by omega)) (by have : (((-1) : Int32).toInt) = (-1) := (by decide); have : ((0 : Int32).toInt) = 0 := (by decide);  omega) TH hS (lv_sub hl [0, 1, 2, 3, 4, 5] rfl)
set_option maxHeartbeats 4000000 in
set_option maxRecDepth 100000 in
theorem tX12_firstKid (l : Launch) (D : va_G) (cs : Nat → ClassId) {kp : Nat → Nat} {L : List Nat} {E : Nat → va_E} (a0 : Nat) (x1 : Int32) (x2 : Int32) (hm0 : a0 ∈ L) (hk0 : kp a0 = 12) (hp1a : 0 ≤ x1.toInt) (hp1b : x1.toInt ≤ 15) (sz : Nat) : Met l yX12_firstKid (.code yX12_firstKid cX12_firstKid 3 (some .int) :: cx_big) { frames := 1, cells := 0, slots := 0, locals := 25 } (tw_P D cs kp L E [.ref a0, .int x1, .int x2] sz) (tw_Q D cs kp L (fun v kq Lq Eq => (∃ x : Int32, v = some (.int x) ∧ (-1) ≤ x.toInt ∧ x.toInt ≤ 149 ∧ (rt_kbk (rw_h E a0 x1.toInt) (rw_p E a0 x1.toInt) (rw_q E a0 x1.toInt) 150 x2.toInt (-1) x.toInt)) ∧ kp = kq ∧ L = Lq ∧ E = Eq) (va_A (va_pl L E) sz)) 0 0 (va_A (va_pl L E) sz) := by
  refine tw_ofW (by decide) (Nat.le_of_ble_eq_true rfl) ?_
  intro p e s m below meth c A ls hx hb hr hml hB hown hlocks hK hN hA TH hS hl
  have hown : s.vm.findClass "TreeMergeModel" = some m.cls := hown
  have hl : lv_has ls 3 [(0, .ref a0), (1, .int x1), (2, .int x2)] := hl
  obtain ⟨kp0, ekp⟩ : ∃ z, z = kp := ⟨_, rfl⟩
  obtain ⟨L0, eL⟩ : ∃ z, z = L := ⟨_, rfl⟩
  rw [show tw_Q D cs kp L = tw_Q D cs kp0 L0 by rw [ekp, eL]]
  have hex : ∀ a : Nat, a ∈ L0 → a ∈ L ∧ kp a = kp0 a := fun a h => ⟨by rw [← eL]; exact h, by rw [ekp]⟩
  refine lv_aload_n hx hb dX12_firstKid_0 rfl (lv_at hl 0 rfl) ?_
  refine lv_iload_n hx hb dX12_firstKid_1 rfl (lv_at hl 1 rfl) ?_
  refine lv_iload_n hx hb dX12_firstKid_2 rfl (lv_at hl 2 rfl) ?_
  refine lv_iconst (v := (-1)) hx hb dX12_firstKid_3 (by decide) ?_
  refine tw_Vc (o := a0) (ci := 12) (n := 3) (post := (fun v kq Lq Eq => (∃ x : Int32, v = some (.int x) ∧ (-1) ≤ x.toInt ∧ x.toInt ≤ 149 ∧ (rt_kbk (rw_h E a0 x1.toInt) (rw_p E a0 x1.toInt) (rw_q E a0 x1.toInt) 150 x2.toInt ((-1) : Int32).toInt x.toInt)) ∧ kp = kq ∧ L = Lq ∧ E = Eq)) (As := [.int x1, .int x2, .int (-1)]) (rest := []) ⟨hx, hb, hml, hown, hB⟩ (fun sz => tX12_kidBehind l D cs a0 x1 x2 ((-1) : Int32) hm0 hk0 (by omega) (by omega) sz) cg_12_288_X12_kidBehind rfl rfl (by decide +kernel) ⟨Nat.le_of_ble_eq_true rfl, Nat.le_of_ble_eq_true rfl⟩ hK hN TH hS hA rfl hm0 hk0 (by decide) rfl hl.1 rfl (Nat.le_of_ble_eq_true rfl) dX12_firstKid_4 ⟨Nat.le_of_ble_eq_true rfl, Nat.le_of_ble_eq_true rfl⟩ (fun v1 kp1 L1 E1 H locs hq1 hx1 TH hS => ?_)
  obtain ⟨⟨xc2, rfl, hxc2a, hxc2b, hpoxc2_0⟩, rfl, rfl, rfl⟩ := hq1
  refine W.eq (g2 := F0 m 7 ls [.int xc2]) rfl ?_
  exact tw_iret hx hb hr hlocks TH hS hex ⟨⟨_, rfl, (show (-1) ≤ Int32.toInt xc2 from by  omega), (show Int32.toInt xc2 ≤ 149 from by  omega), (by  have em1 : ((-1 : Int32).toInt) = -1 := (by decide); have q := hpoxc2_0; rw [em1] at q; exact q)⟩, rfl, rfl, rfl⟩ (Nat.le_of_ble_eq_true rfl) (Nat.le_of_ble_eq_true rfl) dX12_firstKid_7
set_option maxHeartbeats 4000000 in
set_option maxRecDepth 100000 in
theorem tX12_nextKid (l : Launch) (D : va_G) (cs : Nat → ClassId) {kp : Nat → Nat} {L : List Nat} {E : Nat → va_E} (a0 : Nat) (x1 : Int32) (x2 : Int32) (hm0 : a0 ∈ L) (hk0 : kp a0 = 12) (hp1a : 0 ≤ x1.toInt) (hp1b : x1.toInt ≤ 15) (hp2a : 0 ≤ x2.toInt) (hp2b : x2.toInt ≤ 149) (sz : Nat) : Met l yX12_nextKid (.code yX12_nextKid cX12_nextKid 3 (some .int) :: cx_big) { frames := 1, cells := 0, slots := 0, locals := 25 } (tw_P D cs kp L E [.ref a0, .int x1, .int x2] sz) (tw_Q D cs kp L (fun v kq Lq Eq => (∃ x : Int32, v = some (.int x) ∧ (-1) ≤ x.toInt ∧ x.toInt ≤ 149 ∧ (rt_kbk (rw_h E a0 x1.toInt) (rw_p E a0 x1.toInt) (rw_q E a0 x1.toInt) 150 (rw_p E a0 x1.toInt (x2.toInt).toNat) (rw_q E a0 x1.toInt (x2.toInt).toNat) x.toInt)) ∧ kp = kq ∧ L = Lq ∧ E = Eq) (va_A (va_pl L E) sz)) 0 0 (va_A (va_pl L E) sz) := by
  refine tw_ofW (by decide) (Nat.le_of_ble_eq_true rfl) ?_
  intro p e s m below meth c A ls hx hb hr hml hB hown hlocks hK hN hA TH hS hl
  have hown : s.vm.findClass "TreeMergeModel" = some m.cls := hown
  have hl : lv_has ls 3 [(0, .ref a0), (1, .int x1), (2, .int x2)] := hl
  obtain ⟨kp0, ekp⟩ : ∃ z, z = kp := ⟨_, rfl⟩
  obtain ⟨L0, eL⟩ : ∃ z, z = L := ⟨_, rfl⟩
  rw [show tw_Q D cs kp L = tw_Q D cs kp0 L0 by rw [ekp, eL]]
  have hex : ∀ a : Nat, a ∈ L0 → a ∈ L ∧ kp a = kp0 a := fun a h => ⟨by rw [← eL]; exact h, by rw [ekp]⟩
  refine lv_aload_n hx hb dX12_nextKid_0 rfl (lv_at hl 0 rfl) ?_
  refine lv_iload_n hx hb dX12_nextKid_1 rfl (lv_at hl 1 rfl) ?_
  refine lv_aload_n hx hb dX12_nextKid_2 rfl (lv_at hl 0 rfl) ?_
  refine tw_get (ci := 12) (C := RX12) (T := TX12) (N := 64) hx hb hB cx_inX12 hown hK TH hm0 hk0 rfl ⟨by decide, rfl⟩ 18 (by decide) cw_1211 (fun _ h9 => h9) dX12_nextKid_3 (fun hv => ?_)
  obtain ⟨xr1, hxr1, hmxr1, hkxr1⟩ : ∃ a : Nat, tw_fv E a0 18 = .ref a ∧ a ∈ L ∧ kp a = 318 := hv
  rw [hxr1]
  refine lv_iload_n hx hb dX12_nextKid_6 rfl (lv_at hl 1 rfl) ?_
  refine tw_aald (k := 318) (t0 := 4) (n := 16) (lo := 328) (hi := 0) (ty := .int) hx hb hK TH hmxr1 hkxr1 (by decide) rfl rfl (i := x1) (vp_in_iff.mpr ⟨by  omega, by  omega⟩) dX12_nextKid_7 (fun xr2 exr2 hmxr2 hkxr2 => ?_)
  have hkxr2 : kp xr2 = 328 := hkxr2
  refine lv_iload_n hx hb dX12_nextKid_8 rfl (lv_at hl 2 rfl) ?_
  refine tw_iald (k := 328) (t0 := 0) (n := 150) (lo := (-1)) (hi := 149) hx hb hK TH hmxr2 hkxr2 (by decide) rfl rfl (i := x2) (vp_in_iff.mpr ⟨by  omega, by  omega⟩) dX12_nextKid_9 (fun hxe3a hxe3b => ?_)
  obtain ⟨xe3, exe3⟩ : ∃ z : Int32, tw_iv E xr2 (Int32.toNatClampNeg x2) = z := ⟨_, rfl⟩
  rw [exe3] at hxe3a hxe3b ⊢
  refine lv_aload_n hx hb dX12_nextKid_10 rfl (lv_at hl 0 rfl) ?_
  refine tw_get (ci := 12) (C := RX12) (T := TX12) (N := 64) hx hb hB cx_inX12 hown hK TH hm0 hk0 rfl ⟨by decide, rfl⟩ 19 (by decide) cw_1212 (fun _ h9 => h9) dX12_nextKid_11 (fun hv => ?_)
  obtain ⟨xr4, hxr4, hmxr4, hkxr4⟩ : ∃ a : Nat, tw_fv E a0 19 = .ref a ∧ a ∈ L ∧ kp a = 319 := hv
  rw [hxr4]
  refine lv_iload_n hx hb dX12_nextKid_14 rfl (lv_at hl 1 rfl) ?_
  refine tw_aald (k := 319) (t0 := 4) (n := 16) (lo := 329) (hi := 0) (ty := .int) hx hb hK TH hmxr4 hkxr4 (by decide) rfl rfl (i := x1) (vp_in_iff.mpr ⟨by  omega, by  omega⟩) dX12_nextKid_15 (fun xr5 exr5 hmxr5 hkxr5 => ?_)
  have hkxr5 : kp xr5 = 329 := hkxr5
  refine lv_iload_n hx hb dX12_nextKid_16 rfl (lv_at hl 2 rfl) ?_
  refine tw_iald (k := 329) (t0 := 0) (n := 150) (lo := (-2147483648)) (hi := 2147483647) hx hb hK TH hmxr5 hkxr5 (by decide) rfl rfl (i := x2) (vp_in_iff.mpr ⟨by  omega, by  omega⟩) dX12_nextKid_17 (fun hxe6a hxe6b => ?_)
  obtain ⟨xe6, exe6⟩ : ∃ z : Int32, tw_iv E xr5 (Int32.toNatClampNeg x2) = z := ⟨_, rfl⟩
  rw [exe6] at hxe6a hxe6b ⊢
  refine tw_Vc (o := a0) (ci := 12) (n := 3) (post := (fun v kq Lq Eq => (∃ x : Int32, v = some (.int x) ∧ (-1) ≤ x.toInt ∧ x.toInt ≤ 149 ∧ (rt_kbk (rw_h E a0 x1.toInt) (rw_p E a0 x1.toInt) (rw_q E a0 x1.toInt) 150 xe3.toInt xe6.toInt x.toInt)) ∧ kp = kq ∧ L = Lq ∧ E = Eq)) (As := [.int x1, .int xe3, .int xe6]) (rest := []) ⟨hx, hb, hml, hown, hB⟩ (fun sz => tX12_kidBehind l D cs a0 x1 xe3 xe6 hm0 hk0 (by omega) (by omega) sz) cg_12_288_X12_kidBehind rfl rfl (by decide +kernel) ⟨Nat.le_of_ble_eq_true rfl, Nat.le_of_ble_eq_true rfl⟩ hK hN TH hS hA rfl hm0 hk0 (by decide) rfl hl.1 rfl (Nat.le_of_ble_eq_true rfl) dX12_nextKid_18 ⟨Nat.le_of_ble_eq_true rfl, Nat.le_of_ble_eq_true rfl⟩ (fun v7 kp7 L7 E7 H locs hq7 hx7 TH hS => ?_)
  obtain ⟨⟨xc8, rfl, hxc8a, hxc8b, hpoxc8_0⟩, rfl, rfl, rfl⟩ := hq7
  refine W.eq (g2 := F0 m 21 ls [.int xc8]) rfl ?_
  exact tw_iret hx hb hr hlocks TH hS hex ⟨⟨_, rfl, (show (-1) ≤ Int32.toInt xc8 from by  omega), (show Int32.toInt xc8 ≤ 149 from by  omega), (by  have rf_xe3 : rw_p E a0 (x1.toInt) (x2.toInt).toNat = xe3.toInt := rw_p_of (m := a0) (i := x1) (c := x2) hxr1 exr2 exe3; have rf_xe6 : rw_q E a0 (x1.toInt) (x2.toInt).toNat = xe6.toInt := rw_q_of (m := a0) (i := x1) (c := x2) hxr4 exr5 exe6; rw [rf_xe3]; rw [rf_xe6]; exact hpoxc8_0)⟩, rfl, rfl, rfl⟩ (Nat.le_of_ble_eq_true rfl) (Nat.le_of_ble_eq_true rfl) dX12_nextKid_21
set_option maxHeartbeats 4000000 in
set_option maxRecDepth 100000 in
theorem tX12_kidsOf (l : Launch) (D : va_G) (cs : Nat → ClassId) {kp : Nat → Nat} {L : List Nat} {E : Nat → va_E} (a0 : Nat) (x1 : Int32) (x2 : Int32) (hm0 : a0 ∈ L) (hk0 : kp a0 = 12) (hp1a : 0 ≤ x1.toInt) (hp1b : x1.toInt ≤ 15) (sz : Nat) : Met l yX12_kidsOf (.code yX12_kidsOf cX12_kidsOf 5 (some .int) :: cx_big) { frames := 0, cells := 0, slots := 0, locals := 0 } (tw_P D cs kp L E [.ref a0, .int x1, .int x2] sz) (tw_Q D cs kp L (fun v kq Lq Eq => (∃ x : Int32, v = some (.int x) ∧ 0 ≤ x.toInt ∧ x.toInt ≤ 150 ∧ (x.toInt = 0 → nk_inv (rw_h E a0 x1.toInt) (rw_p E a0 x1.toInt) x2.toInt 150)) ∧ kp = kq ∧ L = Lq ∧ E = Eq) (va_A (va_pl L E) sz)) 0 0 (va_A (va_pl L E) sz) := by
  refine tw_ofW (by decide) (Nat.le_of_ble_eq_true rfl) ?_
  intro p e s m below meth c A ls hx hb hr hml hB hown hlocks hK hN hA TH hS hl
  have hown : s.vm.findClass "TreeMergeModel" = some m.cls := hown
  have hl : lv_has ls 5 [(0, .ref a0), (1, .int x1), (2, .int x2)] := hl
  obtain ⟨kp0, ekp⟩ : ∃ z, z = kp := ⟨_, rfl⟩
  obtain ⟨L0, eL⟩ : ∃ z, z = L := ⟨_, rfl⟩
  rw [show tw_Q D cs kp L = tw_Q D cs kp0 L0 by rw [ekp, eL]]
  have hex : ∀ a : Nat, a ∈ L0 → a ∈ L ∧ kp a = kp0 a := fun a h => ⟨by rw [← eL]; exact h, by rw [ekp]⟩
  refine lv_iconst (v := 0) hx hb dX12_kidsOf_0 (by decide) ?_
  refine lv_istore_n (lv' := [(3, .int 0), (0, .ref a0), (1, .int x1), (2, .int x2)]) hx hb dX12_kidsOf_1 rfl hl (by decide) rfl (fun ls hl => ?_)
  refine lv_iconst (v := 0) hx hb dX12_kidsOf_2 (by decide) ?_
  refine lv_istore (lv' := [(4, .int 0), (3, .int 0), (0, .ref a0), (1, .int x1), (2, .int x2)]) hx hb dX12_kidsOf_3 hl (by decide) rfl (fun ls hl => ?_)
  have hJ5 : ∀ (n5 : Nat) (y5_4 : Int32) (y5_3 : Int32) (H : Heap) (locs : List Loc) (ls : Array Slot), 0 ≤ y5_4.toInt → y5_4.toInt ≤ 150 → (0 ≤ y5_3.toInt) → (y5_3.toInt ≤ y5_4.toInt) → (y5_3.toInt = 0 → nk_inv (rw_h E a0 (x1.toInt)) (rw_p E a0 (x1.toInt)) (x2.toInt) (y5_4.toInt).toNat) → 150 - y5_4.toInt ≤ (n5 : Int) → tw_H D cs kp L E A H → va_S A s.heap H locs → lv_has ls 5 [(4, .int y5_4), (3, .int y5_3), (0, .ref a0), (1, .int x1), (2, .int x2)] → W p l e { frames := 0, cells := 0, slots := 0, locals := 0 } s m [.ref a0, .int x1, .int x2].toArray below meth c H locs 0 0 (MQ below (tw_Q D cs kp0 L0 (fun v kq Lq Eq => (∃ x : Int32, v = some (.int x) ∧ 0 ≤ x.toInt ∧ x.toInt ≤ 150 ∧ (x.toInt = 0 → nk_inv (rw_h E a0 x1.toInt) (rw_p E a0 x1.toInt) x2.toInt 150)) ∧ kp = kq ∧ L = Lq ∧ E = Eq) A) [.ref a0, .int x1, .int x2].toArray s 0 0 A) (F0 m 5 ls []) := by
    intro n5
    induction n5 using Nat.strongRecOn with
    | _ n5 ih5 =>
      intro y5_4 y5_3 H locs ls hy5_4a hy5_4b hin5_0 hin5_1 hin5_2 hmeas5 TH hS hl
      refine lv_iload hx hb dX12_kidsOf_5 (lv_at hl 0 rfl) ?_
      refine lv_sipush (v := 150) hx hb dX12_kidsOf_7 (by decide) ?_
      refine lv_icmp_ge (tgt := 52) hx hb dX12_kidsOf_10 (by decide) (fun hc1 => ?_) (fun hc1 => ?_)
      · have hf2 : 150 ≤ y5_4.toInt := by have z := (fa_le _ _).mp hc1; have : ((150 : Int32).toInt) = 150 := (by decide); omega
        refine lv_iload_n hx hb dX12_kidsOf_52 rfl (lv_at hl 1 rfl) ?_
        exact tw_iret hx hb hr hlocks TH hS hex ⟨⟨_, rfl, (show 0 ≤ Int32.toInt y5_3 from by  omega), (show Int32.toInt y5_3 ≤ 150 from by  omega), (by  intro q0; have h150 : (y5_4.toInt).toNat = 150 := (by omega); have q := hin5_2 q0; rw [h150] at q; exact q)⟩, rfl, rfl, rfl⟩ (Nat.le_of_ble_eq_true rfl) (Nat.le_of_ble_eq_true rfl) dX12_kidsOf_53
      · have hf3 : ¬ (150 ≤ y5_4.toInt) := fun q => hc1 ((fa_le _ _).mpr (by have : ((150 : Int32).toInt) = 150 := (by decide); omega))
        refine lv_iload_n hx hb dX12_kidsOf_13 rfl (lv_at hl 1 rfl) ?_
        refine lv_aload_n hx hb dX12_kidsOf_14 rfl (lv_at hl 2 rfl) ?_
        refine tw_get (ci := 12) (C := RX12) (T := TX12) (N := 64) hx hb hB cx_inX12 hown hK TH hm0 hk0 rfl ⟨by decide, rfl⟩ 16 (by decide) cw_1209 (fun _ h9 => h9) dX12_kidsOf_15 (fun hv => ?_)
        obtain ⟨xr4, hxr4, hmxr4, hkxr4⟩ : ∃ a : Nat, tw_fv E a0 16 = .ref a ∧ a ∈ L ∧ kp a = 316 := hv
        rw [hxr4]
        refine lv_iload_n hx hb dX12_kidsOf_18 rfl (lv_at hl 3 rfl) ?_
        refine tw_aald (k := 316) (t0 := 5) (n := 16) (lo := 326) (hi := 0) (ty := .boolean) hx hb hK TH hmxr4 hkxr4 (by decide) rfl rfl (i := x1) (vp_in_iff.mpr ⟨by  omega, by  omega⟩) dX12_kidsOf_19 (fun xr5 exr5 hmxr5 hkxr5 => ?_)
        have hkxr5 : kp xr5 = 326 := hkxr5
        refine lv_iload hx hb dX12_kidsOf_20 (lv_at hl 0 rfl) ?_
        refine tw_zald (k := 326) (t0 := 3) (n := 150) (lo := 0) (hi := 1) hx hb hK TH hmxr5 hkxr5 (by decide) rfl rfl (i := y5_4) (vp_in_iff.mpr ⟨by  omega, by  omega⟩) dX12_kidsOf_22 (fun hxe6a hxe6b => ?_)
        obtain ⟨xe6, exe6⟩ : ∃ z : Int32, tw_iv E xr5 (Int32.toNatClampNeg y5_4) = z := ⟨_, rfl⟩
        rw [exe6] at hxe6a hxe6b ⊢
        refine lv_if_eq (tgt := 43) hx hb dX12_kidsOf_23 (by decide) (fun hc7 => ?_) (fun hc7 => ?_)
        · have hf8 : xe6.toInt = 0 := by have z := (fa_eq _ _).mp hc7; have : ((0 : Int32).toInt) = 0 := (by decide); omega
          refine lv_iconst (v := 0) hx hb dX12_kidsOf_43 (by decide) ?_
          refine lv_iadd hx hb dX12_kidsOf_44 ?_
          refine lv_topi (fun zi9 ezi9 => ?_)
          have hzi9 : zi9.toInt = y5_3.toInt + 0 := by rw [ezi9]; have : ((0 : Int32).toInt) = 0 := (by decide); have := ia_lo y5_3; have := ia_hi y5_3; exact (ia_add (by omega) (by omega)).trans (by omega)
          refine lv_istore_n (lv' := [(3, .int zi9), (4, .int y5_4), (0, .ref a0), (1, .int x1), (2, .int x2)]) hx hb dX12_kidsOf_45 rfl hl (by decide) rfl (fun ls hl => ?_)
          obtain ⟨zi10, ezi10⟩ : ∃ z : Int32, z = y5_4 + Int32.ofInt 1 := ⟨_, rfl⟩
          have hzi10 : zi10.toInt = y5_4.toInt + 1 := by rw [ezi10]; have : ((Int32.ofInt 1).toInt) = 1 := (by decide);  exact (ia_add (by omega) (by omega)).trans (by omega)
          refine lv_iinc (v := zi10) (lv' := [(4, .int zi10), (3, .int zi9), (0, .ref a0), (1, .int x1), (2, .int x2)]) hx hb dX12_kidsOf_46 hl (k := 1) rfl ezi10.symm (by decide) rfl (fun ls hl => ?_)
          refine lv_goto (tgt := 5) hx hb dX12_kidsOf_49 (by decide) ?_
          exact ih5 (n5 - 1) (by   omega) zi10 zi9 _ _ ls (by omega) (by omega) (by  omega) (by  omega) (by  have rf_xe6 : rw_h E a0 (x1.toInt) (y5_4.toInt).toNat = xe6.toInt := rw_h_of (m := a0) (i := x1) (c := y5_4) hxr4 exr5 exe6; intro q0; refine nk_step (hin5_2 (by omega)) (show (zi10.toInt).toNat = (y5_4.toInt).toNat + 1 by omega) ?_; (try rw [rf_xe6]); omega) (by   omega) TH hS (lv_sub hl [0, 1, 2, 3, 4] rfl)
        · have hf11 : ¬ (xe6.toInt = 0) := fun q => hc7 ((fa_eq _ _).mpr (by have : ((0 : Int32).toInt) = 0 := (by decide); omega))
          refine lv_aload_n hx hb dX12_kidsOf_26 rfl (lv_at hl 2 rfl) ?_
          refine tw_get (ci := 12) (C := RX12) (T := TX12) (N := 64) hx hb hB cx_inX12 hown hK TH hm0 hk0 rfl ⟨by decide, rfl⟩ 18 (by decide) cw_1211 (fun _ h9 => h9) dX12_kidsOf_27 (fun hv => ?_)
          obtain ⟨xr12, hxr12, hmxr12, hkxr12⟩ : ∃ a : Nat, tw_fv E a0 18 = .ref a ∧ a ∈ L ∧ kp a = 318 := hv
          rw [hxr12]
          refine lv_iload_n hx hb dX12_kidsOf_30 rfl (lv_at hl 3 rfl) ?_
          refine tw_aald (k := 318) (t0 := 4) (n := 16) (lo := 328) (hi := 0) (ty := .int) hx hb hK TH hmxr12 hkxr12 (by decide) rfl rfl (i := x1) (vp_in_iff.mpr ⟨by  omega, by  omega⟩) dX12_kidsOf_31 (fun xr13 exr13 hmxr13 hkxr13 => ?_)
          have hkxr13 : kp xr13 = 328 := hkxr13
          refine lv_iload hx hb dX12_kidsOf_32 (lv_at hl 0 rfl) ?_
          refine tw_iald (k := 328) (t0 := 0) (n := 150) (lo := (-1)) (hi := 149) hx hb hK TH hmxr13 hkxr13 (by decide) rfl rfl (i := y5_4) (vp_in_iff.mpr ⟨by  omega, by  omega⟩) dX12_kidsOf_34 (fun hxe14a hxe14b => ?_)
          obtain ⟨xe14, exe14⟩ : ∃ z : Int32, tw_iv E xr13 (Int32.toNatClampNeg y5_4) = z := ⟨_, rfl⟩
          rw [exe14] at hxe14a hxe14b ⊢
          refine lv_iload_n hx hb dX12_kidsOf_35 rfl (lv_at hl 4 rfl) ?_
          refine lv_icmp_ne (tgt := 43) hx hb dX12_kidsOf_36 (by decide) (fun hc15 => ?_) (fun hc15 => ?_)
          · have hf16 : ¬ (xe14.toInt = x2.toInt) := fun q => hc15 ((fa_eq _ _).mpr (by  omega))
            refine lv_iconst (v := 0) hx hb dX12_kidsOf_43 (by decide) ?_
            refine lv_iadd hx hb dX12_kidsOf_44 ?_
            refine lv_topi (fun zi17 ezi17 => ?_)
            have hzi17 : zi17.toInt = y5_3.toInt + 0 := by rw [ezi17]; have : ((0 : Int32).toInt) = 0 := (by decide); have := ia_lo y5_3; have := ia_hi y5_3; exact (ia_add (by omega) (by omega)).trans (by omega)
            refine lv_istore_n (lv' := [(3, .int zi17), (4, .int y5_4), (0, .ref a0), (1, .int x1), (2, .int x2)]) hx hb dX12_kidsOf_45 rfl hl (by decide) rfl (fun ls hl => ?_)
            obtain ⟨zi18, ezi18⟩ : ∃ z : Int32, z = y5_4 + Int32.ofInt 1 := ⟨_, rfl⟩
            have hzi18 : zi18.toInt = y5_4.toInt + 1 := by rw [ezi18]; have : ((Int32.ofInt 1).toInt) = 1 := (by decide);  exact (ia_add (by omega) (by omega)).trans (by omega)
            refine lv_iinc (v := zi18) (lv' := [(4, .int zi18), (3, .int zi17), (0, .ref a0), (1, .int x1), (2, .int x2)]) hx hb dX12_kidsOf_46 hl (k := 1) rfl ezi18.symm (by decide) rfl (fun ls hl => ?_)
            refine lv_goto (tgt := 5) hx hb dX12_kidsOf_49 (by decide) ?_
            exact ih5 (n5 - 1) (by   omega) zi18 zi17 _ _ ls (by omega) (by omega) (by  omega) (by  omega) (by  have rf_xe6 : rw_h E a0 (x1.toInt) (y5_4.toInt).toNat = xe6.toInt := rw_h_of (m := a0) (i := x1) (c := y5_4) hxr4 exr5 exe6; have rf_xe14 : rw_p E a0 (x1.toInt) (y5_4.toInt).toNat = xe14.toInt := rw_p_of (m := a0) (i := x1) (c := y5_4) hxr12 exr13 exe14; intro q0; refine nk_step (hin5_2 (by omega)) (show (zi18.toInt).toNat = (y5_4.toInt).toNat + 1 by omega) ?_; (try rw [rf_xe6]); (try rw [rf_xe14]); omega) (by   omega) TH hS (lv_sub hl [0, 1, 2, 3, 4] rfl)
          · have hf19 : xe14.toInt = x2.toInt := by have z := (fa_eq _ _).mp hc15;  omega
            refine lv_iconst (v := 1) hx hb dX12_kidsOf_39 (by decide) ?_
            refine lv_goto (tgt := 44) hx hb dX12_kidsOf_40 (by decide) ?_
            refine lv_iadd hx hb dX12_kidsOf_44 ?_
            refine lv_topi (fun zi20 ezi20 => ?_)
            have hzi20 : zi20.toInt = y5_3.toInt + 1 := by rw [ezi20]; have : ((1 : Int32).toInt) = 1 := (by decide); have := ia_lo y5_3; have := ia_hi y5_3; exact (ia_add (by omega) (by omega)).trans (by omega)
            refine lv_istore_n (lv' := [(3, .int zi20), (4, .int y5_4), (0, .ref a0), (1, .int x1), (2, .int x2)]) hx hb dX12_kidsOf_45 rfl hl (by decide) rfl (fun ls hl => ?_)
            obtain ⟨zi21, ezi21⟩ : ∃ z : Int32, z = y5_4 + Int32.ofInt 1 := ⟨_, rfl⟩
            have hzi21 : zi21.toInt = y5_4.toInt + 1 := by rw [ezi21]; have : ((Int32.ofInt 1).toInt) = 1 := (by decide);  exact (ia_add (by omega) (by omega)).trans (by omega)
            refine lv_iinc (v := zi21) (lv' := [(4, .int zi21), (3, .int zi20), (0, .ref a0), (1, .int x1), (2, .int x2)]) hx hb dX12_kidsOf_46 hl (k := 1) rfl ezi21.symm (by decide) rfl (fun ls hl => ?_)
            refine lv_goto (tgt := 5) hx hb dX12_kidsOf_49 (by decide) ?_
            exact ih5 (n5 - 1) (by   omega) zi21 zi20 _ _ ls (by omega) (by omega) (by  omega) (by  omega) (by  have rf_xe6 : rw_h E a0 (x1.toInt) (y5_4.toInt).toNat = xe6.toInt := rw_h_of (m := a0) (i := x1) (c := y5_4) hxr4 exr5 exe6; have rf_xe14 : rw_p E a0 (x1.toInt) (y5_4.toInt).toNat = xe14.toInt := rw_p_of (m := a0) (i := x1) (c := y5_4) hxr12 exr13 exe14; intro q0; refine nk_step (hin5_2 (by omega)) (show (zi21.toInt).toNat = (y5_4.toInt).toNat + 1 by omega) ?_; (try rw [rf_xe6]); (try rw [rf_xe14]); omega) (by   omega) TH hS (lv_sub hl [0, 1, 2, 3, 4] rfl)
  exact hJ5 151 (0 : Int32) (0 : Int32) _ _ ls (by have : ((0 : Int32).toInt) = 0 := (by decide); omega) (by have : ((0 : Int32).toInt) = 0 := (by decide); omega) (by have : ((0 : Int32).toInt) = 0 := (by decide); omega) (by have : ((0 : Int32).toInt) = 0 := (by decide); omega) (by have : ((0 : Int32).toInt) = 0 := (by decide); intro _ c hc; exact absurd hc (by omega)) (by have : ((0 : Int32).toInt) = 0 := (by decide);  omega) TH hS (lv_sub hl [0, 1, 2, 3, 4] rfl)
set_option maxHeartbeats 4000000 in
set_option maxRecDepth 100000 in
theorem tX12_root (l : Launch) (D : va_G) (cs : Nat → ClassId) {kp : Nat → Nat} {L : List Nat} {E : Nat → va_E} (a0 : Nat) (x1 : Int32) (hm0 : a0 ∈ L) (hk0 : kp a0 = 12) (hp1a : 0 ≤ x1.toInt) (hp1b : x1.toInt ≤ 15) (sz : Nat) : Met l yX12_root (.code yX12_root cX12_root 3 (some .int) :: cx_big) { frames := 0, cells := 0, slots := 0, locals := 0 } (tw_P D cs kp L E [.ref a0, .int x1] sz) (tw_Q D cs kp L (fun v kq Lq Eq => (∃ x : Int32, v = some (.int x) ∧ (-1) ≤ x.toInt ∧ x.toInt ≤ 149 ∧ ((x.toInt = -1 ∧ rt_nr (rw_h E a0 x1.toInt) (rw_p E a0 x1.toInt) 150) ∨ (0 ≤ x.toInt ∧ x.toInt < 150 ∧ rw_h E a0 x1.toInt (x.toInt).toNat ≠ 0 ∧ rw_p E a0 x1.toInt (x.toInt).toNat = -1))) ∧ kp = kq ∧ L = Lq ∧ E = Eq) (va_A (va_pl L E) sz)) 0 0 (va_A (va_pl L E) sz) := by
  refine tw_ofW (by decide) (Nat.le_of_ble_eq_true rfl) ?_
  intro p e s m below meth c A ls hx hb hr hml hB hown hlocks hK hN hA TH hS hl
  have hown : s.vm.findClass "TreeMergeModel" = some m.cls := hown
  have hl : lv_has ls 3 [(0, .ref a0), (1, .int x1)] := hl
  obtain ⟨kp0, ekp⟩ : ∃ z, z = kp := ⟨_, rfl⟩
  obtain ⟨L0, eL⟩ : ∃ z, z = L := ⟨_, rfl⟩
  rw [show tw_Q D cs kp L = tw_Q D cs kp0 L0 by rw [ekp, eL]]
  have hex : ∀ a : Nat, a ∈ L0 → a ∈ L ∧ kp a = kp0 a := fun a h => ⟨by rw [← eL]; exact h, by rw [ekp]⟩
  refine lv_iconst (v := 0) hx hb dX12_root_0 (by decide) ?_
  refine lv_istore_n (lv' := [(2, .int 0), (0, .ref a0), (1, .int x1)]) hx hb dX12_root_1 rfl hl (by decide) rfl (fun ls hl => ?_)
  have hJ2 : ∀ (n2 : Nat) (y2_2 : Int32) (H : Heap) (locs : List Loc) (ls : Array Slot), 0 ≤ y2_2.toInt → y2_2.toInt ≤ 150 → (rt_nr (rw_h E a0 (x1.toInt)) (rw_p E a0 (x1.toInt)) (y2_2.toInt).toNat) → 150 - y2_2.toInt ≤ (n2 : Int) → tw_H D cs kp L E A H → va_S A s.heap H locs → lv_has ls 3 [(2, .int y2_2), (0, .ref a0), (1, .int x1)] → W p l e { frames := 0, cells := 0, slots := 0, locals := 0 } s m [.ref a0, .int x1].toArray below meth c H locs 0 0 (MQ below (tw_Q D cs kp0 L0 (fun v kq Lq Eq => (∃ x : Int32, v = some (.int x) ∧ (-1) ≤ x.toInt ∧ x.toInt ≤ 149 ∧ ((x.toInt = -1 ∧ rt_nr (rw_h E a0 x1.toInt) (rw_p E a0 x1.toInt) 150) ∨ (0 ≤ x.toInt ∧ x.toInt < 150 ∧ rw_h E a0 x1.toInt (x.toInt).toNat ≠ 0 ∧ rw_p E a0 x1.toInt (x.toInt).toNat = -1))) ∧ kp = kq ∧ L = Lq ∧ E = Eq) A) [.ref a0, .int x1].toArray s 0 0 A) (F0 m 2 ls []) := by
    intro n2
    induction n2 using Nat.strongRecOn with
    | _ n2 ih2 =>
      intro y2_2 H locs ls hy2_2a hy2_2b hin2_0 hmeas2 TH hS hl
      refine lv_iload_n hx hb dX12_root_2 rfl (lv_at hl 0 rfl) ?_
      refine lv_sipush (v := 150) hx hb dX12_root_3 (by decide) ?_
      refine lv_icmp_ge (tgt := 40) hx hb dX12_root_6 (by decide) (fun hc1 => ?_) (fun hc1 => ?_)
      · have hf2 : 150 ≤ y2_2.toInt := by have z := (fa_le _ _).mp hc1; have : ((150 : Int32).toInt) = 150 := (by decide); omega
        refine lv_iconst (v := (-1)) hx hb dX12_root_40 (by decide) ?_
        exact tw_iret hx hb hr hlocks TH hS hex ⟨⟨_, rfl, (show (-1) ≤ Int32.toInt (-1) from by have : (((-1) : Int32).toInt) = (-1) := (by decide); omega), (show Int32.toInt (-1) ≤ 149 from by have : (((-1) : Int32).toInt) = (-1) := (by decide); omega), (by have : (((-1) : Int32).toInt) = (-1) := (by decide); have h150 : (y2_2.toInt).toNat = 150 := (by omega); rw [h150] at hin2_0; exact Or.inl ⟨by decide, hin2_0⟩)⟩, rfl, rfl, rfl⟩ (Nat.le_of_ble_eq_true rfl) (Nat.le_of_ble_eq_true rfl) dX12_root_41
      · have hf3 : ¬ (150 ≤ y2_2.toInt) := fun q => hc1 ((fa_le _ _).mpr (by have : ((150 : Int32).toInt) = 150 := (by decide); omega))
        refine lv_aload_n hx hb dX12_root_9 rfl (lv_at hl 1 rfl) ?_
        refine tw_get (ci := 12) (C := RX12) (T := TX12) (N := 64) hx hb hB cx_inX12 hown hK TH hm0 hk0 rfl ⟨by decide, rfl⟩ 16 (by decide) cw_1209 (fun _ h9 => h9) dX12_root_10 (fun hv => ?_)
        obtain ⟨xr4, hxr4, hmxr4, hkxr4⟩ : ∃ a : Nat, tw_fv E a0 16 = .ref a ∧ a ∈ L ∧ kp a = 316 := hv
        rw [hxr4]
        refine lv_iload_n hx hb dX12_root_13 rfl (lv_at hl 2 rfl) ?_
        refine tw_aald (k := 316) (t0 := 5) (n := 16) (lo := 326) (hi := 0) (ty := .boolean) hx hb hK TH hmxr4 hkxr4 (by decide) rfl rfl (i := x1) (vp_in_iff.mpr ⟨by  omega, by  omega⟩) dX12_root_14 (fun xr5 exr5 hmxr5 hkxr5 => ?_)
        have hkxr5 : kp xr5 = 326 := hkxr5
        refine lv_iload_n hx hb dX12_root_15 rfl (lv_at hl 0 rfl) ?_
        refine tw_zald (k := 326) (t0 := 3) (n := 150) (lo := 0) (hi := 1) hx hb hK TH hmxr5 hkxr5 (by decide) rfl rfl (i := y2_2) (vp_in_iff.mpr ⟨by  omega, by  omega⟩) dX12_root_16 (fun hxe6a hxe6b => ?_)
        obtain ⟨xe6, exe6⟩ : ∃ z : Int32, tw_iv E xr5 (Int32.toNatClampNeg y2_2) = z := ⟨_, rfl⟩
        rw [exe6] at hxe6a hxe6b ⊢
        refine lv_if_eq (tgt := 34) hx hb dX12_root_17 (by decide) (fun hc7 => ?_) (fun hc7 => ?_)
        · have hf8 : xe6.toInt = 0 := by have z := (fa_eq _ _).mp hc7; have : ((0 : Int32).toInt) = 0 := (by decide); omega
          obtain ⟨zi9, ezi9⟩ : ∃ z : Int32, z = y2_2 + Int32.ofInt 1 := ⟨_, rfl⟩
          have hzi9 : zi9.toInt = y2_2.toInt + 1 := by rw [ezi9]; have : ((Int32.ofInt 1).toInt) = 1 := (by decide);  exact (ia_add (by omega) (by omega)).trans (by omega)
          refine lv_iinc (v := zi9) (lv' := [(2, .int zi9), (0, .ref a0), (1, .int x1)]) hx hb dX12_root_34 hl (k := 0) rfl ezi9.symm (by decide) rfl (fun ls hl => ?_)
          refine lv_goto (tgt := 2) hx hb dX12_root_37 (by decide) ?_
          exact ih2 (n2 - 1) (by   omega) zi9 _ _ ls (by omega) (by omega) (by  have rf_xe6 : rw_h E a0 (x1.toInt) (y2_2.toInt).toNat = xe6.toInt := rw_h_of (m := a0) (i := x1) (c := y2_2) hxr4 exr5 exe6; refine rt_nr_step hin2_0 (show (zi9.toInt).toNat = (y2_2.toInt).toNat + 1 by omega) ?_; (try rw [rf_xe6]); omega) (by   omega) TH hS (lv_sub hl [0, 1, 2] rfl)
        · have hf10 : ¬ (xe6.toInt = 0) := fun q => hc7 ((fa_eq _ _).mpr (by have : ((0 : Int32).toInt) = 0 := (by decide); omega))
          refine lv_aload_n hx hb dX12_root_20 rfl (lv_at hl 1 rfl) ?_
          refine tw_get (ci := 12) (C := RX12) (T := TX12) (N := 64) hx hb hB cx_inX12 hown hK TH hm0 hk0 rfl ⟨by decide, rfl⟩ 18 (by decide) cw_1211 (fun _ h9 => h9) dX12_root_21 (fun hv => ?_)
          obtain ⟨xr11, hxr11, hmxr11, hkxr11⟩ : ∃ a : Nat, tw_fv E a0 18 = .ref a ∧ a ∈ L ∧ kp a = 318 := hv
          rw [hxr11]
          refine lv_iload_n hx hb dX12_root_24 rfl (lv_at hl 2 rfl) ?_
          refine tw_aald (k := 318) (t0 := 4) (n := 16) (lo := 328) (hi := 0) (ty := .int) hx hb hK TH hmxr11 hkxr11 (by decide) rfl rfl (i := x1) (vp_in_iff.mpr ⟨by  omega, by  omega⟩) dX12_root_25 (fun xr12 exr12 hmxr12 hkxr12 => ?_)
          have hkxr12 : kp xr12 = 328 := hkxr12
          refine lv_iload_n hx hb dX12_root_26 rfl (lv_at hl 0 rfl) ?_
          refine tw_iald (k := 328) (t0 := 0) (n := 150) (lo := (-1)) (hi := 149) hx hb hK TH hmxr12 hkxr12 (by decide) rfl rfl (i := y2_2) (vp_in_iff.mpr ⟨by  omega, by  omega⟩) dX12_root_27 (fun hxe13a hxe13b => ?_)
          obtain ⟨xe13, exe13⟩ : ∃ z : Int32, tw_iv E xr12 (Int32.toNatClampNeg y2_2) = z := ⟨_, rfl⟩
          rw [exe13] at hxe13a hxe13b ⊢
          refine lv_iconst (v := (-1)) hx hb dX12_root_28 (by decide) ?_
          refine lv_icmp_ne (tgt := 34) hx hb dX12_root_29 (by decide) (fun hc14 => ?_) (fun hc14 => ?_)
          · have hf15 : ¬ (xe13.toInt = (-1)) := fun q => hc14 ((fa_eq _ _).mpr (by have : (((-1) : Int32).toInt) = (-1) := (by decide); omega))
            obtain ⟨zi16, ezi16⟩ : ∃ z : Int32, z = y2_2 + Int32.ofInt 1 := ⟨_, rfl⟩
            have hzi16 : zi16.toInt = y2_2.toInt + 1 := by rw [ezi16]; have : ((Int32.ofInt 1).toInt) = 1 := (by decide);  exact (ia_add (by omega) (by omega)).trans (by omega)
            refine lv_iinc (v := zi16) (lv' := [(2, .int zi16), (0, .ref a0), (1, .int x1)]) hx hb dX12_root_34 hl (k := 0) rfl ezi16.symm (by decide) rfl (fun ls hl => ?_)
            refine lv_goto (tgt := 2) hx hb dX12_root_37 (by decide) ?_
            exact ih2 (n2 - 1) (by   omega) zi16 _ _ ls (by omega) (by omega) (by  have rf_xe6 : rw_h E a0 (x1.toInt) (y2_2.toInt).toNat = xe6.toInt := rw_h_of (m := a0) (i := x1) (c := y2_2) hxr4 exr5 exe6; have rf_xe13 : rw_p E a0 (x1.toInt) (y2_2.toInt).toNat = xe13.toInt := rw_p_of (m := a0) (i := x1) (c := y2_2) hxr11 exr12 exe13; refine rt_nr_step hin2_0 (show (zi16.toInt).toNat = (y2_2.toInt).toNat + 1 by omega) ?_; (try rw [rf_xe6]); (try rw [rf_xe13]); omega) (by   omega) TH hS (lv_sub hl [0, 1, 2] rfl)
          · have hf17 : xe13.toInt = (-1) := by have z := (fa_eq _ _).mp hc14; have : (((-1) : Int32).toInt) = (-1) := (by decide); omega
            refine lv_iload_n hx hb dX12_root_32 rfl (lv_at hl 0 rfl) ?_
            exact tw_iret hx hb hr hlocks TH hS hex ⟨⟨_, rfl, (show (-1) ≤ Int32.toInt y2_2 from by  omega), (show Int32.toInt y2_2 ≤ 149 from by  omega), (by  have rf_xe6 : rw_h E a0 (x1.toInt) (y2_2.toInt).toNat = xe6.toInt := rw_h_of (m := a0) (i := x1) (c := y2_2) hxr4 exr5 exe6; have rf_xe13 : rw_p E a0 (x1.toInt) (y2_2.toInt).toNat = xe13.toInt := rw_p_of (m := a0) (i := x1) (c := y2_2) hxr11 exr12 exe13; refine Or.inr ⟨by omega, by omega, ?_, ?_⟩; ((try rw [rf_xe6]); (try rw [rf_xe13]); omega); ((try rw [rf_xe6]); (try rw [rf_xe13]); omega))⟩, rfl, rfl, rfl⟩ (Nat.le_of_ble_eq_true rfl) (Nat.le_of_ble_eq_true rfl) dX12_root_33
  exact hJ2 151 (0 : Int32) _ _ ls (by have : ((0 : Int32).toInt) = 0 := (by decide); omega) (by have : ((0 : Int32).toInt) = 0 := (by decide); omega) (by have : ((0 : Int32).toInt) = 0 := (by decide); intro c hc; exact absurd hc (by omega)) (by have : ((0 : Int32).toInt) = 0 := (by decide);  omega) TH hS (lv_sub hl [0, 1, 2] rfl)
set_option maxHeartbeats 4000000 in
set_option maxRecDepth 100000 in
theorem tX12_size (l : Launch) (D : va_G) (cs : Nat → ClassId) {kp : Nat → Nat} {L : List Nat} {E : Nat → va_E} (a0 : Nat) (x1 : Int32) (hm0 : a0 ∈ L) (hk0 : kp a0 = 12) (hp1a : 0 ≤ x1.toInt) (hp1b : x1.toInt ≤ 15) (sz : Nat) : Met l yX12_size (.code yX12_size cX12_size 4 (some .int) :: cx_big) { frames := 0, cells := 0, slots := 0, locals := 0 } (tw_P D cs kp L E [.ref a0, .int x1] sz) (tw_Q D cs kp L (fun v kq Lq Eq => (∃ x : Int32, v = some (.int x) ∧ 0 ≤ x.toInt ∧ x.toInt ≤ 150 ∧ (x.toInt = (rt_size (rw_h E a0 x1.toInt) : Int))) ∧ kp = kq ∧ L = Lq ∧ E = Eq) (va_A (va_pl L E) sz)) 0 0 (va_A (va_pl L E) sz) := by
  refine tw_ofW (by decide) (Nat.le_of_ble_eq_true rfl) ?_
  intro p e s m below meth c A ls hx hb hr hml hB hown hlocks hK hN hA TH hS hl
  have hown : s.vm.findClass "TreeMergeModel" = some m.cls := hown
  have hl : lv_has ls 4 [(0, .ref a0), (1, .int x1)] := hl
  obtain ⟨kp0, ekp⟩ : ∃ z, z = kp := ⟨_, rfl⟩
  obtain ⟨L0, eL⟩ : ∃ z, z = L := ⟨_, rfl⟩
  rw [show tw_Q D cs kp L = tw_Q D cs kp0 L0 by rw [ekp, eL]]
  have hex : ∀ a : Nat, a ∈ L0 → a ∈ L ∧ kp a = kp0 a := fun a h => ⟨by rw [← eL]; exact h, by rw [ekp]⟩
  refine lv_iconst (v := 0) hx hb dX12_size_0 (by decide) ?_
  refine lv_istore_n (lv' := [(2, .int 0), (0, .ref a0), (1, .int x1)]) hx hb dX12_size_1 rfl hl (by decide) rfl (fun ls hl => ?_)
  refine lv_iconst (v := 0) hx hb dX12_size_2 (by decide) ?_
  refine lv_istore_n (lv' := [(3, .int 0), (2, .int 0), (0, .ref a0), (1, .int x1)]) hx hb dX12_size_3 rfl hl (by decide) rfl (fun ls hl => ?_)
  have hJ4 : ∀ (n4 : Nat) (y4_3 : Int32) (y4_2 : Int32) (H : Heap) (locs : List Loc) (ls : Array Slot), 0 ≤ y4_3.toInt → y4_3.toInt ≤ 150 → (0 ≤ y4_2.toInt) → (y4_2.toInt ≤ y4_3.toInt) → (y4_2.toInt = (rt_cnt (fun m => decide (rw_h E a0 (x1.toInt) m ≠ 0)) (y4_3.toInt).toNat : Int)) → 150 - y4_3.toInt ≤ (n4 : Int) → tw_H D cs kp L E A H → va_S A s.heap H locs → lv_has ls 4 [(3, .int y4_3), (2, .int y4_2), (0, .ref a0), (1, .int x1)] → W p l e { frames := 0, cells := 0, slots := 0, locals := 0 } s m [.ref a0, .int x1].toArray below meth c H locs 0 0 (MQ below (tw_Q D cs kp0 L0 (fun v kq Lq Eq => (∃ x : Int32, v = some (.int x) ∧ 0 ≤ x.toInt ∧ x.toInt ≤ 150 ∧ (x.toInt = (rt_size (rw_h E a0 x1.toInt) : Int))) ∧ kp = kq ∧ L = Lq ∧ E = Eq) A) [.ref a0, .int x1].toArray s 0 0 A) (F0 m 4 ls []) := by
    intro n4
    induction n4 using Nat.strongRecOn with
    | _ n4 ih4 =>
      intro y4_3 y4_2 H locs ls hy4_3a hy4_3b hin4_0 hin4_1 hin4_2 hmeas4 TH hS hl
      refine lv_iload_n hx hb dX12_size_4 rfl (lv_at hl 0 rfl) ?_
      refine lv_sipush (v := 150) hx hb dX12_size_5 (by decide) ?_
      refine lv_icmp_ge (tgt := 36) hx hb dX12_size_8 (by decide) (fun hc1 => ?_) (fun hc1 => ?_)
      · have hf2 : 150 ≤ y4_3.toInt := by have z := (fa_le _ _).mp hc1; have : ((150 : Int32).toInt) = 150 := (by decide); omega
        refine lv_iload_n hx hb dX12_size_36 rfl (lv_at hl 1 rfl) ?_
        exact tw_iret hx hb hr hlocks TH hS hex ⟨⟨_, rfl, (show 0 ≤ Int32.toInt y4_2 from by  omega), (show Int32.toInt y4_2 ≤ 150 from by  omega), (by  have h150 : (y4_3.toInt).toNat = 150 := (by omega); rw [h150] at hin4_2; exact hin4_2)⟩, rfl, rfl, rfl⟩ (Nat.le_of_ble_eq_true rfl) (Nat.le_of_ble_eq_true rfl) dX12_size_37
      · have hf3 : ¬ (150 ≤ y4_3.toInt) := fun q => hc1 ((fa_le _ _).mpr (by have : ((150 : Int32).toInt) = 150 := (by decide); omega))
        refine lv_iload_n hx hb dX12_size_11 rfl (lv_at hl 1 rfl) ?_
        refine lv_aload_n hx hb dX12_size_12 rfl (lv_at hl 2 rfl) ?_
        refine tw_get (ci := 12) (C := RX12) (T := TX12) (N := 64) hx hb hB cx_inX12 hown hK TH hm0 hk0 rfl ⟨by decide, rfl⟩ 16 (by decide) cw_1209 (fun _ h9 => h9) dX12_size_13 (fun hv => ?_)
        obtain ⟨xr4, hxr4, hmxr4, hkxr4⟩ : ∃ a : Nat, tw_fv E a0 16 = .ref a ∧ a ∈ L ∧ kp a = 316 := hv
        rw [hxr4]
        refine lv_iload_n hx hb dX12_size_16 rfl (lv_at hl 3 rfl) ?_
        refine tw_aald (k := 316) (t0 := 5) (n := 16) (lo := 326) (hi := 0) (ty := .boolean) hx hb hK TH hmxr4 hkxr4 (by decide) rfl rfl (i := x1) (vp_in_iff.mpr ⟨by  omega, by  omega⟩) dX12_size_17 (fun xr5 exr5 hmxr5 hkxr5 => ?_)
        have hkxr5 : kp xr5 = 326 := hkxr5
        refine lv_iload_n hx hb dX12_size_18 rfl (lv_at hl 0 rfl) ?_
        refine tw_zald (k := 326) (t0 := 3) (n := 150) (lo := 0) (hi := 1) hx hb hK TH hmxr5 hkxr5 (by decide) rfl rfl (i := y4_3) (vp_in_iff.mpr ⟨by  omega, by  omega⟩) dX12_size_19 (fun hxe6a hxe6b => ?_)
        obtain ⟨xe6, exe6⟩ : ∃ z : Int32, tw_iv E xr5 (Int32.toNatClampNeg y4_3) = z := ⟨_, rfl⟩
        rw [exe6] at hxe6a hxe6b ⊢
        refine lv_if_eq (tgt := 27) hx hb dX12_size_20 (by decide) (fun hc7 => ?_) (fun hc7 => ?_)
        · have hf8 : xe6.toInt = 0 := by have z := (fa_eq _ _).mp hc7; have : ((0 : Int32).toInt) = 0 := (by decide); omega
          refine lv_iconst (v := 0) hx hb dX12_size_27 (by decide) ?_
          refine lv_iadd hx hb dX12_size_28 ?_
          refine lv_topi (fun zi9 ezi9 => ?_)
          have hzi9 : zi9.toInt = y4_2.toInt + 0 := by rw [ezi9]; have : ((0 : Int32).toInt) = 0 := (by decide); have := ia_lo y4_2; have := ia_hi y4_2; exact (ia_add (by omega) (by omega)).trans (by omega)
          refine lv_istore_n (lv' := [(2, .int zi9), (3, .int y4_3), (0, .ref a0), (1, .int x1)]) hx hb dX12_size_29 rfl hl (by decide) rfl (fun ls hl => ?_)
          obtain ⟨zi10, ezi10⟩ : ∃ z : Int32, z = y4_3 + Int32.ofInt 1 := ⟨_, rfl⟩
          have hzi10 : zi10.toInt = y4_3.toInt + 1 := by rw [ezi10]; have : ((Int32.ofInt 1).toInt) = 1 := (by decide);  exact (ia_add (by omega) (by omega)).trans (by omega)
          refine lv_iinc (v := zi10) (lv' := [(3, .int zi10), (2, .int zi9), (0, .ref a0), (1, .int x1)]) hx hb dX12_size_30 hl (k := 1) rfl ezi10.symm (by decide) rfl (fun ls hl => ?_)
          refine lv_goto (tgt := 4) hx hb dX12_size_33 (by decide) ?_
          exact ih4 (n4 - 1) (by   omega) zi10 zi9 _ _ ls (by omega) (by omega) (by  omega) (by  omega) (by  have rf_xe6 : rw_h E a0 (x1.toInt) (y4_3.toInt).toNat = xe6.toInt := rw_h_of (m := a0) (i := x1) (c := y4_3) hxr4 exr5 exe6; refine rt_cnt_h (show (zi10.toInt).toNat = (y4_3.toInt).toNat + 1 by omega) hin4_2 ?_; rw [rf_xe6]; omega) (by   omega) TH hS (lv_sub hl [0, 1, 2, 3] rfl)
        · have hf11 : ¬ (xe6.toInt = 0) := fun q => hc7 ((fa_eq _ _).mpr (by have : ((0 : Int32).toInt) = 0 := (by decide); omega))
          refine lv_iconst (v := 1) hx hb dX12_size_23 (by decide) ?_
          refine lv_goto (tgt := 28) hx hb dX12_size_24 (by decide) ?_
          refine lv_iadd hx hb dX12_size_28 ?_
          refine lv_topi (fun zi12 ezi12 => ?_)
          have hzi12 : zi12.toInt = y4_2.toInt + 1 := by rw [ezi12]; have : ((1 : Int32).toInt) = 1 := (by decide); have := ia_lo y4_2; have := ia_hi y4_2; exact (ia_add (by omega) (by omega)).trans (by omega)
          refine lv_istore_n (lv' := [(2, .int zi12), (3, .int y4_3), (0, .ref a0), (1, .int x1)]) hx hb dX12_size_29 rfl hl (by decide) rfl (fun ls hl => ?_)
          obtain ⟨zi13, ezi13⟩ : ∃ z : Int32, z = y4_3 + Int32.ofInt 1 := ⟨_, rfl⟩
          have hzi13 : zi13.toInt = y4_3.toInt + 1 := by rw [ezi13]; have : ((Int32.ofInt 1).toInt) = 1 := (by decide);  exact (ia_add (by omega) (by omega)).trans (by omega)
          refine lv_iinc (v := zi13) (lv' := [(3, .int zi13), (2, .int zi12), (0, .ref a0), (1, .int x1)]) hx hb dX12_size_30 hl (k := 1) rfl ezi13.symm (by decide) rfl (fun ls hl => ?_)
          refine lv_goto (tgt := 4) hx hb dX12_size_33 (by decide) ?_
          exact ih4 (n4 - 1) (by   omega) zi13 zi12 _ _ ls (by omega) (by omega) (by  omega) (by  omega) (by  have rf_xe6 : rw_h E a0 (x1.toInt) (y4_3.toInt).toNat = xe6.toInt := rw_h_of (m := a0) (i := x1) (c := y4_3) hxr4 exr5 exe6; refine rt_cnt_h (show (zi13.toInt).toNat = (y4_3.toInt).toNat + 1 by omega) hin4_2 ?_; rw [rf_xe6]; omega) (by   omega) TH hS (lv_sub hl [0, 1, 2, 3] rfl)
  exact hJ4 151 (0 : Int32) (0 : Int32) _ _ ls (by have : ((0 : Int32).toInt) = 0 := (by decide); omega) (by have : ((0 : Int32).toInt) = 0 := (by decide); omega) (by have : ((0 : Int32).toInt) = 0 := (by decide); omega) (by have : ((0 : Int32).toInt) = 0 := (by decide); omega) (by have : ((0 : Int32).toInt) = 0 := (by decide); show _ = ((0 : Nat) : Int); omega) (by have : ((0 : Int32).toInt) = 0 := (by decide);  omega) TH hS (lv_sub hl [0, 1, 2, 3] rfl)
set_option maxHeartbeats 4000000 in
set_option maxRecDepth 100000 in
theorem tX12_longOf (l : Launch) (D : va_G) (cs : Nat → ClassId) {kp : Nat → Nat} {L : List Nat} {E : Nat → va_E} (x0 : Int64)  (sz : Nat) : Met l yX12_longOf (.code yX12_longOf cX12_longOf 5 (some .int) :: cx_big) { frames := 0, cells := 0, slots := 0, locals := 0 } (tw_P D cs kp L E [.long x0] sz) (tw_Q D cs kp L (fun v kq Lq Eq => (∃ x : Int32, v = some (.int x) ∧ 0 ≤ x.toInt ∧ x.toInt ≤ 8) ∧ kp = kq ∧ L = Lq ∧ E = Eq) (va_A (va_pl L E) sz)) 0 0 (va_A (va_pl L E) sz) := by
  refine tw_ofW (by decide) (Nat.le_of_ble_eq_true rfl) ?_
  intro p e s m below meth c A ls hx hb hr hml hB hown hlocks hK hN hA TH hS hl
  have hown : s.vm.findClass "TreeMergeModel" = some m.cls := hown
  have hl : lv_has ls 5 [(0, .long x0)] := hl
  obtain ⟨kp0, ekp⟩ : ∃ z, z = kp := ⟨_, rfl⟩
  obtain ⟨L0, eL⟩ : ∃ z, z = L := ⟨_, rfl⟩
  rw [show tw_Q D cs kp L = tw_Q D cs kp0 L0 by rw [ekp, eL]]
  have hex : ∀ a : Nat, a ∈ L0 → a ∈ L ∧ kp a = kp0 a := fun a h => ⟨by rw [← eL]; exact h, by rw [ekp]⟩
  refine lv_iconst (v := 0) hx hb dX12_longOf_0 (by decide) ?_
  refine lv_istore_n (lv' := [(2, .int 0), (0, .long x0)]) hx hb dX12_longOf_1 rfl hl (by decide) rfl (fun ls hl => ?_)
  refine lv_lload_n hx hb dX12_longOf_2 rfl (lv_at hl 1 rfl) ?_
  refine lv_lstore_n (lv' := [(3, .long x0), (2, .int 0), (0, .long x0)]) hx hb dX12_longOf_3 rfl hl (by decide) rfl (fun ls hl => ?_)
  have hJ4 : ∀ (n4 : Nat) (y4_3 : Int64) (y4_2 : Int32) (H : Heap) (locs : List Loc) (ls : Array Slot), (lo_inv y4_3 (y4_2.toInt)) → (y4_2.toInt ≤ 8) → (0 ≤ y4_2.toInt) → 8 - y4_2.toInt ≤ (n4 : Int) → tw_H D cs kp L E A H → va_S A s.heap H locs → lv_has ls 5 [(3, .long y4_3), (2, .int y4_2)] → W p l e { frames := 0, cells := 0, slots := 0, locals := 0 } s m [.long x0].toArray below meth c H locs 0 0 (MQ below (tw_Q D cs kp0 L0 (fun v kq Lq Eq => (∃ x : Int32, v = some (.int x) ∧ 0 ≤ x.toInt ∧ x.toInt ≤ 8) ∧ kp = kq ∧ L = Lq ∧ E = Eq) A) [.long x0].toArray s 0 0 A) (F0 m 4 ls []) := by
    intro n4
    induction n4 using Nat.strongRecOn with
    | _ n4 ih4 =>
      intro y4_3 y4_2 H locs ls hin4_0 hin4_1 hin4_2 hmeas4 TH hS hl
      refine lv_lload_n hx hb dX12_longOf_4 rfl (lv_at hl 0 rfl) ?_
      refine lv_lconst (v := 0) hx hb dX12_longOf_5 (by decide) ?_
      refine tw_topl (fun zl1 ezl1 => ?_)
      have hzl1 : zl1.toInt = 0 := by rw [ezl1]; decide
      refine W.lcmp hx hb dX12_longOf_6 ?_
      have hzi2 := ia_lc y4_3 zl1
      generalize lg_cmp y4_3 zl1 = zi2 at hzi2 ⊢
      refine lv_if_eq (tgt := 21) hx hb dX12_longOf_7 (by decide) (fun hc3 => ?_) (fun hc3 => ?_)
      · have hf4 : zi2.toInt = 0 := by have z := (fa_eq _ _).mp hc3; have : ((0 : Int32).toInt) = 0 := (by decide); omega
        refine lv_iload_n hx hb dX12_longOf_21 rfl (lv_at hl 1 rfl) ?_
        exact tw_iret hx hb hr hlocks TH hS hex ⟨⟨_, rfl, (show 0 ≤ Int32.toInt y4_2 from by  omega), (show Int32.toInt y4_2 ≤ 8 from by  omega)⟩, rfl, rfl, rfl⟩ (Nat.le_of_ble_eq_true rfl) (Nat.le_of_ble_eq_true rfl) dX12_longOf_22
      · have hf5 : ¬ (zi2.toInt = 0) := fun q => hc3 ((fa_eq _ _).mpr (by have : ((0 : Int32).toInt) = 0 := (by decide); omega))
        have hlt8 := lo_inv_lt hin4_0 (by omega)
        obtain ⟨zi6, ezi6⟩ : ∃ z : Int32, z = y4_2 + Int32.ofInt 1 := ⟨_, rfl⟩
        have hzi6 : zi6.toInt = y4_2.toInt + 1 := by rw [ezi6]; have : ((Int32.ofInt 1).toInt) = 1 := (by decide);  exact (ia_add (by omega) (by omega)).trans (by omega)
        refine lv_iinc (v := zi6) (lv' := [(2, .int zi6), (3, .long y4_3)]) hx hb dX12_longOf_10 hl (k := 1) rfl ezi6.symm (by decide) rfl (fun ls hl => ?_)
        refine lv_lload_n hx hb dX12_longOf_13 rfl (lv_at hl 1 rfl) ?_
        refine lv_bipush (v := 8) hx hb dX12_longOf_14 (by decide) ?_
        refine lv_lushr (v := ((y4_3).toUInt64 >>> (((8 : Int32)).toInt64.toUInt64 &&& Int64.toUInt64 63)).toInt64) hx hb dX12_longOf_16 rfl ?_
        refine tw_topl (fun zl7 ezl7 => ?_)
        refine lv_lstore_n (lv' := [(3, .long zl7), (2, .int zi6)]) hx hb dX12_longOf_17 rfl hl (by decide) rfl (fun ls hl => ?_)
        refine lv_goto (tgt := 4) hx hb dX12_longOf_18 (by decide) ?_
        exact ih4 (n4 - 1) (by   omega) zl7 zi6 _ _ ls (by  exact lo_inv_step hin4_0 (by omega) ezl7 (by omega)) (by  have := lo_inv_lt hin4_0 (by omega); omega) (by  omega) (by   omega) TH hS (lv_sub hl [0, 1] rfl)
  exact hJ4 9 x0 (0 : Int32) _ _ ls (by have : ((0 : Int32).toInt) = 0 := (by decide); exact lo_inv_zero _ (by omega)) (by have : ((0 : Int32).toInt) = 0 := (by decide); omega) (by have : ((0 : Int32).toInt) = 0 := (by decide); omega) (by have : ((0 : Int32).toInt) = 0 := (by decide);  omega) TH hS (lv_sub hl [0, 1] rfl)
set_option maxHeartbeats 4000000 in
set_option maxRecDepth 100000 in
theorem tX12_isLess (l : Launch) (D : va_G) (cs : Nat → ClassId) {kp : Nat → Nat} {L : List Nat} {E : Nat → va_E} (x0 : Int64) (x1 : Int64)  (sz : Nat) : Met l yX12_isLess (.code yX12_isLess cX12_isLess 8 (some .boolean) :: cx_big) { frames := 1, cells := 0, slots := 0, locals := 24 } (tw_P D cs kp L E [.long x0, .long x1] sz) (tw_Q D cs kp L (fun v kq Lq Eq => (∃ x : Int32, v = some (.int x) ∧ 0 ≤ x.toInt ∧ x.toInt ≤ 1) ∧ kp = kq ∧ L = Lq ∧ E = Eq) (va_A (va_pl L E) sz)) 0 0 (va_A (va_pl L E) sz) := by
  refine tw_ofW (by decide) (Nat.le_of_ble_eq_true rfl) ?_
  intro p e s m below meth c A ls hx hb hr hml hB hown hlocks hK hN hA TH hS hl
  have hown : s.vm.findClass "TreeMergeModel" = some m.cls := hown
  have hl : lv_has ls 8 [(0, .long x0), (2, .long x1)] := hl
  obtain ⟨kp0, ekp⟩ : ∃ z, z = kp := ⟨_, rfl⟩
  obtain ⟨L0, eL⟩ : ∃ z, z = L := ⟨_, rfl⟩
  rw [show tw_Q D cs kp L = tw_Q D cs kp0 L0 by rw [ekp, eL]]
  have hex : ∀ a : Nat, a ∈ L0 → a ∈ L ∧ kp a = kp0 a := fun a h => ⟨by rw [← eL]; exact h, by rw [ekp]⟩
  refine lv_lload_n hx hb dX12_isLess_0 rfl (lv_at hl 0 rfl) ?_
  refine lv_lconst (v := 0) hx hb dX12_isLess_1 (by decide) ?_
  refine tw_topl (fun zl1 ezl1 => ?_)
  have hzl1 : zl1.toInt = 0 := by rw [ezl1]; decide
  refine W.lcmp hx hb dX12_isLess_2 ?_
  have hzi2 := ia_lc x0 zl1
  generalize lg_cmp x0 zl1 = zi2 at hzi2 ⊢
  have hJ22 : ∀ (z22_0 : Int64) (H : Heap) (locs : List Loc) (ls : Array Slot), tw_H D cs kp L E A H → va_S A s.heap H locs → lv_has ls 8 [(2, .long x1)] → W p l e { frames := 1, cells := 0, slots := 0, locals := 24 } s m [.long x0, .long x1].toArray below meth c H locs 0 0 (MQ below (tw_Q D cs kp0 L0 (fun v kq Lq Eq => (∃ x : Int32, v = some (.int x) ∧ 0 ≤ x.toInt ∧ x.toInt ≤ 1) ∧ kp = kq ∧ L = Lq ∧ E = Eq) A) [.long x0, .long x1].toArray s 0 0 A) (F0 m 22 ls [.long z22_0]) := by
    intro z22_0 H locs ls TH hS hl
    refine lv_lstore (lv' := [(4, .long z22_0), (2, .long x1)]) hx hb dX12_isLess_22 hl (by decide) rfl (fun ls hl => ?_)
    refine lv_lload_n hx hb dX12_isLess_24 rfl (lv_at hl 1 rfl) ?_
    refine lv_lconst (v := 0) hx hb dX12_isLess_25 (by decide) ?_
    refine tw_topl (fun zl3 ezl3 => ?_)
    have hzl3 : zl3.toInt = 0 := by rw [ezl3]; decide
    refine W.lcmp hx hb dX12_isLess_26 ?_
    have hzi4 := ia_lc x1 zl3
    generalize lg_cmp x1 zl3 = zi4 at hzi4 ⊢
    refine lv_if_ne (tgt := 34) hx hb dX12_isLess_27 (by decide) (fun hc5 => ?_) (fun hc5 => ?_)
    · have hf6 : ¬ (zi4.toInt = 0) := fun q => hc5 ((fa_eq _ _).mpr (by have : ((0 : Int32).toInt) = 0 := (by decide); omega))
      refine lv_lload_n hx hb dX12_isLess_34 rfl (lv_at hl 1 rfl) ?_
      refine lv_bipush (v := 8) hx hb dX12_isLess_35 (by decide) ?_
      refine lv_bipush (v := 8) hx hb dX12_isLess_37 (by decide) ?_
      refine lv_lload_n hx hb dX12_isLess_39 rfl (lv_at hl 1 rfl) ?_
      refine tw_Sc (n := 1) (post := (fun v kq Lq Eq => (∃ x : Int32, v = some (.int x) ∧ 0 ≤ x.toInt ∧ x.toInt ≤ 8) ∧ kp = kq ∧ L = Lq ∧ E = Eq)) (As := [.long x1]) (rest := [.int 8, .int 8, .long x1]) ⟨hx, hb, hml, hown, hB⟩ (fun sz => tX12_longOf l D cs x1  sz) cg_12_297_X12_longOf rfl rfl (by decide +kernel) ⟨Nat.le_of_ble_eq_true rfl, Nat.le_of_ble_eq_true rfl⟩ hK hN TH hS hA rfl hl.1 rfl (Nat.le_of_ble_eq_true rfl) dX12_isLess_40 ⟨Nat.le_of_ble_eq_true rfl, Nat.le_of_ble_eq_true rfl⟩ (fun v7 kp7 L7 E7 H locs hq7 hx7 TH hS => ?_)
      obtain ⟨⟨xc8, rfl, hxc8a, hxc8b⟩, rfl, rfl, rfl⟩ := hq7
      refine W.eq (g2 := F0 m 43 ls [.int xc8, .int 8, .int 8, .long x1]) rfl ?_
      refine lv_isub hx hb dX12_isLess_43 ?_
      refine lv_topi (fun zi9 ezi9 => ?_)
      have hzi9 : zi9.toInt = 8 - xc8.toInt := by rw [ezi9]; have : ((8 : Int32).toInt) = 8 := (by decide); have := ia_lo xc8; have := ia_hi xc8; exact (ia_sub (by omega) (by omega)).trans (by omega)
      refine lv_imul hx hb dX12_isLess_44 ?_
      refine lv_topi (fun zi10 ezi10 => ?_)
      have hzi10 : zi10.toInt = 8 * zi9.toInt := by rw [ezi10]; exact (ia_mul (by have hc : ((8 : Int32).toInt) = 8 := (by decide); rw [hc]; omega) (by have hc : ((8 : Int32).toInt) = 8 := (by decide); rw [hc]; omega)).trans (by have hc : ((8 : Int32).toInt) = 8 := (by decide); rw [hc])
      refine lv_lshl (v := ((x1) <<< (((zi10 : Int32)).toInt64 &&& 63))) hx hb dX12_isLess_45 rfl ?_
      refine tw_topl (fun zl11 ezl11 => ?_)
      refine lv_lstore (lv' := [(6, .long zl11), (4, .long z22_0), (2, .long x1)]) hx hb dX12_isLess_46 hl (by decide) rfl (fun ls hl => ?_)
      refine lv_lload hx hb dX12_isLess_48 (lv_at hl 1 rfl) ?_
      refine lv_lload hx hb dX12_isLess_50 (lv_at hl 0 rfl) ?_
      refine W.lcmp hx hb dX12_isLess_52 ?_
      have hzi12 := ia_lc z22_0 zl11
      generalize lg_cmp z22_0 zl11 = zi12 at hzi12 ⊢
      refine lv_if_ge (tgt := 60) hx hb dX12_isLess_53 (by decide) (fun hc13 => ?_) (fun hc13 => ?_)
      · have hf14 : 0 ≤ zi12.toInt := by have z := (fa_le _ _).mp hc13; have : ((0 : Int32).toInt) = 0 := (by decide); omega
        refine lv_iconst (v := 0) hx hb dX12_isLess_60 (by decide) ?_
        exact tw_zret hx hb hr hlocks (by decide) TH hS hex ⟨⟨_, rfl, (show 0 ≤ Int32.toInt 0 from by have : ((0 : Int32).toInt) = 0 := (by decide); omega), (show Int32.toInt 0 ≤ 1 from by have : ((0 : Int32).toInt) = 0 := (by decide); omega)⟩, rfl, rfl, rfl⟩ (Nat.le_of_ble_eq_true rfl) (Nat.le_of_ble_eq_true rfl) dX12_isLess_61
      · have hf15 : ¬ (0 ≤ zi12.toInt) := fun q => hc13 ((fa_le _ _).mpr (by have : ((0 : Int32).toInt) = 0 := (by decide); omega))
        refine lv_iconst (v := 1) hx hb dX12_isLess_56 (by decide) ?_
        refine lv_goto (tgt := 61) hx hb dX12_isLess_57 (by decide) ?_
        exact tw_zret hx hb hr hlocks (by decide) TH hS hex ⟨⟨_, rfl, (show 0 ≤ Int32.toInt 1 from by have : ((1 : Int32).toInt) = 1 := (by decide); omega), (show Int32.toInt 1 ≤ 1 from by have : ((1 : Int32).toInt) = 1 := (by decide); omega)⟩, rfl, rfl, rfl⟩ (Nat.le_of_ble_eq_true rfl) (Nat.le_of_ble_eq_true rfl) dX12_isLess_61
    · have hf16 : zi4.toInt = 0 := by have z := (fa_eq _ _).mp hc5; have : ((0 : Int32).toInt) = 0 := (by decide); omega
      refine lv_lconst (v := 0) hx hb dX12_isLess_30 (by decide) ?_
      refine tw_topl (fun zl17 ezl17 => ?_)
      have hzl17 : zl17.toInt = 0 := by rw [ezl17]; decide
      refine lv_goto (tgt := 46) hx hb dX12_isLess_31 (by decide) ?_
      refine lv_lstore (lv' := [(6, .long zl17), (4, .long z22_0), (2, .long x1)]) hx hb dX12_isLess_46 hl (by decide) rfl (fun ls hl => ?_)
      refine lv_lload hx hb dX12_isLess_48 (lv_at hl 1 rfl) ?_
      refine lv_lload hx hb dX12_isLess_50 (lv_at hl 0 rfl) ?_
      refine W.lcmp hx hb dX12_isLess_52 ?_
      have hzi18 := ia_lc z22_0 zl17
      generalize lg_cmp z22_0 zl17 = zi18 at hzi18 ⊢
      refine lv_if_ge (tgt := 60) hx hb dX12_isLess_53 (by decide) (fun hc19 => ?_) (fun hc19 => ?_)
      · have hf20 : 0 ≤ zi18.toInt := by have z := (fa_le _ _).mp hc19; have : ((0 : Int32).toInt) = 0 := (by decide); omega
        refine lv_iconst (v := 0) hx hb dX12_isLess_60 (by decide) ?_
        exact tw_zret hx hb hr hlocks (by decide) TH hS hex ⟨⟨_, rfl, (show 0 ≤ Int32.toInt 0 from by have : ((0 : Int32).toInt) = 0 := (by decide); omega), (show Int32.toInt 0 ≤ 1 from by have : ((0 : Int32).toInt) = 0 := (by decide); omega)⟩, rfl, rfl, rfl⟩ (Nat.le_of_ble_eq_true rfl) (Nat.le_of_ble_eq_true rfl) dX12_isLess_61
      · have hf21 : ¬ (0 ≤ zi18.toInt) := fun q => hc19 ((fa_le _ _).mpr (by have : ((0 : Int32).toInt) = 0 := (by decide); omega))
        refine lv_iconst (v := 1) hx hb dX12_isLess_56 (by decide) ?_
        refine lv_goto (tgt := 61) hx hb dX12_isLess_57 (by decide) ?_
        exact tw_zret hx hb hr hlocks (by decide) TH hS hex ⟨⟨_, rfl, (show 0 ≤ Int32.toInt 1 from by have : ((1 : Int32).toInt) = 1 := (by decide); omega), (show Int32.toInt 1 ≤ 1 from by have : ((1 : Int32).toInt) = 1 := (by decide); omega)⟩, rfl, rfl, rfl⟩ (Nat.le_of_ble_eq_true rfl) (Nat.le_of_ble_eq_true rfl) dX12_isLess_61
  refine lv_if_ne (tgt := 10) hx hb dX12_isLess_3 (by decide) (fun hc22 => ?_) (fun hc22 => ?_)
  · have hf23 : ¬ (zi2.toInt = 0) := fun q => hc22 ((fa_eq _ _).mpr (by have : ((0 : Int32).toInt) = 0 := (by decide); omega))
    refine lv_lload_n hx hb dX12_isLess_10 rfl (lv_at hl 0 rfl) ?_
    refine lv_bipush (v := 8) hx hb dX12_isLess_11 (by decide) ?_
    refine lv_bipush (v := 8) hx hb dX12_isLess_13 (by decide) ?_
    refine lv_lload_n hx hb dX12_isLess_15 rfl (lv_at hl 0 rfl) ?_
    refine tw_Sc (n := 1) (post := (fun v kq Lq Eq => (∃ x : Int32, v = some (.int x) ∧ 0 ≤ x.toInt ∧ x.toInt ≤ 8) ∧ kp = kq ∧ L = Lq ∧ E = Eq)) (As := [.long x0]) (rest := [.int 8, .int 8, .long x0]) ⟨hx, hb, hml, hown, hB⟩ (fun sz => tX12_longOf l D cs x0  sz) cg_12_297_X12_longOf rfl rfl (by decide +kernel) ⟨Nat.le_of_ble_eq_true rfl, Nat.le_of_ble_eq_true rfl⟩ hK hN TH hS hA rfl hl.1 rfl (Nat.le_of_ble_eq_true rfl) dX12_isLess_16 ⟨Nat.le_of_ble_eq_true rfl, Nat.le_of_ble_eq_true rfl⟩ (fun v24 kp24 L24 E24 H locs hq24 hx24 TH hS => ?_)
    obtain ⟨⟨xc25, rfl, hxc25a, hxc25b⟩, rfl, rfl, rfl⟩ := hq24
    refine W.eq (g2 := F0 m 19 ls [.int xc25, .int 8, .int 8, .long x0]) rfl ?_
    refine lv_isub hx hb dX12_isLess_19 ?_
    refine lv_topi (fun zi26 ezi26 => ?_)
    have hzi26 : zi26.toInt = 8 - xc25.toInt := by rw [ezi26]; have : ((8 : Int32).toInt) = 8 := (by decide); have := ia_lo xc25; have := ia_hi xc25; exact (ia_sub (by omega) (by omega)).trans (by omega)
    refine lv_imul hx hb dX12_isLess_20 ?_
    refine lv_topi (fun zi27 ezi27 => ?_)
    have hzi27 : zi27.toInt = 8 * zi26.toInt := by rw [ezi27]; exact (ia_mul (by have hc : ((8 : Int32).toInt) = 8 := (by decide); rw [hc]; omega) (by have hc : ((8 : Int32).toInt) = 8 := (by decide); rw [hc]; omega)).trans (by have hc : ((8 : Int32).toInt) = 8 := (by decide); rw [hc])
    refine lv_lshl (v := ((x0) <<< (((zi27 : Int32)).toInt64 &&& 63))) hx hb dX12_isLess_21 rfl ?_
    refine tw_topl (fun zl28 ezl28 => ?_)
    exact hJ22 zl28 _ _ ls  TH hS (lv_sub hl [1] rfl)
  · have hf29 : zi2.toInt = 0 := by have z := (fa_eq _ _).mp hc22; have : ((0 : Int32).toInt) = 0 := (by decide); omega
    refine lv_lconst (v := 0) hx hb dX12_isLess_6 (by decide) ?_
    refine tw_topl (fun zl30 ezl30 => ?_)
    have hzl30 : zl30.toInt = 0 := by rw [ezl30]; decide
    refine lv_goto (tgt := 22) hx hb dX12_isLess_7 (by decide) ?_
    exact hJ22 zl30 _ _ ls  TH hS (lv_sub hl [1] rfl)
set_option maxHeartbeats 4000000 in
set_option maxRecDepth 100000 in
theorem tX12_isAhead (l : Launch) (D : va_G) (cs : Nat → ClassId) {kp : Nat → Nat} {L : List Nat} {E : Nat → va_E} (a0 : Nat) (x1 : Int32) (x2 : Int32) (x3 : Int32) (hm0 : a0 ∈ L) (hk0 : kp a0 = 12) (hp1a : 0 ≤ x1.toInt) (hp1b : x1.toInt ≤ 15) (hp2a : 0 ≤ x2.toInt) (hp2b : x2.toInt ≤ 149) (hp3a : 0 ≤ x3.toInt) (hp3b : x3.toInt ≤ 149) (hpre0 : x1.toInt = 15 → x2.toInt ≤ 23) (hpre1 : x1.toInt = 15 → x3.toInt ≤ 23) (sz : Nat) : Met l yX12_isAhead (.code yX12_isAhead cX12_isAhead 4 (some .boolean) :: cx_big) { frames := 2, cells := 0, slots := 0, locals := 51 } (tw_P D cs kp L E [.ref a0, .int x1, .int x2, .int x3] sz) (tw_Q D cs kp L (fun v kq Lq Eq => (∃ x : Int32, v = some (.int x) ∧ 0 ≤ x.toInt ∧ x.toInt ≤ 1) ∧ kp = kq ∧ L = Lq ∧ E = Eq) (va_A (va_pl L E) sz)) 0 0 (va_A (va_pl L E) sz) := by
  refine tw_ofW (by decide) (Nat.le_of_ble_eq_true rfl) ?_
  intro p e s m below meth c A ls hx hb hr hml hB hown hlocks hK hN hA TH hS hl
  have hown : s.vm.findClass "TreeMergeModel" = some m.cls := hown
  have hl : lv_has ls 4 [(0, .ref a0), (1, .int x1), (2, .int x2), (3, .int x3)] := hl
  obtain ⟨kp0, ekp⟩ : ∃ z, z = kp := ⟨_, rfl⟩
  obtain ⟨L0, eL⟩ : ∃ z, z = L := ⟨_, rfl⟩
  rw [show tw_Q D cs kp L = tw_Q D cs kp0 L0 by rw [ekp, eL]]
  have hex : ∀ a : Nat, a ∈ L0 → a ∈ L ∧ kp a = kp0 a := fun a h => ⟨by rw [← eL]; exact h, by rw [ekp]⟩
  refine lv_aload_n hx hb dX12_isAhead_0 rfl (lv_at hl 0 rfl) ?_
  refine lv_iload_n hx hb dX12_isAhead_1 rfl (lv_at hl 1 rfl) ?_
  refine lv_iload_n hx hb dX12_isAhead_2 rfl (lv_at hl 2 rfl) ?_
  refine tw_Vc (o := a0) (ci := 12) (n := 2) (post := (fun v kq Lq Eq => (∃ x : Int32, v = some (.int x) ∧ 0 ≤ x.toInt ∧ x.toInt ≤ 9) ∧ kp = kq ∧ L = Lq ∧ E = Eq)) (As := [.int x1, .int x2]) (rest := []) ⟨hx, hb, hml, hown, hB⟩ (fun sz => tX12_kindOf l D cs a0 x1 x2 hm0 hk0 (by omega) (by omega) (by omega) (by omega) (by  omega) sz) cg_12_301_X12_kindOf rfl rfl (by decide +kernel) ⟨Nat.le_of_ble_eq_true rfl, Nat.le_of_ble_eq_true rfl⟩ hK hN TH hS hA rfl hm0 hk0 (by decide) rfl hl.1 rfl (Nat.le_of_ble_eq_true rfl) dX12_isAhead_3 ⟨Nat.le_of_ble_eq_true rfl, Nat.le_of_ble_eq_true rfl⟩ (fun v1 kp1 L1 E1 H locs hq1 hx1 TH hS => ?_)
  obtain ⟨⟨xc2, rfl, hxc2a, hxc2b⟩, rfl, rfl, rfl⟩ := hq1
  refine W.eq (g2 := F0 m 6 ls [.int xc2]) rfl ?_
  refine lv_aload_n hx hb dX12_isAhead_6 rfl (lv_at hl 0 rfl) ?_
  refine lv_iload_n hx hb dX12_isAhead_7 rfl (lv_at hl 1 rfl) ?_
  refine lv_iload_n hx hb dX12_isAhead_8 rfl (lv_at hl 3 rfl) ?_
  refine tw_Vc (o := a0) (ci := 12) (n := 2) (post := (fun v kq Lq Eq => (∃ x : Int32, v = some (.int x) ∧ 0 ≤ x.toInt ∧ x.toInt ≤ 9) ∧ kp = kq ∧ L = Lq ∧ E = Eq)) (As := [.int x1, .int x3]) (rest := [.int xc2]) ⟨hx, hb, hml, hown, hB⟩ (fun sz => tX12_kindOf l D cs a0 x1 x3 hm0 hk0 (by omega) (by omega) (by omega) (by omega) (by  omega) sz) cg_12_301_X12_kindOf rfl rfl (by decide +kernel) ⟨Nat.le_of_ble_eq_true rfl, Nat.le_of_ble_eq_true rfl⟩ hK hN TH hS hA rfl hm0 hk0 (by decide) rfl hl.1 rfl (Nat.le_of_ble_eq_true rfl) dX12_isAhead_9 ⟨Nat.le_of_ble_eq_true rfl, Nat.le_of_ble_eq_true rfl⟩ (fun v3 kp3 L3 E3 H locs hq3 hx3 TH hS => ?_)
  obtain ⟨⟨xc4, rfl, hxc4a, hxc4b⟩, rfl, rfl, rfl⟩ := hq3
  refine W.eq (g2 := F0 m 12 ls [.int xc4, .int xc2]) rfl ?_
  refine lv_icmp_eq (tgt := 36) hx hb dX12_isAhead_12 (by decide) (fun hc5 => ?_) (fun hc5 => ?_)
  · have hf6 : xc2.toInt = xc4.toInt := by have z := (fa_eq _ _).mp hc5;  omega
    refine lv_aload_n hx hb dX12_isAhead_36 rfl (lv_at hl 0 rfl) ?_
    refine tw_get (ci := 12) (C := RX12) (T := TX12) (N := 64) hx hb hB cx_inX12 hown hK TH hm0 hk0 rfl ⟨by decide, rfl⟩ 17 (by decide) cw_1210 (fun _ h9 => h9) dX12_isAhead_37 (fun hv => ?_)
    obtain ⟨xr7, hxr7, hmxr7, hkxr7⟩ : ∃ a : Nat, tw_fv E a0 17 = .ref a ∧ a ∈ L ∧ kp a = 317 := hv
    rw [hxr7]
    refine lv_iload_n hx hb dX12_isAhead_40 rfl (lv_at hl 1 rfl) ?_
    refine tw_aald (k := 317) (t0 := 6) (n := 16) (lo := 327) (hi := 0) (ty := .long) hx hb hK TH hmxr7 hkxr7 (by decide) rfl rfl (i := x1) (vp_in_iff.mpr ⟨by  omega, by  omega⟩) dX12_isAhead_41 (fun xr8 exr8 hmxr8 hkxr8 => ?_)
    have hkxr8 : kp xr8 = 327 := hkxr8
    refine lv_iload_n hx hb dX12_isAhead_42 rfl (lv_at hl 2 rfl) ?_
    refine tw_lald2 (k := 327) (n := 150) (lo := 0) (hi := 0) hx hb hK TH hmxr8 hkxr8 (by decide) rfl (i := x2) (vp_in_iff.mpr ⟨by  omega, by  omega⟩) dX12_isAhead_43 (fun xl9 exl9 => ?_)
    refine lv_aload_n hx hb dX12_isAhead_44 rfl (lv_at hl 0 rfl) ?_
    refine tw_get (ci := 12) (C := RX12) (T := TX12) (N := 64) hx hb hB cx_inX12 hown hK TH hm0 hk0 rfl ⟨by decide, rfl⟩ 17 (by decide) cw_1210 (fun _ h9 => h9) dX12_isAhead_45 (fun hv => ?_)
    rw [hxr7]
    refine lv_iload_n hx hb dX12_isAhead_48 rfl (lv_at hl 1 rfl) ?_
    refine tw_aald (k := 317) (t0 := 6) (n := 16) (lo := 327) (hi := 0) (ty := .long) hx hb hK TH hmxr7 hkxr7 (by decide) rfl rfl (i := x1) (vp_in_iff.mpr ⟨by  omega, by  omega⟩) dX12_isAhead_49 (fun xr10 exr10 hmxr10 hkxr10 => ?_)
    have ezxr10 : xr8 = xr10 := exr8.symm.trans exr10
    subst ezxr10
    refine lv_iload_n hx hb dX12_isAhead_50 rfl (lv_at hl 3 rfl) ?_
    refine tw_lald2 (k := 327) (n := 150) (lo := 0) (hi := 0) hx hb hK TH hmxr8 hkxr8 (by decide) rfl (i := x3) (vp_in_iff.mpr ⟨by  omega, by  omega⟩) dX12_isAhead_51 (fun xl11 exl11 => ?_)
    refine W.lcmp hx hb dX12_isAhead_52 ?_
    have hzi12 := ia_lc xl9 xl11
    generalize lg_cmp xl9 xl11 = zi12 at hzi12 ⊢
    refine lv_if_eq (tgt := 76) hx hb dX12_isAhead_53 (by decide) (fun hc13 => ?_) (fun hc13 => ?_)
    · have hf14 : zi12.toInt = 0 := by have z := (fa_eq _ _).mp hc13; have : ((0 : Int32).toInt) = 0 := (by decide); omega
      refine lv_iload_n hx hb dX12_isAhead_76 rfl (lv_at hl 2 rfl) ?_
      refine lv_iload_n hx hb dX12_isAhead_77 rfl (lv_at hl 3 rfl) ?_
      refine lv_icmp_ge (tgt := 85) hx hb dX12_isAhead_78 (by decide) (fun hc15 => ?_) (fun hc15 => ?_)
      · have hf16 : x3.toInt ≤ x2.toInt := by have z := (fa_le _ _).mp hc15;  omega
        refine lv_iconst (v := 0) hx hb dX12_isAhead_85 (by decide) ?_
        exact tw_zret hx hb hr hlocks (by decide) TH hS hex ⟨⟨_, rfl, (show 0 ≤ Int32.toInt 0 from by have : ((0 : Int32).toInt) = 0 := (by decide); omega), (show Int32.toInt 0 ≤ 1 from by have : ((0 : Int32).toInt) = 0 := (by decide); omega)⟩, rfl, rfl, rfl⟩ (Nat.le_of_ble_eq_true rfl) (Nat.le_of_ble_eq_true rfl) dX12_isAhead_86
      · have hf17 : ¬ (x3.toInt ≤ x2.toInt) := fun q => hc15 ((fa_le _ _).mpr (by  omega))
        refine lv_iconst (v := 1) hx hb dX12_isAhead_81 (by decide) ?_
        refine lv_goto (tgt := 86) hx hb dX12_isAhead_82 (by decide) ?_
        exact tw_zret hx hb hr hlocks (by decide) TH hS hex ⟨⟨_, rfl, (show 0 ≤ Int32.toInt 1 from by have : ((1 : Int32).toInt) = 1 := (by decide); omega), (show Int32.toInt 1 ≤ 1 from by have : ((1 : Int32).toInt) = 1 := (by decide); omega)⟩, rfl, rfl, rfl⟩ (Nat.le_of_ble_eq_true rfl) (Nat.le_of_ble_eq_true rfl) dX12_isAhead_86
    · have hf18 : ¬ (zi12.toInt = 0) := fun q => hc13 ((fa_eq _ _).mpr (by have : ((0 : Int32).toInt) = 0 := (by decide); omega))
      refine lv_aload_n hx hb dX12_isAhead_56 rfl (lv_at hl 0 rfl) ?_
      refine tw_get (ci := 12) (C := RX12) (T := TX12) (N := 64) hx hb hB cx_inX12 hown hK TH hm0 hk0 rfl ⟨by decide, rfl⟩ 17 (by decide) cw_1210 (fun _ h9 => h9) dX12_isAhead_57 (fun hv => ?_)
      rw [hxr7]
      refine lv_iload_n hx hb dX12_isAhead_60 rfl (lv_at hl 1 rfl) ?_
      refine tw_aald (k := 317) (t0 := 6) (n := 16) (lo := 327) (hi := 0) (ty := .long) hx hb hK TH hmxr7 hkxr7 (by decide) rfl rfl (i := x1) (vp_in_iff.mpr ⟨by  omega, by  omega⟩) dX12_isAhead_61 (fun xr19 exr19 hmxr19 hkxr19 => ?_)
      have ezxr19 : xr8 = xr19 := exr8.symm.trans exr19
      subst ezxr19
      refine lv_iload_n hx hb dX12_isAhead_62 rfl (lv_at hl 2 rfl) ?_
      refine tw_lald2 (k := 327) (n := 150) (lo := 0) (hi := 0) hx hb hK TH hmxr8 hkxr8 (by decide) rfl (i := x2) (vp_in_iff.mpr ⟨by  omega, by  omega⟩) dX12_isAhead_63 (fun xl20 exl20 => ?_)
      refine lv_aload_n hx hb dX12_isAhead_64 rfl (lv_at hl 0 rfl) ?_
      refine tw_get (ci := 12) (C := RX12) (T := TX12) (N := 64) hx hb hB cx_inX12 hown hK TH hm0 hk0 rfl ⟨by decide, rfl⟩ 17 (by decide) cw_1210 (fun _ h9 => h9) dX12_isAhead_65 (fun hv => ?_)
      rw [hxr7]
      refine lv_iload_n hx hb dX12_isAhead_68 rfl (lv_at hl 1 rfl) ?_
      refine tw_aald (k := 317) (t0 := 6) (n := 16) (lo := 327) (hi := 0) (ty := .long) hx hb hK TH hmxr7 hkxr7 (by decide) rfl rfl (i := x1) (vp_in_iff.mpr ⟨by  omega, by  omega⟩) dX12_isAhead_69 (fun xr21 exr21 hmxr21 hkxr21 => ?_)
      have ezxr21 : xr8 = xr21 := exr8.symm.trans exr21
      subst ezxr21
      refine lv_iload_n hx hb dX12_isAhead_70 rfl (lv_at hl 3 rfl) ?_
      refine tw_lald2 (k := 327) (n := 150) (lo := 0) (hi := 0) hx hb hK TH hmxr8 hkxr8 (by decide) rfl (i := x3) (vp_in_iff.mpr ⟨by  omega, by  omega⟩) dX12_isAhead_71 (fun xl22 exl22 => ?_)
      refine tw_Sc (n := 2) (post := (fun v kq Lq Eq => (∃ x : Int32, v = some (.int x) ∧ 0 ≤ x.toInt ∧ x.toInt ≤ 1) ∧ kp = kq ∧ L = Lq ∧ E = Eq)) (As := [.long xl20, .long xl22]) (rest := []) ⟨hx, hb, hml, hown, hB⟩ (fun sz => tX12_isLess l D cs xl20 xl22  sz) cg_12_304_X12_isLess rfl rfl (by decide +kernel) ⟨Nat.le_of_ble_eq_true rfl, Nat.le_of_ble_eq_true rfl⟩ hK hN TH hS hA rfl hl.1 rfl (Nat.le_of_ble_eq_true rfl) dX12_isAhead_72 ⟨Nat.le_of_ble_eq_true rfl, Nat.le_of_ble_eq_true rfl⟩ (fun v23 kp23 L23 E23 H locs hq23 hx23 TH hS => ?_)
      obtain ⟨⟨xc24, rfl, hxc24a, hxc24b⟩, rfl, rfl, rfl⟩ := hq23
      refine W.eq (g2 := F0 m 75 ls [.int xc24]) rfl ?_
      exact tw_zret hx hb hr hlocks (ia_bool (by omega) (by omega)) TH hS hex ⟨⟨_, rfl, (show 0 ≤ Int32.toInt xc24 from by  omega), (show Int32.toInt xc24 ≤ 1 from by  omega)⟩, rfl, rfl, rfl⟩ (Nat.le_of_ble_eq_true rfl) (Nat.le_of_ble_eq_true rfl) dX12_isAhead_75
  · have hf25 : ¬ (xc2.toInt = xc4.toInt) := fun q => hc5 ((fa_eq _ _).mpr (by  omega))
    refine lv_aload_n hx hb dX12_isAhead_15 rfl (lv_at hl 0 rfl) ?_
    refine lv_iload_n hx hb dX12_isAhead_16 rfl (lv_at hl 1 rfl) ?_
    refine lv_iload_n hx hb dX12_isAhead_17 rfl (lv_at hl 2 rfl) ?_
    refine tw_Vc (o := a0) (ci := 12) (n := 2) (post := (fun v kq Lq Eq => (∃ x : Int32, v = some (.int x) ∧ 0 ≤ x.toInt ∧ x.toInt ≤ 9) ∧ kp = kq ∧ L = Lq ∧ E = Eq)) (As := [.int x1, .int x2]) (rest := []) ⟨hx, hb, hml, hown, hB⟩ (fun sz => tX12_kindOf l D cs a0 x1 x2 hm0 hk0 (by omega) (by omega) (by omega) (by omega) (by  omega) sz) cg_12_301_X12_kindOf rfl rfl (by decide +kernel) ⟨Nat.le_of_ble_eq_true rfl, Nat.le_of_ble_eq_true rfl⟩ hK hN TH hS hA rfl hm0 hk0 (by decide) rfl hl.1 rfl (Nat.le_of_ble_eq_true rfl) dX12_isAhead_18 ⟨Nat.le_of_ble_eq_true rfl, Nat.le_of_ble_eq_true rfl⟩ (fun v26 kp26 L26 E26 H locs hq26 hx26 TH hS => ?_)
    obtain ⟨⟨xc27, rfl, hxc27a, hxc27b⟩, rfl, rfl, rfl⟩ := hq26
    refine W.eq (g2 := F0 m 21 ls [.int xc27]) rfl ?_
    refine lv_aload_n hx hb dX12_isAhead_21 rfl (lv_at hl 0 rfl) ?_
    refine lv_iload_n hx hb dX12_isAhead_22 rfl (lv_at hl 1 rfl) ?_
    refine lv_iload_n hx hb dX12_isAhead_23 rfl (lv_at hl 3 rfl) ?_
    refine tw_Vc (o := a0) (ci := 12) (n := 2) (post := (fun v kq Lq Eq => (∃ x : Int32, v = some (.int x) ∧ 0 ≤ x.toInt ∧ x.toInt ≤ 9) ∧ kp = kq ∧ L = Lq ∧ E = Eq)) (As := [.int x1, .int x3]) (rest := [.int xc27]) ⟨hx, hb, hml, hown, hB⟩ (fun sz => tX12_kindOf l D cs a0 x1 x3 hm0 hk0 (by omega) (by omega) (by omega) (by omega) (by  omega) sz) cg_12_301_X12_kindOf rfl rfl (by decide +kernel) ⟨Nat.le_of_ble_eq_true rfl, Nat.le_of_ble_eq_true rfl⟩ hK hN TH hS hA rfl hm0 hk0 (by decide) rfl hl.1 rfl (Nat.le_of_ble_eq_true rfl) dX12_isAhead_24 ⟨Nat.le_of_ble_eq_true rfl, Nat.le_of_ble_eq_true rfl⟩ (fun v28 kp28 L28 E28 H locs hq28 hx28 TH hS => ?_)
    obtain ⟨⟨xc29, rfl, hxc29a, hxc29b⟩, rfl, rfl, rfl⟩ := hq28
    refine W.eq (g2 := F0 m 27 ls [.int xc29, .int xc27]) rfl ?_
    refine lv_icmp_ge (tgt := 34) hx hb dX12_isAhead_27 (by decide) (fun hc30 => ?_) (fun hc30 => ?_)
    · have hf31 : xc29.toInt ≤ xc27.toInt := by have z := (fa_le _ _).mp hc30;  omega
      refine lv_iconst (v := 0) hx hb dX12_isAhead_34 (by decide) ?_
      exact tw_zret hx hb hr hlocks (by decide) TH hS hex ⟨⟨_, rfl, (show 0 ≤ Int32.toInt 0 from by have : ((0 : Int32).toInt) = 0 := (by decide); omega), (show Int32.toInt 0 ≤ 1 from by have : ((0 : Int32).toInt) = 0 := (by decide); omega)⟩, rfl, rfl, rfl⟩ (Nat.le_of_ble_eq_true rfl) (Nat.le_of_ble_eq_true rfl) dX12_isAhead_35
    · have hf32 : ¬ (xc29.toInt ≤ xc27.toInt) := fun q => hc30 ((fa_le _ _).mpr (by  omega))
      refine lv_iconst (v := 1) hx hb dX12_isAhead_30 (by decide) ?_
      refine lv_goto (tgt := 35) hx hb dX12_isAhead_31 (by decide) ?_
      exact tw_zret hx hb hr hlocks (by decide) TH hS hex ⟨⟨_, rfl, (show 0 ≤ Int32.toInt 1 from by have : ((1 : Int32).toInt) = 1 := (by decide); omega), (show Int32.toInt 1 ≤ 1 from by have : ((1 : Int32).toInt) = 1 := (by decide); omega)⟩, rfl, rfl, rfl⟩ (Nat.le_of_ble_eq_true rfl) (Nat.le_of_ble_eq_true rfl) dX12_isAhead_35
set_option maxHeartbeats 4000000 in
set_option maxRecDepth 100000 in
theorem tX12_newNode (l : Launch) (D : va_G) (cs : Nat → ClassId) {kp : Nat → Nat} {L : List Nat} {E : Nat → va_E} (a0 : Nat) (x1 : Int32) (x2 : Int32) (fv0_26 : Int32) (hm0 : a0 ∈ L) (hk0 : kp a0 = 12) (hp1a : 0 ≤ x1.toInt) (hp1b : x1.toInt ≤ 9) (hp2a : (-1) ≤ x2.toInt) (hp2b : x2.toInt ≤ 12) (hfv0_26 : tw_fv E a0 26 = .int fv0_26) (hpre0 : fv0_26.toInt ≤ 149) (sz : Nat) : Met l yX12_newNode (.code yX12_newNode cX12_newNode 3 (some .int) :: cx_big) { frames := 0, cells := 0, slots := 0, locals := 0 } (tw_P D cs kp L E [.ref a0, .int x1, .int x2] sz) (tw_Q D cs kp L (fun v kq Lq Eq => (∃ x : Int32, v = some (.int x) ∧ 0 ≤ x.toInt ∧ x.toInt ≤ 149 ∧ (x.toInt = fv0_26.toInt) ∧ (∃ z0 : Int32, tw_fv Eq a0 26 = .int z0 ∧ (z0.toInt = fv0_26.toInt + 1))) ∧ kp = kq ∧ L = Lq ∧ tw_fr kp L [(12, 26)] [330, 331] E Eq) (va_A (va_pl L E) sz)) 0 0 (va_A (va_pl L E) sz) := by
  refine tw_ofW (by decide) (Nat.le_of_ble_eq_true rfl) ?_
  intro p e s m below meth c A ls hx hb hr hml hB hown hlocks hK hN hA TH hS hl
  have hown : s.vm.findClass "TreeMergeModel" = some m.cls := hown
  have hl : lv_has ls 3 [(0, .ref a0), (1, .int x1), (2, .int x2)] := hl
  obtain ⟨kp0, ekp⟩ : ∃ z, z = kp := ⟨_, rfl⟩
  obtain ⟨L0, eL⟩ : ∃ z, z = L := ⟨_, rfl⟩
  rw [show tw_Q D cs kp L = tw_Q D cs kp0 L0 by rw [ekp, eL]]
  have hex : ∀ a : Nat, a ∈ L0 → a ∈ L ∧ kp a = kp0 a := fun a h => ⟨by rw [← eL]; exact h, by rw [ekp]⟩
  have hF : tw_fr kp L [(12, 26)] [330, 331] E E := tw_fr.rf
  obtain ⟨qfv0_26, hqfv0_26, hqfv0_26a, hqfv0_26b⟩ := tw_rd TH hm0 hk0 (by decide) (by decide) (k := 26) rfl
  have eqfv0_26 : qfv0_26 = fv0_26 := by have q := hqfv0_26.symm.trans hfv0_26; injection q
  rw [eqfv0_26] at hqfv0_26a hqfv0_26b
  refine lv_aload_n hx hb dX12_newNode_0 rfl (lv_at hl 0 rfl) ?_
  refine tw_get (ci := 12) (C := RX12) (T := TX12) (N := 64) hx hb hB cx_inX12 hown hK TH hm0 hk0 rfl ⟨by decide, rfl⟩ 20 (by decide) cw_1213 (fun _ h9 => h9) dX12_newNode_1 (fun hv => ?_)
  obtain ⟨xr1, hxr1, hmxr1, hkxr1⟩ : ∃ a : Nat, tw_fv E a0 20 = .ref a ∧ a ∈ L ∧ kp a = 330 := hv
  rw [hxr1]
  refine lv_aload_n hx hb dX12_newNode_4 rfl (lv_at hl 0 rfl) ?_
  refine tw_get (ci := 12) (C := RX12) (T := TX12) (N := 64) hx hb hB cx_inX12 hown hK TH hm0 hk0 rfl ⟨by decide, rfl⟩ 26 (by decide) cw_1219 (fun _ h9 => h9) dX12_newNode_5 (fun hv => ?_)
  rw [hfv0_26]
  refine lv_iload_n hx hb dX12_newNode_8 rfl (lv_at hl 1 rfl) ?_
  refine tw_iast (k := 330) (n := 150) (lo := 0) (hi := 9) hx hb hK TH hS hmxr1 hkxr1 (by decide) rfl (i := fv0_26) (x := x1) (vp_in_iff.mpr ⟨by  omega, by  omega⟩) (by omega) (by omega) dX12_newNode_9 (fun H locs E2 TH hS hp3 hp4 hp5 => ?_)
  have hst6 : tw_fr kp L [] [330] E E2 := tw_fr.ast tw_fr.rf (fun _ => hkxr1) hp3 hp4 (by decide)
  have hF := hF.tr hst6 (fun _ h => ⟨h, rfl⟩) (by decide) (by decide)
  have hmf7 : tw_fv E2 a0 26 = .int fv0_26 := (hst6.1 a0 26 hm0 (by rw [hk0]; decide)).trans hfv0_26
  have hmf8 : tw_fv E2 a0 20 = .ref xr1 := (hst6.1 a0 20 hm0 (by rw [hk0]; decide)).trans hxr1
  refine lv_aload_n hx hb dX12_newNode_10 rfl (lv_at hl 0 rfl) ?_
  refine tw_get (ci := 12) (C := RX12) (T := TX12) (N := 64) hx hb hB cx_inX12 hown hK TH hm0 hk0 rfl ⟨by decide, rfl⟩ 21 (by decide) cw_1214 (fun _ h9 => h9) dX12_newNode_11 (fun hv => ?_)
  obtain ⟨xr9, hxr9, hmxr9, hkxr9⟩ : ∃ a : Nat, tw_fv E2 a0 21 = .ref a ∧ a ∈ L ∧ kp a = 331 := hv
  rw [hxr9]
  refine lv_aload_n hx hb dX12_newNode_14 rfl (lv_at hl 0 rfl) ?_
  refine tw_get (ci := 12) (C := RX12) (T := TX12) (N := 64) hx hb hB cx_inX12 hown hK TH hm0 hk0 rfl ⟨by decide, rfl⟩ 26 (by decide) cw_1219 (fun _ h9 => h9) dX12_newNode_15 (fun hv => ?_)
  rw [hmf7]
  refine lv_iload_n hx hb dX12_newNode_18 rfl (lv_at hl 2 rfl) ?_
  refine tw_iast (k := 331) (n := 150) (lo := (-1)) (hi := 12) hx hb hK TH hS hmxr9 hkxr9 (by decide) rfl (i := fv0_26) (x := x2) (vp_in_iff.mpr ⟨by  omega, by  omega⟩) (by omega) (by omega) dX12_newNode_19 (fun H locs E10 TH hS hp11 hp12 hp13 => ?_)
  have hst14 : tw_fr kp L [] [331] E2 E10 := tw_fr.ast tw_fr.rf (fun _ => hkxr9) hp11 hp12 (by decide)
  have hF := hF.tr hst14 (fun _ h => ⟨h, rfl⟩) (by decide) (by decide)
  have hmf15 : tw_fv E10 a0 26 = .int fv0_26 := (hst14.1 a0 26 hm0 (by rw [hk0]; decide)).trans hmf7
  have hmf16 : tw_fv E10 a0 20 = .ref xr1 := (hst14.1 a0 20 hm0 (by rw [hk0]; decide)).trans hmf8
  have hmf17 : tw_fv E10 a0 21 = .ref xr9 := (hst14.1 a0 21 hm0 (by rw [hk0]; decide)).trans hxr9
  refine lv_aload_n hx hb dX12_newNode_20 rfl (lv_at hl 0 rfl) ?_
  refine lv_dup hx hb dX12_newNode_21 rfl ?_
  refine tw_get (ci := 12) (C := RX12) (T := TX12) (N := 64) hx hb hB cx_inX12 hown hK TH hm0 hk0 rfl ⟨by decide, rfl⟩ 26 (by decide) cw_1219 (fun _ h9 => h9) dX12_newNode_22 (fun hv => ?_)
  rw [hmf15]
  refine lv_iconst (v := 1) hx hb dX12_newNode_25 (by decide) ?_
  refine lv_iadd hx hb dX12_newNode_26 ?_
  refine lv_topi (fun zi18 ezi18 => ?_)
  have hzi18 : zi18.toInt = fv0_26.toInt + 1 := by rw [ezi18]; have : ((1 : Int32).toInt) = 1 := (by decide); have := ia_lo fv0_26; have := ia_hi fv0_26; exact (ia_add (by omega) (by omega)).trans (by omega)
  refine tw_put (ci := 12) (v := .int zi18) (ty := .int) (C := RX12) (T := TX12) (N := 64) hx hb hB cx_inX12 tyX12 tyX12_ok nmX12 hown hK TH hS hm0 hk0 rfl ⟨by decide, rfl⟩ 26 (by decide) cw_1219 (fun _ h9 => h9) rfl (by decide +kernel) rfl rfl ⟨_, rfl, (show 0 ≤ Int32.toInt zi18 from by  omega), (show Int32.toInt zi18 ≤ 150 from by  omega)⟩ dX12_newNode_27 (fun H locs E19 TH hS hmf23 hp20 hp21 => ?_)
  have hst22 : tw_fr kp L [(12, 26)] [] E10 E19 := tw_fr.put tw_fr.rf (fun _ => hk0) (by decide) hp20 hp21 (by decide)
  have hF := hF.tr hst22 (fun _ h => ⟨h, rfl⟩) (by decide) (by decide)
  have hmf24 : tw_fv E19 a0 20 = .ref xr1 := (hst22.1 a0 20 hm0 (by rw [hk0]; decide)).trans hmf16
  have hmf25 : tw_fv E19 a0 21 = .ref xr9 := (hst22.1 a0 21 hm0 (by rw [hk0]; decide)).trans hmf17
  refine lv_aload_n hx hb dX12_newNode_30 rfl (lv_at hl 0 rfl) ?_
  refine tw_get (ci := 12) (C := RX12) (T := TX12) (N := 64) hx hb hB cx_inX12 hown hK TH hm0 hk0 rfl ⟨by decide, rfl⟩ 26 (by decide) cw_1219 (fun _ h9 => h9) dX12_newNode_31 (fun hv => ?_)
  rw [hmf23]
  refine lv_iconst (v := 1) hx hb dX12_newNode_34 (by decide) ?_
  refine lv_isub hx hb dX12_newNode_35 ?_
  refine lv_topi (fun zi26 ezi26 => ?_)
  have hzi26 : zi26.toInt = zi18.toInt - 1 := by rw [ezi26]; have : ((1 : Int32).toInt) = 1 := (by decide); have := ia_lo zi18; have := ia_hi zi18; exact (ia_sub (by omega) (by omega)).trans (by omega)
  exact tw_iret hx hb hr hlocks TH hS hex ⟨⟨_, rfl, (show 0 ≤ Int32.toInt zi26 from by  omega), (show Int32.toInt zi26 ≤ 149 from by  omega), (by  omega), ⟨zi18, hmf23, by  omega⟩⟩, rfl, rfl, hF⟩ (Nat.le_of_ble_eq_true rfl) (Nat.le_of_ble_eq_true rfl) dX12_newNode_36
set_option maxHeartbeats 4000000 in
set_option maxRecDepth 100000 in
theorem tX12_edition (l : Launch) (D : va_G) (cs : Nat → ClassId) {kp : Nat → Nat} {L : List Nat} {E : Nat → va_E} (a0 : Nat) (x1 : Int32) (x2 : Int32) (fv0_27 : Int32) (hm0 : a0 ∈ L) (hk0 : kp a0 = 12) (hp1a : (-1) ≤ x1.toInt) (hp1b : x1.toInt ≤ 11) (hp2a : (-1) ≤ x2.toInt) (hp2b : x2.toInt ≤ 11) (hfv0_27 : tw_fv E a0 27 = .int fv0_27) (hpre0 : fv0_27.toInt ≤ 11) (sz : Nat) : Met l yX12_edition (.code yX12_edition cX12_edition 3 (some .int) :: cx_big) { frames := 0, cells := 0, slots := 0, locals := 0 } (tw_P D cs kp L E [.ref a0, .int x1, .int x2] sz) (tw_Q D cs kp L (fun v kq Lq Eq => (∃ x : Int32, v = some (.int x) ∧ 0 ≤ x.toInt ∧ x.toInt ≤ 11 ∧ (x.toInt = fv0_27.toInt) ∧ (∀ j : Nat, tw_el Eq a0 24 j = if j = (fv0_27.toInt).toNat then x1.toInt else tw_el E a0 24 j) ∧ (∀ j : Nat, tw_el Eq a0 25 j = if j = (fv0_27.toInt).toNat then x2.toInt else tw_el E a0 25 j) ∧ (∃ z0 : Int32, tw_fv Eq a0 27 = .int z0 ∧ (z0.toInt = fv0_27.toInt + 1))) ∧ kp = kq ∧ L = Lq ∧ tw_fr kp L [(12, 27)] [334, 335] E Eq) (va_A (va_pl L E) sz)) 0 0 (va_A (va_pl L E) sz) := by
  refine tw_ofW (by decide) (Nat.le_of_ble_eq_true rfl) ?_
  intro p e s m below meth c A ls hx hb hr hml hB hown hlocks hK hN hA TH hS hl
  have hown : s.vm.findClass "TreeMergeModel" = some m.cls := hown
  have hl : lv_has ls 3 [(0, .ref a0), (1, .int x1), (2, .int x2)] := hl
  obtain ⟨kp0, ekp⟩ : ∃ z, z = kp := ⟨_, rfl⟩
  obtain ⟨L0, eL⟩ : ∃ z, z = L := ⟨_, rfl⟩
  rw [show tw_Q D cs kp L = tw_Q D cs kp0 L0 by rw [ekp, eL]]
  have hex : ∀ a : Nat, a ∈ L0 → a ∈ L ∧ kp a = kp0 a := fun a h => ⟨by rw [← eL]; exact h, by rw [ekp]⟩
  have hF : tw_fr kp L [(12, 27)] [334, 335] E E := tw_fr.rf
  obtain ⟨qfv0_27, hqfv0_27, hqfv0_27a, hqfv0_27b⟩ := tw_rd TH hm0 hk0 (by decide) (by decide) (k := 27) rfl
  have eqfv0_27 : qfv0_27 = fv0_27 := by have q := hqfv0_27.symm.trans hfv0_27; injection q
  rw [eqfv0_27] at hqfv0_27a hqfv0_27b
  have hp24 : p24_ok E a0 (tw_el E a0 24) := fun _ => rfl
  have hp25 : p25_ok E a0 (tw_el E a0 25) := fun _ => rfl
  refine lv_aload_n hx hb dX12_edition_0 rfl (lv_at hl 0 rfl) ?_
  refine tw_get (ci := 12) (C := RX12) (T := TX12) (N := 64) hx hb hB cx_inX12 hown hK TH hm0 hk0 rfl ⟨by decide, rfl⟩ 24 (by decide) cw_1217 (fun _ h9 => h9) dX12_edition_1 (fun hv => ?_)
  obtain ⟨xr1, hxr1, hmxr1, hkxr1⟩ : ∃ a : Nat, tw_fv E a0 24 = .ref a ∧ a ∈ L ∧ kp a = 334 := hv
  rw [hxr1]
  refine lv_aload_n hx hb dX12_edition_4 rfl (lv_at hl 0 rfl) ?_
  refine tw_get (ci := 12) (C := RX12) (T := TX12) (N := 64) hx hb hB cx_inX12 hown hK TH hm0 hk0 rfl ⟨by decide, rfl⟩ 27 (by decide) cw_1220 (fun _ h9 => h9) dX12_edition_5 (fun hv => ?_)
  rw [hfv0_27]
  refine lv_iload_n hx hb dX12_edition_8 rfl (lv_at hl 1 rfl) ?_
  refine tw_iast (k := 334) (n := 12) (lo := (-1)) (hi := 11) hx hb hK TH hS hmxr1 hkxr1 (by decide) rfl (i := fv0_27) (x := x1) (vp_in_iff.mpr ⟨by  omega, by  omega⟩) (by omega) (by omega) dX12_edition_9 (fun H locs E2 TH hS hp3 hp4 hp5 => ?_)
  have hst6 : tw_fr kp L [] [334] E E2 := tw_fr.ast tw_fr.rf (fun _ => hkxr1) hp3 hp4 (by decide)
  have hF := hF.tr hst6 (fun _ h => ⟨h, rfl⟩) (by decide) (by decide)
  have hmf7 : tw_fv E2 a0 27 = .int fv0_27 := (hst6.1 a0 27 hm0 (by rw [hk0]; decide)).trans hfv0_27
  have hmf8 : tw_fv E2 a0 24 = .ref xr1 := (hst6.1 a0 24 hm0 (by rw [hk0]; decide)).trans hxr1
  have hp24_o := hp24
  have hp25_o := hp25
  have hp24 : p24_ok E2 a0 (fun j => if j = (fv0_27.toInt).toNat then x1.toInt else tw_el E a0 24 j) := (fun j => (by have w := tw_el_st hxr1 hp3 hp4 hp5 j; rw [w]; show _ = (if j = (fv0_27.toInt).toNat then x1.toInt else tw_el E a0 24 j); (by_cases e : j = (fv0_27.toInt).toNat; (rw [if_pos ⟨rfl, e⟩, if_pos e]); (rw [if_neg (fun y => e y.2), if_neg e]; (try exact hp24_o j)))))
  have hp25 : p25_ok E2 a0 (tw_el E a0 25) := p25_ok_fr TH hst6 hm0 hk0 (by decide) (by decide) hp25
  refine lv_aload_n hx hb dX12_edition_10 rfl (lv_at hl 0 rfl) ?_
  refine tw_get (ci := 12) (C := RX12) (T := TX12) (N := 64) hx hb hB cx_inX12 hown hK TH hm0 hk0 rfl ⟨by decide, rfl⟩ 25 (by decide) cw_1218 (fun _ h9 => h9) dX12_edition_11 (fun hv => ?_)
  obtain ⟨xr9, hxr9, hmxr9, hkxr9⟩ : ∃ a : Nat, tw_fv E2 a0 25 = .ref a ∧ a ∈ L ∧ kp a = 335 := hv
  rw [hxr9]
  refine lv_aload_n hx hb dX12_edition_14 rfl (lv_at hl 0 rfl) ?_
  refine tw_get (ci := 12) (C := RX12) (T := TX12) (N := 64) hx hb hB cx_inX12 hown hK TH hm0 hk0 rfl ⟨by decide, rfl⟩ 27 (by decide) cw_1220 (fun _ h9 => h9) dX12_edition_15 (fun hv => ?_)
  rw [hmf7]
  refine lv_iload_n hx hb dX12_edition_18 rfl (lv_at hl 2 rfl) ?_
  refine tw_iast (k := 335) (n := 12) (lo := (-1)) (hi := 11) hx hb hK TH hS hmxr9 hkxr9 (by decide) rfl (i := fv0_27) (x := x2) (vp_in_iff.mpr ⟨by  omega, by  omega⟩) (by omega) (by omega) dX12_edition_19 (fun H locs E10 TH hS hp11 hp12 hp13 => ?_)
  have hst14 : tw_fr kp L [] [335] E2 E10 := tw_fr.ast tw_fr.rf (fun _ => hkxr9) hp11 hp12 (by decide)
  have hF := hF.tr hst14 (fun _ h => ⟨h, rfl⟩) (by decide) (by decide)
  have hmf15 : tw_fv E10 a0 27 = .int fv0_27 := (hst14.1 a0 27 hm0 (by rw [hk0]; decide)).trans hmf7
  have hmf16 : tw_fv E10 a0 24 = .ref xr1 := (hst14.1 a0 24 hm0 (by rw [hk0]; decide)).trans hmf8
  have hmf17 : tw_fv E10 a0 25 = .ref xr9 := (hst14.1 a0 25 hm0 (by rw [hk0]; decide)).trans hxr9
  have hp24_o := hp24
  have hp25_o := hp25
  have hp24 : p24_ok E10 a0 (fun j => if j = (fv0_27.toInt).toNat then x1.toInt else tw_el E a0 24 j) := p24_ok_fr TH hst14 hm0 hk0 (by decide) (by decide) hp24
  have hp25 : p25_ok E10 a0 (fun j => if j = (fv0_27.toInt).toNat then x2.toInt else tw_el E a0 25 j) := (fun j => (by have w := tw_el_st hxr9 hp11 hp12 hp13 j; rw [w]; show _ = (if j = (fv0_27.toInt).toNat then x2.toInt else tw_el E a0 25 j); (by_cases e : j = (fv0_27.toInt).toNat; (rw [if_pos ⟨rfl, e⟩, if_pos e]); (rw [if_neg (fun y => e y.2), if_neg e]; (try exact hp25_o j)))))
  refine lv_aload_n hx hb dX12_edition_20 rfl (lv_at hl 0 rfl) ?_
  refine lv_dup hx hb dX12_edition_21 rfl ?_
  refine tw_get (ci := 12) (C := RX12) (T := TX12) (N := 64) hx hb hB cx_inX12 hown hK TH hm0 hk0 rfl ⟨by decide, rfl⟩ 27 (by decide) cw_1220 (fun _ h9 => h9) dX12_edition_22 (fun hv => ?_)
  rw [hmf15]
  refine lv_iconst (v := 1) hx hb dX12_edition_25 (by decide) ?_
  refine lv_iadd hx hb dX12_edition_26 ?_
  refine lv_topi (fun zi18 ezi18 => ?_)
  have hzi18 : zi18.toInt = fv0_27.toInt + 1 := by rw [ezi18]; have : ((1 : Int32).toInt) = 1 := (by decide); have := ia_lo fv0_27; have := ia_hi fv0_27; exact (ia_add (by omega) (by omega)).trans (by omega)
  refine tw_put (ci := 12) (v := .int zi18) (ty := .int) (C := RX12) (T := TX12) (N := 64) hx hb hB cx_inX12 tyX12 tyX12_ok nmX12 hown hK TH hS hm0 hk0 rfl ⟨by decide, rfl⟩ 27 (by decide) cw_1220 (fun _ h9 => h9) rfl (by decide +kernel) rfl rfl ⟨_, rfl, (show 0 ≤ Int32.toInt zi18 from by  omega), (show Int32.toInt zi18 ≤ 12 from by  omega)⟩ dX12_edition_27 (fun H locs E19 TH hS hmf23 hp20 hp21 => ?_)
  have hst22 : tw_fr kp L [(12, 27)] [] E10 E19 := tw_fr.put tw_fr.rf (fun _ => hk0) (by decide) hp20 hp21 (by decide)
  have hF := hF.tr hst22 (fun _ h => ⟨h, rfl⟩) (by decide) (by decide)
  have hmf24 : tw_fv E19 a0 24 = .ref xr1 := (hst22.1 a0 24 hm0 (by rw [hk0]; decide)).trans hmf16
  have hmf25 : tw_fv E19 a0 25 = .ref xr9 := (hst22.1 a0 25 hm0 (by rw [hk0]; decide)).trans hmf17
  have hp24 : p24_ok E19 a0 (fun j => if j = (fv0_27.toInt).toNat then x1.toInt else tw_el E a0 24 j) := p24_ok_fr TH hst22 hm0 hk0 (by decide) (by decide) hp24
  have hp25 : p25_ok E19 a0 (fun j => if j = (fv0_27.toInt).toNat then x2.toInt else tw_el E a0 25 j) := p25_ok_fr TH hst22 hm0 hk0 (by decide) (by decide) hp25
  refine lv_aload_n hx hb dX12_edition_30 rfl (lv_at hl 0 rfl) ?_
  refine tw_get (ci := 12) (C := RX12) (T := TX12) (N := 64) hx hb hB cx_inX12 hown hK TH hm0 hk0 rfl ⟨by decide, rfl⟩ 27 (by decide) cw_1220 (fun _ h9 => h9) dX12_edition_31 (fun hv => ?_)
  rw [hmf23]
  refine lv_iconst (v := 1) hx hb dX12_edition_34 (by decide) ?_
  refine lv_isub hx hb dX12_edition_35 ?_
  refine lv_topi (fun zi26 ezi26 => ?_)
  have hzi26 : zi26.toInt = zi18.toInt - 1 := by rw [ezi26]; have : ((1 : Int32).toInt) = 1 := (by decide); have := ia_lo zi18; have := ia_hi zi18; exact (ia_sub (by omega) (by omega)).trans (by omega)
  exact tw_iret hx hb hr hlocks TH hS hex ⟨⟨_, rfl, (show 0 ≤ Int32.toInt zi26 from by  omega), (show Int32.toInt zi26 ≤ 11 from by  omega), (by  omega), (by  exact hp24), (by  exact hp25), ⟨zi18, hmf23, by  omega⟩⟩, rfl, rfl, hF⟩ (Nat.le_of_ble_eq_true rfl) (Nat.le_of_ble_eq_true rfl) dX12_edition_36
set_option maxHeartbeats 4000000 in
set_option maxRecDepth 100000 in
theorem tX12_isEdition (l : Launch) (D : va_G) (cs : Nat → ClassId) {kp : Nat → Nat} {L : List Nat} {E : Nat → va_E} (a0 : Nat) (x1 : Int32) (fv0_27 : Int32) (hm0 : a0 ∈ L) (hk0 : kp a0 = 12) (hfv0_27 : tw_fv E a0 27 = .int fv0_27) (sz : Nat) : Met l yX12_isEdition (.code yX12_isEdition cX12_isEdition 2 (some .boolean) :: cx_big) { frames := 1, cells := 0, slots := 0, locals := 25 } (tw_P D cs kp L E [.ref a0, .int x1] sz) (tw_Q D cs kp L (fun v kq Lq Eq => (∃ x : Int32, v = some (.int x) ∧ 0 ≤ x.toInt ∧ x.toInt ≤ 1 ∧ (x.toInt ≠ 0 → 0 ≤ x1.toInt ∧ x1.toInt < fv0_27.toInt)) ∧ kp = kq ∧ L = Lq ∧ E = Eq) (va_A (va_pl L E) sz)) 0 0 (va_A (va_pl L E) sz) := by
  refine tw_ofW (by decide) (Nat.le_of_ble_eq_true rfl) ?_
  intro p e s m below meth c A ls hx hb hr hml hB hown hlocks hK hN hA TH hS hl
  have hown : s.vm.findClass "TreeMergeModel" = some m.cls := hown
  have hl : lv_has ls 2 [(0, .ref a0), (1, .int x1)] := hl
  obtain ⟨kp0, ekp⟩ : ∃ z, z = kp := ⟨_, rfl⟩
  obtain ⟨L0, eL⟩ : ∃ z, z = L := ⟨_, rfl⟩
  rw [show tw_Q D cs kp L = tw_Q D cs kp0 L0 by rw [ekp, eL]]
  have hex : ∀ a : Nat, a ∈ L0 → a ∈ L ∧ kp a = kp0 a := fun a h => ⟨by rw [← eL]; exact h, by rw [ekp]⟩
  obtain ⟨qfv0_27, hqfv0_27, hqfv0_27a, hqfv0_27b⟩ := tw_rd TH hm0 hk0 (by decide) (by decide) (k := 27) rfl
  have eqfv0_27 : qfv0_27 = fv0_27 := by have q := hqfv0_27.symm.trans hfv0_27; injection q
  rw [eqfv0_27] at hqfv0_27a hqfv0_27b
  refine lv_iload_n hx hb dX12_isEdition_0 rfl (lv_at hl 1 rfl) ?_
  refine lv_i2l (v := (x1).toInt64) hx hb dX12_isEdition_1 rfl ?_
  refine tw_topl (fun zl1 ezl1 => ?_)
  have hzl1 : zl1.toInt = x1.toInt := by rw [ezl1];  exact (Int32.toInt_toInt64 _)
  refine lv_lconst (v := 0) hx hb dX12_isEdition_2 (by decide) ?_
  refine tw_topl (fun zl2 ezl2 => ?_)
  have hzl2 : zl2.toInt = 0 := by rw [ezl2]; decide
  refine lv_aload_n hx hb dX12_isEdition_3 rfl (lv_at hl 0 rfl) ?_
  refine tw_get (ci := 12) (C := RX12) (T := TX12) (N := 64) hx hb hB cx_inX12 hown hK TH hm0 hk0 rfl ⟨by decide, rfl⟩ 27 (by decide) cw_1220 (fun _ h9 => h9) dX12_isEdition_4 (fun hv => ?_)
  rw [hfv0_27]
  refine lv_iconst (v := 1) hx hb dX12_isEdition_7 (by decide) ?_
  refine lv_isub hx hb dX12_isEdition_8 ?_
  refine lv_topi (fun zi3 ezi3 => ?_)
  have hzi3 : zi3.toInt = fv0_27.toInt - 1 := by rw [ezi3]; have : ((1 : Int32).toInt) = 1 := (by decide); have := ia_lo fv0_27; have := ia_hi fv0_27; exact (ia_sub (by omega) (by omega)).trans (by omega)
  refine lv_i2l (v := (zi3).toInt64) hx hb dX12_isEdition_9 rfl ?_
  refine tw_topl (fun zl4 ezl4 => ?_)
  have hzl4 : zl4.toInt = zi3.toInt := by rw [ezl4];  exact (Int32.toInt_toInt64 _)
  refine tw_Sc (n := 3) (post := (fun v kq Lq Eq => (∃ x : Int32, v = some (.int x) ∧ 0 ≤ x.toInt ∧ x.toInt ≤ 1 ∧ (x.toInt ≠ 0 → zl2.toInt ≤ zl1.toInt ∧ zl1.toInt ≤ zl4.toInt)) ∧ kp = kq ∧ L = Lq ∧ E = Eq)) (As := [.long zl1, .long zl2, .long zl4]) (rest := []) ⟨hx, hb, hml, hown, hB⟩ (fun sz => tX12_in l D cs zl1 zl2 zl4  sz) cg_12_171_X12_in rfl rfl (by decide +kernel) ⟨Nat.le_of_ble_eq_true rfl, Nat.le_of_ble_eq_true rfl⟩ hK hN TH hS hA rfl hl.1 rfl (Nat.le_of_ble_eq_true rfl) dX12_isEdition_10 ⟨Nat.le_of_ble_eq_true rfl, Nat.le_of_ble_eq_true rfl⟩ (fun v5 kp5 L5 E5 H locs hq5 hx5 TH hS => ?_)
  obtain ⟨⟨xc6, rfl, hxc6a, hxc6b, hpoxc6_0⟩, rfl, rfl, rfl⟩ := hq5
  refine W.eq (g2 := F0 m 13 ls [.int xc6]) rfl ?_
  exact tw_zret hx hb hr hlocks (ia_bool (by omega) (by omega)) TH hS hex ⟨⟨_, rfl, (show 0 ≤ Int32.toInt xc6 from by  omega), (show Int32.toInt xc6 ≤ 1 from by  omega), (by  omega)⟩, rfl, rfl, rfl⟩ (Nat.le_of_ble_eq_true rfl) (Nat.le_of_ble_eq_true rfl) dX12_isEdition_13
set_option maxHeartbeats 4000000 in
set_option maxRecDepth 100000 in
theorem tX12_arePair (l : Launch) (D : va_G) (cs : Nat → ClassId) {kp : Nat → Nat} {L : List Nat} {E : Nat → va_E} (a0 : Nat) (x1 : Int32) (x2 : Int32) (hm0 : a0 ∈ L) (hk0 : kp a0 = 12) (hp1a : 0 ≤ x1.toInt) (hp1b : x1.toInt ≤ 39) (sz : Nat) : Met l yX12_arePair (.code yX12_arePair cX12_arePair 3 (some .boolean) :: cx_big) { frames := 0, cells := 0, slots := 0, locals := 0 } (tw_P D cs kp L E [.ref a0, .int x1, .int x2] sz) (tw_Q D cs kp L (fun v kq Lq Eq => (∃ x : Int32, v = some (.int x) ∧ 0 ≤ x.toInt ∧ x.toInt ≤ 1) ∧ kp = kq ∧ L = Lq ∧ E = Eq) (va_A (va_pl L E) sz)) 0 0 (va_A (va_pl L E) sz) := by
  refine tw_ofW (by decide) (Nat.le_of_ble_eq_true rfl) ?_
  intro p e s m below meth c A ls hx hb hr hml hB hown hlocks hK hN hA TH hS hl
  have hown : s.vm.findClass "TreeMergeModel" = some m.cls := hown
  have hl : lv_has ls 3 [(0, .ref a0), (1, .int x1), (2, .int x2)] := hl
  obtain ⟨kp0, ekp⟩ : ∃ z, z = kp := ⟨_, rfl⟩
  obtain ⟨L0, eL⟩ : ∃ z, z = L := ⟨_, rfl⟩
  rw [show tw_Q D cs kp L = tw_Q D cs kp0 L0 by rw [ekp, eL]]
  have hex : ∀ a : Nat, a ∈ L0 → a ∈ L ∧ kp a = kp0 a := fun a h => ⟨by rw [← eL]; exact h, by rw [ekp]⟩
  refine lv_aload_n hx hb dX12_arePair_0 rfl (lv_at hl 0 rfl) ?_
  refine tw_get (ci := 12) (C := RX12) (T := TX12) (N := 64) hx hb hB cx_inX12 hown hK TH hm0 hk0 rfl ⟨by decide, rfl⟩ 46 (by decide) cw_1239 (fun _ h9 => h9) dX12_arePair_1 (fun hv => ?_)
  obtain ⟨xr1, hxr1, hmxr1, hkxr1⟩ : ∃ a : Nat, tw_fv E a0 46 = .ref a ∧ a ∈ L ∧ kp a = 355 := hv
  rw [hxr1]
  refine lv_iload_n hx hb dX12_arePair_4 rfl (lv_at hl 1 rfl) ?_
  refine tw_iald (k := 355) (t0 := 0) (n := 40) (lo := (-1)) (hi := 23) hx hb hK TH hmxr1 hkxr1 (by decide) rfl rfl (i := x1) (vp_in_iff.mpr ⟨by  omega, by  omega⟩) dX12_arePair_5 (fun hxe2a hxe2b => ?_)
  obtain ⟨xe2, exe2⟩ : ∃ z : Int32, tw_iv E xr1 (Int32.toNatClampNeg x1) = z := ⟨_, rfl⟩
  rw [exe2] at hxe2a hxe2b ⊢
  refine lv_iload_n hx hb dX12_arePair_6 rfl (lv_at hl 2 rfl) ?_
  refine lv_icmp_ne (tgt := 14) hx hb dX12_arePair_7 (by decide) (fun hc3 => ?_) (fun hc3 => ?_)
  · have hf4 : ¬ (xe2.toInt = x2.toInt) := fun q => hc3 ((fa_eq _ _).mpr (by  omega))
    refine lv_iconst (v := 0) hx hb dX12_arePair_14 (by decide) ?_
    exact tw_zret hx hb hr hlocks (by decide) TH hS hex ⟨⟨_, rfl, (show 0 ≤ Int32.toInt 0 from by have : ((0 : Int32).toInt) = 0 := (by decide); omega), (show Int32.toInt 0 ≤ 1 from by have : ((0 : Int32).toInt) = 0 := (by decide); omega)⟩, rfl, rfl, rfl⟩ (Nat.le_of_ble_eq_true rfl) (Nat.le_of_ble_eq_true rfl) dX12_arePair_15
  · have hf5 : xe2.toInt = x2.toInt := by have z := (fa_eq _ _).mp hc3;  omega
    refine lv_iconst (v := 1) hx hb dX12_arePair_10 (by decide) ?_
    refine lv_goto (tgt := 15) hx hb dX12_arePair_11 (by decide) ?_
    exact tw_zret hx hb hr hlocks (by decide) TH hS hex ⟨⟨_, rfl, (show 0 ≤ Int32.toInt 1 from by have : ((1 : Int32).toInt) = 1 := (by decide); omega), (show Int32.toInt 1 ≤ 1 from by have : ((1 : Int32).toInt) = 1 := (by decide); omega)⟩, rfl, rfl, rfl⟩ (Nat.le_of_ble_eq_true rfl) (Nat.le_of_ble_eq_true rfl) dX12_arePair_15
set_option maxHeartbeats 4000000 in
set_option maxRecDepth 100000 in
theorem tX12_pairs (l : Launch) (D : va_G) (cs : Nat → ClassId) {kp : Nat → Nat} {L : List Nat} {E : Nat → va_E} (a0 : Nat) (x1 : Int32) (x2 : Int32) (hm0 : a0 ∈ L) (hk0 : kp a0 = 12) (hp1a : 0 ≤ x1.toInt) (hp1b : x1.toInt ≤ 39) (hp2a : 0 ≤ x2.toInt) (hp2b : x2.toInt ≤ 23) (sz : Nat) : Met l yX12_pairs (.code yX12_pairs cX12_pairs 3 none :: cx_big) { frames := 0, cells := 0, slots := 0, locals := 0 } (tw_P D cs kp L E [.ref a0, .int x1, .int x2] sz) (tw_Q D cs kp L (fun v kq Lq Eq => v = none ∧ kp = kq ∧ L = Lq ∧ tw_fr kp L [] [355, 356] E Eq) (va_A (va_pl L E) sz)) 0 0 (va_A (va_pl L E) sz) := by
  refine tw_ofW (by decide) (Nat.le_of_ble_eq_true rfl) ?_
  intro p e s m below meth c A ls hx hb hr hml hB hown hlocks hK hN hA TH hS hl
  have hown : s.vm.findClass "TreeMergeModel" = some m.cls := hown
  have hl : lv_has ls 3 [(0, .ref a0), (1, .int x1), (2, .int x2)] := hl
  obtain ⟨kp0, ekp⟩ : ∃ z, z = kp := ⟨_, rfl⟩
  obtain ⟨L0, eL⟩ : ∃ z, z = L := ⟨_, rfl⟩
  rw [show tw_Q D cs kp L = tw_Q D cs kp0 L0 by rw [ekp, eL]]
  have hex : ∀ a : Nat, a ∈ L0 → a ∈ L ∧ kp a = kp0 a := fun a h => ⟨by rw [← eL]; exact h, by rw [ekp]⟩
  have hF : tw_fr kp L [] [355, 356] E E := tw_fr.rf
  refine lv_aload_n hx hb dX12_pairs_0 rfl (lv_at hl 0 rfl) ?_
  refine tw_get (ci := 12) (C := RX12) (T := TX12) (N := 64) hx hb hB cx_inX12 hown hK TH hm0 hk0 rfl ⟨by decide, rfl⟩ 46 (by decide) cw_1239 (fun _ h9 => h9) dX12_pairs_1 (fun hv => ?_)
  obtain ⟨xr1, hxr1, hmxr1, hkxr1⟩ : ∃ a : Nat, tw_fv E a0 46 = .ref a ∧ a ∈ L ∧ kp a = 355 := hv
  rw [hxr1]
  refine lv_iload_n hx hb dX12_pairs_4 rfl (lv_at hl 1 rfl) ?_
  refine lv_iload_n hx hb dX12_pairs_5 rfl (lv_at hl 2 rfl) ?_
  refine tw_iast (k := 355) (n := 40) (lo := (-1)) (hi := 23) hx hb hK TH hS hmxr1 hkxr1 (by decide) rfl (i := x1) (x := x2) (vp_in_iff.mpr ⟨by  omega, by  omega⟩) (by omega) (by omega) dX12_pairs_6 (fun H locs E2 TH hS hp3 hp4 hp5 => ?_)
  have hst6 : tw_fr kp L [] [355] E E2 := tw_fr.ast tw_fr.rf (fun _ => hkxr1) hp3 hp4 (by decide)
  have hF := hF.tr hst6 (fun _ h => ⟨h, rfl⟩) (by decide) (by decide)
  have hmf7 : tw_fv E2 a0 46 = .ref xr1 := (hst6.1 a0 46 hm0 (by rw [hk0]; decide)).trans hxr1
  refine lv_aload_n hx hb dX12_pairs_7 rfl (lv_at hl 0 rfl) ?_
  refine tw_get (ci := 12) (C := RX12) (T := TX12) (N := 64) hx hb hB cx_inX12 hown hK TH hm0 hk0 rfl ⟨by decide, rfl⟩ 47 (by decide) cw_1240 (fun _ h9 => h9) dX12_pairs_8 (fun hv => ?_)
  obtain ⟨xr8, hxr8, hmxr8, hkxr8⟩ : ∃ a : Nat, tw_fv E2 a0 47 = .ref a ∧ a ∈ L ∧ kp a = 356 := hv
  rw [hxr8]
  refine lv_iload_n hx hb dX12_pairs_11 rfl (lv_at hl 2 rfl) ?_
  refine lv_iload_n hx hb dX12_pairs_12 rfl (lv_at hl 1 rfl) ?_
  refine tw_iast (k := 356) (n := 24) (lo := (-1)) (hi := 39) hx hb hK TH hS hmxr8 hkxr8 (by decide) rfl (i := x2) (x := x1) (vp_in_iff.mpr ⟨by  omega, by  omega⟩) (by omega) (by omega) dX12_pairs_13 (fun H locs E9 TH hS hp10 hp11 hp12 => ?_)
  have hst13 : tw_fr kp L [] [356] E2 E9 := tw_fr.ast tw_fr.rf (fun _ => hkxr8) hp10 hp11 (by decide)
  have hF := hF.tr hst13 (fun _ h => ⟨h, rfl⟩) (by decide) (by decide)
  have hmf14 : tw_fv E9 a0 46 = .ref xr1 := (hst13.1 a0 46 hm0 (by rw [hk0]; decide)).trans hmf7
  have hmf15 : tw_fv E9 a0 47 = .ref xr8 := (hst13.1 a0 47 hm0 (by rw [hk0]; decide)).trans hxr8
  exact tw_vret hx hb hr hlocks TH hS hex ⟨rfl, rfl, rfl, hF⟩ (Nat.le_of_ble_eq_true rfl) (Nat.le_of_ble_eq_true rfl) dX12_pairs_14
set_option maxHeartbeats 4000000 in
set_option maxRecDepth 100000 in
theorem tX12_isExact (l : Launch) (D : va_G) (cs : Nat → ClassId) {kp : Nat → Nat} {L : List Nat} {E : Nat → va_E} (a0 : Nat) (hm0 : a0 ∈ L) (hk0 : kp a0 = 12) (sz : Nat) : Met l yX12_isExact (.code yX12_isExact cX12_isExact 1 (some .boolean) :: cx_big) { frames := 0, cells := 0, slots := 0, locals := 0 } (tw_P D cs kp L E [.ref a0] sz) (tw_Q D cs kp L (fun v kq Lq Eq => (∃ x : Int32, v = some (.int x) ∧ 0 ≤ x.toInt ∧ x.toInt ≤ 1) ∧ kp = kq ∧ L = Lq ∧ E = Eq) (va_A (va_pl L E) sz)) 0 0 (va_A (va_pl L E) sz) := by
  refine tw_ofW (by decide) (Nat.le_of_ble_eq_true rfl) ?_
  intro p e s m below meth c A ls hx hb hr hml hB hown hlocks hK hN hA TH hS hl
  have hown : s.vm.findClass "TreeMergeModel" = some m.cls := hown
  have hl : lv_has ls 1 [(0, .ref a0)] := hl
  obtain ⟨kp0, ekp⟩ : ∃ z, z = kp := ⟨_, rfl⟩
  obtain ⟨L0, eL⟩ : ∃ z, z = L := ⟨_, rfl⟩
  rw [show tw_Q D cs kp L = tw_Q D cs kp0 L0 by rw [ekp, eL]]
  have hex : ∀ a : Nat, a ∈ L0 → a ∈ L ∧ kp a = kp0 a := fun a h => ⟨by rw [← eL]; exact h, by rw [ekp]⟩
  refine lv_aload_n hx hb dX12_isExact_0 rfl (lv_at hl 0 rfl) ?_
  refine tw_get (ci := 12) (C := RX12) (T := TX12) (N := 64) hx hb hB cx_inX12 hown hK TH hm0 hk0 rfl ⟨by decide, rfl⟩ 50 (by decide) cw_1243 (fun _ h9 => h9) dX12_isExact_1 (fun hv => ?_)
  obtain ⟨xi1, hxi1, hxi1a, hxi1b⟩ : ∃ x : Int32, tw_fv E a0 50 = .int x ∧ 0 ≤ x.toInt ∧ x.toInt ≤ 40 := hv
  rw [hxi1]
  refine lv_bipush (v := 6) hx hb dX12_isExact_4 (by decide) ?_
  refine lv_icmp_gt (tgt := 22) hx hb dX12_isExact_6 (by decide) (fun hc2 => ?_) (fun hc2 => ?_)
  · have hf3 : 6 < xi1.toInt := by have z := (fa_lt _ _).mp hc2; have : ((6 : Int32).toInt) = 6 := (by decide); omega
    refine lv_iconst (v := 0) hx hb dX12_isExact_22 (by decide) ?_
    exact tw_zret hx hb hr hlocks (by decide) TH hS hex ⟨⟨_, rfl, (show 0 ≤ Int32.toInt 0 from by have : ((0 : Int32).toInt) = 0 := (by decide); omega), (show Int32.toInt 0 ≤ 1 from by have : ((0 : Int32).toInt) = 0 := (by decide); omega)⟩, rfl, rfl, rfl⟩ (Nat.le_of_ble_eq_true rfl) (Nat.le_of_ble_eq_true rfl) dX12_isExact_23
  · have hf4 : ¬ (6 < xi1.toInt) := fun q => hc2 ((fa_lt _ _).mpr (by have : ((6 : Int32).toInt) = 6 := (by decide); omega))
    refine lv_aload_n hx hb dX12_isExact_9 rfl (lv_at hl 0 rfl) ?_
    refine tw_get (ci := 12) (C := RX12) (T := TX12) (N := 64) hx hb hB cx_inX12 hown hK TH hm0 hk0 rfl ⟨by decide, rfl⟩ 28 (by decide) cw_1221 (fun _ h9 => h9) dX12_isExact_10 (fun hv => ?_)
    obtain ⟨xi5, hxi5, hxi5a, hxi5b⟩ : ∃ x : Int32, tw_fv E a0 28 = .int x ∧ 0 ≤ x.toInt ∧ x.toInt ≤ 24 := hv
    rw [hxi5]
    refine lv_bipush (v := 6) hx hb dX12_isExact_13 (by decide) ?_
    refine lv_icmp_gt (tgt := 22) hx hb dX12_isExact_15 (by decide) (fun hc6 => ?_) (fun hc6 => ?_)
    · have hf7 : 6 < xi5.toInt := by have z := (fa_lt _ _).mp hc6; have : ((6 : Int32).toInt) = 6 := (by decide); omega
      refine lv_iconst (v := 0) hx hb dX12_isExact_22 (by decide) ?_
      exact tw_zret hx hb hr hlocks (by decide) TH hS hex ⟨⟨_, rfl, (show 0 ≤ Int32.toInt 0 from by have : ((0 : Int32).toInt) = 0 := (by decide); omega), (show Int32.toInt 0 ≤ 1 from by have : ((0 : Int32).toInt) = 0 := (by decide); omega)⟩, rfl, rfl, rfl⟩ (Nat.le_of_ble_eq_true rfl) (Nat.le_of_ble_eq_true rfl) dX12_isExact_23
    · have hf8 : ¬ (6 < xi5.toInt) := fun q => hc6 ((fa_lt _ _).mpr (by have : ((6 : Int32).toInt) = 6 := (by decide); omega))
      refine lv_iconst (v := 1) hx hb dX12_isExact_18 (by decide) ?_
      refine lv_goto (tgt := 23) hx hb dX12_isExact_19 (by decide) ?_
      exact tw_zret hx hb hr hlocks (by decide) TH hS hex ⟨⟨_, rfl, (show 0 ≤ Int32.toInt 1 from by have : ((1 : Int32).toInt) = 1 := (by decide); omega), (show Int32.toInt 1 ≤ 1 from by have : ((1 : Int32).toInt) = 1 := (by decide); omega)⟩, rfl, rfl, rfl⟩ (Nat.le_of_ble_eq_true rfl) (Nat.le_of_ble_eq_true rfl) dX12_isExact_23
