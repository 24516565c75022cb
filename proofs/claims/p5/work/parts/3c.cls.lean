set_option maxHeartbeats 4000000 in
set_option maxRecDepth 100000 in
theorem tX11_matchText (l : Launch) (D : va_G) (cs : Nat → ClassId) {kp : Nat → Nat} {L : List Nat} {E : Nat → va_E} (a0 : Nat) (x1 : Int32) (hm0 : a0 ∈ L) (hk0 : kp a0 = 11) (sz : Nat) : Met l yX11_matchText (.code yX11_matchText cX11_matchText 3 (some .boolean) :: cx_big) { frames := 9, cells := 0, slots := 0, locals := 213 } (tw_P D cs kp L E [.ref a0, .int x1] sz) (tw_Q D cs kp L (fun v kq Lq Eq => (∃ x : Int32, v = some (.int x) ∧ 0 ≤ x.toInt ∧ x.toInt ≤ 1) ∧ kp = kq ∧ L = Lq ∧ tw_fr kp L [(4, 0), (4, 1), (4, 5), (4, 6), (9, 2), (9, 3), (9, 4), (10, 0)] [102, 110, 111, 112, 113, 114, 150, 151, 152] E Eq) (va_A (va_pl L E) sz)) 0 0 (va_A (va_pl L E) sz) := by
  refine tw_ofW (by decide) (Nat.le_of_ble_eq_true rfl) ?_
  intro p e s m below meth c A ls hx hb hr hml hB hown hlocks hK hN hA TH hS hl
  have hown : s.vm.findClass "TreeMerge" = some m.cls := hown
  have hl : lv_has ls 3 [(0, .ref a0), (1, .int x1)] := hl
  obtain ⟨kp0, ekp⟩ : ∃ z, z = kp := ⟨_, rfl⟩
  obtain ⟨L0, eL⟩ : ∃ z, z = L := ⟨_, rfl⟩
  rw [show tw_Q D cs kp L = tw_Q D cs kp0 L0 by rw [ekp, eL]]
  have hex : ∀ a : Nat, a ∈ L0 → a ∈ L ∧ kp a = kp0 a := fun a h => ⟨by rw [← eL]; exact h, by rw [ekp]⟩
  have hF : tw_fr kp L [(4, 0), (4, 1), (4, 5), (4, 6), (9, 2), (9, 3), (9, 4), (10, 0)] [102, 110, 111, 112, 113, 114, 150, 151, 152] E E := tw_fr.rf
  refine lv_aload_n hx hb dX11_matchText_0 rfl (lv_at hl 0 rfl) ?_
  refine tw_get (ci := 11) (C := RX11) (T := TX11) (N := 19) hx hb hB cx_inX11 hown hK TH hm0 hk0 rfl ⟨by decide, rfl⟩ 7 (by decide) cw_390 (fun _ h9 => h9) dX11_matchText_1 (fun hv => ?_)
  obtain ⟨xr1, hxr1, hmxr1, hkxr1⟩ : ∃ a : Nat, tw_fv E a0 7 = .ref a ∧ a ∈ L ∧ kp a = 1 := hv
  rw [hxr1]
  refine lv_iload_n hx hb dX11_matchText_4 rfl (lv_at hl 1 rfl) ?_
  refine tw_Vc (o := xr1) (ci := 1) (n := 1) (post := (fun v kq Lq Eq => (v = some .null ∨ ∃ a : Nat, v = some (.ref a) ∧ a ∈ Lq ∧ kq a = 10 ∧ (0 ≤ x1.toInt ∧ x1.toInt ≤ 11)) ∧ kp = kq ∧ L = Lq ∧ E = Eq)) (As := [.int x1]) (rest := []) ⟨hx, hb, hml, hown, hB⟩ (fun sz => tX1_treeOf l D cs xr1 x1 hmxr1 hkxr1 sz) cg_11_168_X1_treeOf rfl rfl (by decide +kernel) ⟨Nat.le_of_ble_eq_true rfl, Nat.le_of_ble_eq_true rfl⟩ hK hN TH hS hA rfl hmxr1 hkxr1 (by decide) rfl hl.1 rfl (Nat.le_of_ble_eq_true rfl) dX11_matchText_5 ⟨Nat.le_of_ble_eq_true rfl, Nat.le_of_ble_eq_true rfl⟩ (fun v2 kp2 L2 E2 H locs hq2 hx2 TH hS => ?_)
  obtain ⟨hnxc3, rfl, rfl, rfl⟩ := hq2
  rcases hnxc3 with rfl | ⟨xc3, rfl, hmxc3, hkxc3, hnpxc3⟩
  · refine W.eq (g2 := F0 m 8 ls [.null]) rfl ?_
    refine lv_astore_nN (lv' := [(2, .null), (0, .ref a0), (1, .int x1)]) hx hb dX11_matchText_8 rfl hl (by decide) rfl (fun ls hl => ?_)
    refine lv_aload_nN hx hb dX11_matchText_9 rfl (lv_at hl 0 rfl) ?_
    refine lv_ifnullN (tgt := 43) hx hb dX11_matchText_10 (by decide) ?_
    refine lv_iconst (v := 0) hx hb dX11_matchText_43 (by decide) ?_
    exact tw_zret hx hb hr hlocks (by decide) TH hS hex ⟨⟨_, rfl, (show 0 ≤ Int32.toInt 0 from by have : ((0 : Int32).toInt) = 0 := (by decide); omega), (show Int32.toInt 0 ≤ 1 from by have : ((0 : Int32).toInt) = 0 := (by decide); omega)⟩, rfl, rfl, hF⟩ (Nat.le_of_ble_eq_true rfl) (Nat.le_of_ble_eq_true rfl) dX11_matchText_44
  · refine W.eq (g2 := F0 m 8 ls [.ref xc3]) rfl ?_
    refine lv_astore_n (lv' := [(2, .ref xc3), (0, .ref a0), (1, .int x1)]) hx hb dX11_matchText_8 rfl hl (by decide) rfl (fun ls hl => ?_)
    refine lv_aload_n hx hb dX11_matchText_9 rfl (lv_at hl 0 rfl) ?_
    refine lv_ifnull hx hb dX11_matchText_10 ?_
    refine lv_aload_n hx hb dX11_matchText_13 rfl (lv_at hl 1 rfl) ?_
    refine tw_Vc (o := a0) (ci := 11) (n := 0) (post := (fun v kq Lq Eq => (∃ x : Int32, v = some (.int x) ∧ (-1) ≤ x.toInt ∧ x.toInt ≤ 500) ∧ kp = kq ∧ L = Lq ∧ tw_fr kp L [(9, 2), (9, 3), (9, 4), (10, 0)] [102, 110, 111, 112, 113, 114] E Eq)) (As := []) (rest := []) ⟨hx, hb, hml, hown, hB⟩ (fun sz => tX11_readTree l D cs a0 hm0 hk0 sz) cg_11_113_X11_readTree rfl rfl (by decide +kernel) ⟨Nat.le_of_ble_eq_true rfl, Nat.le_of_ble_eq_true rfl⟩ hK hN TH hS hA rfl hm0 hk0 (by decide) rfl hl.1 rfl (Nat.le_of_ble_eq_true rfl) dX11_matchText_14 ⟨Nat.le_of_ble_eq_true rfl, Nat.le_of_ble_eq_true rfl⟩ (fun v4 kp4 L4 E4 H locs hq4 hx4 TH hS => ?_)
    obtain ⟨⟨xc5, rfl, hxc5a, hxc5b⟩, rfl, rfl, hst4⟩ := hq4
    have hF := hF.tr hst4 (fun _ h => ⟨h, rfl⟩) (by decide) (by decide)
    have hmf6 : tw_fv E4 a0 7 = .ref xr1 := (hst4.1 a0 7 hm0 (by rw [hk0]; decide)).trans hxr1
    refine W.eq (g2 := F0 m 17 ls [.int xc5]) rfl ?_
    refine lv_iconst (v := (-1)) hx hb dX11_matchText_17 (by decide) ?_
    refine lv_icmp_ne (tgt := 43) hx hb dX11_matchText_18 (by decide) (fun hc7 => ?_) (fun hc7 => ?_)
    · have hf8 : ¬ (xc5.toInt = (-1)) := fun q => hc7 ((fa_eq _ _).mpr (by have : (((-1) : Int32).toInt) = (-1) := (by decide); omega))
      refine lv_iconst (v := 0) hx hb dX11_matchText_43 (by decide) ?_
      exact tw_zret hx hb hr hlocks (by decide) TH hS hex ⟨⟨_, rfl, (show 0 ≤ Int32.toInt 0 from by have : ((0 : Int32).toInt) = 0 := (by decide); omega), (show Int32.toInt 0 ≤ 1 from by have : ((0 : Int32).toInt) = 0 := (by decide); omega)⟩, rfl, rfl, hF⟩ (Nat.le_of_ble_eq_true rfl) (Nat.le_of_ble_eq_true rfl) dX11_matchText_44
    · have hf9 : xc5.toInt = (-1) := by have z := (fa_eq _ _).mp hc7; have : (((-1) : Int32).toInt) = (-1) := (by decide); omega
      refine lv_aload_n hx hb dX11_matchText_21 rfl (lv_at hl 1 rfl) ?_
      refine tw_get (ci := 11) (C := RX11) (T := TX11) (N := 19) hx hb hB cx_inX11 hown hK TH hm0 hk0 rfl ⟨by decide, rfl⟩ 4 (by decide) cw_387 (fun _ h9 => h9) dX11_matchText_22 (fun hv => ?_)
      obtain ⟨xr10, hxr10, hmxr10, hkxr10⟩ : ∃ a : Nat, tw_fv E4 a0 4 = .ref a ∧ a ∈ L ∧ kp a = 10 := hv
      rw [hxr10]
      refine tw_get (ci := 10) (C := RX10) (T := TX10) (N := 8) hx hb hB cx_inX10 hown hK TH hmxr10 hkxr10 rfl ⟨by decide, rfl⟩ 0 (by decide) cw_121 (fun _ h9 => h9) dX11_matchText_25 (fun hv => ?_)
      obtain ⟨xi11, hxi11, hxi11a, hxi11b⟩ : ∃ x : Int32, tw_fv E4 xr10 0 = .int x ∧ 0 ≤ x.toInt ∧ x.toInt ≤ 40 := hv
      rw [hxi11]
      refine lv_if_eq (tgt := 43) hx hb dX11_matchText_28 (by decide) (fun hc12 => ?_) (fun hc12 => ?_)
      · have hf13 : xi11.toInt = 0 := by have z := (fa_eq _ _).mp hc12; have : ((0 : Int32).toInt) = 0 := (by decide); omega
        refine lv_iconst (v := 0) hx hb dX11_matchText_43 (by decide) ?_
        exact tw_zret hx hb hr hlocks (by decide) TH hS hex ⟨⟨_, rfl, (show 0 ≤ Int32.toInt 0 from by have : ((0 : Int32).toInt) = 0 := (by decide); omega), (show Int32.toInt 0 ≤ 1 from by have : ((0 : Int32).toInt) = 0 := (by decide); omega)⟩, rfl, rfl, hF⟩ (Nat.le_of_ble_eq_true rfl) (Nat.le_of_ble_eq_true rfl) dX11_matchText_44
      · have hf14 : ¬ (xi11.toInt = 0) := fun q => hc12 ((fa_eq _ _).mpr (by have : ((0 : Int32).toInt) = 0 := (by decide); omega))
        refine lv_aload_n hx hb dX11_matchText_31 rfl (lv_at hl 1 rfl) ?_
        refine tw_get (ci := 11) (C := RX11) (T := TX11) (N := 19) hx hb hB cx_inX11 hown hK TH hm0 hk0 rfl ⟨by decide, rfl⟩ 4 (by decide) cw_387 (fun _ h9 => h9) dX11_matchText_32 (fun hv => ?_)
        rw [hxr10]
        refine tw_get (ci := 10) (C := RX10) (T := TX10) (N := 8) hx hb hB cx_inX10 hown hK TH hmxr10 hkxr10 rfl ⟨by decide, rfl⟩ 5 (by decide) cw_143 (fun _ h9 => h9) dX11_matchText_35 (fun hv => ?_)
        obtain ⟨xr15, hxr15, hmxr15, hkxr15⟩ : ∃ a : Nat, tw_fv E4 xr10 5 = .ref a ∧ a ∈ L ∧ kp a = 114 := hv
        rw [hxr15]
        refine lv_iconst (v := 0) hx hb dX11_matchText_38 (by decide) ?_
        refine tw_iald (k := 114) (t0 := 0) (n := 40) (lo := (-1)) (hi := 9) hx hb hK TH hmxr15 hkxr15 (by decide) rfl rfl (i := 0) (vp_in_iff.mpr ⟨by have : ((0 : Int32).toInt) = 0 := (by decide); omega, by have : ((0 : Int32).toInt) = 0 := (by decide); omega⟩) dX11_matchText_39 (fun hxe16a hxe16b => ?_)
        obtain ⟨xe16, exe16⟩ : ∃ z : Int32, tw_iv E4 xr15 (Int32.toNatClampNeg 0) = z := ⟨_, rfl⟩
        rw [exe16] at hxe16a hxe16b ⊢
        refine lv_if_eq (tgt := 45) hx hb dX11_matchText_40 (by decide) (fun hc17 => ?_) (fun hc17 => ?_)
        · have hf18 : xe16.toInt = 0 := by have z := (fa_eq _ _).mp hc17; have : ((0 : Int32).toInt) = 0 := (by decide); omega
          refine lv_aload_n hx hb dX11_matchText_45 rfl (lv_at hl 1 rfl) ?_
          refine tw_get (ci := 11) (C := RX11) (T := TX11) (N := 19) hx hb hB cx_inX11 hown hK TH hm0 hk0 rfl ⟨by decide, rfl⟩ 6 (by decide) cw_389 (fun _ h9 => h9) dX11_matchText_46 (fun hv => ?_)
          obtain ⟨xr19, hxr19, hmxr19, hkxr19⟩ : ∃ a : Nat, tw_fv E4 a0 6 = .ref a ∧ a ∈ L ∧ kp a = 4 := hv
          rw [hxr19]
          refine lv_aload_n hx hb dX11_matchText_49 rfl (lv_at hl 0 rfl) ?_
          refine lv_aload_n hx hb dX11_matchText_50 rfl (lv_at hl 1 rfl) ?_
          refine tw_get (ci := 11) (C := RX11) (T := TX11) (N := 19) hx hb hB cx_inX11 hown hK TH hm0 hk0 rfl ⟨by decide, rfl⟩ 4 (by decide) cw_387 (fun _ h9 => h9) dX11_matchText_51 (fun hv => ?_)
          rw [hxr10]
          refine tw_Vc (o := xr19) (ci := 4) (n := 2) (post := (fun v kq Lq Eq => v = none ∧ kp = kq ∧ L = Lq ∧ tw_fr kp L [(4, 0), (4, 1), (4, 5), (4, 6)] [150, 151, 152] E4 Eq)) (As := [.ref xc3, .ref xr10]) (rest := []) ⟨hx, hb, hml, hown, hB⟩ (fun sz => tX4_pairUp l D cs xr19 xc3 xr10 hmxr19 hkxr19 hmxc3 hkxc3 hmxr10 hkxr10 sz) cg_11_177_X4_pairUp rfl rfl (by decide +kernel) ⟨Nat.le_of_ble_eq_true rfl, Nat.le_of_ble_eq_true rfl⟩ hK hN TH hS hA rfl hmxr19 hkxr19 (by decide) rfl hl.1 rfl (Nat.le_of_ble_eq_true rfl) dX11_matchText_54 ⟨Nat.le_of_ble_eq_true rfl, Nat.le_of_ble_eq_true rfl⟩ (fun v20 kp20 L20 E20 H locs hq20 hx20 TH hS => ?_)
          obtain ⟨rfl, rfl, rfl, hst20⟩ := hq20
          have hF := hF.tr hst20 (fun _ h => ⟨h, rfl⟩) (by decide) (by decide)
          have hmf22 : tw_fv E20 a0 7 = .ref xr1 := (hst20.1 a0 7 hm0 (by rw [hk0]; decide)).trans hmf6
          have hmf23 : tw_fv E20 a0 4 = .ref xr10 := (hst20.1 a0 4 hm0 (by rw [hk0]; decide)).trans hxr10
          have hmf24 : tw_fv E20 xr10 0 = .int xi11 := (hst20.1 xr10 0 hmxr10 (by rw [hkxr10]; decide)).trans hxi11
          have hmf25 : tw_fv E20 xr10 5 = .ref xr15 := (hst20.1 xr10 5 hmxr10 (by rw [hkxr10]; decide)).trans hxr15
          have hmf26 : tw_fv E20 a0 6 = .ref xr19 := (hst20.1 a0 6 hm0 (by rw [hk0]; decide)).trans hxr19
          refine W.eq (g2 := F0 m 57 ls []) rfl ?_
          refine lv_iconst (v := 1) hx hb dX11_matchText_57 (by decide) ?_
          exact tw_zret hx hb hr hlocks (by decide) TH hS hex ⟨⟨_, rfl, (show 0 ≤ Int32.toInt 1 from by have : ((1 : Int32).toInt) = 1 := (by decide); omega), (show Int32.toInt 1 ≤ 1 from by have : ((1 : Int32).toInt) = 1 := (by decide); omega)⟩, rfl, rfl, hF⟩ (Nat.le_of_ble_eq_true rfl) (Nat.le_of_ble_eq_true rfl) dX11_matchText_58
        · have hf27 : ¬ (xe16.toInt = 0) := fun q => hc17 ((fa_eq _ _).mpr (by have : ((0 : Int32).toInt) = 0 := (by decide); omega))
          refine lv_iconst (v := 0) hx hb dX11_matchText_43 (by decide) ?_
          exact tw_zret hx hb hr hlocks (by decide) TH hS hex ⟨⟨_, rfl, (show 0 ≤ Int32.toInt 0 from by have : ((0 : Int32).toInt) = 0 := (by decide); omega), (show Int32.toInt 0 ≤ 1 from by have : ((0 : Int32).toInt) = 0 := (by decide); omega)⟩, rfl, rfl, hF⟩ (Nat.le_of_ble_eq_true rfl) (Nat.le_of_ble_eq_true rfl) dX11_matchText_44
set_option maxHeartbeats 4000000 in
set_option maxRecDepth 100000 in
theorem tX11_match (l : Launch) (D : va_G) (cs : Nat → ClassId) {kp : Nat → Nat} {L : List Nat} {E : Nat → va_E} (a0 : Nat) (x1 : Int32) (x2 : Int32) (hm0 : a0 ∈ L) (hk0 : kp a0 = 11) (sz : Nat) : Met l yX11_match (.code yX11_match cX11_match 3 (some .int) :: cx_big) { frames := 10, cells := 0, slots := 0, locals := 235 } (tw_P D cs kp L E [.ref a0, .int x1, .int x2] sz) (tw_Q D cs kp L (fun v kq Lq Eq => (∃ x : Int32, v = some (.int x)) ∧ kp = kq ∧ L = Lq ∧ tw_fr kp L [(4, 0), (4, 1), (4, 5), (4, 6), (9, 2), (9, 3), (9, 4), (10, 0)] [102, 110, 111, 112, 113, 114, 150, 151, 152] E Eq) (va_A (va_pl L E) sz)) 0 0 (va_A (va_pl L E) sz) := by
  refine tw_ofW (by decide) (Nat.le_of_ble_eq_true rfl) ?_
  intro p e s m below meth c A ls hx hb hr hml hB hown hlocks hK hN hA TH hS hl
  have hown : s.vm.findClass "TreeMerge" = some m.cls := hown
  have hl : lv_has ls 3 [(0, .ref a0), (1, .int x1), (2, .int x2)] := hl
  obtain ⟨kp0, ekp⟩ : ∃ z, z = kp := ⟨_, rfl⟩
  obtain ⟨L0, eL⟩ : ∃ z, z = L := ⟨_, rfl⟩
  rw [show tw_Q D cs kp L = tw_Q D cs kp0 L0 by rw [ekp, eL]]
  have hex : ∀ a : Nat, a ∈ L0 → a ∈ L ∧ kp a = kp0 a := fun a h => ⟨by rw [← eL]; exact h, by rw [ekp]⟩
  have hF : tw_fr kp L [(4, 0), (4, 1), (4, 5), (4, 6), (9, 2), (9, 3), (9, 4), (10, 0)] [102, 110, 111, 112, 113, 114, 150, 151, 152] E E := tw_fr.rf
  refine lv_aload_n hx hb dX11_match_0 rfl (lv_at hl 0 rfl) ?_
  refine lv_iload_n hx hb dX11_match_1 rfl (lv_at hl 1 rfl) ?_
  refine tw_Vc (o := a0) (ci := 11) (n := 1) (post := (fun v kq Lq Eq => (∃ x : Int32, v = some (.int x) ∧ 0 ≤ x.toInt ∧ x.toInt ≤ 1) ∧ kp = kq ∧ L = Lq ∧ tw_fr kp L [(4, 0), (4, 1), (4, 5), (4, 6), (9, 2), (9, 3), (9, 4), (10, 0)] [102, 110, 111, 112, 113, 114, 150, 151, 152] E Eq)) (As := [.int x1]) (rest := []) ⟨hx, hb, hml, hown, hB⟩ (fun sz => tX11_matchText l D cs a0 x1 hm0 hk0 sz) cg_11_149_X11_matchText rfl rfl (by decide +kernel) ⟨Nat.le_of_ble_eq_true rfl, Nat.le_of_ble_eq_true rfl⟩ hK hN TH hS hA rfl hm0 hk0 (by decide) rfl hl.1 rfl (Nat.le_of_ble_eq_true rfl) dX11_match_2 ⟨Nat.le_of_ble_eq_true rfl, Nat.le_of_ble_eq_true rfl⟩ (fun v1 kp1 L1 E1 H locs hq1 hx1 TH hS => ?_)
  obtain ⟨⟨xc2, rfl, hxc2a, hxc2b⟩, rfl, rfl, hst1⟩ := hq1
  have hF := hF.tr hst1 (fun _ h => ⟨h, rfl⟩) (by decide) (by decide)
  refine W.eq (g2 := F0 m 5 ls [.int xc2]) rfl ?_
  refine lv_if_ne (tgt := 10) hx hb dX11_match_5 (by decide) (fun hc3 => ?_) (fun hc3 => ?_)
  · have hf4 : ¬ (xc2.toInt = 0) := fun q => hc3 ((fa_eq _ _).mpr (by have : ((0 : Int32).toInt) = 0 := (by decide); omega))
    refine lv_iload_n hx hb dX11_match_10 rfl (lv_at hl 2 rfl) ?_
    refine lv_if_ne (tgt := 22) hx hb dX11_match_11 (by decide) (fun hc5 => ?_) (fun hc5 => ?_)
    · have hf6 : ¬ (x2.toInt = 0) := fun q => hc5 ((fa_eq _ _).mpr (by have : ((0 : Int32).toInt) = 0 := (by decide); omega))
      refine lv_iload_n hx hb dX11_match_22 rfl (lv_at hl 2 rfl) ?_
      refine lv_iconst (v := 1) hx hb dX11_match_23 (by decide) ?_
      refine lv_icmp_ne (tgt := 43) hx hb dX11_match_24 (by decide) (fun hc7 => ?_) (fun hc7 => ?_)
      · have hf8 : ¬ (x2.toInt = 1) := fun q => hc7 ((fa_eq _ _).mpr (by have : ((1 : Int32).toInt) = 1 := (by decide); omega))
        refine lv_iload_n hx hb dX11_match_43 rfl (lv_at hl 2 rfl) ?_
        refine lv_iconst (v := 2) hx hb dX11_match_44 (by decide) ?_
        refine lv_icmp_ne (tgt := 56) hx hb dX11_match_45 (by decide) (fun hc9 => ?_) (fun hc9 => ?_)
        · have hf10 : ¬ (x2.toInt = 2) := fun q => hc9 ((fa_eq _ _).mpr (by have : ((2 : Int32).toInt) = 2 := (by decide); omega))
          refine lv_iload_n hx hb dX11_match_56 rfl (lv_at hl 2 rfl) ?_
          refine lv_bipush (v := 100) hx hb dX11_match_57 (by decide) ?_
          refine lv_icmp_lt (tgt := 76) hx hb dX11_match_59 (by decide) (fun hc11 => ?_) (fun hc11 => ?_)
          · have hf12 : x2.toInt < 100 := by have z := (fa_lt _ _).mp hc11; have : ((100 : Int32).toInt) = 100 := (by decide); omega
            refine lv_iconst (v := (-1)) hx hb dX11_match_76 (by decide) ?_
            exact tw_iret hx hb hr hlocks TH hS hex ⟨⟨_, rfl⟩, rfl, rfl, hF⟩ (Nat.le_of_ble_eq_true rfl) (Nat.le_of_ble_eq_true rfl) dX11_match_77
          · have hf13 : ¬ (x2.toInt < 100) := fun q => hc11 ((fa_lt _ _).mpr (by have : ((100 : Int32).toInt) = 100 := (by decide); omega))
            refine lv_aload_n hx hb dX11_match_62 rfl (lv_at hl 0 rfl) ?_
            refine tw_get (ci := 11) (C := RX11) (T := TX11) (N := 19) hx hb hB cx_inX11 hown hK TH hm0 hk0 rfl ⟨by decide, rfl⟩ 6 (by decide) cw_389 (fun _ h9 => h9) dX11_match_63 (fun hv => ?_)
            obtain ⟨xr14, hxr14, hmxr14, hkxr14⟩ : ∃ a : Nat, tw_fv E1 a0 6 = .ref a ∧ a ∈ L ∧ kp a = 4 := hv
            rw [hxr14]
            refine lv_iload_n hx hb dX11_match_66 rfl (lv_at hl 2 rfl) ?_
            refine lv_bipush (v := 100) hx hb dX11_match_67 (by decide) ?_
            refine lv_isub hx hb dX11_match_69 ?_
            refine lv_topi (fun zi15 ezi15 => ?_)
            have hzi15 : zi15.toInt = x2.toInt - 100 := by rw [ezi15]; have : ((100 : Int32).toInt) = 100 := (by decide); have := ia_lo x2; have := ia_hi x2; exact (ia_sub (by omega) (by omega)).trans (by omega)
            refine tw_Vc (o := xr14) (ci := 4) (n := 1) (post := (fun v kq Lq Eq => (∃ x : Int32, v = some (.int x) ∧ (-1) ≤ x.toInt ∧ x.toInt ≤ 149) ∧ kp = kq ∧ L = Lq ∧ E1 = Eq)) (As := [.int zi15]) (rest := []) ⟨hx, hb, hml, hown, hB⟩ (fun sz => tX4_numberFor l D cs xr14 zi15 hmxr14 hkxr14 sz) cg_11_162_X4_numberFor rfl rfl (by decide +kernel) ⟨Nat.le_of_ble_eq_true rfl, Nat.le_of_ble_eq_true rfl⟩ hK hN TH hS hA rfl hmxr14 hkxr14 (by decide) rfl hl.1 rfl (Nat.le_of_ble_eq_true rfl) dX11_match_70 ⟨Nat.le_of_ble_eq_true rfl, Nat.le_of_ble_eq_true rfl⟩ (fun v16 kp16 L16 E16 H locs hq16 hx16 TH hS => ?_)
            obtain ⟨⟨xc17, rfl, hxc17a, hxc17b⟩, rfl, rfl, rfl⟩ := hq16
            refine W.eq (g2 := F0 m 73 ls [.int xc17]) rfl ?_
            refine lv_goto (tgt := 77) hx hb dX11_match_73 (by decide) ?_
            exact tw_iret hx hb hr hlocks TH hS hex ⟨⟨_, rfl⟩, rfl, rfl, hF⟩ (Nat.le_of_ble_eq_true rfl) (Nat.le_of_ble_eq_true rfl) dX11_match_77
        · have hf18 : x2.toInt = 2 := by have z := (fa_eq _ _).mp hc9; have : ((2 : Int32).toInt) = 2 := (by decide); omega
          refine lv_aload_n hx hb dX11_match_48 rfl (lv_at hl 0 rfl) ?_
          refine tw_get (ci := 11) (C := RX11) (T := TX11) (N := 19) hx hb hB cx_inX11 hown hK TH hm0 hk0 rfl ⟨by decide, rfl⟩ 6 (by decide) cw_389 (fun _ h9 => h9) dX11_match_49 (fun hv => ?_)
          obtain ⟨xr19, hxr19, hmxr19, hkxr19⟩ : ∃ a : Nat, tw_fv E1 a0 6 = .ref a ∧ a ∈ L ∧ kp a = 4 := hv
          rw [hxr19]
          refine tw_Vc (o := xr19) (ci := 4) (n := 0) (post := (fun v kq Lq Eq => (∃ x : Int32, v = some (.int x)) ∧ kp = kq ∧ L = Lq ∧ E1 = Eq)) (As := []) (rest := []) ⟨hx, hb, hml, hown, hB⟩ (fun sz => tX4_bound l D cs xr19 hmxr19 hkxr19 sz) cg_11_159_X4_bound rfl rfl (by decide +kernel) ⟨Nat.le_of_ble_eq_true rfl, Nat.le_of_ble_eq_true rfl⟩ hK hN TH hS hA rfl hmxr19 hkxr19 (by decide) rfl hl.1 rfl (Nat.le_of_ble_eq_true rfl) dX11_match_52 ⟨Nat.le_of_ble_eq_true rfl, Nat.le_of_ble_eq_true rfl⟩ (fun v20 kp20 L20 E20 H locs hq20 hx20 TH hS => ?_)
          obtain ⟨⟨xc21, rfl⟩, rfl, rfl, rfl⟩ := hq20
          refine W.eq (g2 := F0 m 55 ls [.int xc21]) rfl ?_
          exact tw_iret hx hb hr hlocks TH hS hex ⟨⟨_, rfl⟩, rfl, rfl, hF⟩ (Nat.le_of_ble_eq_true rfl) (Nat.le_of_ble_eq_true rfl) dX11_match_55
      · have hf22 : x2.toInt = 1 := by have z := (fa_eq _ _).mp hc7; have : ((1 : Int32).toInt) = 1 := (by decide); omega
        refine lv_aload_n hx hb dX11_match_27 rfl (lv_at hl 0 rfl) ?_
        refine tw_get (ci := 11) (C := RX11) (T := TX11) (N := 19) hx hb hB cx_inX11 hown hK TH hm0 hk0 rfl ⟨by decide, rfl⟩ 6 (by decide) cw_389 (fun _ h9 => h9) dX11_match_28 (fun hv => ?_)
        obtain ⟨xr23, hxr23, hmxr23, hkxr23⟩ : ∃ a : Nat, tw_fv E1 a0 6 = .ref a ∧ a ∈ L ∧ kp a = 4 := hv
        rw [hxr23]
        refine tw_get (ci := 4) (C := RX4) (T := TX4) (N := 7) hx hb hB cx_inX4 hown hK TH hmxr23 hkxr23 rfl ⟨by decide, rfl⟩ 6 (by decide) cw_205 (fun _ h9 => h9) dX11_match_31 (fun hv => ?_)
        obtain ⟨xi24, hxi24, hxi24a, hxi24b⟩ : ∃ x : Int32, tw_fv E1 xr23 6 = .int x ∧ 0 ≤ x.toInt ∧ x.toInt ≤ 1 := hv
        rw [hxi24]
        refine lv_if_eq (tgt := 41) hx hb dX11_match_34 (by decide) (fun hc25 => ?_) (fun hc25 => ?_)
        · have hf26 : xi24.toInt = 0 := by have z := (fa_eq _ _).mp hc25; have : ((0 : Int32).toInt) = 0 := (by decide); omega
          refine lv_iconst (v := 0) hx hb dX11_match_41 (by decide) ?_
          exact tw_iret hx hb hr hlocks TH hS hex ⟨⟨_, rfl⟩, rfl, rfl, hF⟩ (Nat.le_of_ble_eq_true rfl) (Nat.le_of_ble_eq_true rfl) dX11_match_42
        · have hf27 : ¬ (xi24.toInt = 0) := fun q => hc25 ((fa_eq _ _).mpr (by have : ((0 : Int32).toInt) = 0 := (by decide); omega))
          refine lv_iconst (v := 1) hx hb dX11_match_37 (by decide) ?_
          refine lv_goto (tgt := 42) hx hb dX11_match_38 (by decide) ?_
          exact tw_iret hx hb hr hlocks TH hS hex ⟨⟨_, rfl⟩, rfl, rfl, hF⟩ (Nat.le_of_ble_eq_true rfl) (Nat.le_of_ble_eq_true rfl) dX11_match_42
    · have hf28 : x2.toInt = 0 := by have z := (fa_eq _ _).mp hc5; have : ((0 : Int32).toInt) = 0 := (by decide); omega
      refine lv_aload_n hx hb dX11_match_14 rfl (lv_at hl 0 rfl) ?_
      refine tw_get (ci := 11) (C := RX11) (T := TX11) (N := 19) hx hb hB cx_inX11 hown hK TH hm0 hk0 rfl ⟨by decide, rfl⟩ 6 (by decide) cw_389 (fun _ h9 => h9) dX11_match_15 (fun hv => ?_)
      obtain ⟨xr29, hxr29, hmxr29, hkxr29⟩ : ∃ a : Nat, tw_fv E1 a0 6 = .ref a ∧ a ∈ L ∧ kp a = 4 := hv
      rw [hxr29]
      refine tw_get (ci := 4) (C := RX4) (T := TX4) (N := 7) hx hb hB cx_inX4 hown hK TH hmxr29 hkxr29 rfl ⟨by decide, rfl⟩ 5 (by decide) cw_203 (fun _ h9 => h9) dX11_match_18 (fun hv => ?_)
      obtain ⟨xi30, hxi30, hxi30a, hxi30b⟩ : ∃ x : Int32, tw_fv E1 xr29 5 = .int x ∧ (-2147483648) ≤ x.toInt ∧ x.toInt ≤ 2147483647 := hv
      rw [hxi30]
      exact tw_iret hx hb hr hlocks TH hS hex ⟨⟨_, rfl⟩, rfl, rfl, hF⟩ (Nat.le_of_ble_eq_true rfl) (Nat.le_of_ble_eq_true rfl) dX11_match_21
  · have hf31 : xc2.toInt = 0 := by have z := (fa_eq _ _).mp hc3; have : ((0 : Int32).toInt) = 0 := (by decide); omega
    refine lv_iconst (v := (-1)) hx hb dX11_match_8 (by decide) ?_
    exact tw_iret hx hb hr hlocks TH hS hex ⟨⟨_, rfl⟩, rfl, rfl, hF⟩ (Nat.le_of_ble_eq_true rfl) (Nat.le_of_ble_eq_true rfl) dX11_match_9
set_option maxHeartbeats 4000000 in
set_option maxRecDepth 100000 in
theorem tX1_add (l : Launch) (D : va_G) (cs : Nat → ClassId) {kp : Nat → Nat} {L : List Nat} {E : Nat → va_E} (a0 : Nat) (a1 : Nat) (x2 : Int32) (x3 : Int32) (hm0 : a0 ∈ L) (hk0 : kp a0 = 1) (hm1 : a1 ∈ L) (hk1 : kp a1 = 10) (sz : Nat) : Met l yX1_add (.code yX1_add cX1_add 8 (some .int) :: cx_big) { frames := 3, cells := 8, slots := 288, locals := 68 } (tw_P D cs kp L E [.ref a0, .ref a1, .int x2, .int x3] sz) (tw_Q D cs kp L (fun v kq Lq Eq => (∃ x : Int32, v = some (.int x) ∧ (-1) ≤ x.toInt ∧ x.toInt ≤ 11) ∧ tw_fr kp L [(1, 0), (10, 0)] [102, 110, 111, 112, 113, 114, 115, 140, 141, 142] E Eq) (va_A (va_pl L E) sz)) 8 288 (va_A (va_pl L E) sz) := by
  refine tw_ofW (by decide) (Nat.le_of_ble_eq_true rfl) ?_
  intro p e s m below meth c A ls hx hb hr hml hB hown hlocks hK hN hA TH hS hl
  have hown : s.vm.findClass "TreeMerge$Editions" = some m.cls := hown
  have hl : lv_has ls 8 [(0, .ref a0), (1, .ref a1), (2, .int x2), (3, .int x3)] := hl
  obtain ⟨kp0, ekp⟩ : ∃ z, z = kp := ⟨_, rfl⟩
  obtain ⟨L0, eL⟩ : ∃ z, z = L := ⟨_, rfl⟩
  rw [show tw_Q D cs kp L = tw_Q D cs kp0 L0 by rw [ekp, eL]]
  have hex : ∀ a : Nat, a ∈ L0 → a ∈ L ∧ kp a = kp0 a := fun a h => ⟨by rw [← eL]; exact h, by rw [ekp]⟩
  have hF : tw_fr kp L [(1, 0), (10, 0)] [102, 110, 111, 112, 113, 114, 115, 140, 141, 142] E E := tw_fr.rf
  have hexb : ∀ a : Nat, a ∈ L → a ∈ L ∧ kp a = kp a := fun a h => ⟨h, rfl⟩
  refine lv_aload_n hx hb dX1_add_0 rfl (lv_at hl 0 rfl) ?_
  refine tw_Vc (o := a0) (ci := 1) (n := 0) (post := (fun v kq Lq Eq => (∃ x : Int32, v = some (.int x) ∧ 0 ≤ x.toInt ∧ x.toInt ≤ 1 ∧ (∃ z0 : Int32, tw_fv Eq a0 0 = .int z0 ∧ (x.toInt = 0 → z0.toInt ≤ 11))) ∧ kp = kq ∧ L = Lq ∧ E = Eq)) (As := []) (rest := []) ⟨hx, hb, hml, hown, hB⟩ (fun sz => tX1_isFull l D cs a0 hm0 hk0 sz) cg_1_35_X1_isFull rfl rfl (by decide +kernel) ⟨Nat.le_of_ble_eq_true rfl, Nat.le_of_ble_eq_true rfl⟩ hK hN TH hS hA rfl hm0 hk0 (by decide) rfl hl.1 rfl (Nat.le_of_ble_eq_true rfl) dX1_add_1 ⟨Nat.le_of_ble_eq_true rfl, Nat.le_of_ble_eq_true rfl⟩ (fun v1 kp1 L1 E1 H locs hq1 hx1 TH hS => ?_)
  obtain ⟨⟨xc2, rfl, hxc2a, hxc2b, ⟨zfxc2_0_0, hzfxc2_0_0, hzpxc2_0⟩⟩, rfl, rfl, rfl⟩ := hq1
  obtain ⟨qzfxc2_0_0, hqzfxc2_0_0, hqzfxc2_0_0a, hqzfxc2_0_0b⟩ := tw_rd TH hm0 hk0 (by decide) (by decide) (k := 0) rfl
  have eqzfxc2_0_0 : qzfxc2_0_0 = zfxc2_0_0 := by have q := hqzfxc2_0_0.symm.trans hzfxc2_0_0; injection q
  rw [eqzfxc2_0_0] at hqzfxc2_0_0a hqzfxc2_0_0b
  refine W.eq (g2 := F0 m 4 ls [.int xc2]) rfl ?_
  refine lv_if_eq (tgt := 9) hx hb dX1_add_4 (by decide) (fun hc3 => ?_) (fun hc3 => ?_)
  · have hf4 : xc2.toInt = 0 := by have z := (fa_eq _ _).mp hc3; have : ((0 : Int32).toInt) = 0 := (by decide); omega
    refine lv_aload_n hx hb dX1_add_9 rfl (lv_at hl 0 rfl) ?_
    refine tw_get (ci := 1) (C := RX1) (T := TX1) (N := 5) hx hb hB cx_inX1 hown hK TH hm0 hk0 rfl ⟨by decide, rfl⟩ 0 (by decide) cw_229 (fun _ h9 => h9) dX1_add_10 (fun hv => ?_)
    rw [hzfxc2_0_0]
    refine lv_istore (lv' := [(4, .int zfxc2_0_0), (0, .ref a0), (1, .ref a1), (2, .int x2), (3, .int x3)]) hx hb dX1_add_13 hl (by decide) rfl (fun ls hl => ?_)
    refine va_new (ci := 10) (fs := [.int 0, .null, .null, .null, .null, .null, .null, .null]) (C := RX10) (T := TX10) (N := 8) hx hb hB cx_inX10 tyX10 tyX10_ok hown (hB _ cw_227) (hB _ cw_111) (hB _ cw_4) hK TH.1 TH.2.1 hS hA rfl cx_fsX10 (Nat.le_of_ble_eq_true rfl) (Nat.le_of_ble_eq_true rfl) dX1_add_15 (fun qn5 H hP hD hS => ?_)
    have hTo := TH.2.2
    refine lv_dup hx hb dX1_add_18 rfl ?_
    refine tw_ICN (Xs := []) (o := qn5) (ci := 10) (fs := [.int 0, .null, .null, .null, .null, .null, .null, .null]) (kp := kp) (rest := [.ref qn5]) ⟨hx, hb, hml, hown, hB⟩ (fun sz => tI_X10 l D cs qn5 sz) cw_114 cw_4 (by decide +kernel) cw_113 rfl rfl rfl (by decide +kernel) ⟨Nat.le_of_ble_eq_true rfl, Nat.le_of_ble_eq_true rfl⟩ hK hN.1 hP hD hTo hS hA hl.1 rfl (Nat.le_of_ble_eq_true rfl) dX1_add_19 ⟨Nat.le_of_ble_eq_true rfl, Nat.le_of_ble_eq_true rfl⟩ (fun kp6 L6 E6 H locs hxx6 hmqn5 hkqn5 hnqn5 hpqn5 hP hD hT hS => ?_)
    have TH : tw_H D cs kp6 L6 E6 A H := ⟨hP, hD, hT⟩
    have hx6 : ∀ a : Nat, a ∈ L → a ∈ L6 ∧ kp6 a = kp a := fun a h => ⟨(hxx6 a h).1, (hxx6 a h).2.1⟩
    have hst6 := tw_fr_ext hxx6
    have hF := hF.tr hst6 (fun _ h => ⟨h, rfl⟩) (by decide) (by decide)
    have hex : ∀ a : Nat, a ∈ L0 → a ∈ L6 ∧ kp6 a = kp0 a := fun a h => ⟨(hx6 a (hex a h).1).1, ((hx6 a (hex a h).1).2).trans (hex a h).2⟩
    have hexb : ∀ a : Nat, a ∈ L → a ∈ L6 ∧ kp6 a = kp a := fun a h => ⟨(hx6 a (hexb a h).1).1, ((hx6 a (hexb a h).1).2).trans (hexb a h).2⟩
    have hmf7 : tw_fv E6 a0 0 = .int zfxc2_0_0 := (hst6.1 a0 0 hm0 (by rw [hk0]; decide)).trans hzfxc2_0_0
    have hm6_a0 := (hx6 a0 hm0).1
    have hk6_a0 : kp6 a0 = 1 := ((hx6 a0 hm0).2).trans hk0
    have hm6_a1 := (hx6 a1 hm1).1
    have hk6_a1 : kp6 a1 = 10 := ((hx6 a1 hm1).2).trans hk1
    refine W.eq (g2 := F0 m 22 ls [.ref qn5]) rfl ?_
    refine lv_astore (lv' := [(5, .ref qn5), (4, .int zfxc2_0_0), (0, .ref a0), (1, .ref a1), (2, .int x2), (3, .int x3)]) hx hb dX1_add_22 hl (by decide) rfl (fun ls hl => ?_)
    refine lv_aload hx hb dX1_add_24 (lv_at hl 0 rfl) ?_
    refine lv_aload_n hx hb dX1_add_26 rfl (lv_at hl 3 rfl) ?_
    refine tw_Vc (o := qn5) (ci := 10) (n := 1) (post := (fun v kq Lq Eq => v = none ∧ kp6 = kq ∧ L6 = Lq ∧ tw_fr kp6 L6 [(10, 0)] [102, 110, 111, 112, 113, 114, 115] E6 Eq)) (As := [.ref a1]) (rest := []) ⟨hx, hb, hml, hown, hB⟩ (fun sz => tX10_copy l D cs qn5 a1 hmqn5 hkqn5 hm6_a1 hk6_a1 sz) cg_1_40_X10_copy rfl rfl (by decide +kernel) ⟨Nat.le_of_ble_eq_true rfl, Nat.le_of_ble_eq_true rfl⟩ hK hN TH hS hA rfl hmqn5 hkqn5 (by decide) rfl hl.1 rfl (Nat.le_of_ble_eq_true rfl) dX1_add_27 ⟨Nat.le_of_ble_eq_true rfl, Nat.le_of_ble_eq_true rfl⟩ (fun v8 kp8 L8 E8 H locs hq8 hx8 TH hS => ?_)
    obtain ⟨rfl, rfl, rfl, hst8⟩ := hq8
    have hF := hF.tr hst8 hexb (by decide) (by decide)
    have hmf10 : tw_fv E8 a0 0 = .int zfxc2_0_0 := (hst8.1 a0 0 hm6_a0 (by rw [hk6_a0]; decide)).trans hmf7
    refine W.eq (g2 := F0 m 30 ls []) rfl ?_
    refine lv_iconst (v := 0) hx hb dX1_add_30 (by decide) ?_
    refine lv_istore (lv' := [(6, .int 0), (5, .ref qn5), (4, .int zfxc2_0_0), (0, .ref a0), (1, .ref a1), (2, .int x2), (3, .int x3)]) hx hb dX1_add_31 hl (by decide) rfl (fun ls hl => ?_)
    have hJ33 : ∀ (n33 : Nat) (y33_6 : Int32) (Eg33 : Nat → va_E) (H : Heap) (locs : List Loc) (ls : Array Slot), 0 ≤ y33_6.toInt → y33_6.toInt ≤ 40 → 40 - y33_6.toInt ≤ (n33 : Int) → tw_fr kp6 L6 [] [115] E8 Eg33 → tw_H D cs kp6 L6 Eg33 A H → va_S A s.heap H locs → lv_has ls 8 [(6, .int y33_6), (5, .ref qn5), (4, .int zfxc2_0_0), (0, .ref a0), (2, .int x2), (3, .int x3)] → W p l e { frames := 3, cells := 8, slots := 288, locals := 68 } s m [.ref a0, .ref a1, .int x2, .int x3].toArray below meth c H locs 8 288 (MQ below (tw_Q D cs kp0 L0 (fun v kq Lq Eq => (∃ x : Int32, v = some (.int x) ∧ (-1) ≤ x.toInt ∧ x.toInt ≤ 11) ∧ tw_fr kp L [(1, 0), (10, 0)] [102, 110, 111, 112, 113, 114, 115, 140, 141, 142] E Eq) A) [.ref a0, .ref a1, .int x2, .int x3].toArray s 8 288 A) (F0 m 33 ls []) := by
      intro n33
      induction n33 using Nat.strongRecOn with
      | _ n33 ih33 =>
        intro y33_6 Eg33 H locs ls hy33_6a hy33_6b hmeas33 hG33 TH hS hl
        have hF := hF.tr hG33 hexb (by decide) (by decide)
        have hmf11 : tw_fv Eg33 a0 0 = .int zfxc2_0_0 := (hG33.1 a0 0 hm6_a0 (by rw [hk6_a0]; decide)).trans hmf10
        refine lv_iload hx hb dX1_add_33 (lv_at hl 0 rfl) ?_
        refine lv_aload hx hb dX1_add_35 (lv_at hl 1 rfl) ?_
        refine tw_get (ci := 10) (C := RX10) (T := TX10) (N := 8) hx hb hB cx_inX10 hown hK TH hmqn5 hkqn5 rfl ⟨by decide, rfl⟩ 0 (by decide) cw_120 (fun _ h9 => h9) dX1_add_37 (fun hv => ?_)
        obtain ⟨xi12, hxi12, hxi12a, hxi12b⟩ : ∃ x : Int32, tw_fv Eg33 qn5 0 = .int x ∧ 0 ≤ x.toInt ∧ x.toInt ≤ 40 := hv
        rw [hxi12]
        refine lv_icmp_ge (tgt := 122) hx hb dX1_add_40 (by decide) (fun hc13 => ?_) (fun hc13 => ?_)
        · have hf14 : xi12.toInt ≤ y33_6.toInt := by have z := (fa_le _ _).mp hc13;  omega
          refine lv_aload_n hx hb dX1_add_122 rfl (lv_at hl 3 rfl) ?_
          refine tw_get (ci := 1) (C := RX1) (T := TX1) (N := 5) hx hb hB cx_inX1 hown hK TH hm6_a0 hk6_a0 rfl ⟨by decide, rfl⟩ 1 (by decide) cw_231 (fun _ h9 => h9) dX1_add_123 (fun hv => ?_)
          obtain ⟨xr15, hxr15, hmxr15, hkxr15⟩ : ∃ a : Nat, tw_fv Eg33 a0 1 = .ref a ∧ a ∈ L6 ∧ kp6 a = 140 := hv
          rw [hxr15]
          refine lv_iload hx hb dX1_add_126 (lv_at hl 2 rfl) ?_
          refine lv_aload hx hb dX1_add_128 (lv_at hl 1 rfl) ?_
          refine tw_naast (k := 140) (n := 12) (hi := 0) hx hb hK TH hS hmxr15 hkxr15 (by decide) rfl hmqn5 hkqn5 (i := zfxc2_0_0) (vp_in_iff.mpr ⟨by  omega, by  omega⟩) dX1_add_130 (fun H locs E16 TH hS hp17 hp18 => ?_)
          have hst19 : tw_fr kp6 L6 [] [140] Eg33 E16 := tw_fr.ast tw_fr.rf (fun _ => hkxr15) hp17 hp18 (by decide)
          have hF := hF.tr hst19 hexb (by decide) (by decide)
          have hmf20 : tw_fv E16 a0 0 = .int zfxc2_0_0 := (hst19.1 a0 0 hm6_a0 (by rw [hk6_a0]; decide)).trans hmf11
          have hmf21 : tw_fv E16 qn5 0 = .int xi12 := (hst19.1 qn5 0 hmqn5 (by rw [hkqn5]; decide)).trans hxi12
          have hmf22 : tw_fv E16 a0 1 = .ref xr15 := (hst19.1 a0 1 hm6_a0 (by rw [hk6_a0]; decide)).trans hxr15
          refine lv_aload_n hx hb dX1_add_131 rfl (lv_at hl 3 rfl) ?_
          refine tw_get (ci := 1) (C := RX1) (T := TX1) (N := 5) hx hb hB cx_inX1 hown hK TH hm6_a0 hk6_a0 rfl ⟨by decide, rfl⟩ 2 (by decide) cw_232 (fun _ h9 => h9) dX1_add_132 (fun hv => ?_)
          obtain ⟨xr23, hxr23, hmxr23, hkxr23⟩ : ∃ a : Nat, tw_fv E16 a0 2 = .ref a ∧ a ∈ L6 ∧ kp6 a = 141 := hv
          rw [hxr23]
          refine lv_iload hx hb dX1_add_135 (lv_at hl 2 rfl) ?_
          refine lv_iload_n hx hb dX1_add_137 rfl (lv_at hl 4 rfl) ?_
          refine tw_iast (k := 141) (n := 12) (lo := (-2147483648)) (hi := 2147483647) hx hb hK TH hS hmxr23 hkxr23 (by decide) rfl (i := zfxc2_0_0) (x := x2) (vp_in_iff.mpr ⟨by  omega, by  omega⟩) (ia_lo _) (ia_hi _) dX1_add_138 (fun H locs E24 TH hS hp25 hp26 hp27 => ?_)
          have hst28 : tw_fr kp6 L6 [] [141] E16 E24 := tw_fr.ast tw_fr.rf (fun _ => hkxr23) hp25 hp26 (by decide)
          have hF := hF.tr hst28 hexb (by decide) (by decide)
          have hmf29 : tw_fv E24 a0 0 = .int zfxc2_0_0 := (hst28.1 a0 0 hm6_a0 (by rw [hk6_a0]; decide)).trans hmf20
          have hmf30 : tw_fv E24 qn5 0 = .int xi12 := (hst28.1 qn5 0 hmqn5 (by rw [hkqn5]; decide)).trans hmf21
          have hmf31 : tw_fv E24 a0 1 = .ref xr15 := (hst28.1 a0 1 hm6_a0 (by rw [hk6_a0]; decide)).trans hmf22
          have hmf32 : tw_fv E24 a0 2 = .ref xr23 := (hst28.1 a0 2 hm6_a0 (by rw [hk6_a0]; decide)).trans hxr23
          refine lv_aload_n hx hb dX1_add_139 rfl (lv_at hl 3 rfl) ?_
          refine tw_get (ci := 1) (C := RX1) (T := TX1) (N := 5) hx hb hB cx_inX1 hown hK TH hm6_a0 hk6_a0 rfl ⟨by decide, rfl⟩ 3 (by decide) cw_234 (fun _ h9 => h9) dX1_add_140 (fun hv => ?_)
          obtain ⟨xr33, hxr33, hmxr33, hkxr33⟩ : ∃ a : Nat, tw_fv E24 a0 3 = .ref a ∧ a ∈ L6 ∧ kp6 a = 141 := hv
          rw [hxr33]
          refine lv_iload hx hb dX1_add_143 (lv_at hl 2 rfl) ?_
          refine lv_iload_n hx hb dX1_add_145 rfl (lv_at hl 5 rfl) ?_
          refine tw_iast (k := 141) (n := 12) (lo := (-2147483648)) (hi := 2147483647) hx hb hK TH hS hmxr33 hkxr33 (by decide) rfl (i := zfxc2_0_0) (x := x3) (vp_in_iff.mpr ⟨by  omega, by  omega⟩) (ia_lo _) (ia_hi _) dX1_add_146 (fun H locs E34 TH hS hp35 hp36 hp37 => ?_)
          have hst38 : tw_fr kp6 L6 [] [141] E24 E34 := tw_fr.ast tw_fr.rf (fun _ => hkxr33) hp35 hp36 (by decide)
          have hF := hF.tr hst38 hexb (by decide) (by decide)
          have hmf39 : tw_fv E34 a0 0 = .int zfxc2_0_0 := (hst38.1 a0 0 hm6_a0 (by rw [hk6_a0]; decide)).trans hmf29
          have hmf40 : tw_fv E34 qn5 0 = .int xi12 := (hst38.1 qn5 0 hmqn5 (by rw [hkqn5]; decide)).trans hmf30
          have hmf41 : tw_fv E34 a0 1 = .ref xr15 := (hst38.1 a0 1 hm6_a0 (by rw [hk6_a0]; decide)).trans hmf31
          have hmf42 : tw_fv E34 a0 2 = .ref xr23 := (hst38.1 a0 2 hm6_a0 (by rw [hk6_a0]; decide)).trans hmf32
          have hmf43 : tw_fv E34 a0 3 = .ref xr33 := (hst38.1 a0 3 hm6_a0 (by rw [hk6_a0]; decide)).trans hxr33
          refine lv_aload_n hx hb dX1_add_147 rfl (lv_at hl 3 rfl) ?_
          refine tw_get (ci := 1) (C := RX1) (T := TX1) (N := 5) hx hb hB cx_inX1 hown hK TH hm6_a0 hk6_a0 rfl ⟨by decide, rfl⟩ 4 (by decide) cw_236 (fun _ h9 => h9) dX1_add_148 (fun hv => ?_)
          obtain ⟨xr44, hxr44, hmxr44, hkxr44⟩ : ∃ a : Nat, tw_fv E34 a0 4 = .ref a ∧ a ∈ L6 ∧ kp6 a = 142 := hv
          rw [hxr44]
          refine lv_iload hx hb dX1_add_151 (lv_at hl 2 rfl) ?_
          refine lv_iconst (v := 1) hx hb dX1_add_153 (by decide) ?_
          refine lv_iload hx hb dX1_add_154 (lv_at hl 2 rfl) ?_
          refine lv_ishl hx hb dX1_add_156 ?_
          refine lv_topi (fun zi45 ezi45 => ?_)
          refine lv_aload_n hx hb dX1_add_157 rfl (lv_at hl 3 rfl) ?_
          refine lv_iload_n hx hb dX1_add_158 rfl (lv_at hl 4 rfl) ?_
          refine tw_Vc (o := a0) (ci := 1) (n := 1) (post := (fun v kq Lq Eq => (∃ x : Int32, v = some (.int x)) ∧ kp6 = kq ∧ L6 = Lq ∧ E34 = Eq)) (As := [.int x2]) (rest := [.int zi45, .int zfxc2_0_0, .ref xr44]) ⟨hx, hb, hml, hown, hB⟩ (fun sz => tX1_fromsOf l D cs a0 x2 hm6_a0 hk6_a0 sz) cg_1_59_X1_fromsOf rfl rfl (by decide +kernel) ⟨Nat.le_of_ble_eq_true rfl, Nat.le_of_ble_eq_true rfl⟩ hK hN TH hS hA rfl hm6_a0 hk6_a0 (by decide) rfl hl.1 rfl (Nat.le_of_ble_eq_true rfl) dX1_add_159 ⟨Nat.le_of_ble_eq_true rfl, Nat.le_of_ble_eq_true rfl⟩ (fun v46 kp46 L46 E46 H locs hq46 hx46 TH hS => ?_)
          obtain ⟨⟨xc47, rfl⟩, rfl, rfl, rfl⟩ := hq46
          refine W.eq (g2 := F0 m 162 ls [.int xc47, .int zi45, .int zfxc2_0_0, .ref xr44]) rfl ?_
          refine lv_ior hx hb dX1_add_162 ?_
          refine lv_topi (fun zi48 ezi48 => ?_)
          refine lv_aload_n hx hb dX1_add_163 rfl (lv_at hl 3 rfl) ?_
          refine lv_iload_n hx hb dX1_add_164 rfl (lv_at hl 5 rfl) ?_
          refine tw_Vc (o := a0) (ci := 1) (n := 1) (post := (fun v kq Lq Eq => (∃ x : Int32, v = some (.int x)) ∧ kp6 = kq ∧ L6 = Lq ∧ E34 = Eq)) (As := [.int x3]) (rest := [.int zi48, .int zfxc2_0_0, .ref xr44]) ⟨hx, hb, hml, hown, hB⟩ (fun sz => tX1_fromsOf l D cs a0 x3 hm6_a0 hk6_a0 sz) cg_1_59_X1_fromsOf rfl rfl (by decide +kernel) ⟨Nat.le_of_ble_eq_true rfl, Nat.le_of_ble_eq_true rfl⟩ hK hN TH hS hA rfl hm6_a0 hk6_a0 (by decide) rfl hl.1 rfl (Nat.le_of_ble_eq_true rfl) dX1_add_165 ⟨Nat.le_of_ble_eq_true rfl, Nat.le_of_ble_eq_true rfl⟩ (fun v49 kp49 L49 E49 H locs hq49 hx49 TH hS => ?_)
          obtain ⟨⟨xc50, rfl⟩, rfl, rfl, rfl⟩ := hq49
          refine W.eq (g2 := F0 m 168 ls [.int xc50, .int zi48, .int zfxc2_0_0, .ref xr44]) rfl ?_
          refine lv_ior hx hb dX1_add_168 ?_
          refine lv_topi (fun zi51 ezi51 => ?_)
          refine tw_iast (k := 142) (n := 12) (lo := (-2147483648)) (hi := 2147483647) hx hb hK TH hS hmxr44 hkxr44 (by decide) rfl (i := zfxc2_0_0) (x := zi51) (vp_in_iff.mpr ⟨by  omega, by  omega⟩) (ia_lo _) (ia_hi _) dX1_add_169 (fun H locs E52 TH hS hp53 hp54 hp55 => ?_)
          have hst56 : tw_fr kp6 L6 [] [142] E34 E52 := tw_fr.ast tw_fr.rf (fun _ => hkxr44) hp53 hp54 (by decide)
          have hF := hF.tr hst56 hexb (by decide) (by decide)
          have hmf57 : tw_fv E52 a0 0 = .int zfxc2_0_0 := (hst56.1 a0 0 hm6_a0 (by rw [hk6_a0]; decide)).trans hmf39
          have hmf58 : tw_fv E52 qn5 0 = .int xi12 := (hst56.1 qn5 0 hmqn5 (by rw [hkqn5]; decide)).trans hmf40
          have hmf59 : tw_fv E52 a0 1 = .ref xr15 := (hst56.1 a0 1 hm6_a0 (by rw [hk6_a0]; decide)).trans hmf41
          have hmf60 : tw_fv E52 a0 2 = .ref xr23 := (hst56.1 a0 2 hm6_a0 (by rw [hk6_a0]; decide)).trans hmf42
          have hmf61 : tw_fv E52 a0 3 = .ref xr33 := (hst56.1 a0 3 hm6_a0 (by rw [hk6_a0]; decide)).trans hmf43
          have hmf62 : tw_fv E52 a0 4 = .ref xr44 := (hst56.1 a0 4 hm6_a0 (by rw [hk6_a0]; decide)).trans hxr44
          refine lv_aload_n hx hb dX1_add_170 rfl (lv_at hl 3 rfl) ?_
          refine lv_dup hx hb dX1_add_171 rfl ?_
          refine tw_get (ci := 1) (C := RX1) (T := TX1) (N := 5) hx hb hB cx_inX1 hown hK TH hm6_a0 hk6_a0 rfl ⟨by decide, rfl⟩ 0 (by decide) cw_229 (fun _ h9 => h9) dX1_add_172 (fun hv => ?_)
          rw [hmf57]
          refine lv_iconst (v := 1) hx hb dX1_add_175 (by decide) ?_
          refine lv_iadd hx hb dX1_add_176 ?_
          refine lv_topi (fun zi63 ezi63 => ?_)
          have hzi63 : zi63.toInt = zfxc2_0_0.toInt + 1 := by rw [ezi63]; have : ((1 : Int32).toInt) = 1 := (by decide); have := ia_lo zfxc2_0_0; have := ia_hi zfxc2_0_0; exact (ia_add (by omega) (by omega)).trans (by omega)
          refine tw_put (ci := 1) (v := .int zi63) (ty := .int) (C := RX1) (T := TX1) (N := 5) hx hb hB cx_inX1 tyX1 tyX1_ok nmX1 hown hK TH hS hm6_a0 hk6_a0 rfl ⟨by decide, rfl⟩ 0 (by decide) cw_229 (fun _ h9 => h9) rfl (by decide +kernel) rfl rfl ⟨_, rfl, (show 0 ≤ Int32.toInt zi63 from by  omega), (show Int32.toInt zi63 ≤ 12 from by  omega)⟩ dX1_add_177 (fun H locs E64 TH hS hmf68 hp65 hp66 => ?_)
          have hst67 : tw_fr kp6 L6 [(1, 0)] [] E52 E64 := tw_fr.put tw_fr.rf (fun _ => hk6_a0) (by decide) hp65 hp66 (by decide)
          have hF := hF.tr hst67 hexb (by decide) (by decide)
          have hmf69 : tw_fv E64 qn5 0 = .int xi12 := (hst67.1 qn5 0 hmqn5 (by rw [hkqn5]; decide)).trans hmf58
          have hmf70 : tw_fv E64 a0 1 = .ref xr15 := (hst67.1 a0 1 hm6_a0 (by rw [hk6_a0]; decide)).trans hmf59
          have hmf71 : tw_fv E64 a0 2 = .ref xr23 := (hst67.1 a0 2 hm6_a0 (by rw [hk6_a0]; decide)).trans hmf60
          have hmf72 : tw_fv E64 a0 3 = .ref xr33 := (hst67.1 a0 3 hm6_a0 (by rw [hk6_a0]; decide)).trans hmf61
          have hmf73 : tw_fv E64 a0 4 = .ref xr44 := (hst67.1 a0 4 hm6_a0 (by rw [hk6_a0]; decide)).trans hmf62
          refine lv_iload hx hb dX1_add_180 (lv_at hl 2 rfl) ?_
          exact tw_iret hx hb hr hlocks TH hS hex ⟨⟨_, rfl, (show (-1) ≤ Int32.toInt zfxc2_0_0 from by  omega), (show Int32.toInt zfxc2_0_0 ≤ 11 from by  omega)⟩, hF⟩ (Nat.le_of_ble_eq_true rfl) (Nat.le_of_ble_eq_true rfl) dX1_add_182
        · have hf74 : ¬ (xi12.toInt ≤ y33_6.toInt) := fun q => hc13 ((fa_le _ _).mpr (by  omega))
          refine lv_aload_n hx hb dX1_add_43 rfl (lv_at hl 3 rfl) ?_
          refine lv_iload_n hx hb dX1_add_44 rfl (lv_at hl 4 rfl) ?_
          refine lv_aload hx hb dX1_add_45 (lv_at hl 1 rfl) ?_
          refine tw_get (ci := 10) (C := RX10) (T := TX10) (N := 8) hx hb hB cx_inX10 hown hK TH hmqn5 hkqn5 rfl ⟨by decide, rfl⟩ 1 (by decide) cw_124 (fun _ h9 => h9) dX1_add_47 (fun hv => ?_)
          obtain ⟨xr75, hxr75, hmxr75, hkxr75⟩ : ∃ a : Nat, tw_fv Eg33 qn5 1 = .ref a ∧ a ∈ L6 ∧ kp6 a = 110 := hv
          rw [hxr75]
          refine lv_iload hx hb dX1_add_50 (lv_at hl 0 rfl) ?_
          refine tw_iald (k := 110) (t0 := 0) (n := 40) (lo := (-1)) (hi := 149) hx hb hK TH hmxr75 hkxr75 (by decide) rfl rfl (i := y33_6) (vp_in_iff.mpr ⟨by  omega, by  omega⟩) dX1_add_52 (fun hxe76a hxe76b => ?_)
          obtain ⟨xe76, exe76⟩ : ∃ z : Int32, tw_iv Eg33 xr75 (Int32.toNatClampNeg y33_6) = z := ⟨_, rfl⟩
          rw [exe76] at hxe76a hxe76b ⊢
          refine lv_aload hx hb dX1_add_53 (lv_at hl 1 rfl) ?_
          refine tw_get (ci := 10) (C := RX10) (T := TX10) (N := 8) hx hb hB cx_inX10 hown hK TH hmqn5 hkqn5 rfl ⟨by decide, rfl⟩ 6 (by decide) cw_146 (fun _ h9 => h9) dX1_add_55 (fun hv => ?_)
          obtain ⟨xr77, hxr77, hmxr77, hkxr77⟩ : ∃ a : Nat, tw_fv Eg33 qn5 6 = .ref a ∧ a ∈ L6 ∧ kp6 a = 102 := hv
          rw [hxr77]
          refine lv_iload hx hb dX1_add_58 (lv_at hl 0 rfl) ?_
          refine tw_lald (k := 102) (n := 40) (lo := 0) (hi := 0) hx hb hK TH hmxr77 hkxr77 (by decide) rfl (i := y33_6) (vp_in_iff.mpr ⟨by  omega, by  omega⟩) dX1_add_60 (fun xl78 => ?_)
          refine tw_Vc (o := a0) (ci := 1) (n := 3) (post := (fun v kq Lq Eq => (∃ x : Int32, v = some (.int x) ∧ (-1) ≤ x.toInt ∧ x.toInt ≤ 11) ∧ kp6 = kq ∧ L6 = Lq ∧ Eg33 = Eq)) (As := [.int x2, .int xe76, .long xl78]) (rest := []) ⟨hx, hb, hml, hown, hB⟩ (fun sz => tX1_writerIn l D cs a0 x2 xe76 xl78 hm6_a0 hk6_a0 sz) cg_1_52_X1_writerIn rfl rfl (by decide +kernel) ⟨Nat.le_of_ble_eq_true rfl, Nat.le_of_ble_eq_true rfl⟩ hK hN TH hS hA rfl hm6_a0 hk6_a0 (by decide) rfl hl.1 rfl (Nat.le_of_ble_eq_true rfl) dX1_add_61 ⟨Nat.le_of_ble_eq_true rfl, Nat.le_of_ble_eq_true rfl⟩ (fun v79 kp79 L79 E79 H locs hq79 hx79 TH hS => ?_)
          obtain ⟨⟨xc80, rfl, hxc80a, hxc80b⟩, rfl, rfl, rfl⟩ := hq79
          refine W.eq (g2 := F0 m 64 ls [.int xc80]) rfl ?_
          refine lv_istore (lv' := [(7, .int xc80), (6, .int y33_6), (5, .ref qn5), (4, .int zfxc2_0_0), (0, .ref a0), (2, .int x2), (3, .int x3)]) hx hb dX1_add_64 hl (by decide) rfl (fun ls hl => ?_)
          refine lv_iload hx hb dX1_add_66 (lv_at hl 0 rfl) ?_
          refine lv_iconst (v := (-1)) hx hb dX1_add_68 (by decide) ?_
          have hJ95 : ∀ (y95_7 : Int32) (H : Heap) (locs : List Loc) (ls : Array Slot), (-1) ≤ y95_7.toInt → y95_7.toInt ≤ 11 → tw_H D cs kp6 L6 Eg33 A H → va_S A s.heap H locs → lv_has ls 8 [(7, .int y95_7), (6, .int y33_6), (5, .ref qn5), (4, .int zfxc2_0_0), (0, .ref a0), (2, .int x2), (3, .int x3)] → W p l e { frames := 3, cells := 8, slots := 288, locals := 68 } s m [.ref a0, .ref a1, .int x2, .int x3].toArray below meth c H locs 8 288 (MQ below (tw_Q D cs kp0 L0 (fun v kq Lq Eq => (∃ x : Int32, v = some (.int x) ∧ (-1) ≤ x.toInt ∧ x.toInt ≤ 11) ∧ tw_fr kp L [(1, 0), (10, 0)] [102, 110, 111, 112, 113, 114, 115, 140, 141, 142] E Eq) A) [.ref a0, .ref a1, .int x2, .int x3].toArray s 8 288 A) (F0 m 95 ls []) := by
            intro y95_7 H locs ls hy95_7a hy95_7b TH hS hl
            refine lv_aload hx hb dX1_add_95 (lv_at hl 2 rfl) ?_
            refine tw_get (ci := 10) (C := RX10) (T := TX10) (N := 8) hx hb hB cx_inX10 hown hK TH hmqn5 hkqn5 rfl ⟨by decide, rfl⟩ 7 (by decide) cw_151 (fun _ h9 => h9) dX1_add_97 (fun hv => ?_)
            obtain ⟨xr81, hxr81, hmxr81, hkxr81⟩ : ∃ a : Nat, tw_fv Eg33 qn5 7 = .ref a ∧ a ∈ L6 ∧ kp6 a = 115 := hv
            rw [hxr81]
            refine lv_iload hx hb dX1_add_100 (lv_at hl 1 rfl) ?_
            refine lv_iload hx hb dX1_add_102 (lv_at hl 0 rfl) ?_
            refine lv_iconst (v := (-1)) hx hb dX1_add_104 (by decide) ?_
            have hJ115 : ∀ (z115_0 : Int32) (H : Heap) (locs : List Loc) (ls : Array Slot), 0 ≤ z115_0.toInt → z115_0.toInt ≤ 12 → (z115_0.toInt ≤ 11) → tw_H D cs kp6 L6 Eg33 A H → va_S A s.heap H locs → lv_has ls 8 [(6, .int y33_6), (5, .ref qn5), (4, .int zfxc2_0_0), (0, .ref a0), (2, .int x2), (3, .int x3)] → W p l e { frames := 3, cells := 8, slots := 288, locals := 68 } s m [.ref a0, .ref a1, .int x2, .int x3].toArray below meth c H locs 8 288 (MQ below (tw_Q D cs kp0 L0 (fun v kq Lq Eq => (∃ x : Int32, v = some (.int x) ∧ (-1) ≤ x.toInt ∧ x.toInt ≤ 11) ∧ tw_fr kp L [(1, 0), (10, 0)] [102, 110, 111, 112, 113, 114, 115, 140, 141, 142] E Eq) A) [.ref a0, .ref a1, .int x2, .int x3].toArray s 8 288 A) (F0 m 115 ls [.int z115_0, .int y33_6, .ref xr81]) := by
              intro z115_0 H locs ls hz115_0a hz115_0b hin115_0 TH hS hl
              refine tw_iast (k := 115) (n := 40) (lo := (-1)) (hi := 11) hx hb hK TH hS hmxr81 hkxr81 (by decide) rfl (i := y33_6) (x := z115_0) (vp_in_iff.mpr ⟨by  omega, by  omega⟩) (by omega) (by omega) dX1_add_115 (fun H locs E82 TH hS hp83 hp84 hp85 => ?_)
              have hst86 : tw_fr kp6 L6 [] [115] Eg33 E82 := tw_fr.ast tw_fr.rf (fun _ => hkxr81) hp83 hp84 (by decide)
              have hF := hF.tr hst86 hexb (by decide) (by decide)
              have hG33 := hG33.tr hst86 (fun _ h => ⟨h, rfl⟩) (by decide) (by decide)
              have hmf87 : tw_fv E82 a0 0 = .int zfxc2_0_0 := (hst86.1 a0 0 hm6_a0 (by rw [hk6_a0]; decide)).trans hmf11
              have hmf88 : tw_fv E82 qn5 0 = .int xi12 := (hst86.1 qn5 0 hmqn5 (by rw [hkqn5]; decide)).trans hxi12
              have hmf89 : tw_fv E82 qn5 1 = .ref xr75 := (hst86.1 qn5 1 hmqn5 (by rw [hkqn5]; decide)).trans hxr75
              have hmf90 : tw_fv E82 qn5 6 = .ref xr77 := (hst86.1 qn5 6 hmqn5 (by rw [hkqn5]; decide)).trans hxr77
              have hmf91 : tw_fv E82 qn5 7 = .ref xr81 := (hst86.1 qn5 7 hmqn5 (by rw [hkqn5]; decide)).trans hxr81
              obtain ⟨zi92, ezi92⟩ : ∃ z : Int32, z = y33_6 + Int32.ofInt 1 := ⟨_, rfl⟩
              have hzi92 : zi92.toInt = y33_6.toInt + 1 := by rw [ezi92]; have : ((Int32.ofInt 1).toInt) = 1 := (by decide);  exact (ia_add (by omega) (by omega)).trans (by omega)
              refine lv_iinc (v := zi92) (lv' := [(6, .int zi92), (5, .ref qn5), (4, .int zfxc2_0_0), (0, .ref a0), (2, .int x2), (3, .int x3)]) hx hb dX1_add_116 hl (k := 0) rfl ezi92.symm (by decide) rfl (fun ls hl => ?_)
              refine lv_goto (tgt := 33) hx hb dX1_add_119 (by decide) ?_
              exact ih33 (n33 - 1) (by   omega) zi92 _ _ _ ls (by omega) (by omega) (by   omega) hG33 TH hS (lv_sub hl [0, 1, 2, 3, 4, 5] rfl)
            refine lv_icmp_ne (tgt := 113) hx hb dX1_add_105 (by decide) (fun hc93 => ?_) (fun hc93 => ?_)
            · have hf94 : ¬ (y95_7.toInt = (-1)) := fun q => hc93 ((fa_eq _ _).mpr (by have : (((-1) : Int32).toInt) = (-1) := (by decide); omega))
              refine lv_iload hx hb dX1_add_113 (lv_at hl 0 rfl) ?_
              exact hJ115 y95_7 _ _ ls (by omega) (by omega) (by  omega) TH hS (lv_sub hl [1, 2, 3, 4, 5, 6] rfl)
            · have hf95 : y95_7.toInt = (-1) := by have z := (fa_eq _ _).mp hc93; have : (((-1) : Int32).toInt) = (-1) := (by decide); omega
              refine lv_iload hx hb dX1_add_108 (lv_at hl 3 rfl) ?_
              refine lv_goto (tgt := 115) hx hb dX1_add_110 (by decide) ?_
              exact hJ115 zfxc2_0_0 _ _ ls (by omega) (by omega) (by  omega) TH hS (lv_sub hl [1, 2, 3, 4, 5, 6] rfl)
          refine lv_icmp_ne (tgt := 95) hx hb dX1_add_69 (by decide) (fun hc96 => ?_) (fun hc96 => ?_)
          · have hf97 : ¬ (xc80.toInt = (-1)) := fun q => hc96 ((fa_eq _ _).mpr (by have : (((-1) : Int32).toInt) = (-1) := (by decide); omega))
            exact hJ95 xc80 _ _ ls (by omega) (by omega) TH hS (lv_sub hl [0, 1, 2, 3, 4, 5, 6] rfl)
          · have hf98 : xc80.toInt = (-1) := by have z := (fa_eq _ _).mp hc96; have : (((-1) : Int32).toInt) = (-1) := (by decide); omega
            refine lv_aload_n hx hb dX1_add_72 rfl (lv_at hl 4 rfl) ?_
            refine lv_iload_n hx hb dX1_add_73 rfl (lv_at hl 6 rfl) ?_
            refine lv_aload hx hb dX1_add_74 (lv_at hl 2 rfl) ?_
            refine tw_get (ci := 10) (C := RX10) (T := TX10) (N := 8) hx hb hB cx_inX10 hown hK TH hmqn5 hkqn5 rfl ⟨by decide, rfl⟩ 1 (by decide) cw_124 (fun _ h9 => h9) dX1_add_76 (fun hv => ?_)
            rw [hxr75]
            refine lv_iload hx hb dX1_add_79 (lv_at hl 1 rfl) ?_
            refine tw_iald (k := 110) (t0 := 0) (n := 40) (lo := (-1)) (hi := 149) hx hb hK TH hmxr75 hkxr75 (by decide) rfl rfl (i := y33_6) (vp_in_iff.mpr ⟨by  omega, by  omega⟩) dX1_add_81 (fun hxe99a hxe99b => ?_)
            rw [exe76]
            refine lv_aload hx hb dX1_add_82 (lv_at hl 2 rfl) ?_
            refine tw_get (ci := 10) (C := RX10) (T := TX10) (N := 8) hx hb hB cx_inX10 hown hK TH hmqn5 hkqn5 rfl ⟨by decide, rfl⟩ 6 (by decide) cw_146 (fun _ h9 => h9) dX1_add_84 (fun hv => ?_)
            rw [hxr77]
            refine lv_iload hx hb dX1_add_87 (lv_at hl 1 rfl) ?_
            refine tw_lald (k := 102) (n := 40) (lo := 0) (hi := 0) hx hb hK TH hmxr77 hkxr77 (by decide) rfl (i := y33_6) (vp_in_iff.mpr ⟨by  omega, by  omega⟩) dX1_add_89 (fun xl100 => ?_)
            refine tw_Vc (o := a0) (ci := 1) (n := 3) (post := (fun v kq Lq Eq => (∃ x : Int32, v = some (.int x) ∧ (-1) ≤ x.toInt ∧ x.toInt ≤ 11) ∧ kp6 = kq ∧ L6 = Lq ∧ Eg33 = Eq)) (As := [.int x3, .int xe76, .long xl100]) (rest := []) ⟨hx, hb, hml, hown, hB⟩ (fun sz => tX1_writerIn l D cs a0 x3 xe76 xl100 hm6_a0 hk6_a0 sz) cg_1_52_X1_writerIn rfl rfl (by decide +kernel) ⟨Nat.le_of_ble_eq_true rfl, Nat.le_of_ble_eq_true rfl⟩ hK hN TH hS hA rfl hm6_a0 hk6_a0 (by decide) rfl hl.1 rfl (Nat.le_of_ble_eq_true rfl) dX1_add_90 ⟨Nat.le_of_ble_eq_true rfl, Nat.le_of_ble_eq_true rfl⟩ (fun v101 kp101 L101 E101 H locs hq101 hx101 TH hS => ?_)
            obtain ⟨⟨xc102, rfl, hxc102a, hxc102b⟩, rfl, rfl, rfl⟩ := hq101
            refine W.eq (g2 := F0 m 93 ls [.int xc102]) rfl ?_
            refine lv_istore (lv' := [(7, .int xc102), (6, .int y33_6), (5, .ref qn5), (4, .int zfxc2_0_0), (0, .ref a0), (2, .int x2), (3, .int x3)]) hx hb dX1_add_93 hl (by decide) rfl (fun ls hl => ?_)
            exact hJ95 xc102 _ _ ls (by omega) (by omega) TH hS (lv_sub hl [0, 1, 2, 3, 4, 5, 6] rfl)
    exact hJ33 41 (0 : Int32) _ _ _ ls (by have : ((0 : Int32).toInt) = 0 := (by decide); omega) (by have : ((0 : Int32).toInt) = 0 := (by decide); omega) (by have : ((0 : Int32).toInt) = 0 := (by decide);  omega) tw_fr.rf TH hS (lv_sub hl [0, 1, 2, 3, 5, 6] rfl)
  · have hf103 : ¬ (xc2.toInt = 0) := fun q => hc3 ((fa_eq _ _).mpr (by have : ((0 : Int32).toInt) = 0 := (by decide); omega))
    refine lv_iconst (v := (-1)) hx hb dX1_add_7 (by decide) ?_
    exact tw_iret hx hb hr hlocks TH hS hex ⟨⟨_, rfl, (show (-1) ≤ Int32.toInt (-1) from by have : (((-1) : Int32).toInt) = (-1) := (by decide); omega), (show Int32.toInt (-1) ≤ 11 from by have : (((-1) : Int32).toInt) = (-1) := (by decide); omega)⟩, hF⟩ (Nat.le_of_ble_eq_true rfl) (Nat.le_of_ble_eq_true rfl) dX1_add_8
set_option maxHeartbeats 4000000 in
set_option maxRecDepth 100000 in
theorem tX11_comeOfText (l : Launch) (D : va_G) (cs : Nat → ClassId) {kp : Nat → Nat} {L : List Nat} {E : Nat → va_E} (a0 : Nat) (x1 : Int32) (hm0 : a0 ∈ L) (hk0 : kp a0 = 11) (hg0 : gz_ok E a0) (hg1 : ss_ok E a0) (sz : Nat) : Met l yX11_comeOfText (.code yX11_comeOfText cX11_comeOfText 5 (some .int) :: cx_big) { frames := 4, cells := 8, slots := 288, locals := 95 } (tw_P D cs kp L E [.ref a0, .int x1] sz) (tw_Q D cs kp L (fun v kq Lq Eq => (∃ x : Int32, v = some (.int x) ∧ (-1) ≤ x.toInt ∧ x.toInt ≤ 11 ∧ gz_ok Eq a0 ∧ ss_ok Eq a0) ∧ tw_fr kp L [(1, 0), (9, 1), (10, 0), (11, 15)] [102, 110, 111, 112, 113, 114, 115, 140, 141, 142, 180] E Eq) (va_A (va_pl L E) sz)) 8 288 (va_A (va_pl L E) sz) := by
  refine tw_ofW (by decide) (Nat.le_of_ble_eq_true rfl) ?_
  intro p e s m below meth c A ls hx hb hr hml hB hown hlocks hK hN hA TH hS hl
  have hown : s.vm.findClass "TreeMerge" = some m.cls := hown
  have hl : lv_has ls 5 [(0, .ref a0), (1, .int x1)] := hl
  obtain ⟨kp0, ekp⟩ : ∃ z, z = kp := ⟨_, rfl⟩
  obtain ⟨L0, eL⟩ : ∃ z, z = L := ⟨_, rfl⟩
  rw [show tw_Q D cs kp L = tw_Q D cs kp0 L0 by rw [ekp, eL]]
  have hex : ∀ a : Nat, a ∈ L0 → a ∈ L ∧ kp a = kp0 a := fun a h => ⟨by rw [← eL]; exact h, by rw [ekp]⟩
  have hF : tw_fr kp L [(1, 0), (9, 1), (10, 0), (11, 15)] [102, 110, 111, 112, 113, 114, 115, 140, 141, 142, 180] E E := tw_fr.rf
  have hexb : ∀ a : Nat, a ∈ L → a ∈ L ∧ kp a = kp a := fun a h => ⟨h, rfl⟩
  refine lv_aload_n hx hb dX11_comeOfText_0 rfl (lv_at hl 0 rfl) ?_
  refine tw_get (ci := 11) (C := RX11) (T := TX11) (N := 19) hx hb hB cx_inX11 hown hK TH hm0 hk0 rfl ⟨by decide, rfl⟩ 15 (by decide) cw_398 (fun _ h9 => h9) dX11_comeOfText_1 (fun hv => ?_)
  obtain ⟨xi1, hxi1, hxi1a, hxi1b⟩ : ∃ x : Int32, tw_fv E a0 15 = .int x ∧ 0 ≤ x.toInt ∧ x.toInt ≤ 150 := hv
  rw [hxi1]
  refine lv_aload_n hx hb dX11_comeOfText_4 rfl (lv_at hl 0 rfl) ?_
  refine tw_get (ci := 11) (C := RX11) (T := TX11) (N := 19) hx hb hB cx_inX11 hown hK TH hm0 hk0 rfl ⟨by decide, rfl⟩ 4 (by decide) cw_387 (fun _ h9 => h9) dX11_comeOfText_5 (fun hv => ?_)
  obtain ⟨xr2, hxr2, hmxr2, hkxr2⟩ : ∃ a : Nat, tw_fv E a0 4 = .ref a ∧ a ∈ L ∧ kp a = 10 := hv
  rw [hxr2]
  refine tw_get (ci := 10) (C := RX10) (T := TX10) (N := 8) hx hb hB cx_inX10 hown hK TH hmxr2 hkxr2 rfl ⟨by decide, rfl⟩ 0 (by decide) cw_121 (fun _ h9 => h9) dX11_comeOfText_8 (fun hv => ?_)
  obtain ⟨xi3, hxi3, hxi3a, hxi3b⟩ : ∃ x : Int32, tw_fv E xr2 0 = .int x ∧ 0 ≤ x.toInt ∧ x.toInt ≤ 40 := hv
  rw [hxi3]
  refine lv_iadd hx hb dX11_comeOfText_11 ?_
  refine lv_topi (fun zi4 ezi4 => ?_)
  have hzi4 : zi4.toInt = xi1.toInt + xi3.toInt := by rw [ezi4];  have := ia_lo xi1; have := ia_hi xi1; have := ia_lo xi3; have := ia_hi xi3; exact (ia_add (by omega) (by omega)).trans (by omega)
  refine lv_aload_n hx hb dX11_comeOfText_12 rfl (lv_at hl 0 rfl) ?_
  refine tw_get (ci := 11) (C := RX11) (T := TX11) (N := 19) hx hb hB cx_inX11 hown hK TH hm0 hk0 rfl ⟨by decide, rfl⟩ 6 (by decide) cw_389 (fun _ h9 => h9) dX11_comeOfText_13 (fun hv => ?_)
  obtain ⟨xr5, hxr5, hmxr5, hkxr5⟩ : ∃ a : Nat, tw_fv E a0 6 = .ref a ∧ a ∈ L ∧ kp a = 4 := hv
  rw [hxr5]
  refine tw_Vc (o := xr5) (ci := 4) (n := 0) (post := (fun v kq Lq Eq => (∃ x : Int32, v = some (.int x)) ∧ kp = kq ∧ L = Lq ∧ E = Eq)) (As := []) (rest := [.int zi4]) ⟨hx, hb, hml, hown, hB⟩ (fun sz => tX4_pairs l D cs xr5 hmxr5 hkxr5 sz) cg_11_184_X4_pairs rfl rfl (by decide +kernel) ⟨Nat.le_of_ble_eq_true rfl, Nat.le_of_ble_eq_true rfl⟩ hK hN TH hS hA rfl hmxr5 hkxr5 (by decide) rfl hl.1 rfl (Nat.le_of_ble_eq_true rfl) dX11_comeOfText_16 ⟨Nat.le_of_ble_eq_true rfl, Nat.le_of_ble_eq_true rfl⟩ (fun v6 kp6 L6 E6 H locs hq6 hx6 TH hS => ?_)
  obtain ⟨⟨xc7, rfl⟩, rfl, rfl, rfl⟩ := hq6
  refine W.eq (g2 := F0 m 19 ls [.int xc7, .int zi4]) rfl ?_
  refine lv_isub hx hb dX11_comeOfText_19 ?_
  refine lv_topi (fun zi8 ezi8 => ?_)
  refine lv_sipush (v := 150) hx hb dX11_comeOfText_20 (by decide) ?_
  refine lv_icmp_le (tgt := 28) hx hb dX11_comeOfText_23 (by decide) (fun hc9 => ?_) (fun hc9 => ?_)
  · have hf10 : zi8.toInt ≤ 150 := by have z := (fa_le _ _).mp hc9; have : ((150 : Int32).toInt) = 150 := (by decide); omega
    refine lv_aload_n hx hb dX11_comeOfText_28 rfl (lv_at hl 0 rfl) ?_
    refine tw_get (ci := 11) (C := RX11) (T := TX11) (N := 19) hx hb hB cx_inX11 hown hK TH hm0 hk0 rfl ⟨by decide, rfl⟩ 7 (by decide) cw_390 (fun _ h9 => h9) dX11_comeOfText_29 (fun hv => ?_)
    obtain ⟨xr11, hxr11, hmxr11, hkxr11⟩ : ∃ a : Nat, tw_fv E a0 7 = .ref a ∧ a ∈ L ∧ kp a = 1 := hv
    rw [hxr11]
    refine tw_get (ci := 1) (C := RX1) (T := TX1) (N := 5) hx hb hB cx_inX1 hown hK TH hmxr11 hkxr11 rfl ⟨by decide, rfl⟩ 0 (by decide) cw_230 (fun _ h9 => h9) dX11_comeOfText_32 (fun hv => ?_)
    obtain ⟨xi12, hxi12, hxi12a, hxi12b⟩ : ∃ x : Int32, tw_fv E xr11 0 = .int x ∧ 0 ≤ x.toInt ∧ x.toInt ≤ 12 := hv
    rw [hxi12]
    refine lv_istore_n (lv' := [(2, .int xi12), (0, .ref a0), (1, .int x1)]) hx hb dX11_comeOfText_35 rfl hl (by decide) rfl (fun ls hl => ?_)
    refine lv_aload_n hx hb dX11_comeOfText_36 rfl (lv_at hl 1 rfl) ?_
    refine tw_get (ci := 11) (C := RX11) (T := TX11) (N := 19) hx hb hB cx_inX11 hown hK TH hm0 hk0 rfl ⟨by decide, rfl⟩ 12 (by decide) cw_395 (fun _ h9 => h9) dX11_comeOfText_37 (fun hv => ?_)
    obtain ⟨xr13, hxr13, hmxr13, hkxr13⟩ : ∃ a : Nat, tw_fv E a0 12 = .ref a ∧ a ∈ L ∧ kp a = 10 := hv
    rw [hxr13]
    refine lv_aload_n hx hb dX11_comeOfText_40 rfl (lv_at hl 1 rfl) ?_
    refine tw_get (ci := 11) (C := RX11) (T := TX11) (N := 19) hx hb hB cx_inX11 hown hK TH hm0 hk0 rfl ⟨by decide, rfl⟩ 4 (by decide) cw_387 (fun _ h9 => h9) dX11_comeOfText_41 (fun hv => ?_)
    rw [hxr2]
    refine tw_Vc (o := xr13) (ci := 10) (n := 1) (post := (fun v kq Lq Eq => v = none ∧ kp = kq ∧ L = Lq ∧ tw_fr kp L [(10, 0)] [102, 110, 111, 112, 113, 114, 115] E Eq)) (As := [.ref xr2]) (rest := []) ⟨hx, hb, hml, hown, hB⟩ (fun sz => tX10_copy l D cs xr13 xr2 hmxr13 hkxr13 hmxr2 hkxr2 sz) cg_11_188_X10_copy rfl rfl (by decide +kernel) ⟨Nat.le_of_ble_eq_true rfl, Nat.le_of_ble_eq_true rfl⟩ hK hN TH hS hA rfl hmxr13 hkxr13 (by decide) rfl hl.1 rfl (Nat.le_of_ble_eq_true rfl) dX11_comeOfText_44 ⟨Nat.le_of_ble_eq_true rfl, Nat.le_of_ble_eq_true rfl⟩ (fun v14 kp14 L14 E14 H locs hq14 hx14 TH hS => ?_)
    obtain ⟨rfl, rfl, rfl, hst14⟩ := hq14
    have hF := hF.tr hst14 (fun _ h => ⟨h, rfl⟩) (by decide) (by decide)
    have hmf16 : tw_fv E14 a0 15 = .int xi1 := (hst14.1 a0 15 hm0 (by rw [hk0]; decide)).trans hxi1
    have hmf17 : tw_fv E14 a0 4 = .ref xr2 := (hst14.1 a0 4 hm0 (by rw [hk0]; decide)).trans hxr2
    have hmf18 : tw_fv E14 a0 6 = .ref xr5 := (hst14.1 a0 6 hm0 (by rw [hk0]; decide)).trans hxr5
    have hmf19 : tw_fv E14 a0 7 = .ref xr11 := (hst14.1 a0 7 hm0 (by rw [hk0]; decide)).trans hxr11
    have hmf20 : tw_fv E14 xr11 0 = .int xi12 := (hst14.1 xr11 0 hmxr11 (by rw [hkxr11]; decide)).trans hxi12
    have hmf21 : tw_fv E14 a0 12 = .ref xr13 := (hst14.1 a0 12 hm0 (by rw [hk0]; decide)).trans hxr13
    have hg0 : gz_ok E14 a0 := gz_ok_fr TH hst14 hm0 hk0 (by decide) (by decide) hg0
    have hg1 : ss_ok E14 a0 := ss_ok_fr TH hst14 hm0 hk0 (by decide) (by decide) hg1
    refine W.eq (g2 := F0 m 47 ls []) rfl ?_
    refine lv_iconst (v := 0) hx hb dX11_comeOfText_47 (by decide) ?_
    refine lv_istore_n (lv' := [(3, .int 0), (2, .int xi12), (0, .ref a0), (1, .int x1)]) hx hb dX11_comeOfText_48 rfl hl (by decide) rfl (fun ls hl => ?_)
    have hJ49 : ∀ (n49 : Nat) (y49_3 : Int32) (Eg49 : Nat → va_E) (H : Heap) (locs : List Loc) (ls : Array Slot), 0 ≤ y49_3.toInt → y49_3.toInt ≤ 40 → 40 - y49_3.toInt ≤ (n49 : Int) → tw_fr kp L [(11, 15)] [110, 111, 180] E14 Eg49 → gz_ok Eg49 a0 → ss_ok Eg49 a0 → tw_H D cs kp L Eg49 A H → va_S A s.heap H locs → lv_has ls 5 [(3, .int y49_3), (2, .int xi12), (0, .ref a0), (1, .int x1)] → W p l e { frames := 4, cells := 8, slots := 288, locals := 95 } s m [.ref a0, .int x1].toArray below meth c H locs 0 0 (MQ below (tw_Q D cs kp0 L0 (fun v kq Lq Eq => (∃ x : Int32, v = some (.int x) ∧ (-1) ≤ x.toInt ∧ x.toInt ≤ 11 ∧ gz_ok Eq a0 ∧ ss_ok Eq a0) ∧ tw_fr kp L [(1, 0), (9, 1), (10, 0), (11, 15)] [102, 110, 111, 112, 113, 114, 115, 140, 141, 142, 180] E Eq) A) [.ref a0, .int x1].toArray s 8 288 A) (F0 m 49 ls []) := by
      intro n49
      induction n49 using Nat.strongRecOn with
      | _ n49 ih49 =>
        intro y49_3 Eg49 H locs ls hy49_3a hy49_3b hmeas49 hG49 hg0 hg1 TH hS hl
        have hF := hF.tr hG49 (fun _ h => ⟨h, rfl⟩) (by decide) (by decide)
        have hmf22 : tw_fv Eg49 a0 4 = .ref xr2 := (hG49.1 a0 4 hm0 (by rw [hk0]; decide)).trans hmf17
        have hmf23 : tw_fv Eg49 a0 6 = .ref xr5 := (hG49.1 a0 6 hm0 (by rw [hk0]; decide)).trans hmf18
        have hmf24 : tw_fv Eg49 a0 7 = .ref xr11 := (hG49.1 a0 7 hm0 (by rw [hk0]; decide)).trans hmf19
        have hmf25 : tw_fv Eg49 xr11 0 = .int xi12 := (hG49.1 xr11 0 hmxr11 (by rw [hkxr11]; decide)).trans hmf20
        have hmf26 : tw_fv Eg49 a0 12 = .ref xr13 := (hG49.1 a0 12 hm0 (by rw [hk0]; decide)).trans hmf21
        refine lv_iload_n hx hb dX11_comeOfText_49 rfl (lv_at hl 0 rfl) ?_
        refine lv_aload_n hx hb dX11_comeOfText_50 rfl (lv_at hl 2 rfl) ?_
        refine tw_get (ci := 11) (C := RX11) (T := TX11) (N := 19) hx hb hB cx_inX11 hown hK TH hm0 hk0 rfl ⟨by decide, rfl⟩ 12 (by decide) cw_395 (fun _ h9 => h9) dX11_comeOfText_51 (fun hv => ?_)
        rw [hmf26]
        refine tw_get (ci := 10) (C := RX10) (T := TX10) (N := 8) hx hb hB cx_inX10 hown hK TH hmxr13 hkxr13 rfl ⟨by decide, rfl⟩ 0 (by decide) cw_121 (fun _ h9 => h9) dX11_comeOfText_54 (fun hv => ?_)
        obtain ⟨xi27, hxi27, hxi27a, hxi27b⟩ : ∃ x : Int32, tw_fv Eg49 xr13 0 = .int x ∧ 0 ≤ x.toInt ∧ x.toInt ≤ 40 := hv
        rw [hxi27]
        refine lv_icmp_ge (tgt := 143) hx hb dX11_comeOfText_57 (by decide) (fun hc28 => ?_) (fun hc28 => ?_)
        · have hf29 : xi27.toInt ≤ y49_3.toInt := by have z := (fa_le _ _).mp hc28;  omega
          refine lv_aload_n hx hb dX11_comeOfText_143 rfl (lv_at hl 2 rfl) ?_
          refine tw_get (ci := 11) (C := RX11) (T := TX11) (N := 19) hx hb hB cx_inX11 hown hK TH hm0 hk0 rfl ⟨by decide, rfl⟩ 0 (by decide) cw_383 (fun _ h9 => h9) dX11_comeOfText_144 (fun hv => ?_)
          obtain ⟨xr30, hxr30, hmxr30, hkxr30⟩ : ∃ a : Nat, tw_fv Eg49 a0 0 = .ref a ∧ a ∈ L ∧ kp a = 9 := hv
          rw [hxr30]
          refine lv_iconst (v := 0) hx hb dX11_comeOfText_147 (by decide) ?_
          refine tw_put (ci := 9) (v := .int 0) (ty := .int) (C := RX9) (T := TX9) (N := 5) hx hb hB cx_inX9 tyX9 tyX9_ok nmX9 hown hK TH hS hmxr30 hkxr30 rfl ⟨by decide, rfl⟩ 1 (by decide) cw_37 (fun _ h9 => h9) rfl (by decide +kernel) rfl rfl ⟨_, rfl, (show 0 ≤ Int32.toInt 0 from by have : ((0 : Int32).toInt) = 0 := (by decide); omega), (show Int32.toInt 0 ≤ 500 from by have : ((0 : Int32).toInt) = 0 := (by decide); omega)⟩ dX11_comeOfText_148 (fun H locs E31 TH hS hmf35 hp32 hp33 => ?_)
          have hst34 : tw_fr kp L [(9, 1)] [] Eg49 E31 := tw_fr.put tw_fr.rf (fun _ => hkxr30) (by decide) hp32 hp33 (by decide)
          have hF := hF.tr hst34 (fun _ h => ⟨h, rfl⟩) (by decide) (by decide)
          have hmf36 : tw_fv E31 a0 4 = .ref xr2 := (hst34.1 a0 4 hm0 (by rw [hk0]; decide)).trans hmf22
          have hmf37 : tw_fv E31 a0 6 = .ref xr5 := (hst34.1 a0 6 hm0 (by rw [hk0]; decide)).trans hmf23
          have hmf38 : tw_fv E31 a0 7 = .ref xr11 := (hst34.1 a0 7 hm0 (by rw [hk0]; decide)).trans hmf24
          have hmf39 : tw_fv E31 xr11 0 = .int xi12 := (hst34.1 xr11 0 hmxr11 (by rw [hkxr11]; decide)).trans hmf25
          have hmf40 : tw_fv E31 a0 12 = .ref xr13 := (hst34.1 a0 12 hm0 (by rw [hk0]; decide)).trans hmf26
          have hmf41 : tw_fv E31 xr13 0 = .int xi27 := (hst34.1 xr13 0 hmxr13 (by rw [hkxr13]; decide)).trans hxi27
          have hmf42 : tw_fv E31 a0 0 = .ref xr30 := (hst34.1 a0 0 hm0 (by rw [hk0]; decide)).trans hxr30
          have hg0 : gz_ok E31 a0 := gz_ok_fr TH hst34 hm0 hk0 (by decide) (by decide) hg0
          have hg1 : ss_ok E31 a0 := ss_ok_fr TH hst34 hm0 hk0 (by decide) (by decide) hg1
          refine lv_aload_n hx hb dX11_comeOfText_151 rfl (lv_at hl 2 rfl) ?_
          refine tw_get (ci := 11) (C := RX11) (T := TX11) (N := 19) hx hb hB cx_inX11 hown hK TH hm0 hk0 rfl ⟨by decide, rfl⟩ 7 (by decide) cw_390 (fun _ h9 => h9) dX11_comeOfText_152 (fun hv => ?_)
          rw [hmf38]
          refine lv_aload_n hx hb dX11_comeOfText_155 rfl (lv_at hl 2 rfl) ?_
          refine tw_get (ci := 11) (C := RX11) (T := TX11) (N := 19) hx hb hB cx_inX11 hown hK TH hm0 hk0 rfl ⟨by decide, rfl⟩ 12 (by decide) cw_395 (fun _ h9 => h9) dX11_comeOfText_156 (fun hv => ?_)
          rw [hmf40]
          refine lv_iload_n hx hb dX11_comeOfText_159 rfl (lv_at hl 3 rfl) ?_
          refine lv_iconst (v := (-1)) hx hb dX11_comeOfText_160 (by decide) ?_
          have hTo := TH.2.2
          refine tw_Vc (o := xr11) (ci := 1) (n := 3) (post := (fun v kq Lq Eq => (∃ x : Int32, v = some (.int x) ∧ (-1) ≤ x.toInt ∧ x.toInt ≤ 11) ∧ tw_fr kp L [(1, 0), (10, 0)] [102, 110, 111, 112, 113, 114, 115, 140, 141, 142] E31 Eq)) (As := [.ref xr13, .int x1, .int (-1)]) (rest := []) ⟨hx, hb, hml, hown, hB⟩ (fun sz => tX1_add l D cs xr11 xr13 x1 ((-1) : Int32) hmxr11 hkxr11 hmxr13 hkxr13 sz) cg_11_204_X1_add rfl rfl (by decide +kernel) ⟨Nat.le_of_ble_eq_true rfl, Nat.le_of_ble_eq_true rfl⟩ hK hN TH hS hA rfl hmxr11 hkxr11 (by decide) rfl hl.1 rfl (Nat.le_of_ble_eq_true rfl) dX11_comeOfText_161 ⟨Nat.le_of_ble_eq_true rfl, Nat.le_of_ble_eq_true rfl⟩ (fun v43 kp43 L43 E43 H locs hq43 hx43 TH hS => ?_)
          obtain ⟨⟨xc44, rfl, hxc44a, hxc44b⟩, hst43⟩ := hq43
          have hF := hF.tr hst43 (fun _ h => ⟨h, rfl⟩) (by decide) (by decide)
          have hex : ∀ a : Nat, a ∈ L0 → a ∈ L43 ∧ kp43 a = kp0 a := fun a h => ⟨(hx43 a (hex a h).1).1, ((hx43 a (hex a h).1).2).trans (hex a h).2⟩
          have hexb : ∀ a : Nat, a ∈ L → a ∈ L43 ∧ kp43 a = kp a := fun a h => ⟨(hx43 a (hexb a h).1).1, ((hx43 a (hexb a h).1).2).trans (hexb a h).2⟩
          have hg0 : gz_ok E43 a0 := gz_ok_fo hTo hst43 hm0 hk0 (by decide) (by decide) hg0
          have hg1 : ss_ok E43 a0 := ss_ok_fo hTo hst43 hm0 hk0 (by decide) (by decide) hg1
          have hmf45 : tw_fv E43 a0 4 = .ref xr2 := (hst43.1 a0 4 hm0 (by rw [hk0]; decide)).trans hmf36
          have hmf46 : tw_fv E43 a0 6 = .ref xr5 := (hst43.1 a0 6 hm0 (by rw [hk0]; decide)).trans hmf37
          have hmf47 : tw_fv E43 a0 7 = .ref xr11 := (hst43.1 a0 7 hm0 (by rw [hk0]; decide)).trans hmf38
          have hmf48 : tw_fv E43 a0 12 = .ref xr13 := (hst43.1 a0 12 hm0 (by rw [hk0]; decide)).trans hmf40
          have hmf49 : tw_fv E43 a0 0 = .ref xr30 := (hst43.1 a0 0 hm0 (by rw [hk0]; decide)).trans hmf42
          have hmf50 : tw_fv E43 xr30 1 = .int 0 := (hst43.1 xr30 1 hmxr30 (by rw [hkxr30]; decide)).trans hmf35
          have hm43_a0 := (hx43 a0 hm0).1
          have hk43_a0 : kp43 a0 = 11 := ((hx43 a0 hm0).2).trans hk0
          have hm43_xr2 := (hx43 xr2 hmxr2).1
          have hk43_xr2 : kp43 xr2 = 10 := ((hx43 xr2 hmxr2).2).trans hkxr2
          have hm43_xr5 := (hx43 xr5 hmxr5).1
          have hk43_xr5 : kp43 xr5 = 4 := ((hx43 xr5 hmxr5).2).trans hkxr5
          have hm43_xr11 := (hx43 xr11 hmxr11).1
          have hk43_xr11 : kp43 xr11 = 1 := ((hx43 xr11 hmxr11).2).trans hkxr11
          have hm43_xr13 := (hx43 xr13 hmxr13).1
          have hk43_xr13 : kp43 xr13 = 10 := ((hx43 xr13 hmxr13).2).trans hkxr13
          have hm43_xr30 := (hx43 xr30 hmxr30).1
          have hk43_xr30 : kp43 xr30 = 9 := ((hx43 xr30 hmxr30).2).trans hkxr30
          refine W.eq (g2 := F0 m 164 ls [.int xc44]) rfl ?_
          exact tw_iret hx hb hr hlocks TH hS hex ⟨⟨_, rfl, (show (-1) ≤ Int32.toInt xc44 from by  omega), (show Int32.toInt xc44 ≤ 11 from by  omega), hg0, hg1⟩, hF⟩ (Nat.le_of_ble_eq_true rfl) (Nat.le_of_ble_eq_true rfl) dX11_comeOfText_164
        · have hf51 : ¬ (xi27.toInt ≤ y49_3.toInt) := fun q => hc28 ((fa_le _ _).mpr (by  omega))
          refine lv_aload_n hx hb dX11_comeOfText_60 rfl (lv_at hl 2 rfl) ?_
          refine tw_get (ci := 11) (C := RX11) (T := TX11) (N := 19) hx hb hB cx_inX11 hown hK TH hm0 hk0 rfl ⟨by decide, rfl⟩ 6 (by decide) cw_389 (fun _ h9 => h9) dX11_comeOfText_61 (fun hv => ?_)
          rw [hmf23]
          refine lv_iload_n hx hb dX11_comeOfText_64 rfl (lv_at hl 0 rfl) ?_
          refine tw_Vc (o := xr5) (ci := 4) (n := 1) (post := (fun v kq Lq Eq => (∃ x : Int32, v = some (.int x) ∧ (-1) ≤ x.toInt ∧ x.toInt ≤ 149) ∧ kp = kq ∧ L = Lq ∧ Eg49 = Eq)) (As := [.int y49_3]) (rest := []) ⟨hx, hb, hml, hown, hB⟩ (fun sz => tX4_numberFor l D cs xr5 y49_3 hmxr5 hkxr5 sz) cg_11_162_X4_numberFor rfl rfl (by decide +kernel) ⟨Nat.le_of_ble_eq_true rfl, Nat.le_of_ble_eq_true rfl⟩ hK hN TH hS hA rfl hmxr5 hkxr5 (by decide) rfl hl.1 rfl (Nat.le_of_ble_eq_true rfl) dX11_comeOfText_65 ⟨Nat.le_of_ble_eq_true rfl, Nat.le_of_ble_eq_true rfl⟩ (fun v52 kp52 L52 E52 H locs hq52 hx52 TH hS => ?_)
          obtain ⟨⟨xc53, rfl, hxc53a, hxc53b⟩, rfl, rfl, rfl⟩ := hq52
          refine W.eq (g2 := F0 m 68 ls [.int xc53]) rfl ?_
          refine lv_istore (lv' := [(4, .int xc53), (3, .int y49_3), (2, .int xi12), (0, .ref a0), (1, .int x1)]) hx hb dX11_comeOfText_68 hl (by decide) rfl (fun ls hl => ?_)
          refine lv_aload_n hx hb dX11_comeOfText_70 rfl (lv_at hl 3 rfl) ?_
          refine tw_get (ci := 11) (C := RX11) (T := TX11) (N := 19) hx hb hB cx_inX11 hown hK TH hm0 hk0 rfl ⟨by decide, rfl⟩ 12 (by decide) cw_395 (fun _ h9 => h9) dX11_comeOfText_71 (fun hv => ?_)
          rw [hmf26]
          refine tw_get (ci := 10) (C := RX10) (T := TX10) (N := 8) hx hb hB cx_inX10 hown hK TH hmxr13 hkxr13 rfl ⟨by decide, rfl⟩ 1 (by decide) cw_125 (fun _ h9 => h9) dX11_comeOfText_74 (fun hv => ?_)
          obtain ⟨xr54, hxr54, hmxr54, hkxr54⟩ : ∃ a : Nat, tw_fv Eg49 xr13 1 = .ref a ∧ a ∈ L ∧ kp a = 110 := hv
          rw [hxr54]
          refine lv_iload_n hx hb dX11_comeOfText_77 rfl (lv_at hl 1 rfl) ?_
          refine lv_iload hx hb dX11_comeOfText_78 (lv_at hl 0 rfl) ?_
          refine lv_iconst (v := (-1)) hx hb dX11_comeOfText_80 (by decide) ?_
          have hJ94 : ∀ (z94_0 : Int32) (Eg94 : Nat → va_E) (H : Heap) (locs : List Loc) (ls : Array Slot), (-1) ≤ z94_0.toInt → z94_0.toInt ≤ 149 → tw_fr kp L [(11, 15)] [180] Eg49 Eg94 → gz_ok Eg94 a0 → ss_ok Eg94 a0 → tw_H D cs kp L Eg94 A H → va_S A s.heap H locs → lv_has ls 5 [(3, .int y49_3), (2, .int xi12), (0, .ref a0), (1, .int x1)] → W p l e { frames := 4, cells := 8, slots := 288, locals := 95 } s m [.ref a0, .int x1].toArray below meth c H locs 0 0 (MQ below (tw_Q D cs kp0 L0 (fun v kq Lq Eq => (∃ x : Int32, v = some (.int x) ∧ (-1) ≤ x.toInt ∧ x.toInt ≤ 11 ∧ gz_ok Eq a0 ∧ ss_ok Eq a0) ∧ tw_fr kp L [(1, 0), (9, 1), (10, 0), (11, 15)] [102, 110, 111, 112, 113, 114, 115, 140, 141, 142, 180] E Eq) A) [.ref a0, .int x1].toArray s 8 288 A) (F0 m 94 ls [.int z94_0, .int y49_3, .ref xr54]) := by
            intro z94_0 Eg94 H locs ls hz94_0a hz94_0b hG94 hg0 hg1 TH hS hl
            have hF := hF.tr hG94 (fun _ h => ⟨h, rfl⟩) (by decide) (by decide)
            have hG49 := hG49.tr hG94 (fun _ h => ⟨h, rfl⟩) (by decide) (by decide)
            have hmf55 : tw_fv Eg94 a0 4 = .ref xr2 := (hG94.1 a0 4 hm0 (by rw [hk0]; decide)).trans hmf22
            have hmf56 : tw_fv Eg94 a0 6 = .ref xr5 := (hG94.1 a0 6 hm0 (by rw [hk0]; decide)).trans hmf23
            have hmf57 : tw_fv Eg94 a0 7 = .ref xr11 := (hG94.1 a0 7 hm0 (by rw [hk0]; decide)).trans hmf24
            have hmf58 : tw_fv Eg94 xr11 0 = .int xi12 := (hG94.1 xr11 0 hmxr11 (by rw [hkxr11]; decide)).trans hmf25
            have hmf59 : tw_fv Eg94 a0 12 = .ref xr13 := (hG94.1 a0 12 hm0 (by rw [hk0]; decide)).trans hmf26
            have hmf60 : tw_fv Eg94 xr13 0 = .int xi27 := (hG94.1 xr13 0 hmxr13 (by rw [hkxr13]; decide)).trans hxi27
            have hmf61 : tw_fv Eg94 xr13 1 = .ref xr54 := (hG94.1 xr13 1 hmxr13 (by rw [hkxr13]; decide)).trans hxr54
            refine tw_iast (k := 110) (n := 40) (lo := (-1)) (hi := 149) hx hb hK TH hS hmxr54 hkxr54 (by decide) rfl (i := y49_3) (x := z94_0) (vp_in_iff.mpr ⟨by  omega, by  omega⟩) (by omega) (by omega) dX11_comeOfText_94 (fun H locs E62 TH hS hp63 hp64 hp65 => ?_)
            have hst66 : tw_fr kp L [] [110] Eg94 E62 := tw_fr.ast tw_fr.rf (fun _ => hkxr54) hp63 hp64 (by decide)
            have hF := hF.tr hst66 (fun _ h => ⟨h, rfl⟩) (by decide) (by decide)
            have hG49 := hG49.tr hst66 (fun _ h => ⟨h, rfl⟩) (by decide) (by decide)
            have hmf67 : tw_fv E62 a0 4 = .ref xr2 := (hst66.1 a0 4 hm0 (by rw [hk0]; decide)).trans hmf55
            have hmf68 : tw_fv E62 a0 6 = .ref xr5 := (hst66.1 a0 6 hm0 (by rw [hk0]; decide)).trans hmf56
            have hmf69 : tw_fv E62 a0 7 = .ref xr11 := (hst66.1 a0 7 hm0 (by rw [hk0]; decide)).trans hmf57
            have hmf70 : tw_fv E62 xr11 0 = .int xi12 := (hst66.1 xr11 0 hmxr11 (by rw [hkxr11]; decide)).trans hmf58
            have hmf71 : tw_fv E62 a0 12 = .ref xr13 := (hst66.1 a0 12 hm0 (by rw [hk0]; decide)).trans hmf59
            have hmf72 : tw_fv E62 xr13 0 = .int xi27 := (hst66.1 xr13 0 hmxr13 (by rw [hkxr13]; decide)).trans hmf60
            have hmf73 : tw_fv E62 xr13 1 = .ref xr54 := (hst66.1 xr13 1 hmxr13 (by rw [hkxr13]; decide)).trans hmf61
            have hg0 : gz_ok E62 a0 := gz_ok_fr TH hst66 hm0 hk0 (by decide) (by decide) hg0
            have hg1 : ss_ok E62 a0 := ss_ok_fr TH hst66 hm0 hk0 (by decide) (by decide) hg1
            refine lv_aload_n hx hb dX11_comeOfText_95 rfl (lv_at hl 2 rfl) ?_
            refine tw_get (ci := 11) (C := RX11) (T := TX11) (N := 19) hx hb hB cx_inX11 hown hK TH hm0 hk0 rfl ⟨by decide, rfl⟩ 12 (by decide) cw_395 (fun _ h9 => h9) dX11_comeOfText_96 (fun hv => ?_)
            rw [hmf71]
            refine tw_get (ci := 10) (C := RX10) (T := TX10) (N := 8) hx hb hB cx_inX10 hown hK TH hmxr13 hkxr13 rfl ⟨by decide, rfl⟩ 2 (by decide) cw_129 (fun _ h9 => h9) dX11_comeOfText_99 (fun hv => ?_)
            obtain ⟨xr74, hxr74, hmxr74, hkxr74⟩ : ∃ a : Nat, tw_fv E62 xr13 2 = .ref a ∧ a ∈ L ∧ kp a = 111 := hv
            rw [hxr74]
            refine lv_iload_n hx hb dX11_comeOfText_102 rfl (lv_at hl 0 rfl) ?_
            refine lv_aload_n hx hb dX11_comeOfText_103 rfl (lv_at hl 2 rfl) ?_
            refine tw_get (ci := 11) (C := RX11) (T := TX11) (N := 19) hx hb hB cx_inX11 hown hK TH hm0 hk0 rfl ⟨by decide, rfl⟩ 12 (by decide) cw_395 (fun _ h9 => h9) dX11_comeOfText_104 (fun hv => ?_)
            rw [hmf71]
            refine tw_get (ci := 10) (C := RX10) (T := TX10) (N := 8) hx hb hB cx_inX10 hown hK TH hmxr13 hkxr13 rfl ⟨by decide, rfl⟩ 3 (by decide) cw_134 (fun _ h9 => h9) dX11_comeOfText_107 (fun hv => ?_)
            obtain ⟨xr75, hxr75, hmxr75, hkxr75⟩ : ∃ a : Nat, tw_fv E62 xr13 3 = .ref a ∧ a ∈ L ∧ kp a = 112 := hv
            rw [hxr75]
            refine lv_iload_n hx hb dX11_comeOfText_110 rfl (lv_at hl 0 rfl) ?_
            refine tw_iald (k := 112) (t0 := 0) (n := 40) (lo := (-1)) (hi := 39) hx hb hK TH hmxr75 hkxr75 (by decide) rfl rfl (i := y49_3) (vp_in_iff.mpr ⟨by  omega, by  omega⟩) dX11_comeOfText_111 (fun hxe76a hxe76b => ?_)
            obtain ⟨xe76, exe76⟩ : ∃ z : Int32, tw_iv E62 xr75 (Int32.toNatClampNeg y49_3) = z := ⟨_, rfl⟩
            rw [exe76] at hxe76a hxe76b ⊢
            have hJ136 : ∀ (z136_0 : Int32) (H : Heap) (locs : List Loc) (ls : Array Slot), (-1) ≤ z136_0.toInt → z136_0.toInt ≤ 149 → tw_H D cs kp L E62 A H → va_S A s.heap H locs → lv_has ls 5 [(3, .int y49_3), (2, .int xi12), (0, .ref a0), (1, .int x1)] → W p l e { frames := 4, cells := 8, slots := 288, locals := 95 } s m [.ref a0, .int x1].toArray below meth c H locs 0 0 (MQ below (tw_Q D cs kp0 L0 (fun v kq Lq Eq => (∃ x : Int32, v = some (.int x) ∧ (-1) ≤ x.toInt ∧ x.toInt ≤ 11 ∧ gz_ok Eq a0 ∧ ss_ok Eq a0) ∧ tw_fr kp L [(1, 0), (9, 1), (10, 0), (11, 15)] [102, 110, 111, 112, 113, 114, 115, 140, 141, 142, 180] E Eq) A) [.ref a0, .int x1].toArray s 8 288 A) (F0 m 136 ls [.int z136_0, .int y49_3, .ref xr74]) := by
              intro z136_0 H locs ls hz136_0a hz136_0b TH hS hl
              refine tw_iast (k := 111) (n := 40) (lo := (-1)) (hi := 149) hx hb hK TH hS hmxr74 hkxr74 (by decide) rfl (i := y49_3) (x := z136_0) (vp_in_iff.mpr ⟨by  omega, by  omega⟩) (by omega) (by omega) dX11_comeOfText_136 (fun H locs E77 TH hS hp78 hp79 hp80 => ?_)
              have hst81 : tw_fr kp L [] [111] E62 E77 := tw_fr.ast tw_fr.rf (fun _ => hkxr74) hp78 hp79 (by decide)
              have hF := hF.tr hst81 (fun _ h => ⟨h, rfl⟩) (by decide) (by decide)
              have hG49 := hG49.tr hst81 (fun _ h => ⟨h, rfl⟩) (by decide) (by decide)
              have hmf82 : tw_fv E77 a0 4 = .ref xr2 := (hst81.1 a0 4 hm0 (by rw [hk0]; decide)).trans hmf67
              have hmf83 : tw_fv E77 a0 6 = .ref xr5 := (hst81.1 a0 6 hm0 (by rw [hk0]; decide)).trans hmf68
              have hmf84 : tw_fv E77 a0 7 = .ref xr11 := (hst81.1 a0 7 hm0 (by rw [hk0]; decide)).trans hmf69
              have hmf85 : tw_fv E77 xr11 0 = .int xi12 := (hst81.1 xr11 0 hmxr11 (by rw [hkxr11]; decide)).trans hmf70
              have hmf86 : tw_fv E77 a0 12 = .ref xr13 := (hst81.1 a0 12 hm0 (by rw [hk0]; decide)).trans hmf71
              have hmf87 : tw_fv E77 xr13 0 = .int xi27 := (hst81.1 xr13 0 hmxr13 (by rw [hkxr13]; decide)).trans hmf72
              have hmf88 : tw_fv E77 xr13 1 = .ref xr54 := (hst81.1 xr13 1 hmxr13 (by rw [hkxr13]; decide)).trans hmf73
              have hmf89 : tw_fv E77 xr13 2 = .ref xr74 := (hst81.1 xr13 2 hmxr13 (by rw [hkxr13]; decide)).trans hxr74
              have hmf90 : tw_fv E77 xr13 3 = .ref xr75 := (hst81.1 xr13 3 hmxr13 (by rw [hkxr13]; decide)).trans hxr75
              have hg0 : gz_ok E77 a0 := gz_ok_fr TH hst81 hm0 hk0 (by decide) (by decide) hg0
              have hg1 : ss_ok E77 a0 := ss_ok_fr TH hst81 hm0 hk0 (by decide) (by decide) hg1
              obtain ⟨zi91, ezi91⟩ : ∃ z : Int32, z = y49_3 + Int32.ofInt 1 := ⟨_, rfl⟩
              have hzi91 : zi91.toInt = y49_3.toInt + 1 := by rw [ezi91]; have : ((Int32.ofInt 1).toInt) = 1 := (by decide);  exact (ia_add (by omega) (by omega)).trans (by omega)
              refine lv_iinc (v := zi91) (lv' := [(3, .int zi91), (2, .int xi12), (0, .ref a0), (1, .int x1)]) hx hb dX11_comeOfText_137 hl (k := 0) rfl ezi91.symm (by decide) rfl (fun ls hl => ?_)
              refine lv_goto (tgt := 49) hx hb dX11_comeOfText_140 (by decide) ?_
              exact ih49 (n49 - 1) (by   omega) zi91 _ _ _ ls (by omega) (by omega) (by   omega) hG49 hg0 hg1 TH hS (lv_sub hl [0, 1, 2, 3] rfl)
            refine lv_if_ge (tgt := 119) hx hb dX11_comeOfText_112 (by decide) (fun hc92 => ?_) (fun hc92 => ?_)
            · have hf93 : 0 ≤ xe76.toInt := by have z := (fa_le _ _).mp hc92; have : ((0 : Int32).toInt) = 0 := (by decide); omega
              refine lv_aload_n hx hb dX11_comeOfText_119 rfl (lv_at hl 2 rfl) ?_
              refine tw_get (ci := 11) (C := RX11) (T := TX11) (N := 19) hx hb hB cx_inX11 hown hK TH hm0 hk0 rfl ⟨by decide, rfl⟩ 12 (by decide) cw_395 (fun _ h9 => h9) dX11_comeOfText_120 (fun hv => ?_)
              rw [hmf71]
              refine tw_get (ci := 10) (C := RX10) (T := TX10) (N := 8) hx hb hB cx_inX10 hown hK TH hmxr13 hkxr13 rfl ⟨by decide, rfl⟩ 1 (by decide) cw_125 (fun _ h9 => h9) dX11_comeOfText_123 (fun hv => ?_)
              rw [hmf73]
              refine lv_aload_n hx hb dX11_comeOfText_126 rfl (lv_at hl 2 rfl) ?_
              refine tw_get (ci := 11) (C := RX11) (T := TX11) (N := 19) hx hb hB cx_inX11 hown hK TH hm0 hk0 rfl ⟨by decide, rfl⟩ 12 (by decide) cw_395 (fun _ h9 => h9) dX11_comeOfText_127 (fun hv => ?_)
              rw [hmf71]
              refine tw_get (ci := 10) (C := RX10) (T := TX10) (N := 8) hx hb hB cx_inX10 hown hK TH hmxr13 hkxr13 rfl ⟨by decide, rfl⟩ 3 (by decide) cw_134 (fun _ h9 => h9) dX11_comeOfText_130 (fun hv => ?_)
              rw [hxr75]
              refine lv_iload_n hx hb dX11_comeOfText_133 rfl (lv_at hl 0 rfl) ?_
              refine tw_iald (k := 112) (t0 := 0) (n := 40) (lo := (-1)) (hi := 39) hx hb hK TH hmxr75 hkxr75 (by decide) rfl rfl (i := y49_3) (vp_in_iff.mpr ⟨by  omega, by  omega⟩) dX11_comeOfText_134 (fun hxe94a hxe94b => ?_)
              rw [exe76]
              refine tw_iald (k := 110) (t0 := 0) (n := 40) (lo := (-1)) (hi := 149) hx hb hK TH hmxr54 hkxr54 (by decide) rfl rfl (i := xe76) (vp_in_iff.mpr ⟨by  omega, by  omega⟩) dX11_comeOfText_135 (fun hxe95a hxe95b => ?_)
              obtain ⟨xe95, exe95⟩ : ∃ z : Int32, tw_iv E62 xr54 (Int32.toNatClampNeg xe76) = z := ⟨_, rfl⟩
              rw [exe95] at hxe95a hxe95b ⊢
              exact hJ136 xe95 _ _ ls (by omega) (by omega) TH hS (lv_sub hl [0, 1, 2, 3] rfl)
            · have hf96 : ¬ (0 ≤ xe76.toInt) := fun q => hc92 ((fa_le _ _).mpr (by have : ((0 : Int32).toInt) = 0 := (by decide); omega))
              refine lv_iconst (v := (-1)) hx hb dX11_comeOfText_115 (by decide) ?_
              refine lv_goto (tgt := 136) hx hb dX11_comeOfText_116 (by decide) ?_
              exact hJ136 ((-1) : Int32) _ _ ls (by have : (((-1) : Int32).toInt) = (-1) := (by decide); omega) (by have : (((-1) : Int32).toInt) = (-1) := (by decide); omega) TH hS (lv_sub hl [0, 1, 2, 3] rfl)
          have hG94 : tw_fr kp L [(11, 15)] [180] Eg49 Eg49 := tw_fr.rf
          refine lv_icmp_ne (tgt := 92) hx hb dX11_comeOfText_81 (by decide) (fun hc97 => ?_) (fun hc97 => ?_)
          · have hf98 : ¬ (xc53.toInt = (-1)) := fun q => hc97 ((fa_eq _ _).mpr (by have : (((-1) : Int32).toInt) = (-1) := (by decide); omega))
            refine lv_iload hx hb dX11_comeOfText_92 (lv_at hl 0 rfl) ?_
            exact hJ94 xc53 _ _ _ ls (by omega) (by omega) hG94 hg0 hg1 TH hS (lv_sub hl [1, 2, 3, 4] rfl)
          · have hf99 : xc53.toInt = (-1) := by have z := (fa_eq _ _).mp hc97; have : (((-1) : Int32).toInt) = (-1) := (by decide); omega
            refine lv_aload_n hx hb dX11_comeOfText_84 rfl (lv_at hl 3 rfl) ?_
            refine lv_iload_n hx hb dX11_comeOfText_85 rfl (lv_at hl 2 rfl) ?_
            refine tw_Vc (o := a0) (ci := 11) (n := 1) (post := (fun v kq Lq Eq => (∃ x : Int32, v = some (.int x) ∧ (-1) ≤ x.toInt ∧ x.toInt ≤ 149) ∧ kp = kq ∧ L = Lq ∧ tw_fr kp L [(11, 15)] [180] Eg49 Eq)) (As := [.int xi12]) (rest := [.int y49_3, .ref xr54]) ⟨hx, hb, hml, hown, hB⟩ (fun sz => tX11_newNumber l D cs a0 xi12 hm0 hk0 (by omega) (by omega) sz) cg_11_195_X11_newNumber rfl rfl (by decide +kernel) ⟨Nat.le_of_ble_eq_true rfl, Nat.le_of_ble_eq_true rfl⟩ hK hN TH hS hA rfl hm0 hk0 (by decide) rfl hl.1 rfl (Nat.le_of_ble_eq_true rfl) dX11_comeOfText_86 ⟨Nat.le_of_ble_eq_true rfl, Nat.le_of_ble_eq_true rfl⟩ (fun v100 kp100 L100 E100 H locs hq100 hx100 TH hS => ?_)
            obtain ⟨⟨xc101, rfl, hxc101a, hxc101b⟩, rfl, rfl, hst100⟩ := hq100
            have hF := hF.tr hst100 (fun _ h => ⟨h, rfl⟩) (by decide) (by decide)
            have hG49 := hG49.tr hst100 (fun _ h => ⟨h, rfl⟩) (by decide) (by decide)
            have hG94 := hG94.tr hst100 (fun _ h => ⟨h, rfl⟩) (by decide) (by decide)
            have hmf102 : tw_fv E100 a0 4 = .ref xr2 := (hst100.1 a0 4 hm0 (by rw [hk0]; decide)).trans hmf22
            have hmf103 : tw_fv E100 a0 6 = .ref xr5 := (hst100.1 a0 6 hm0 (by rw [hk0]; decide)).trans hmf23
            have hmf104 : tw_fv E100 a0 7 = .ref xr11 := (hst100.1 a0 7 hm0 (by rw [hk0]; decide)).trans hmf24
            have hmf105 : tw_fv E100 xr11 0 = .int xi12 := (hst100.1 xr11 0 hmxr11 (by rw [hkxr11]; decide)).trans hmf25
            have hmf106 : tw_fv E100 a0 12 = .ref xr13 := (hst100.1 a0 12 hm0 (by rw [hk0]; decide)).trans hmf26
            have hmf107 : tw_fv E100 xr13 0 = .int xi27 := (hst100.1 xr13 0 hmxr13 (by rw [hkxr13]; decide)).trans hxi27
            have hmf108 : tw_fv E100 xr13 1 = .ref xr54 := (hst100.1 xr13 1 hmxr13 (by rw [hkxr13]; decide)).trans hxr54
            have hg0 : gz_ok E100 a0 := gz_ok_fr TH hst100 hm0 hk0 (by decide) (by decide) hg0
            have hg1 : ss_ok E100 a0 := ss_ok_fr TH hst100 hm0 hk0 (by decide) (by decide) hg1
            refine W.eq (g2 := F0 m 89 ls [.int xc101, .int y49_3, .ref xr54]) rfl ?_
            refine lv_goto (tgt := 94) hx hb dX11_comeOfText_89 (by decide) ?_
            exact hJ94 xc101 _ _ _ ls (by omega) (by omega) hG94 hg0 hg1 TH hS (lv_sub hl [1, 2, 3, 4] rfl)
    exact hJ49 41 (0 : Int32) _ _ _ ls (by have : ((0 : Int32).toInt) = 0 := (by decide); omega) (by have : ((0 : Int32).toInt) = 0 := (by decide); omega) (by have : ((0 : Int32).toInt) = 0 := (by decide);  omega) tw_fr.rf hg0 hg1 TH hS (lv_sub hl [0, 1, 2, 3] rfl)
  · have hf109 : ¬ (zi8.toInt ≤ 150) := fun q => hc9 ((fa_le _ _).mpr (by have : ((150 : Int32).toInt) = 150 := (by decide); omega))
    refine lv_iconst (v := (-1)) hx hb dX11_comeOfText_26 (by decide) ?_
    exact tw_iret hx hb hr hlocks TH hS hex ⟨⟨_, rfl, (show (-1) ≤ Int32.toInt (-1) from by have : (((-1) : Int32).toInt) = (-1) := (by decide); omega), (show Int32.toInt (-1) ≤ 11 from by have : (((-1) : Int32).toInt) = (-1) := (by decide); omega), hg0, hg1⟩, hF⟩ (Nat.le_of_ble_eq_true rfl) (Nat.le_of_ble_eq_true rfl) dX11_comeOfText_27
set_option maxHeartbeats 4000000 in
set_option maxRecDepth 100000 in
theorem tX11_first (l : Launch) (D : va_G) (cs : Nat → ClassId) {kp : Nat → Nat} {L : List Nat} {E : Nat → va_E} (a0 : Nat) (hm0 : a0 ∈ L) (hk0 : kp a0 = 11) (hg0 : gz_ok E a0) (hg1 : ss_ok E a0) (sz : Nat) : Met l yX11_first (.code yX11_first cX11_first 1 (some .int) :: cx_big) { frames := 10, cells := 8, slots := 288, locals := 214 } (tw_P D cs kp L E [.ref a0] sz) (tw_Q D cs kp L (fun v kq Lq Eq => (∃ x : Int32, v = some (.int x) ∧ gz_ok Eq a0 ∧ ss_ok Eq a0) ∧ tw_fr kp L [(1, 0), (3, 0), (9, 1), (9, 2), (9, 3), (9, 4), (10, 0), (11, 15)] [101, 102, 110, 111, 112, 113, 114, 115, 135, 140, 141, 142, 150, 151, 180] E Eq) (va_A (va_pl L E) sz)) 8 288 (va_A (va_pl L E) sz) := by
  refine tw_ofW (by decide) (Nat.le_of_ble_eq_true rfl) ?_
  intro p e s m below meth c A ls hx hb hr hml hB hown hlocks hK hN hA TH hS hl
  have hown : s.vm.findClass "TreeMerge" = some m.cls := hown
  have hl : lv_has ls 1 [(0, .ref a0)] := hl
  obtain ⟨kp0, ekp⟩ : ∃ z, z = kp := ⟨_, rfl⟩
  obtain ⟨L0, eL⟩ : ∃ z, z = L := ⟨_, rfl⟩
  rw [show tw_Q D cs kp L = tw_Q D cs kp0 L0 by rw [ekp, eL]]
  have hex : ∀ a : Nat, a ∈ L0 → a ∈ L ∧ kp a = kp0 a := fun a h => ⟨by rw [← eL]; exact h, by rw [ekp]⟩
  have hF : tw_fr kp L [(1, 0), (3, 0), (9, 1), (9, 2), (9, 3), (9, 4), (10, 0), (11, 15)] [101, 102, 110, 111, 112, 113, 114, 115, 135, 140, 141, 142, 150, 151, 180] E E := tw_fr.rf
  have hexb : ∀ a : Nat, a ∈ L → a ∈ L ∧ kp a = kp a := fun a h => ⟨h, rfl⟩
  refine lv_aload_n hx hb dX11_first_0 rfl (lv_at hl 0 rfl) ?_
  refine tw_get (ci := 11) (C := RX11) (T := TX11) (N := 19) hx hb hB cx_inX11 hown hK TH hm0 hk0 rfl ⟨by decide, rfl⟩ 7 (by decide) cw_390 (fun _ h9 => h9) dX11_first_1 (fun hv => ?_)
  obtain ⟨xr1, hxr1, hmxr1, hkxr1⟩ : ∃ a : Nat, tw_fv E a0 7 = .ref a ∧ a ∈ L ∧ kp a = 1 := hv
  rw [hxr1]
  refine tw_Vc (o := xr1) (ci := 1) (n := 0) (post := (fun v kq Lq Eq => (∃ x : Int32, v = some (.int x) ∧ 0 ≤ x.toInt ∧ x.toInt ≤ 1 ∧ (∃ z0 : Int32, tw_fv Eq xr1 0 = .int z0 ∧ (x.toInt = 0 → z0.toInt ≤ 11))) ∧ kp = kq ∧ L = Lq ∧ E = Eq)) (As := []) (rest := []) ⟨hx, hb, hml, hown, hB⟩ (fun sz => tX1_isFull l D cs xr1 hmxr1 hkxr1 sz) cg_11_135_X1_isFull rfl rfl (by decide +kernel) ⟨Nat.le_of_ble_eq_true rfl, Nat.le_of_ble_eq_true rfl⟩ hK hN TH hS hA rfl hmxr1 hkxr1 (by decide) rfl hl.1 rfl (Nat.le_of_ble_eq_true rfl) dX11_first_4 ⟨Nat.le_of_ble_eq_true rfl, Nat.le_of_ble_eq_true rfl⟩ (fun v2 kp2 L2 E2 H locs hq2 hx2 TH hS => ?_)
  obtain ⟨⟨xc3, rfl, hxc3a, hxc3b, ⟨zfxc3_0_0, hzfxc3_0_0, hzpxc3_0⟩⟩, rfl, rfl, rfl⟩ := hq2
  obtain ⟨qzfxc3_0_0, hqzfxc3_0_0, hqzfxc3_0_0a, hqzfxc3_0_0b⟩ := tw_rd TH hmxr1 hkxr1 (by decide) (by decide) (k := 0) rfl
  have eqzfxc3_0_0 : qzfxc3_0_0 = zfxc3_0_0 := by have q := hqzfxc3_0_0.symm.trans hzfxc3_0_0; injection q
  rw [eqzfxc3_0_0] at hqzfxc3_0_0a hqzfxc3_0_0b
  refine W.eq (g2 := F0 m 7 ls [.int xc3]) rfl ?_
  refine lv_if_ne (tgt := 17) hx hb dX11_first_7 (by decide) (fun hc4 => ?_) (fun hc4 => ?_)
  · have hf5 : ¬ (xc3.toInt = 0) := fun q => hc4 ((fa_eq _ _).mpr (by have : ((0 : Int32).toInt) = 0 := (by decide); omega))
    refine lv_iconst (v := (-1)) hx hb dX11_first_17 (by decide) ?_
    exact tw_iret hx hb hr hlocks TH hS hex ⟨⟨_, rfl, hg0, hg1⟩, hF⟩ (Nat.le_of_ble_eq_true rfl) (Nat.le_of_ble_eq_true rfl) dX11_first_18
  · have hf6 : xc3.toInt = 0 := by have z := (fa_eq _ _).mp hc4; have : ((0 : Int32).toInt) = 0 := (by decide); omega
    refine lv_aload_n hx hb dX11_first_10 rfl (lv_at hl 0 rfl) ?_
    refine tw_Vc (o := a0) (ci := 11) (n := 0) (post := (fun v kq Lq Eq => (∃ x : Int32, v = some (.int x) ∧ 0 ≤ x.toInt ∧ x.toInt ≤ 1 ∧ gz_ok Eq a0) ∧ kp = kq ∧ L = Lq ∧ tw_fr kp L [(3, 0), (9, 2), (9, 3), (9, 4), (10, 0)] [101, 102, 110, 111, 112, 113, 114, 135] E Eq)) (As := []) (rest := []) ⟨hx, hb, hml, hown, hB⟩ (fun sz => tX11_readsAndFits l D cs a0 hm0 hk0 hg0 sz) cg_11_139_X11_readsAndFits rfl rfl (by decide +kernel) ⟨Nat.le_of_ble_eq_true rfl, Nat.le_of_ble_eq_true rfl⟩ hK hN TH hS hA rfl hm0 hk0 (by decide) rfl hl.1 rfl (Nat.le_of_ble_eq_true rfl) dX11_first_11 ⟨Nat.le_of_ble_eq_true rfl, Nat.le_of_ble_eq_true rfl⟩ (fun v7 kp7 L7 E7 H locs hq7 hx7 TH hS => ?_)
    obtain ⟨⟨xc8, rfl, hxc8a, hxc8b, hgpxc8_0⟩, rfl, rfl, hst7⟩ := hq7
    have hF := hF.tr hst7 (fun _ h => ⟨h, rfl⟩) (by decide) (by decide)
    have hmf9 : tw_fv E7 a0 7 = .ref xr1 := (hst7.1 a0 7 hm0 (by rw [hk0]; decide)).trans hxr1
    have hmf10 : tw_fv E7 xr1 0 = .int zfxc3_0_0 := (hst7.1 xr1 0 hmxr1 (by rw [hkxr1]; decide)).trans hzfxc3_0_0
    have hg1 : ss_ok E7 a0 := ss_ok_fr TH hst7 hm0 hk0 (by decide) (by decide) hg1
    refine W.eq (g2 := F0 m 14 ls [.int xc8]) rfl ?_
    refine lv_if_ne (tgt := 19) hx hb dX11_first_14 (by decide) (fun hc11 => ?_) (fun hc11 => ?_)
    · have hf12 : ¬ (xc8.toInt = 0) := fun q => hc11 ((fa_eq _ _).mpr (by have : ((0 : Int32).toInt) = 0 := (by decide); omega))
      refine lv_aload_n hx hb dX11_first_19 rfl (lv_at hl 0 rfl) ?_
      refine tw_get (ci := 11) (C := RX11) (T := TX11) (N := 19) hx hb hB cx_inX11 hown hK TH hm0 hk0 rfl ⟨by decide, rfl⟩ 6 (by decide) cw_389 (fun _ h9 => h9) dX11_first_20 (fun hv => ?_)
      obtain ⟨xr13, hxr13, hmxr13, hkxr13⟩ : ∃ a : Nat, tw_fv E7 a0 6 = .ref a ∧ a ∈ L ∧ kp a = 4 := hv
      rw [hxr13]
      refine tw_Vc (o := xr13) (ci := 4) (n := 0) (post := (fun v kq Lq Eq => v = none ∧ kp = kq ∧ L = Lq ∧ tw_fr kp L [] [150, 151] E7 Eq)) (As := []) (rest := []) ⟨hx, hb, hml, hown, hB⟩ (fun sz => tX4_pairNothing l D cs xr13 hmxr13 hkxr13 sz) cg_11_142_X4_pairNothing rfl rfl (by decide +kernel) ⟨Nat.le_of_ble_eq_true rfl, Nat.le_of_ble_eq_true rfl⟩ hK hN TH hS hA rfl hmxr13 hkxr13 (by decide) rfl hl.1 rfl (Nat.le_of_ble_eq_true rfl) dX11_first_23 ⟨Nat.le_of_ble_eq_true rfl, Nat.le_of_ble_eq_true rfl⟩ (fun v14 kp14 L14 E14 H locs hq14 hx14 TH hS => ?_)
      obtain ⟨rfl, rfl, rfl, hst14⟩ := hq14
      have hF := hF.tr hst14 (fun _ h => ⟨h, rfl⟩) (by decide) (by decide)
      have hmf16 : tw_fv E14 a0 7 = .ref xr1 := (hst14.1 a0 7 hm0 (by rw [hk0]; decide)).trans hmf9
      have hmf17 : tw_fv E14 xr1 0 = .int zfxc3_0_0 := (hst14.1 xr1 0 hmxr1 (by rw [hkxr1]; decide)).trans hmf10
      have hmf18 : tw_fv E14 a0 6 = .ref xr13 := (hst14.1 a0 6 hm0 (by rw [hk0]; decide)).trans hxr13
      have hg1 : ss_ok E14 a0 := ss_ok_fr TH hst14 hm0 hk0 (by decide) (by decide) hg1
      have hgpxc8_0 : gz_ok E14 a0 := gz_ok_fr TH hst14 hm0 hk0 (by decide) (by decide) hgpxc8_0
      refine W.eq (g2 := F0 m 26 ls []) rfl ?_
      refine lv_aload_n hx hb dX11_first_26 rfl (lv_at hl 0 rfl) ?_
      refine lv_iconst (v := (-1)) hx hb dX11_first_27 (by decide) ?_
      have hTo := TH.2.2
      refine tw_Vc (o := a0) (ci := 11) (n := 1) (post := (fun v kq Lq Eq => (∃ x : Int32, v = some (.int x) ∧ (-1) ≤ x.toInt ∧ x.toInt ≤ 11 ∧ gz_ok Eq a0 ∧ ss_ok Eq a0) ∧ tw_fr kp L [(1, 0), (9, 1), (10, 0), (11, 15)] [102, 110, 111, 112, 113, 114, 115, 140, 141, 142, 180] E14 Eq)) (As := [.int (-1)]) (rest := []) ⟨hx, hb, hml, hown, hB⟩ (fun sz => tX11_comeOfText l D cs a0 ((-1) : Int32) hm0 hk0 hgpxc8_0 hg1 sz) cg_11_145_X11_comeOfText rfl rfl (by decide +kernel) ⟨Nat.le_of_ble_eq_true rfl, Nat.le_of_ble_eq_true rfl⟩ hK hN TH hS hA rfl hm0 hk0 (by decide) rfl hl.1 rfl (Nat.le_of_ble_eq_true rfl) dX11_first_28 ⟨Nat.le_of_ble_eq_true rfl, Nat.le_of_ble_eq_true rfl⟩ (fun v19 kp19 L19 E19 H locs hq19 hx19 TH hS => ?_)
      obtain ⟨⟨xc20, rfl, hxc20a, hxc20b, hgpxc20_0, hgpxc20_1⟩, hst19⟩ := hq19
      have hF := hF.tr hst19 (fun _ h => ⟨h, rfl⟩) (by decide) (by decide)
      have hex : ∀ a : Nat, a ∈ L0 → a ∈ L19 ∧ kp19 a = kp0 a := fun a h => ⟨(hx19 a (hex a h).1).1, ((hx19 a (hex a h).1).2).trans (hex a h).2⟩
      have hexb : ∀ a : Nat, a ∈ L → a ∈ L19 ∧ kp19 a = kp a := fun a h => ⟨(hx19 a (hexb a h).1).1, ((hx19 a (hexb a h).1).2).trans (hexb a h).2⟩
      have hmf21 : tw_fv E19 a0 7 = .ref xr1 := (hst19.1 a0 7 hm0 (by rw [hk0]; decide)).trans hmf16
      have hmf22 : tw_fv E19 a0 6 = .ref xr13 := (hst19.1 a0 6 hm0 (by rw [hk0]; decide)).trans hmf18
      have hm19_a0 := (hx19 a0 hm0).1
      have hk19_a0 : kp19 a0 = 11 := ((hx19 a0 hm0).2).trans hk0
      have hm19_xr1 := (hx19 xr1 hmxr1).1
      have hk19_xr1 : kp19 xr1 = 1 := ((hx19 xr1 hmxr1).2).trans hkxr1
      have hm19_xr13 := (hx19 xr13 hmxr13).1
      have hk19_xr13 : kp19 xr13 = 4 := ((hx19 xr13 hmxr13).2).trans hkxr13
      refine W.eq (g2 := F0 m 31 ls [.int xc20]) rfl ?_
      exact tw_iret hx hb hr hlocks TH hS hex ⟨⟨_, rfl, hgpxc20_0, hgpxc20_1⟩, hF⟩ (Nat.le_of_ble_eq_true rfl) (Nat.le_of_ble_eq_true rfl) dX11_first_31
    · have hf23 : xc8.toInt = 0 := by have z := (fa_eq _ _).mp hc11; have : ((0 : Int32).toInt) = 0 := (by decide); omega
      refine lv_iconst (v := (-1)) hx hb dX11_first_17 (by decide) ?_
      exact tw_iret hx hb hr hlocks TH hS hex ⟨⟨_, rfl, hgpxc8_0, hg1⟩, hF⟩ (Nat.le_of_ble_eq_true rfl) (Nat.le_of_ble_eq_true rfl) dX11_first_18
set_option maxHeartbeats 4000000 in
set_option maxRecDepth 100000 in
theorem tX11_next (l : Launch) (D : va_G) (cs : Nat → ClassId) {kp : Nat → Nat} {L : List Nat} {E : Nat → va_E} (a0 : Nat) (x1 : Int32) (hm0 : a0 ∈ L) (hk0 : kp a0 = 11) (hg0 : gz_ok E a0) (hg1 : ss_ok E a0) (sz : Nat) : Met l yX11_next (.code yX11_next cX11_next 2 (some .int) :: cx_big) { frames := 10, cells := 8, slots := 288, locals := 235 } (tw_P D cs kp L E [.ref a0, .int x1] sz) (tw_Q D cs kp L (fun v kq Lq Eq => (∃ x : Int32, v = some (.int x) ∧ gz_ok Eq a0 ∧ ss_ok Eq a0) ∧ tw_fr kp L [(1, 0), (3, 0), (4, 0), (4, 1), (4, 5), (4, 6), (9, 1), (9, 2), (9, 3), (9, 4), (10, 0), (11, 15)] [101, 102, 110, 111, 112, 113, 114, 115, 135, 140, 141, 142, 150, 151, 152, 180] E Eq) (va_A (va_pl L E) sz)) 8 288 (va_A (va_pl L E) sz) := by
  refine tw_ofW (by decide) (Nat.le_of_ble_eq_true rfl) ?_
  intro p e s m below meth c A ls hx hb hr hml hB hown hlocks hK hN hA TH hS hl
  have hown : s.vm.findClass "TreeMerge" = some m.cls := hown
  have hl : lv_has ls 2 [(0, .ref a0), (1, .int x1)] := hl
  obtain ⟨kp0, ekp⟩ : ∃ z, z = kp := ⟨_, rfl⟩
  obtain ⟨L0, eL⟩ : ∃ z, z = L := ⟨_, rfl⟩
  rw [show tw_Q D cs kp L = tw_Q D cs kp0 L0 by rw [ekp, eL]]
  have hex : ∀ a : Nat, a ∈ L0 → a ∈ L ∧ kp a = kp0 a := fun a h => ⟨by rw [← eL]; exact h, by rw [ekp]⟩
  have hF : tw_fr kp L [(1, 0), (3, 0), (4, 0), (4, 1), (4, 5), (4, 6), (9, 1), (9, 2), (9, 3), (9, 4), (10, 0), (11, 15)] [101, 102, 110, 111, 112, 113, 114, 115, 135, 140, 141, 142, 150, 151, 152, 180] E E := tw_fr.rf
  have hexb : ∀ a : Nat, a ∈ L → a ∈ L ∧ kp a = kp a := fun a h => ⟨h, rfl⟩
  refine lv_aload_n hx hb dX11_next_0 rfl (lv_at hl 0 rfl) ?_
  refine tw_get (ci := 11) (C := RX11) (T := TX11) (N := 19) hx hb hB cx_inX11 hown hK TH hm0 hk0 rfl ⟨by decide, rfl⟩ 7 (by decide) cw_390 (fun _ h9 => h9) dX11_next_1 (fun hv => ?_)
  obtain ⟨xr1, hxr1, hmxr1, hkxr1⟩ : ∃ a : Nat, tw_fv E a0 7 = .ref a ∧ a ∈ L ∧ kp a = 1 := hv
  rw [hxr1]
  refine tw_Vc (o := xr1) (ci := 1) (n := 0) (post := (fun v kq Lq Eq => (∃ x : Int32, v = some (.int x) ∧ 0 ≤ x.toInt ∧ x.toInt ≤ 1 ∧ (∃ z0 : Int32, tw_fv Eq xr1 0 = .int z0 ∧ (x.toInt = 0 → z0.toInt ≤ 11))) ∧ kp = kq ∧ L = Lq ∧ E = Eq)) (As := []) (rest := []) ⟨hx, hb, hml, hown, hB⟩ (fun sz => tX1_isFull l D cs xr1 hmxr1 hkxr1 sz) cg_11_135_X1_isFull rfl rfl (by decide +kernel) ⟨Nat.le_of_ble_eq_true rfl, Nat.le_of_ble_eq_true rfl⟩ hK hN TH hS hA rfl hmxr1 hkxr1 (by decide) rfl hl.1 rfl (Nat.le_of_ble_eq_true rfl) dX11_next_4 ⟨Nat.le_of_ble_eq_true rfl, Nat.le_of_ble_eq_true rfl⟩ (fun v2 kp2 L2 E2 H locs hq2 hx2 TH hS => ?_)
  obtain ⟨⟨xc3, rfl, hxc3a, hxc3b, ⟨zfxc3_0_0, hzfxc3_0_0, hzpxc3_0⟩⟩, rfl, rfl, rfl⟩ := hq2
  obtain ⟨qzfxc3_0_0, hqzfxc3_0_0, hqzfxc3_0_0a, hqzfxc3_0_0b⟩ := tw_rd TH hmxr1 hkxr1 (by decide) (by decide) (k := 0) rfl
  have eqzfxc3_0_0 : qzfxc3_0_0 = zfxc3_0_0 := by have q := hqzfxc3_0_0.symm.trans hzfxc3_0_0; injection q
  rw [eqzfxc3_0_0] at hqzfxc3_0_0a hqzfxc3_0_0b
  refine W.eq (g2 := F0 m 7 ls [.int xc3]) rfl ?_
  refine lv_if_ne (tgt := 36) hx hb dX11_next_7 (by decide) (fun hc4 => ?_) (fun hc4 => ?_)
  · have hf5 : ¬ (xc3.toInt = 0) := fun q => hc4 ((fa_eq _ _).mpr (by have : ((0 : Int32).toInt) = 0 := (by decide); omega))
    refine lv_iconst (v := (-1)) hx hb dX11_next_36 (by decide) ?_
    exact tw_iret hx hb hr hlocks TH hS hex ⟨⟨_, rfl, hg0, hg1⟩, hF⟩ (Nat.le_of_ble_eq_true rfl) (Nat.le_of_ble_eq_true rfl) dX11_next_37
  · have hf6 : xc3.toInt = 0 := by have z := (fa_eq _ _).mp hc4; have : ((0 : Int32).toInt) = 0 := (by decide); omega
    refine lv_aload_n hx hb dX11_next_10 rfl (lv_at hl 0 rfl) ?_
    refine tw_get (ci := 11) (C := RX11) (T := TX11) (N := 19) hx hb hB cx_inX11 hown hK TH hm0 hk0 rfl ⟨by decide, rfl⟩ 7 (by decide) cw_390 (fun _ h9 => h9) dX11_next_11 (fun hv => ?_)
    rw [hxr1]
    refine lv_iload_n hx hb dX11_next_14 rfl (lv_at hl 1 rfl) ?_
    refine tw_Vc (o := xr1) (ci := 1) (n := 1) (post := (fun v kq Lq Eq => (∃ x : Int32, v = some (.int x) ∧ 0 ≤ x.toInt ∧ x.toInt ≤ 1 ∧ (x.toInt ≠ 0 → 0 ≤ x1.toInt ∧ x1.toInt ≤ 11)) ∧ kp = kq ∧ L = Lq ∧ E = Eq)) (As := [.int x1]) (rest := []) ⟨hx, hb, hml, hown, hB⟩ (fun sz => tX1_has l D cs xr1 x1 hmxr1 hkxr1 sz) cg_11_165_X1_has rfl rfl (by decide +kernel) ⟨Nat.le_of_ble_eq_true rfl, Nat.le_of_ble_eq_true rfl⟩ hK hN TH hS hA rfl hmxr1 hkxr1 (by decide) rfl hl.1 rfl (Nat.le_of_ble_eq_true rfl) dX11_next_15 ⟨Nat.le_of_ble_eq_true rfl, Nat.le_of_ble_eq_true rfl⟩ (fun v7 kp7 L7 E7 H locs hq7 hx7 TH hS => ?_)
    obtain ⟨⟨xc8, rfl, hxc8a, hxc8b, hpoxc8_0⟩, rfl, rfl, rfl⟩ := hq7
    refine W.eq (g2 := F0 m 18 ls [.int xc8]) rfl ?_
    refine lv_if_eq (tgt := 36) hx hb dX11_next_18 (by decide) (fun hc9 => ?_) (fun hc9 => ?_)
    · have hf10 : xc8.toInt = 0 := by have z := (fa_eq _ _).mp hc9; have : ((0 : Int32).toInt) = 0 := (by decide); omega
      refine lv_iconst (v := (-1)) hx hb dX11_next_36 (by decide) ?_
      exact tw_iret hx hb hr hlocks TH hS hex ⟨⟨_, rfl, hg0, hg1⟩, hF⟩ (Nat.le_of_ble_eq_true rfl) (Nat.le_of_ble_eq_true rfl) dX11_next_37
    · have hf11 : ¬ (xc8.toInt = 0) := fun q => hc9 ((fa_eq _ _).mpr (by have : ((0 : Int32).toInt) = 0 := (by decide); omega))
      refine lv_aload_n hx hb dX11_next_21 rfl (lv_at hl 0 rfl) ?_
      refine tw_Vc (o := a0) (ci := 11) (n := 0) (post := (fun v kq Lq Eq => (∃ x : Int32, v = some (.int x) ∧ 0 ≤ x.toInt ∧ x.toInt ≤ 1 ∧ gz_ok Eq a0) ∧ kp = kq ∧ L = Lq ∧ tw_fr kp L [(3, 0), (9, 2), (9, 3), (9, 4), (10, 0)] [101, 102, 110, 111, 112, 113, 114, 135] E Eq)) (As := []) (rest := []) ⟨hx, hb, hml, hown, hB⟩ (fun sz => tX11_readsAndFits l D cs a0 hm0 hk0 hg0 sz) cg_11_139_X11_readsAndFits rfl rfl (by decide +kernel) ⟨Nat.le_of_ble_eq_true rfl, Nat.le_of_ble_eq_true rfl⟩ hK hN TH hS hA rfl hm0 hk0 (by decide) rfl hl.1 rfl (Nat.le_of_ble_eq_true rfl) dX11_next_22 ⟨Nat.le_of_ble_eq_true rfl, Nat.le_of_ble_eq_true rfl⟩ (fun v12 kp12 L12 E12 H locs hq12 hx12 TH hS => ?_)
      obtain ⟨⟨xc13, rfl, hxc13a, hxc13b, hgpxc13_0⟩, rfl, rfl, hst12⟩ := hq12
      have hF := hF.tr hst12 (fun _ h => ⟨h, rfl⟩) (by decide) (by decide)
      have hmf14 : tw_fv E12 a0 7 = .ref xr1 := (hst12.1 a0 7 hm0 (by rw [hk0]; decide)).trans hxr1
      have hmf15 : tw_fv E12 xr1 0 = .int zfxc3_0_0 := (hst12.1 xr1 0 hmxr1 (by rw [hkxr1]; decide)).trans hzfxc3_0_0
      have hg1 : ss_ok E12 a0 := ss_ok_fr TH hst12 hm0 hk0 (by decide) (by decide) hg1
      refine W.eq (g2 := F0 m 25 ls [.int xc13]) rfl ?_
      refine lv_if_eq (tgt := 36) hx hb dX11_next_25 (by decide) (fun hc16 => ?_) (fun hc16 => ?_)
      · have hf17 : xc13.toInt = 0 := by have z := (fa_eq _ _).mp hc16; have : ((0 : Int32).toInt) = 0 := (by decide); omega
        refine lv_iconst (v := (-1)) hx hb dX11_next_36 (by decide) ?_
        exact tw_iret hx hb hr hlocks TH hS hex ⟨⟨_, rfl, hgpxc13_0, hg1⟩, hF⟩ (Nat.le_of_ble_eq_true rfl) (Nat.le_of_ble_eq_true rfl) dX11_next_37
      · have hf18 : ¬ (xc13.toInt = 0) := fun q => hc16 ((fa_eq _ _).mpr (by have : ((0 : Int32).toInt) = 0 := (by decide); omega))
        refine lv_aload_n hx hb dX11_next_28 rfl (lv_at hl 0 rfl) ?_
        refine lv_iload_n hx hb dX11_next_29 rfl (lv_at hl 1 rfl) ?_
        refine tw_Vc (o := a0) (ci := 11) (n := 1) (post := (fun v kq Lq Eq => (∃ x : Int32, v = some (.int x) ∧ 0 ≤ x.toInt ∧ x.toInt ≤ 1) ∧ kp = kq ∧ L = Lq ∧ tw_fr kp L [(4, 0), (4, 1), (4, 5), (4, 6), (9, 2), (9, 3), (9, 4), (10, 0)] [102, 110, 111, 112, 113, 114, 150, 151, 152] E12 Eq)) (As := [.int x1]) (rest := []) ⟨hx, hb, hml, hown, hB⟩ (fun sz => tX11_matchText l D cs a0 x1 hm0 hk0 sz) cg_11_149_X11_matchText rfl rfl (by decide +kernel) ⟨Nat.le_of_ble_eq_true rfl, Nat.le_of_ble_eq_true rfl⟩ hK hN TH hS hA rfl hm0 hk0 (by decide) rfl hl.1 rfl (Nat.le_of_ble_eq_true rfl) dX11_next_30 ⟨Nat.le_of_ble_eq_true rfl, Nat.le_of_ble_eq_true rfl⟩ (fun v19 kp19 L19 E19 H locs hq19 hx19 TH hS => ?_)
        obtain ⟨⟨xc20, rfl, hxc20a, hxc20b⟩, rfl, rfl, hst19⟩ := hq19
        have hF := hF.tr hst19 (fun _ h => ⟨h, rfl⟩) (by decide) (by decide)
        have hmf21 : tw_fv E19 a0 7 = .ref xr1 := (hst19.1 a0 7 hm0 (by rw [hk0]; decide)).trans hmf14
        have hmf22 : tw_fv E19 xr1 0 = .int zfxc3_0_0 := (hst19.1 xr1 0 hmxr1 (by rw [hkxr1]; decide)).trans hmf15
        have hg1 : ss_ok E19 a0 := ss_ok_fr TH hst19 hm0 hk0 (by decide) (by decide) hg1
        have hgpxc13_0 : gz_ok E19 a0 := gz_ok_fr TH hst19 hm0 hk0 (by decide) (by decide) hgpxc13_0
        refine W.eq (g2 := F0 m 33 ls [.int xc20]) rfl ?_
        refine lv_if_ne (tgt := 38) hx hb dX11_next_33 (by decide) (fun hc23 => ?_) (fun hc23 => ?_)
        · have hf24 : ¬ (xc20.toInt = 0) := fun q => hc23 ((fa_eq _ _).mpr (by have : ((0 : Int32).toInt) = 0 := (by decide); omega))
          refine lv_aload_n hx hb dX11_next_38 rfl (lv_at hl 0 rfl) ?_
          refine lv_iload_n hx hb dX11_next_39 rfl (lv_at hl 1 rfl) ?_
          have hTo := TH.2.2
          refine tw_Vc (o := a0) (ci := 11) (n := 1) (post := (fun v kq Lq Eq => (∃ x : Int32, v = some (.int x) ∧ (-1) ≤ x.toInt ∧ x.toInt ≤ 11 ∧ gz_ok Eq a0 ∧ ss_ok Eq a0) ∧ tw_fr kp L [(1, 0), (9, 1), (10, 0), (11, 15)] [102, 110, 111, 112, 113, 114, 115, 140, 141, 142, 180] E19 Eq)) (As := [.int x1]) (rest := []) ⟨hx, hb, hml, hown, hB⟩ (fun sz => tX11_comeOfText l D cs a0 x1 hm0 hk0 hgpxc13_0 hg1 sz) cg_11_145_X11_comeOfText rfl rfl (by decide +kernel) ⟨Nat.le_of_ble_eq_true rfl, Nat.le_of_ble_eq_true rfl⟩ hK hN TH hS hA rfl hm0 hk0 (by decide) rfl hl.1 rfl (Nat.le_of_ble_eq_true rfl) dX11_next_40 ⟨Nat.le_of_ble_eq_true rfl, Nat.le_of_ble_eq_true rfl⟩ (fun v25 kp25 L25 E25 H locs hq25 hx25 TH hS => ?_)
          obtain ⟨⟨xc26, rfl, hxc26a, hxc26b, hgpxc26_0, hgpxc26_1⟩, hst25⟩ := hq25
          have hF := hF.tr hst25 (fun _ h => ⟨h, rfl⟩) (by decide) (by decide)
          have hex : ∀ a : Nat, a ∈ L0 → a ∈ L25 ∧ kp25 a = kp0 a := fun a h => ⟨(hx25 a (hex a h).1).1, ((hx25 a (hex a h).1).2).trans (hex a h).2⟩
          have hexb : ∀ a : Nat, a ∈ L → a ∈ L25 ∧ kp25 a = kp a := fun a h => ⟨(hx25 a (hexb a h).1).1, ((hx25 a (hexb a h).1).2).trans (hexb a h).2⟩
          have hmf27 : tw_fv E25 a0 7 = .ref xr1 := (hst25.1 a0 7 hm0 (by rw [hk0]; decide)).trans hmf21
          have hm25_a0 := (hx25 a0 hm0).1
          have hk25_a0 : kp25 a0 = 11 := ((hx25 a0 hm0).2).trans hk0
          have hm25_xr1 := (hx25 xr1 hmxr1).1
          have hk25_xr1 : kp25 xr1 = 1 := ((hx25 xr1 hmxr1).2).trans hkxr1
          refine W.eq (g2 := F0 m 43 ls [.int xc26]) rfl ?_
          exact tw_iret hx hb hr hlocks TH hS hex ⟨⟨_, rfl, hgpxc26_0, hgpxc26_1⟩, hF⟩ (Nat.le_of_ble_eq_true rfl) (Nat.le_of_ble_eq_true rfl) dX11_next_43
        · have hf28 : xc20.toInt = 0 := by have z := (fa_eq _ _).mp hc23; have : ((0 : Int32).toInt) = 0 := (by decide); omega
          refine lv_iconst (v := (-1)) hx hb dX11_next_36 (by decide) ?_
          exact tw_iret hx hb hr hlocks TH hS hex ⟨⟨_, rfl, hgpxc13_0, hg1⟩, hF⟩ (Nat.le_of_ble_eq_true rfl) (Nat.le_of_ble_eq_true rfl) dX11_next_37
set_option maxHeartbeats 4000000 in
set_option maxRecDepth 100000 in
theorem tX11_close (l : Launch) (D : va_G) (cs : Nat → ClassId) {kp : Nat → Nat} {L : List Nat} {E : Nat → va_E} (a0 : Nat) (hm0 : a0 ∈ L) (hk0 : kp a0 = 11) (hg0 : gz_ok E a0) (hg1 : ss_ok E a0) (sz : Nat) : Met l yX11_close (.code yX11_close cX11_close 2 (some .int) :: cx_big) { frames := 4, cells := 8, slots := 288, locals := 97 } (tw_P D cs kp L E [.ref a0] sz) (tw_Q D cs kp L (fun v kq Lq Eq => (∃ x : Int32, v = some (.int x) ∧ gz_ok Eq a0 ∧ ss_ok Eq a0) ∧ tw_fr kp L [(0, 0), (1, 0), (3, 0), (10, 0)] [101, 102, 110, 111, 112, 113, 114, 115, 135, 140, 141, 142, 180] E Eq) (va_A (va_pl L E) sz)) 8 288 (va_A (va_pl L E) sz) := by
  refine tw_ofW (by decide) (Nat.le_of_ble_eq_true rfl) ?_
  intro p e s m below meth c A ls hx hb hr hml hB hown hlocks hK hN hA TH hS hl
  have hown : s.vm.findClass "TreeMerge" = some m.cls := hown
  have hl : lv_has ls 2 [(0, .ref a0)] := hl
  obtain ⟨kp0, ekp⟩ : ∃ z, z = kp := ⟨_, rfl⟩
  obtain ⟨L0, eL⟩ : ∃ z, z = L := ⟨_, rfl⟩
  rw [show tw_Q D cs kp L = tw_Q D cs kp0 L0 by rw [ekp, eL]]
  have hex : ∀ a : Nat, a ∈ L0 → a ∈ L ∧ kp a = kp0 a := fun a h => ⟨by rw [← eL]; exact h, by rw [ekp]⟩
  have hF : tw_fr kp L [(0, 0), (1, 0), (3, 0), (10, 0)] [101, 102, 110, 111, 112, 113, 114, 115, 135, 140, 141, 142, 180] E E := tw_fr.rf
  have hexb : ∀ a : Nat, a ∈ L → a ∈ L ∧ kp a = kp a := fun a h => ⟨h, rfl⟩
  refine lv_aload_n hx hb dX11_close_0 rfl (lv_at hl 0 rfl) ?_
  refine tw_get (ci := 11) (C := RX11) (T := TX11) (N := 19) hx hb hB cx_inX11 hown hK TH hm0 hk0 rfl ⟨by decide, rfl⟩ 8 (by decide) cw_391 (fun _ h9 => h9) dX11_close_1 (fun hv => ?_)
  obtain ⟨xr1, hxr1, hmxr1, hkxr1⟩ : ∃ a : Nat, tw_fv E a0 8 = .ref a ∧ a ∈ L ∧ kp a = 0 := hv
  rw [hxr1]
  refine tw_get (ci := 0) (C := RX0) (T := TX0) (N := 4) hx hb hB cx_inX0 hown hK TH hmxr1 hkxr1 rfl ⟨by decide, rfl⟩ 0 (by decide) cw_257 (fun _ h9 => h9) dX11_close_4 (fun hv => ?_)
  obtain ⟨xi2, hxi2, hxi2a, hxi2b⟩ : ∃ x : Int32, tw_fv E xr1 0 = .int x ∧ 0 ≤ x.toInt ∧ x.toInt ≤ 1 := hv
  rw [hxi2]
  refine lv_if_eq (tgt := 42) hx hb dX11_close_7 (by decide) (fun hc3 => ?_) (fun hc3 => ?_)
  · have hf4 : xi2.toInt = 0 := by have z := (fa_eq _ _).mp hc3; have : ((0 : Int32).toInt) = 0 := (by decide); omega
    refine lv_iconst (v := (-1)) hx hb dX11_close_42 (by decide) ?_
    exact tw_iret hx hb hr hlocks TH hS hex ⟨⟨_, rfl, hg0, hg1⟩, hF⟩ (Nat.le_of_ble_eq_true rfl) (Nat.le_of_ble_eq_true rfl) dX11_close_43
  · have hf5 : ¬ (xi2.toInt = 0) := fun q => hc3 ((fa_eq _ _).mpr (by have : ((0 : Int32).toInt) = 0 := (by decide); omega))
    refine lv_aload_n hx hb dX11_close_10 rfl (lv_at hl 0 rfl) ?_
    refine tw_get (ci := 11) (C := RX11) (T := TX11) (N := 19) hx hb hB cx_inX11 hown hK TH hm0 hk0 rfl ⟨by decide, rfl⟩ 7 (by decide) cw_390 (fun _ h9 => h9) dX11_close_11 (fun hv => ?_)
    obtain ⟨xr6, hxr6, hmxr6, hkxr6⟩ : ∃ a : Nat, tw_fv E a0 7 = .ref a ∧ a ∈ L ∧ kp a = 1 := hv
    rw [hxr6]
    refine tw_Vc (o := xr6) (ci := 1) (n := 0) (post := (fun v kq Lq Eq => (∃ x : Int32, v = some (.int x) ∧ 0 ≤ x.toInt ∧ x.toInt ≤ 1 ∧ (∃ z0 : Int32, tw_fv Eq xr6 0 = .int z0 ∧ (x.toInt = 0 → z0.toInt ≤ 11))) ∧ kp = kq ∧ L = Lq ∧ E = Eq)) (As := []) (rest := []) ⟨hx, hb, hml, hown, hB⟩ (fun sz => tX1_isFull l D cs xr6 hmxr6 hkxr6 sz) cg_11_135_X1_isFull rfl rfl (by decide +kernel) ⟨Nat.le_of_ble_eq_true rfl, Nat.le_of_ble_eq_true rfl⟩ hK hN TH hS hA rfl hmxr6 hkxr6 (by decide) rfl hl.1 rfl (Nat.le_of_ble_eq_true rfl) dX11_close_14 ⟨Nat.le_of_ble_eq_true rfl, Nat.le_of_ble_eq_true rfl⟩ (fun v7 kp7 L7 E7 H locs hq7 hx7 TH hS => ?_)
    obtain ⟨⟨xc8, rfl, hxc8a, hxc8b, ⟨zfxc8_0_0, hzfxc8_0_0, hzpxc8_0⟩⟩, rfl, rfl, rfl⟩ := hq7
    obtain ⟨qzfxc8_0_0, hqzfxc8_0_0, hqzfxc8_0_0a, hqzfxc8_0_0b⟩ := tw_rd TH hmxr6 hkxr6 (by decide) (by decide) (k := 0) rfl
    have eqzfxc8_0_0 : qzfxc8_0_0 = zfxc8_0_0 := by have q := hqzfxc8_0_0.symm.trans hzfxc8_0_0; injection q
    rw [eqzfxc8_0_0] at hqzfxc8_0_0a hqzfxc8_0_0b
    refine W.eq (g2 := F0 m 17 ls [.int xc8]) rfl ?_
    refine lv_if_ne (tgt := 42) hx hb dX11_close_17 (by decide) (fun hc9 => ?_) (fun hc9 => ?_)
    · have hf10 : ¬ (xc8.toInt = 0) := fun q => hc9 ((fa_eq _ _).mpr (by have : ((0 : Int32).toInt) = 0 := (by decide); omega))
      refine lv_iconst (v := (-1)) hx hb dX11_close_42 (by decide) ?_
      exact tw_iret hx hb hr hlocks TH hS hex ⟨⟨_, rfl, hg0, hg1⟩, hF⟩ (Nat.le_of_ble_eq_true rfl) (Nat.le_of_ble_eq_true rfl) dX11_close_43
    · have hf11 : xc8.toInt = 0 := by have z := (fa_eq _ _).mp hc9; have : ((0 : Int32).toInt) = 0 := (by decide); omega
      refine lv_aload_n hx hb dX11_close_20 rfl (lv_at hl 0 rfl) ?_
      refine tw_get (ci := 11) (C := RX11) (T := TX11) (N := 19) hx hb hB cx_inX11 hown hK TH hm0 hk0 rfl ⟨by decide, rfl⟩ 8 (by decide) cw_391 (fun _ h9 => h9) dX11_close_21 (fun hv => ?_)
      rw [hxr1]
      refine tw_get (ci := 0) (C := RX0) (T := TX0) (N := 4) hx hb hB cx_inX0 hown hK TH hmxr1 hkxr1 rfl ⟨by decide, rfl⟩ 2 (by decide) cw_260 (fun _ h9 => h9) dX11_close_24 (fun hv => ?_)
      obtain ⟨xr12, hxr12, hmxr12, hkxr12⟩ : ∃ a : Nat, tw_fv E xr1 2 = .ref a ∧ a ∈ L ∧ kp a = 10 := hv
      rw [hxr12]
      refine lv_aload_n hx hb dX11_close_27 rfl (lv_at hl 0 rfl) ?_
      refine tw_get (ci := 11) (C := RX11) (T := TX11) (N := 19) hx hb hB cx_inX11 hown hK TH hm0 hk0 rfl ⟨by decide, rfl⟩ 1 (by decide) cw_384 (fun _ h9 => h9) dX11_close_28 (fun hv => ?_)
      obtain ⟨xr13, hxr13, hmxr13, hkxr13⟩ : ∃ a : Nat, tw_fv E a0 1 = .ref a ∧ a ∈ L ∧ kp a = 2 := hv
      rw [hxr13]
      have hgm14 : gm_ok E xr13 := by have q := hg0; unfold gz_ok at q; rw [tw_fa_of hxr13] at q; exact q
      refine lv_aload_n hx hb dX11_close_31 rfl (lv_at hl 0 rfl) ?_
      refine tw_get (ci := 11) (C := RX11) (T := TX11) (N := 19) hx hb hB cx_inX11 hown hK TH hm0 hk0 rfl ⟨by decide, rfl⟩ 5 (by decide) cw_388 (fun _ h9 => h9) dX11_close_32 (fun hv => ?_)
      obtain ⟨xr15, hxr15, hmxr15, hkxr15⟩ : ∃ a : Nat, tw_fv E a0 5 = .ref a ∧ a ∈ L ∧ kp a = 3 := hv
      rw [hxr15]
      refine tw_Vc (o := xr12) (ci := 10) (n := 2) (post := (fun v kq Lq Eq => (∃ x : Int32, v = some (.int x) ∧ (-1) ≤ x.toInt ∧ x.toInt ≤ 39 ∧ gm_ok Eq xr13) ∧ kp = kq ∧ L = Lq ∧ tw_fr kp L [(3, 0)] [101, 102, 135] E Eq)) (As := [.ref xr13, .ref xr15]) (rest := []) ⟨hx, hb, hml, hown, hB⟩ (fun sz => tX10_firstBreak l D cs xr12 xr13 xr15 hmxr12 hkxr12 hmxr13 hkxr13 hmxr15 hkxr15 hgm14 sz) cg_11_124_X10_firstBreak rfl rfl (by decide +kernel) ⟨Nat.le_of_ble_eq_true rfl, Nat.le_of_ble_eq_true rfl⟩ hK hN TH hS hA rfl hmxr12 hkxr12 (by decide) rfl hl.1 rfl (Nat.le_of_ble_eq_true rfl) dX11_close_35 ⟨Nat.le_of_ble_eq_true rfl, Nat.le_of_ble_eq_true rfl⟩ (fun v16 kp16 L16 E16 H locs hq16 hx16 TH hS => ?_)
      obtain ⟨⟨xc17, rfl, hxc17a, hxc17b, hgpxc17_0⟩, rfl, rfl, hst16⟩ := hq16
      have hF := hF.tr hst16 (fun _ h => ⟨h, rfl⟩) (by decide) (by decide)
      have hmf18 : tw_fv E16 a0 8 = .ref xr1 := (hst16.1 a0 8 hm0 (by rw [hk0]; decide)).trans hxr1
      have hmf19 : tw_fv E16 xr1 0 = .int xi2 := (hst16.1 xr1 0 hmxr1 (by rw [hkxr1]; decide)).trans hxi2
      have hmf20 : tw_fv E16 a0 7 = .ref xr6 := (hst16.1 a0 7 hm0 (by rw [hk0]; decide)).trans hxr6
      have hmf21 : tw_fv E16 xr6 0 = .int zfxc8_0_0 := (hst16.1 xr6 0 hmxr6 (by rw [hkxr6]; decide)).trans hzfxc8_0_0
      have hmf22 : tw_fv E16 xr1 2 = .ref xr12 := (hst16.1 xr1 2 hmxr1 (by rw [hkxr1]; decide)).trans hxr12
      have hmf23 : tw_fv E16 a0 1 = .ref xr13 := (hst16.1 a0 1 hm0 (by rw [hk0]; decide)).trans hxr13
      have hmf24 : tw_fv E16 a0 5 = .ref xr15 := (hst16.1 a0 5 hm0 (by rw [hk0]; decide)).trans hxr15
      have hg0 : gz_ok E16 a0 := gz_ok_fr TH hst16 hm0 hk0 (by decide) (by decide) hg0
      have hg1 : ss_ok E16 a0 := ss_ok_fr TH hst16 hm0 hk0 (by decide) (by decide) hg1
      refine W.eq (g2 := F0 m 38 ls [.int xc17]) rfl ?_
      refine lv_iconst (v := (-1)) hx hb dX11_close_38 (by decide) ?_
      refine lv_icmp_eq (tgt := 44) hx hb dX11_close_39 (by decide) (fun hc25 => ?_) (fun hc25 => ?_)
      · have hf26 : xc17.toInt = (-1) := by have z := (fa_eq _ _).mp hc25; have : (((-1) : Int32).toInt) = (-1) := (by decide); omega
        refine lv_aload_n hx hb dX11_close_44 rfl (lv_at hl 0 rfl) ?_
        refine tw_get (ci := 11) (C := RX11) (T := TX11) (N := 19) hx hb hB cx_inX11 hown hK TH hm0 hk0 rfl ⟨by decide, rfl⟩ 7 (by decide) cw_390 (fun _ h9 => h9) dX11_close_45 (fun hv => ?_)
        rw [hmf20]
        refine lv_aload_n hx hb dX11_close_48 rfl (lv_at hl 0 rfl) ?_
        refine tw_get (ci := 11) (C := RX11) (T := TX11) (N := 19) hx hb hB cx_inX11 hown hK TH hm0 hk0 rfl ⟨by decide, rfl⟩ 8 (by decide) cw_391 (fun _ h9 => h9) dX11_close_49 (fun hv => ?_)
        rw [hmf18]
        refine tw_get (ci := 0) (C := RX0) (T := TX0) (N := 4) hx hb hB cx_inX0 hown hK TH hmxr1 hkxr1 rfl ⟨by decide, rfl⟩ 2 (by decide) cw_260 (fun _ h9 => h9) dX11_close_52 (fun hv => ?_)
        rw [hmf22]
        refine lv_aload_n hx hb dX11_close_55 rfl (lv_at hl 0 rfl) ?_
        refine tw_get (ci := 11) (C := RX11) (T := TX11) (N := 19) hx hb hB cx_inX11 hown hK TH hm0 hk0 rfl ⟨by decide, rfl⟩ 8 (by decide) cw_391 (fun _ h9 => h9) dX11_close_56 (fun hv => ?_)
        rw [hmf18]
        refine tw_get (ci := 0) (C := RX0) (T := TX0) (N := 4) hx hb hB cx_inX0 hown hK TH hmxr1 hkxr1 rfl ⟨by decide, rfl⟩ 1 (by decide) cw_258 (fun _ h9 => h9) dX11_close_59 (fun hv => ?_)
        obtain ⟨xi27, hxi27, hxi27a, hxi27b⟩ : ∃ x : Int32, tw_fv E16 xr1 1 = .int x ∧ (-1) ≤ x.toInt ∧ x.toInt ≤ 11 := hv
        rw [hxi27]
        refine lv_iconst (v := (-1)) hx hb dX11_close_62 (by decide) ?_
        have hTo := TH.2.2
        refine tw_Vc (o := xr6) (ci := 1) (n := 3) (post := (fun v kq Lq Eq => (∃ x : Int32, v = some (.int x) ∧ (-1) ≤ x.toInt ∧ x.toInt ≤ 11) ∧ tw_fr kp L [(1, 0), (10, 0)] [102, 110, 111, 112, 113, 114, 115, 140, 141, 142] E16 Eq)) (As := [.ref xr12, .int xi27, .int (-1)]) (rest := []) ⟨hx, hb, hml, hown, hB⟩ (fun sz => tX1_add l D cs xr6 xr12 xi27 ((-1) : Int32) hmxr6 hkxr6 hmxr12 hkxr12 sz) cg_11_204_X1_add rfl rfl (by decide +kernel) ⟨Nat.le_of_ble_eq_true rfl, Nat.le_of_ble_eq_true rfl⟩ hK hN TH hS hA rfl hmxr6 hkxr6 (by decide) rfl hl.1 rfl (Nat.le_of_ble_eq_true rfl) dX11_close_63 ⟨Nat.le_of_ble_eq_true rfl, Nat.le_of_ble_eq_true rfl⟩ (fun v28 kp28 L28 E28 H locs hq28 hx28 TH hS => ?_)
        obtain ⟨⟨xc29, rfl, hxc29a, hxc29b⟩, hst28⟩ := hq28
        have hF := hF.tr hst28 (fun _ h => ⟨h, rfl⟩) (by decide) (by decide)
        have hex : ∀ a : Nat, a ∈ L0 → a ∈ L28 ∧ kp28 a = kp0 a := fun a h => ⟨(hx28 a (hex a h).1).1, ((hx28 a (hex a h).1).2).trans (hex a h).2⟩
        have hexb : ∀ a : Nat, a ∈ L → a ∈ L28 ∧ kp28 a = kp a := fun a h => ⟨(hx28 a (hexb a h).1).1, ((hx28 a (hexb a h).1).2).trans (hexb a h).2⟩
        have hg0 : gz_ok E28 a0 := gz_ok_fo hTo hst28 hm0 hk0 (by decide) (by decide) hg0
        have hg1 : ss_ok E28 a0 := ss_ok_fo hTo hst28 hm0 hk0 (by decide) (by decide) hg1
        have hmf30 : tw_fv E28 a0 8 = .ref xr1 := (hst28.1 a0 8 hm0 (by rw [hk0]; decide)).trans hmf18
        have hmf31 : tw_fv E28 xr1 0 = .int xi2 := (hst28.1 xr1 0 hmxr1 (by rw [hkxr1]; decide)).trans hmf19
        have hmf32 : tw_fv E28 a0 7 = .ref xr6 := (hst28.1 a0 7 hm0 (by rw [hk0]; decide)).trans hmf20
        have hmf33 : tw_fv E28 xr1 2 = .ref xr12 := (hst28.1 xr1 2 hmxr1 (by rw [hkxr1]; decide)).trans hmf22
        have hmf34 : tw_fv E28 a0 1 = .ref xr13 := (hst28.1 a0 1 hm0 (by rw [hk0]; decide)).trans hmf23
        have hmf35 : tw_fv E28 a0 5 = .ref xr15 := (hst28.1 a0 5 hm0 (by rw [hk0]; decide)).trans hmf24
        have hmf36 : tw_fv E28 xr1 1 = .int xi27 := (hst28.1 xr1 1 hmxr1 (by rw [hkxr1]; decide)).trans hxi27
        have hm28_a0 := (hx28 a0 hm0).1
        have hk28_a0 : kp28 a0 = 11 := ((hx28 a0 hm0).2).trans hk0
        have hm28_xr1 := (hx28 xr1 hmxr1).1
        have hk28_xr1 : kp28 xr1 = 0 := ((hx28 xr1 hmxr1).2).trans hkxr1
        have hm28_xr6 := (hx28 xr6 hmxr6).1
        have hk28_xr6 : kp28 xr6 = 1 := ((hx28 xr6 hmxr6).2).trans hkxr6
        have hm28_xr12 := (hx28 xr12 hmxr12).1
        have hk28_xr12 : kp28 xr12 = 10 := ((hx28 xr12 hmxr12).2).trans hkxr12
        have hm28_xr13 := (hx28 xr13 hmxr13).1
        have hk28_xr13 : kp28 xr13 = 2 := ((hx28 xr13 hmxr13).2).trans hkxr13
        have hm28_xr15 := (hx28 xr15 hmxr15).1
        have hk28_xr15 : kp28 xr15 = 3 := ((hx28 xr15 hmxr15).2).trans hkxr15
        refine W.eq (g2 := F0 m 66 ls [.int xc29]) rfl ?_
        refine lv_istore_n (lv' := [(1, .int xc29), (0, .ref a0)]) hx hb dX11_close_66 rfl hl (by decide) rfl (fun ls hl => ?_)
        refine lv_aload_n hx hb dX11_close_67 rfl (lv_at hl 1 rfl) ?_
        refine lv_iload_n hx hb dX11_close_68 rfl (lv_at hl 0 rfl) ?_
        refine tw_Vc (o := a0) (ci := 11) (n := 1) (post := (fun v kq Lq Eq => v = none ∧ kp28 = kq ∧ L28 = Lq ∧ tw_fr kp28 L28 [(0, 0)] [180] E28 Eq)) (As := [.int xc29]) (rest := []) ⟨hx, hb, hml, hown, hB⟩ (fun sz => tX11_endDraft l D cs a0 xc29 hm28_a0 hk28_a0 (by omega) (by omega) sz) cg_11_217_X11_endDraft rfl rfl (by decide +kernel) ⟨Nat.le_of_ble_eq_true rfl, Nat.le_of_ble_eq_true rfl⟩ hK hN TH hS hA rfl hm28_a0 hk28_a0 (by decide) rfl hl.1 rfl (Nat.le_of_ble_eq_true rfl) dX11_close_69 ⟨Nat.le_of_ble_eq_true rfl, Nat.le_of_ble_eq_true rfl⟩ (fun v37 kp37 L37 E37 H locs hq37 hx37 TH hS => ?_)
        obtain ⟨rfl, rfl, rfl, hst37⟩ := hq37
        have hF := hF.tr hst37 hexb (by decide) (by decide)
        have hmf39 : tw_fv E37 a0 8 = .ref xr1 := (hst37.1 a0 8 hm28_a0 (by rw [hk28_a0]; decide)).trans hmf30
        have hmf40 : tw_fv E37 a0 7 = .ref xr6 := (hst37.1 a0 7 hm28_a0 (by rw [hk28_a0]; decide)).trans hmf32
        have hmf41 : tw_fv E37 xr1 2 = .ref xr12 := (hst37.1 xr1 2 hm28_xr1 (by rw [hk28_xr1]; decide)).trans hmf33
        have hmf42 : tw_fv E37 a0 1 = .ref xr13 := (hst37.1 a0 1 hm28_a0 (by rw [hk28_a0]; decide)).trans hmf34
        have hmf43 : tw_fv E37 a0 5 = .ref xr15 := (hst37.1 a0 5 hm28_a0 (by rw [hk28_a0]; decide)).trans hmf35
        have hmf44 : tw_fv E37 xr1 1 = .int xi27 := (hst37.1 xr1 1 hm28_xr1 (by rw [hk28_xr1]; decide)).trans hmf36
        have hg0 : gz_ok E37 a0 := gz_ok_fr TH hst37 hm28_a0 hk28_a0 (by decide) (by decide) hg0
        have hg1 : ss_ok E37 a0 := ss_ok_fr TH hst37 hm28_a0 hk28_a0 (by decide) (by decide) hg1
        refine W.eq (g2 := F0 m 72 ls []) rfl ?_
        refine lv_iload_n hx hb dX11_close_72 rfl (lv_at hl 0 rfl) ?_
        exact tw_iret hx hb hr hlocks TH hS hex ⟨⟨_, rfl, hg0, hg1⟩, hF⟩ (Nat.le_of_ble_eq_true rfl) (Nat.le_of_ble_eq_true rfl) dX11_close_73
      · have hf45 : ¬ (xc17.toInt = (-1)) := fun q => hc25 ((fa_eq _ _).mpr (by have : (((-1) : Int32).toInt) = (-1) := (by decide); omega))
        refine lv_iconst (v := (-1)) hx hb dX11_close_42 (by decide) ?_
        exact tw_iret hx hb hr hlocks TH hS hex ⟨⟨_, rfl, hg0, hg1⟩, hF⟩ (Nat.le_of_ble_eq_true rfl) (Nat.le_of_ble_eq_true rfl) dX11_close_43
set_option maxHeartbeats 4000000 in
set_option maxRecDepth 100000 in
theorem tX11_mergeOn (l : Launch) (D : va_G) (cs : Nat → ClassId) {kp : Nat → Nat} {L : List Nat} {E : Nat → va_E} (a0 : Nat) (a1 : Nat) (x2 : Int32) (x3 : Int32) (x4 : Int32) (x5 : Int32) (hm0 : a0 ∈ L) (hk0 : kp a0 = 11) (hm1 : a1 ∈ L) (hk1 : kp a1 = 10) (hg0 : gz_ok E a0) (hg1 : ss_ok E a0) (sz : Nat) : Met l yX11_mergeOn (.code yX11_mergeOn cX11_mergeOn 7 (some .int) :: cx_big) { frames := 6, cells := 8, slots := 288, locals := 151 } (tw_P D cs kp L E [.ref a0, .ref a1, .int x2, .int x3, .int x4, .int x5] sz) (tw_Q D cs kp L (fun v kq Lq Eq => (∃ x : Int32, v = some (.int x) ∧ gz_ok Eq a0 ∧ ss_ok Eq a0) ∧ tw_fr kp L [(1, 0), (3, 0), (5, 10), (5, 12), (8, 0), (8, 1), (10, 0), (11, 17)] [101, 102, 110, 111, 112, 113, 114, 115, 135, 140, 141, 142, 160, 161, 162, 163, 164, 165, 166, 167, 170, 171, 181] E Eq) (va_A (va_pl L E) sz)) 8 288 (va_A (va_pl L E) sz) := by
  refine tw_ofW (by decide) (Nat.le_of_ble_eq_true rfl) ?_
  intro p e s m below meth c A ls hx hb hr hml hB hown hlocks hK hN hA TH hS hl
  have hown : s.vm.findClass "TreeMerge" = some m.cls := hown
  have hl : lv_has ls 7 [(0, .ref a0), (1, .ref a1), (2, .int x2), (3, .int x3), (4, .int x4), (5, .int x5)] := hl
  obtain ⟨kp0, ekp⟩ : ∃ z, z = kp := ⟨_, rfl⟩
  obtain ⟨L0, eL⟩ : ∃ z, z = L := ⟨_, rfl⟩
  rw [show tw_Q D cs kp L = tw_Q D cs kp0 L0 by rw [ekp, eL]]
  have hex : ∀ a : Nat, a ∈ L0 → a ∈ L ∧ kp a = kp0 a := fun a h => ⟨by rw [← eL]; exact h, by rw [ekp]⟩
  have hF : tw_fr kp L [(1, 0), (3, 0), (5, 10), (5, 12), (8, 0), (8, 1), (10, 0), (11, 17)] [101, 102, 110, 111, 112, 113, 114, 115, 135, 140, 141, 142, 160, 161, 162, 163, 164, 165, 166, 167, 170, 171, 181] E E := tw_fr.rf
  have hexb : ∀ a : Nat, a ∈ L → a ∈ L ∧ kp a = kp a := fun a h => ⟨h, rfl⟩
  refine lv_aload_n hx hb dX11_mergeOn_0 rfl (lv_at hl 1 rfl) ?_
  refine lv_ifnull hx hb dX11_mergeOn_1 ?_
  refine lv_aload_n hx hb dX11_mergeOn_4 rfl (lv_at hl 0 rfl) ?_
  refine tw_get (ci := 11) (C := RX11) (T := TX11) (N := 19) hx hb hB cx_inX11 hown hK TH hm0 hk0 rfl ⟨by decide, rfl⟩ 7 (by decide) cw_390 (fun _ h9 => h9) dX11_mergeOn_5 (fun hv => ?_)
  obtain ⟨xr1, hxr1, hmxr1, hkxr1⟩ : ∃ a : Nat, tw_fv E a0 7 = .ref a ∧ a ∈ L ∧ kp a = 1 := hv
  rw [hxr1]
  refine lv_iload_n hx hb dX11_mergeOn_8 rfl (lv_at hl 2 rfl) ?_
  refine tw_Vc (o := xr1) (ci := 1) (n := 1) (post := (fun v kq Lq Eq => (∃ x : Int32, v = some (.int x) ∧ 0 ≤ x.toInt ∧ x.toInt ≤ 1 ∧ (x.toInt ≠ 0 → 0 ≤ x2.toInt ∧ x2.toInt ≤ 11)) ∧ kp = kq ∧ L = Lq ∧ E = Eq)) (As := [.int x2]) (rest := []) ⟨hx, hb, hml, hown, hB⟩ (fun sz => tX1_has l D cs xr1 x2 hmxr1 hkxr1 sz) cg_11_165_X1_has rfl rfl (by decide +kernel) ⟨Nat.le_of_ble_eq_true rfl, Nat.le_of_ble_eq_true rfl⟩ hK hN TH hS hA rfl hmxr1 hkxr1 (by decide) rfl hl.1 rfl (Nat.le_of_ble_eq_true rfl) dX11_mergeOn_9 ⟨Nat.le_of_ble_eq_true rfl, Nat.le_of_ble_eq_true rfl⟩ (fun v2 kp2 L2 E2 H locs hq2 hx2 TH hS => ?_)
  obtain ⟨⟨xc3, rfl, hxc3a, hxc3b, hpoxc3_0⟩, rfl, rfl, rfl⟩ := hq2
  refine W.eq (g2 := F0 m 12 ls [.int xc3]) rfl ?_
  refine lv_if_eq (tgt := 26) hx hb dX11_mergeOn_12 (by decide) (fun hc4 => ?_) (fun hc4 => ?_)
  · have hf5 : xc3.toInt = 0 := by have z := (fa_eq _ _).mp hc4; have : ((0 : Int32).toInt) = 0 := (by decide); omega
    refine lv_iconst (v := (-1)) hx hb dX11_mergeOn_26 (by decide) ?_
    exact tw_iret hx hb hr hlocks TH hS hex ⟨⟨_, rfl, hg0, hg1⟩, hF⟩ (Nat.le_of_ble_eq_true rfl) (Nat.le_of_ble_eq_true rfl) dX11_mergeOn_27
  · have hf6 : ¬ (xc3.toInt = 0) := fun q => hc4 ((fa_eq _ _).mpr (by have : ((0 : Int32).toInt) = 0 := (by decide); omega))
    refine lv_aload_n hx hb dX11_mergeOn_15 rfl (lv_at hl 0 rfl) ?_
    refine tw_get (ci := 11) (C := RX11) (T := TX11) (N := 19) hx hb hB cx_inX11 hown hK TH hm0 hk0 rfl ⟨by decide, rfl⟩ 7 (by decide) cw_390 (fun _ h9 => h9) dX11_mergeOn_16 (fun hv => ?_)
    rw [hxr1]
    refine lv_iload_n hx hb dX11_mergeOn_19 rfl (lv_at hl 3 rfl) ?_
    refine tw_Vc (o := xr1) (ci := 1) (n := 1) (post := (fun v kq Lq Eq => (∃ x : Int32, v = some (.int x) ∧ 0 ≤ x.toInt ∧ x.toInt ≤ 1 ∧ (x.toInt ≠ 0 → 0 ≤ x3.toInt ∧ x3.toInt ≤ 11)) ∧ kp = kq ∧ L = Lq ∧ E = Eq)) (As := [.int x3]) (rest := []) ⟨hx, hb, hml, hown, hB⟩ (fun sz => tX1_has l D cs xr1 x3 hmxr1 hkxr1 sz) cg_11_165_X1_has rfl rfl (by decide +kernel) ⟨Nat.le_of_ble_eq_true rfl, Nat.le_of_ble_eq_true rfl⟩ hK hN TH hS hA rfl hmxr1 hkxr1 (by decide) rfl hl.1 rfl (Nat.le_of_ble_eq_true rfl) dX11_mergeOn_20 ⟨Nat.le_of_ble_eq_true rfl, Nat.le_of_ble_eq_true rfl⟩ (fun v7 kp7 L7 E7 H locs hq7 hx7 TH hS => ?_)
    obtain ⟨⟨xc8, rfl, hxc8a, hxc8b, hpoxc8_0⟩, rfl, rfl, rfl⟩ := hq7
    refine W.eq (g2 := F0 m 23 ls [.int xc8]) rfl ?_
    refine lv_if_ne (tgt := 28) hx hb dX11_mergeOn_23 (by decide) (fun hc9 => ?_) (fun hc9 => ?_)
    · have hf10 : ¬ (xc8.toInt = 0) := fun q => hc9 ((fa_eq _ _).mpr (by have : ((0 : Int32).toInt) = 0 := (by decide); omega))
      refine lv_aload_n hx hb dX11_mergeOn_28 rfl (lv_at hl 0 rfl) ?_
      refine lv_aload_n hx hb dX11_mergeOn_29 rfl (lv_at hl 1 rfl) ?_
      refine lv_iload_n hx hb dX11_mergeOn_30 rfl (lv_at hl 2 rfl) ?_
      refine lv_iload_n hx hb dX11_mergeOn_31 rfl (lv_at hl 3 rfl) ?_
      refine tw_Vc (o := a0) (ci := 11) (n := 3) (post := (fun v kq Lq Eq => (∃ x : Int32, v = some (.int x) ∧ 0 ≤ x.toInt ∧ x.toInt ≤ 1 ∧ gz_ok Eq a0) ∧ kp = kq ∧ L = Lq ∧ tw_fr kp L [(3, 0), (5, 10), (5, 12), (8, 0), (8, 1), (10, 0)] [101, 102, 110, 111, 112, 113, 114, 135, 160, 161, 162, 163, 164, 165, 166, 167, 170, 171] E Eq)) (As := [.ref a1, .int x2, .int x3]) (rest := []) ⟨hx, hb, hml, hown, hB⟩ (fun sz => tX11_runMerging l D cs a0 a1 x2 x3 hm0 hk0 hm1 hk1 hg0 sz) cg_11_278_X11_runMerging rfl rfl (by decide +kernel) ⟨Nat.le_of_ble_eq_true rfl, Nat.le_of_ble_eq_true rfl⟩ hK hN TH hS hA rfl hm0 hk0 (by decide) rfl hl.1 rfl (Nat.le_of_ble_eq_true rfl) dX11_mergeOn_32 ⟨Nat.le_of_ble_eq_true rfl, Nat.le_of_ble_eq_true rfl⟩ (fun v11 kp11 L11 E11 H locs hq11 hx11 TH hS => ?_)
      obtain ⟨⟨xc12, rfl, hxc12a, hxc12b, hgpxc12_0⟩, rfl, rfl, hst11⟩ := hq11
      have hF := hF.tr hst11 (fun _ h => ⟨h, rfl⟩) (by decide) (by decide)
      have hmf13 : tw_fv E11 a0 7 = .ref xr1 := (hst11.1 a0 7 hm0 (by rw [hk0]; decide)).trans hxr1
      have hg1 : ss_ok E11 a0 := ss_ok_fr TH hst11 hm0 hk0 (by decide) (by decide) hg1
      refine W.eq (g2 := F0 m 35 ls [.int xc12]) rfl ?_
      refine lv_istore (lv' := [(6, .int xc12), (0, .ref a0), (1, .ref a1), (2, .int x2), (3, .int x3), (4, .int x4), (5, .int x5)]) hx hb dX11_mergeOn_35 hl (by decide) rfl (fun ls hl => ?_)
      refine lv_aload_n hx hb dX11_mergeOn_37 rfl (lv_at hl 1 rfl) ?_
      refine lv_aload_n hx hb dX11_mergeOn_38 rfl (lv_at hl 1 rfl) ?_
      refine tw_get (ci := 11) (C := RX11) (T := TX11) (N := 19) hx hb hB cx_inX11 hown hK TH hm0 hk0 rfl ⟨by decide, rfl⟩ 10 (by decide) cw_393 (fun _ h9 => h9) dX11_mergeOn_39 (fun hv => ?_)
      obtain ⟨xr14, hxr14, hmxr14, hkxr14⟩ : ∃ a : Nat, tw_fv E11 a0 10 = .ref a ∧ a ∈ L ∧ kp a = 5 := hv
      rw [hxr14]
      refine lv_aload_n hx hb dX11_mergeOn_42 rfl (lv_at hl 1 rfl) ?_
      refine tw_get (ci := 11) (C := RX11) (T := TX11) (N := 19) hx hb hB cx_inX11 hown hK TH hm0 hk0 rfl ⟨by decide, rfl⟩ 16 (by decide) cw_399 (fun _ h9 => h9) dX11_mergeOn_43 (fun hv => ?_)
      obtain ⟨xr15, hxr15, hmxr15, hkxr15⟩ : ∃ a : Nat, tw_fv E11 a0 16 = .ref a ∧ a ∈ L ∧ kp a = 181 := hv
      rw [hxr15]
      refine tw_Vc (o := xr14) (ci := 5) (n := 1) (post := (fun v kq Lq Eq => (∃ x : Int32, v = some (.int x) ∧ 0 ≤ x.toInt ∧ x.toInt ≤ 450) ∧ kp = kq ∧ L = Lq ∧ tw_fr kp L [] [181] E11 Eq)) (As := [.ref xr15]) (rest := [.ref a0]) ⟨hx, hb, hml, hown, hB⟩ (fun sz => tX5_tellInto l D cs xr14 xr15 hmxr14 hkxr14 hmxr15 hkxr15 sz) cg_11_305_X5_tellInto rfl rfl (by decide +kernel) ⟨Nat.le_of_ble_eq_true rfl, Nat.le_of_ble_eq_true rfl⟩ hK hN TH hS hA rfl hmxr14 hkxr14 (by decide) rfl hl.1 rfl (Nat.le_of_ble_eq_true rfl) dX11_mergeOn_46 ⟨Nat.le_of_ble_eq_true rfl, Nat.le_of_ble_eq_true rfl⟩ (fun v16 kp16 L16 E16 H locs hq16 hx16 TH hS => ?_)
      obtain ⟨⟨xc17, rfl, hxc17a, hxc17b⟩, rfl, rfl, hst16⟩ := hq16
      have hF := hF.tr hst16 (fun _ h => ⟨h, rfl⟩) (by decide) (by decide)
      have hmf18 : tw_fv E16 a0 7 = .ref xr1 := (hst16.1 a0 7 hm0 (by rw [hk0]; decide)).trans hmf13
      have hmf19 : tw_fv E16 a0 10 = .ref xr14 := (hst16.1 a0 10 hm0 (by rw [hk0]; decide)).trans hxr14
      have hmf20 : tw_fv E16 a0 16 = .ref xr15 := (hst16.1 a0 16 hm0 (by rw [hk0]; decide)).trans hxr15
      have hg1 : ss_ok E16 a0 := ss_ok_fr TH hst16 hm0 hk0 (by decide) (by decide) hg1
      have hgpxc12_0 : gz_ok E16 a0 := gz_ok_fr TH hst16 hm0 hk0 (by decide) (by decide) hgpxc12_0
      refine W.eq (g2 := F0 m 49 ls [.int xc17, .ref a0]) rfl ?_
      refine tw_put (ci := 11) (v := .int xc17) (ty := .int) (C := RX11) (T := TX11) (N := 19) hx hb hB cx_inX11 tyX11 tyX11_ok nmX11 hown hK TH hS hm0 hk0 rfl ⟨by decide, rfl⟩ 17 (by decide) cw_400 (fun _ h9 => h9) rfl (by decide +kernel) rfl rfl ⟨_, rfl, (show 0 ≤ Int32.toInt xc17 from by  omega), (show Int32.toInt xc17 ≤ 450 from by  omega)⟩ dX11_mergeOn_49 (fun H locs E21 TH hS hmf25 hp22 hp23 => ?_)
      have hst24 : tw_fr kp L [(11, 17)] [] E16 E21 := tw_fr.put tw_fr.rf (fun _ => hk0) (by decide) hp22 hp23 (by decide)
      have hF := hF.tr hst24 (fun _ h => ⟨h, rfl⟩) (by decide) (by decide)
      have hmf26 : tw_fv E21 a0 7 = .ref xr1 := (hst24.1 a0 7 hm0 (by rw [hk0]; decide)).trans hmf18
      have hmf27 : tw_fv E21 a0 10 = .ref xr14 := (hst24.1 a0 10 hm0 (by rw [hk0]; decide)).trans hmf19
      have hmf28 : tw_fv E21 a0 16 = .ref xr15 := (hst24.1 a0 16 hm0 (by rw [hk0]; decide)).trans hmf20
      have hg1 : ss_ok E21 a0 := ss_ok_fr TH hst24 hm0 hk0 (by decide) (by decide) hg1
      have hgpxc12_0 : gz_ok E21 a0 := gz_ok_fr TH hst24 hm0 hk0 (by decide) (by decide) hgpxc12_0
      refine lv_iload hx hb dX11_mergeOn_52 (lv_at hl 0 rfl) ?_
      refine lv_if_eq (tgt := 78) hx hb dX11_mergeOn_54 (by decide) (fun hc29 => ?_) (fun hc29 => ?_)
      · have hf30 : xc12.toInt = 0 := by have z := (fa_eq _ _).mp hc29; have : ((0 : Int32).toInt) = 0 := (by decide); omega
        refine lv_iconst (v := (-1)) hx hb dX11_mergeOn_78 (by decide) ?_
        exact tw_iret hx hb hr hlocks TH hS hex ⟨⟨_, rfl, hgpxc12_0, hg1⟩, hF⟩ (Nat.le_of_ble_eq_true rfl) (Nat.le_of_ble_eq_true rfl) dX11_mergeOn_79
      · have hf31 : ¬ (xc12.toInt = 0) := fun q => hc29 ((fa_eq _ _).mpr (by have : ((0 : Int32).toInt) = 0 := (by decide); omega))
        refine lv_aload_n hx hb dX11_mergeOn_57 rfl (lv_at hl 1 rfl) ?_
        refine tw_get (ci := 11) (C := RX11) (T := TX11) (N := 19) hx hb hB cx_inX11 hown hK TH hm0 hk0 rfl ⟨by decide, rfl⟩ 7 (by decide) cw_390 (fun _ h9 => h9) dX11_mergeOn_58 (fun hv => ?_)
        rw [hmf26]
        refine lv_aload_n hx hb dX11_mergeOn_61 rfl (lv_at hl 1 rfl) ?_
        refine tw_get (ci := 11) (C := RX11) (T := TX11) (N := 19) hx hb hB cx_inX11 hown hK TH hm0 hk0 rfl ⟨by decide, rfl⟩ 10 (by decide) cw_393 (fun _ h9 => h9) dX11_mergeOn_62 (fun hv => ?_)
        rw [hmf27]
        refine tw_get (ci := 5) (C := RX5) (T := TX5) (N := 15) hx hb hB cx_inX5 hown hK TH hmxr14 hkxr14 rfl ⟨by decide, rfl⟩ 3 (by decide) cw_322 (fun _ h9 => h9) dX11_mergeOn_65 (fun hv => ?_)
        obtain ⟨xr32, hxr32, hmxr32, hkxr32⟩ : ∃ a : Nat, tw_fv E21 xr14 3 = .ref a ∧ a ∈ L ∧ kp a = 10 := hv
        rw [hxr32]
        refine lv_iload hx hb dX11_mergeOn_68 (lv_at hl 5 rfl) ?_
        refine lv_iload hx hb dX11_mergeOn_70 (lv_at hl 6 rfl) ?_
        have hTo := TH.2.2
        refine tw_Vc (o := xr1) (ci := 1) (n := 3) (post := (fun v kq Lq Eq => (∃ x : Int32, v = some (.int x) ∧ (-1) ≤ x.toInt ∧ x.toInt ≤ 11) ∧ tw_fr kp L [(1, 0), (10, 0)] [102, 110, 111, 112, 113, 114, 115, 140, 141, 142] E21 Eq)) (As := [.ref xr32, .int x4, .int x5]) (rest := []) ⟨hx, hb, hml, hown, hB⟩ (fun sz => tX1_add l D cs xr1 xr32 x4 x5 hmxr1 hkxr1 hmxr32 hkxr32 sz) cg_11_204_X1_add rfl rfl (by decide +kernel) ⟨Nat.le_of_ble_eq_true rfl, Nat.le_of_ble_eq_true rfl⟩ hK hN TH hS hA rfl hmxr1 hkxr1 (by decide) rfl hl.1 rfl (Nat.le_of_ble_eq_true rfl) dX11_mergeOn_72 ⟨Nat.le_of_ble_eq_true rfl, Nat.le_of_ble_eq_true rfl⟩ (fun v33 kp33 L33 E33 H locs hq33 hx33 TH hS => ?_)
        obtain ⟨⟨xc34, rfl, hxc34a, hxc34b⟩, hst33⟩ := hq33
        have hF := hF.tr hst33 (fun _ h => ⟨h, rfl⟩) (by decide) (by decide)
        have hex : ∀ a : Nat, a ∈ L0 → a ∈ L33 ∧ kp33 a = kp0 a := fun a h => ⟨(hx33 a (hex a h).1).1, ((hx33 a (hex a h).1).2).trans (hex a h).2⟩
        have hexb : ∀ a : Nat, a ∈ L → a ∈ L33 ∧ kp33 a = kp a := fun a h => ⟨(hx33 a (hexb a h).1).1, ((hx33 a (hexb a h).1).2).trans (hexb a h).2⟩
        have hg1 : ss_ok E33 a0 := ss_ok_fo hTo hst33 hm0 hk0 (by decide) (by decide) hg1
        have hgpxc12_0 : gz_ok E33 a0 := gz_ok_fo hTo hst33 hm0 hk0 (by decide) (by decide) hgpxc12_0
        have hmf35 : tw_fv E33 a0 7 = .ref xr1 := (hst33.1 a0 7 hm0 (by rw [hk0]; decide)).trans hmf26
        have hmf36 : tw_fv E33 a0 10 = .ref xr14 := (hst33.1 a0 10 hm0 (by rw [hk0]; decide)).trans hmf27
        have hmf37 : tw_fv E33 a0 16 = .ref xr15 := (hst33.1 a0 16 hm0 (by rw [hk0]; decide)).trans hmf28
        have hmf38 : tw_fv E33 a0 17 = .int xc17 := (hst33.1 a0 17 hm0 (by rw [hk0]; decide)).trans hmf25
        have hmf39 : tw_fv E33 xr14 3 = .ref xr32 := (hst33.1 xr14 3 hmxr14 (by rw [hkxr14]; decide)).trans hxr32
        have hm33_a0 := (hx33 a0 hm0).1
        have hk33_a0 : kp33 a0 = 11 := ((hx33 a0 hm0).2).trans hk0
        have hm33_a1 := (hx33 a1 hm1).1
        have hk33_a1 : kp33 a1 = 10 := ((hx33 a1 hm1).2).trans hk1
        have hm33_xr1 := (hx33 xr1 hmxr1).1
        have hk33_xr1 : kp33 xr1 = 1 := ((hx33 xr1 hmxr1).2).trans hkxr1
        have hm33_xr14 := (hx33 xr14 hmxr14).1
        have hk33_xr14 : kp33 xr14 = 5 := ((hx33 xr14 hmxr14).2).trans hkxr14
        have hm33_xr15 := (hx33 xr15 hmxr15).1
        have hk33_xr15 : kp33 xr15 = 181 := ((hx33 xr15 hmxr15).2).trans hkxr15
        have hm33_xr32 := (hx33 xr32 hmxr32).1
        have hk33_xr32 : kp33 xr32 = 10 := ((hx33 xr32 hmxr32).2).trans hkxr32
        refine W.eq (g2 := F0 m 75 ls [.int xc34]) rfl ?_
        refine lv_goto (tgt := 79) hx hb dX11_mergeOn_75 (by decide) ?_
        exact tw_iret hx hb hr hlocks TH hS hex ⟨⟨_, rfl, hgpxc12_0, hg1⟩, hF⟩ (Nat.le_of_ble_eq_true rfl) (Nat.le_of_ble_eq_true rfl) dX11_mergeOn_79
    · have hf40 : xc8.toInt = 0 := by have z := (fa_eq _ _).mp hc9; have : ((0 : Int32).toInt) = 0 := (by decide); omega
      refine lv_iconst (v := (-1)) hx hb dX11_mergeOn_26 (by decide) ?_
      exact tw_iret hx hb hr hlocks TH hS hex ⟨⟨_, rfl, hg0, hg1⟩, hF⟩ (Nat.le_of_ble_eq_true rfl) (Nat.le_of_ble_eq_true rfl) dX11_mergeOn_27
set_option maxHeartbeats 4000000 in
set_option maxRecDepth 100000 in
theorem tX11_mergeOn_v0 (l : Launch) (D : va_G) (cs : Nat → ClassId) {kp : Nat → Nat} {L : List Nat} {E : Nat → va_E} (a0 : Nat) (x2 : Int32) (x3 : Int32) (x4 : Int32) (x5 : Int32) (hm0 : a0 ∈ L) (hk0 : kp a0 = 11) (hg0 : gz_ok E a0) (hg1 : ss_ok E a0) (sz : Nat) : Met l yX11_mergeOn (.code yX11_mergeOn cX11_mergeOn 7 (some .int) :: cx_big) { frames := 0, cells := 0, slots := 0, locals := 0 } (tw_P D cs kp L E [.ref a0, .null, .int x2, .int x3, .int x4, .int x5] sz) (tw_Q D cs kp L (fun v kq Lq Eq => (∃ x : Int32, v = some (.int x) ∧ gz_ok Eq a0 ∧ ss_ok Eq a0) ∧ kp = kq ∧ L = Lq ∧ E = Eq) (va_A (va_pl L E) sz)) 0 0 (va_A (va_pl L E) sz) := by
  refine tw_ofW (by decide) (Nat.le_of_ble_eq_true rfl) ?_
  intro p e s m below meth c A ls hx hb hr hml hB hown hlocks hK hN hA TH hS hl
  have hown : s.vm.findClass "TreeMerge" = some m.cls := hown
  have hl : lv_has ls 7 [(0, .ref a0), (1, .null), (2, .int x2), (3, .int x3), (4, .int x4), (5, .int x5)] := hl
  obtain ⟨kp0, ekp⟩ : ∃ z, z = kp := ⟨_, rfl⟩
  obtain ⟨L0, eL⟩ : ∃ z, z = L := ⟨_, rfl⟩
  rw [show tw_Q D cs kp L = tw_Q D cs kp0 L0 by rw [ekp, eL]]
  have hex : ∀ a : Nat, a ∈ L0 → a ∈ L ∧ kp a = kp0 a := fun a h => ⟨by rw [← eL]; exact h, by rw [ekp]⟩
  refine lv_aload_nN hx hb dX11_mergeOn_0 rfl (lv_at hl 1 rfl) ?_
  refine lv_ifnullN (tgt := 26) hx hb dX11_mergeOn_1 (by decide) ?_
  refine lv_iconst (v := (-1)) hx hb dX11_mergeOn_26 (by decide) ?_
  exact tw_iret hx hb hr hlocks TH hS hex ⟨⟨_, rfl, hg0, hg1⟩, rfl, rfl, rfl⟩ (Nat.le_of_ble_eq_true rfl) (Nat.le_of_ble_eq_true rfl) dX11_mergeOn_27
set_option maxHeartbeats 4000000 in
set_option maxRecDepth 100000 in
theorem tX11_merge (l : Launch) (D : va_G) (cs : Nat → ClassId) {kp : Nat → Nat} {L : List Nat} {E : Nat → va_E} (a0 : Nat) (x1 : Int32) (x2 : Int32) (hm0 : a0 ∈ L) (hk0 : kp a0 = 11) (hg0 : gz_ok E a0) (hg1 : ss_ok E a0) (sz : Nat) : Met l yX11_merge (.code yX11_merge cX11_merge 5 (some .int) :: cx_big) { frames := 7, cells := 8, slots := 288, locals := 178 } (tw_P D cs kp L E [.ref a0, .int x1, .int x2] sz) (tw_Q D cs kp L (fun v kq Lq Eq => (∃ x : Int32, v = some (.int x) ∧ gz_ok Eq a0 ∧ ss_ok Eq a0) ∧ tw_fr kp L [(1, 0), (3, 0), (5, 10), (5, 12), (8, 0), (8, 1), (10, 0), (11, 17)] [101, 102, 110, 111, 112, 113, 114, 115, 135, 140, 141, 142, 160, 161, 162, 163, 164, 165, 166, 167, 170, 171, 181] E Eq) (va_A (va_pl L E) sz)) 8 288 (va_A (va_pl L E) sz) := by
  refine tw_ofW (by decide) (Nat.le_of_ble_eq_true rfl) ?_
  intro p e s m below meth c A ls hx hb hr hml hB hown hlocks hK hN hA TH hS hl
  have hown : s.vm.findClass "TreeMerge" = some m.cls := hown
  have hl : lv_has ls 5 [(0, .ref a0), (1, .int x1), (2, .int x2)] := hl
  obtain ⟨kp0, ekp⟩ : ∃ z, z = kp := ⟨_, rfl⟩
  obtain ⟨L0, eL⟩ : ∃ z, z = L := ⟨_, rfl⟩
  rw [show tw_Q D cs kp L = tw_Q D cs kp0 L0 by rw [ekp, eL]]
  have hex : ∀ a : Nat, a ∈ L0 → a ∈ L ∧ kp a = kp0 a := fun a h => ⟨by rw [← eL]; exact h, by rw [ekp]⟩
  have hF : tw_fr kp L [(1, 0), (3, 0), (5, 10), (5, 12), (8, 0), (8, 1), (10, 0), (11, 17)] [101, 102, 110, 111, 112, 113, 114, 115, 135, 140, 141, 142, 160, 161, 162, 163, 164, 165, 166, 167, 170, 171, 181] E E := tw_fr.rf
  have hexb : ∀ a : Nat, a ∈ L → a ∈ L ∧ kp a = kp a := fun a h => ⟨h, rfl⟩
  refine lv_aload_n hx hb dX11_merge_0 rfl (lv_at hl 0 rfl) ?_
  refine tw_get (ci := 11) (C := RX11) (T := TX11) (N := 19) hx hb hB cx_inX11 hown hK TH hm0 hk0 rfl ⟨by decide, rfl⟩ 7 (by decide) cw_390 (fun _ h9 => h9) dX11_merge_1 (fun hv => ?_)
  obtain ⟨xr1, hxr1, hmxr1, hkxr1⟩ : ∃ a : Nat, tw_fv E a0 7 = .ref a ∧ a ∈ L ∧ kp a = 1 := hv
  rw [hxr1]
  refine lv_iload_n hx hb dX11_merge_4 rfl (lv_at hl 1 rfl) ?_
  refine lv_iload_n hx hb dX11_merge_5 rfl (lv_at hl 2 rfl) ?_
  refine tw_Vc (o := xr1) (ci := 1) (n := 2) (post := (fun v kq Lq Eq => (∃ x : Int32, v = some (.int x) ∧ 0 ≤ x.toInt ∧ x.toInt ≤ 1) ∧ kp = kq ∧ L = Lq ∧ E = Eq)) (As := [.int x1, .int x2]) (rest := []) ⟨hx, hb, hml, hown, hB⟩ (fun sz => tX1_comesFrom l D cs xr1 x1 x2 hmxr1 hkxr1 sz) cg_11_259_X1_comesFrom rfl rfl (by decide +kernel) ⟨Nat.le_of_ble_eq_true rfl, Nat.le_of_ble_eq_true rfl⟩ hK hN TH hS hA rfl hmxr1 hkxr1 (by decide) rfl hl.1 rfl (Nat.le_of_ble_eq_true rfl) dX11_merge_6 ⟨Nat.le_of_ble_eq_true rfl, Nat.le_of_ble_eq_true rfl⟩ (fun v2 kp2 L2 E2 H locs hq2 hx2 TH hS => ?_)
  obtain ⟨⟨xc3, rfl, hxc3a, hxc3b⟩, rfl, rfl, rfl⟩ := hq2
  refine W.eq (g2 := F0 m 9 ls [.int xc3]) rfl ?_
  refine lv_if_eq (tgt := 14) hx hb dX11_merge_9 (by decide) (fun hc4 => ?_) (fun hc4 => ?_)
  · have hf5 : xc3.toInt = 0 := by have z := (fa_eq _ _).mp hc4; have : ((0 : Int32).toInt) = 0 := (by decide); omega
    refine lv_aload_n hx hb dX11_merge_14 rfl (lv_at hl 0 rfl) ?_
    refine tw_get (ci := 11) (C := RX11) (T := TX11) (N := 19) hx hb hB cx_inX11 hown hK TH hm0 hk0 rfl ⟨by decide, rfl⟩ 7 (by decide) cw_390 (fun _ h9 => h9) dX11_merge_15 (fun hv => ?_)
    rw [hxr1]
    refine lv_iload_n hx hb dX11_merge_18 rfl (lv_at hl 2 rfl) ?_
    refine lv_iload_n hx hb dX11_merge_19 rfl (lv_at hl 1 rfl) ?_
    refine tw_Vc (o := xr1) (ci := 1) (n := 2) (post := (fun v kq Lq Eq => (∃ x : Int32, v = some (.int x) ∧ 0 ≤ x.toInt ∧ x.toInt ≤ 1) ∧ kp = kq ∧ L = Lq ∧ E = Eq)) (As := [.int x2, .int x1]) (rest := []) ⟨hx, hb, hml, hown, hB⟩ (fun sz => tX1_comesFrom l D cs xr1 x2 x1 hmxr1 hkxr1 sz) cg_11_259_X1_comesFrom rfl rfl (by decide +kernel) ⟨Nat.le_of_ble_eq_true rfl, Nat.le_of_ble_eq_true rfl⟩ hK hN TH hS hA rfl hmxr1 hkxr1 (by decide) rfl hl.1 rfl (Nat.le_of_ble_eq_true rfl) dX11_merge_20 ⟨Nat.le_of_ble_eq_true rfl, Nat.le_of_ble_eq_true rfl⟩ (fun v6 kp6 L6 E6 H locs hq6 hx6 TH hS => ?_)
    obtain ⟨⟨xc7, rfl, hxc7a, hxc7b⟩, rfl, rfl, rfl⟩ := hq6
    refine W.eq (g2 := F0 m 23 ls [.int xc7]) rfl ?_
    refine lv_if_eq (tgt := 28) hx hb dX11_merge_23 (by decide) (fun hc8 => ?_) (fun hc8 => ?_)
    · have hf9 : xc7.toInt = 0 := by have z := (fa_eq _ _).mp hc8; have : ((0 : Int32).toInt) = 0 := (by decide); omega
      refine lv_aload_n hx hb dX11_merge_28 rfl (lv_at hl 0 rfl) ?_
      refine tw_get (ci := 11) (C := RX11) (T := TX11) (N := 19) hx hb hB cx_inX11 hown hK TH hm0 hk0 rfl ⟨by decide, rfl⟩ 7 (by decide) cw_390 (fun _ h9 => h9) dX11_merge_29 (fun hv => ?_)
      rw [hxr1]
      refine tw_Vc (o := xr1) (ci := 1) (n := 0) (post := (fun v kq Lq Eq => (∃ x : Int32, v = some (.int x) ∧ 0 ≤ x.toInt ∧ x.toInt ≤ 1 ∧ (∃ z0 : Int32, tw_fv Eq xr1 0 = .int z0 ∧ (x.toInt = 0 → z0.toInt ≤ 11))) ∧ kp = kq ∧ L = Lq ∧ E = Eq)) (As := []) (rest := []) ⟨hx, hb, hml, hown, hB⟩ (fun sz => tX1_isFull l D cs xr1 hmxr1 hkxr1 sz) cg_11_135_X1_isFull rfl rfl (by decide +kernel) ⟨Nat.le_of_ble_eq_true rfl, Nat.le_of_ble_eq_true rfl⟩ hK hN TH hS hA rfl hmxr1 hkxr1 (by decide) rfl hl.1 rfl (Nat.le_of_ble_eq_true rfl) dX11_merge_32 ⟨Nat.le_of_ble_eq_true rfl, Nat.le_of_ble_eq_true rfl⟩ (fun v10 kp10 L10 E10 H locs hq10 hx10 TH hS => ?_)
      obtain ⟨⟨xc11, rfl, hxc11a, hxc11b, ⟨zfxc11_0_0, hzfxc11_0_0, hzpxc11_0⟩⟩, rfl, rfl, rfl⟩ := hq10
      obtain ⟨qzfxc11_0_0, hqzfxc11_0_0, hqzfxc11_0_0a, hqzfxc11_0_0b⟩ := tw_rd TH hmxr1 hkxr1 (by decide) (by decide) (k := 0) rfl
      have eqzfxc11_0_0 : qzfxc11_0_0 = zfxc11_0_0 := by have q := hqzfxc11_0_0.symm.trans hzfxc11_0_0; injection q
      rw [eqzfxc11_0_0] at hqzfxc11_0_0a hqzfxc11_0_0b
      refine W.eq (g2 := F0 m 35 ls [.int xc11]) rfl ?_
      refine lv_if_eq (tgt := 40) hx hb dX11_merge_35 (by decide) (fun hc12 => ?_) (fun hc12 => ?_)
      · have hf13 : xc11.toInt = 0 := by have z := (fa_eq _ _).mp hc12; have : ((0 : Int32).toInt) = 0 := (by decide); omega
        refine lv_aload_n hx hb dX11_merge_40 rfl (lv_at hl 0 rfl) ?_
        refine lv_iload_n hx hb dX11_merge_41 rfl (lv_at hl 1 rfl) ?_
        refine lv_iload_n hx hb dX11_merge_42 rfl (lv_at hl 2 rfl) ?_
        refine tw_Vc (o := a0) (ci := 11) (n := 2) (post := (fun v kq Lq Eq => (∃ x : Int32, v = some (.int x) ∧ gz_ok Eq a0) ∧ kp = kq ∧ L = Lq ∧ tw_fr kp L [(3, 0), (5, 10), (5, 12), (8, 0), (8, 1), (10, 0)] [101, 102, 110, 111, 112, 113, 114, 115, 135, 160, 161, 162, 163, 164, 165, 166, 167, 170, 171] E Eq)) (As := [.int x1, .int x2]) (rest := []) ⟨hx, hb, hml, hown, hB⟩ (fun sz => tX11_findBase l D cs a0 x1 x2 hm0 hk0 hg0 sz) cg_11_255_X11_findBase rfl rfl (by decide +kernel) ⟨Nat.le_of_ble_eq_true rfl, Nat.le_of_ble_eq_true rfl⟩ hK hN TH hS hA rfl hm0 hk0 (by decide) rfl hl.1 rfl (Nat.le_of_ble_eq_true rfl) dX11_merge_43 ⟨Nat.le_of_ble_eq_true rfl, Nat.le_of_ble_eq_true rfl⟩ (fun v14 kp14 L14 E14 H locs hq14 hx14 TH hS => ?_)
        obtain ⟨⟨xc15, rfl, hgpxc15_0⟩, rfl, rfl, hst14⟩ := hq14
        have hF := hF.tr hst14 (fun _ h => ⟨h, rfl⟩) (by decide) (by decide)
        have hmf16 : tw_fv E14 a0 7 = .ref xr1 := (hst14.1 a0 7 hm0 (by rw [hk0]; decide)).trans hxr1
        have hmf17 : tw_fv E14 xr1 0 = .int zfxc11_0_0 := (hst14.1 xr1 0 hmxr1 (by rw [hkxr1]; decide)).trans hzfxc11_0_0
        have hg1 : ss_ok E14 a0 := ss_ok_fr TH hst14 hm0 hk0 (by decide) (by decide) hg1
        refine W.eq (g2 := F0 m 46 ls [.int xc15]) rfl ?_
        refine lv_istore_n (lv' := [(3, .int xc15), (0, .ref a0), (1, .int x1), (2, .int x2)]) hx hb dX11_merge_46 rfl hl (by decide) rfl (fun ls hl => ?_)
        refine lv_iload_n hx hb dX11_merge_47 rfl (lv_at hl 0 rfl) ?_
        refine lv_bipush (v := 100) hx hb dX11_merge_48 (by decide) ?_
        refine lv_icmp_ne (tgt := 60) hx hb dX11_merge_50 (by decide) (fun hc18 => ?_) (fun hc18 => ?_)
        · have hf19 : ¬ (xc15.toInt = 100) := fun q => hc18 ((fa_eq _ _).mpr (by have : ((100 : Int32).toInt) = 100 := (by decide); omega))
          refine lv_aload_n hx hb dX11_merge_60 rfl (lv_at hl 1 rfl) ?_
          refine tw_get (ci := 11) (C := RX11) (T := TX11) (N := 19) hx hb hB cx_inX11 hown hK TH hm0 hk0 rfl ⟨by decide, rfl⟩ 7 (by decide) cw_390 (fun _ h9 => h9) dX11_merge_61 (fun hv => ?_)
          rw [hmf16]
          refine lv_iload_n hx hb dX11_merge_64 rfl (lv_at hl 0 rfl) ?_
          refine tw_Vc (o := xr1) (ci := 1) (n := 1) (post := (fun v kq Lq Eq => (v = some .null ∨ ∃ a : Nat, v = some (.ref a) ∧ a ∈ Lq ∧ kq a = 10 ∧ (0 ≤ xc15.toInt ∧ xc15.toInt ≤ 11)) ∧ kp = kq ∧ L = Lq ∧ E14 = Eq)) (As := [.int xc15]) (rest := []) ⟨hx, hb, hml, hown, hB⟩ (fun sz => tX1_treeOf l D cs xr1 xc15 hmxr1 hkxr1 sz) cg_11_168_X1_treeOf rfl rfl (by decide +kernel) ⟨Nat.le_of_ble_eq_true rfl, Nat.le_of_ble_eq_true rfl⟩ hK hN TH hS hA rfl hmxr1 hkxr1 (by decide) rfl hl.1 rfl (Nat.le_of_ble_eq_true rfl) dX11_merge_65 ⟨Nat.le_of_ble_eq_true rfl, Nat.le_of_ble_eq_true rfl⟩ (fun v20 kp20 L20 E20 H locs hq20 hx20 TH hS => ?_)
          obtain ⟨hnxc21, rfl, rfl, rfl⟩ := hq20
          rcases hnxc21 with rfl | ⟨xc21, rfl, hmxc21, hkxc21, hnpxc21⟩
          · refine W.eq (g2 := F0 m 68 ls [.null]) rfl ?_
            refine lv_astoreN (lv' := [(4, .null), (3, .int xc15), (0, .ref a0), (1, .int x1), (2, .int x2)]) hx hb dX11_merge_68 hl (by decide) rfl (fun ls hl => ?_)
            refine lv_aload_n hx hb dX11_merge_70 rfl (lv_at hl 2 rfl) ?_
            refine lv_aloadN hx hb dX11_merge_71 (lv_at hl 0 rfl) ?_
            refine lv_iload_n hx hb dX11_merge_73 rfl (lv_at hl 3 rfl) ?_
            refine lv_iload_n hx hb dX11_merge_74 rfl (lv_at hl 4 rfl) ?_
            refine lv_iload_n hx hb dX11_merge_75 rfl (lv_at hl 3 rfl) ?_
            refine lv_iload_n hx hb dX11_merge_76 rfl (lv_at hl 4 rfl) ?_
            refine tw_Vc (o := a0) (ci := 11) (n := 5) (post := (fun v kq Lq Eq => (∃ x : Int32, v = some (.int x) ∧ gz_ok Eq a0 ∧ ss_ok Eq a0) ∧ kp = kq ∧ L = Lq ∧ E14 = Eq)) (As := [.null, .int x1, .int x2, .int x1, .int x2]) (rest := []) ⟨hx, hb, hml, hown, hB⟩ (fun sz => tX11_mergeOn_v0 l D cs a0 x1 x2 x1 x2 hm0 hk0 hgpxc15_0 hg1 sz) cg_11_262_X11_mergeOn rfl rfl (by decide +kernel) ⟨Nat.le_of_ble_eq_true rfl, Nat.le_of_ble_eq_true rfl⟩ hK hN TH hS hA rfl hm0 hk0 (by decide) rfl hl.1 rfl (Nat.le_of_ble_eq_true rfl) dX11_merge_77 ⟨Nat.le_of_ble_eq_true rfl, Nat.le_of_ble_eq_true rfl⟩ (fun v22 kp22 L22 E22 H locs hq22 hx22 TH hS => ?_)
            obtain ⟨⟨xc23, rfl, hgpxc23_0, hgpxc23_1⟩, rfl, rfl, rfl⟩ := hq22
            refine W.eq (g2 := F0 m 80 ls [.int xc23]) rfl ?_
            exact tw_iret hx hb hr hlocks TH hS hex ⟨⟨_, rfl, hgpxc15_0, hg1⟩, hF⟩ (Nat.le_of_ble_eq_true rfl) (Nat.le_of_ble_eq_true rfl) dX11_merge_80
          · refine W.eq (g2 := F0 m 68 ls [.ref xc21]) rfl ?_
            refine lv_astore (lv' := [(4, .ref xc21), (3, .int xc15), (0, .ref a0), (1, .int x1), (2, .int x2)]) hx hb dX11_merge_68 hl (by decide) rfl (fun ls hl => ?_)
            refine lv_aload_n hx hb dX11_merge_70 rfl (lv_at hl 2 rfl) ?_
            refine lv_aload hx hb dX11_merge_71 (lv_at hl 0 rfl) ?_
            refine lv_iload_n hx hb dX11_merge_73 rfl (lv_at hl 3 rfl) ?_
            refine lv_iload_n hx hb dX11_merge_74 rfl (lv_at hl 4 rfl) ?_
            refine lv_iload_n hx hb dX11_merge_75 rfl (lv_at hl 3 rfl) ?_
            refine lv_iload_n hx hb dX11_merge_76 rfl (lv_at hl 4 rfl) ?_
            have hTo := TH.2.2
            refine tw_Vc (o := a0) (ci := 11) (n := 5) (post := (fun v kq Lq Eq => (∃ x : Int32, v = some (.int x) ∧ gz_ok Eq a0 ∧ ss_ok Eq a0) ∧ tw_fr kp L [(1, 0), (3, 0), (5, 10), (5, 12), (8, 0), (8, 1), (10, 0), (11, 17)] [101, 102, 110, 111, 112, 113, 114, 115, 135, 140, 141, 142, 160, 161, 162, 163, 164, 165, 166, 167, 170, 171, 181] E14 Eq)) (As := [.ref xc21, .int x1, .int x2, .int x1, .int x2]) (rest := []) ⟨hx, hb, hml, hown, hB⟩ (fun sz => tX11_mergeOn l D cs a0 xc21 x1 x2 x1 x2 hm0 hk0 hmxc21 hkxc21 hgpxc15_0 hg1 sz) cg_11_262_X11_mergeOn rfl rfl (by decide +kernel) ⟨Nat.le_of_ble_eq_true rfl, Nat.le_of_ble_eq_true rfl⟩ hK hN TH hS hA rfl hm0 hk0 (by decide) rfl hl.1 rfl (Nat.le_of_ble_eq_true rfl) dX11_merge_77 ⟨Nat.le_of_ble_eq_true rfl, Nat.le_of_ble_eq_true rfl⟩ (fun v24 kp24 L24 E24 H locs hq24 hx24 TH hS => ?_)
            obtain ⟨⟨xc25, rfl, hgpxc25_0, hgpxc25_1⟩, hst24⟩ := hq24
            have hF := hF.tr hst24 (fun _ h => ⟨h, rfl⟩) (by decide) (by decide)
            have hex : ∀ a : Nat, a ∈ L0 → a ∈ L24 ∧ kp24 a = kp0 a := fun a h => ⟨(hx24 a (hex a h).1).1, ((hx24 a (hex a h).1).2).trans (hex a h).2⟩
            have hexb : ∀ a : Nat, a ∈ L → a ∈ L24 ∧ kp24 a = kp a := fun a h => ⟨(hx24 a (hexb a h).1).1, ((hx24 a (hexb a h).1).2).trans (hexb a h).2⟩
            have hmf26 : tw_fv E24 a0 7 = .ref xr1 := (hst24.1 a0 7 hm0 (by rw [hk0]; decide)).trans hmf16
            have hm24_a0 := (hx24 a0 hm0).1
            have hk24_a0 : kp24 a0 = 11 := ((hx24 a0 hm0).2).trans hk0
            have hm24_xr1 := (hx24 xr1 hmxr1).1
            have hk24_xr1 : kp24 xr1 = 1 := ((hx24 xr1 hmxr1).2).trans hkxr1
            have hm24_xc21 := (hx24 xc21 hmxc21).1
            have hk24_xc21 : kp24 xc21 = 10 := ((hx24 xc21 hmxc21).2).trans hkxc21
            refine W.eq (g2 := F0 m 80 ls [.int xc25]) rfl ?_
            exact tw_iret hx hb hr hlocks TH hS hex ⟨⟨_, rfl, hgpxc25_0, hgpxc25_1⟩, hF⟩ (Nat.le_of_ble_eq_true rfl) (Nat.le_of_ble_eq_true rfl) dX11_merge_80
        · have hf27 : xc15.toInt = 100 := by have z := (fa_eq _ _).mp hc18; have : ((100 : Int32).toInt) = 100 := (by decide); omega
          refine lv_aload_n hx hb dX11_merge_53 rfl (lv_at hl 1 rfl) ?_
          refine tw_get (ci := 11) (C := RX11) (T := TX11) (N := 19) hx hb hB cx_inX11 hown hK TH hm0 hk0 rfl ⟨by decide, rfl⟩ 11 (by decide) cw_394 (fun _ h9 => h9) dX11_merge_54 (fun hv => ?_)
          obtain ⟨xr28, hxr28, hmxr28, hkxr28⟩ : ∃ a : Nat, tw_fv E14 a0 11 = .ref a ∧ a ∈ L ∧ kp a = 10 := hv
          rw [hxr28]
          refine lv_goto (tgt := 68) hx hb dX11_merge_57 (by decide) ?_
          refine lv_astore (lv' := [(4, .ref xr28), (3, .int xc15), (0, .ref a0), (1, .int x1), (2, .int x2)]) hx hb dX11_merge_68 hl (by decide) rfl (fun ls hl => ?_)
          refine lv_aload_n hx hb dX11_merge_70 rfl (lv_at hl 2 rfl) ?_
          refine lv_aload hx hb dX11_merge_71 (lv_at hl 0 rfl) ?_
          refine lv_iload_n hx hb dX11_merge_73 rfl (lv_at hl 3 rfl) ?_
          refine lv_iload_n hx hb dX11_merge_74 rfl (lv_at hl 4 rfl) ?_
          refine lv_iload_n hx hb dX11_merge_75 rfl (lv_at hl 3 rfl) ?_
          refine lv_iload_n hx hb dX11_merge_76 rfl (lv_at hl 4 rfl) ?_
          have hTo := TH.2.2
          refine tw_Vc (o := a0) (ci := 11) (n := 5) (post := (fun v kq Lq Eq => (∃ x : Int32, v = some (.int x) ∧ gz_ok Eq a0 ∧ ss_ok Eq a0) ∧ tw_fr kp L [(1, 0), (3, 0), (5, 10), (5, 12), (8, 0), (8, 1), (10, 0), (11, 17)] [101, 102, 110, 111, 112, 113, 114, 115, 135, 140, 141, 142, 160, 161, 162, 163, 164, 165, 166, 167, 170, 171, 181] E14 Eq)) (As := [.ref xr28, .int x1, .int x2, .int x1, .int x2]) (rest := []) ⟨hx, hb, hml, hown, hB⟩ (fun sz => tX11_mergeOn l D cs a0 xr28 x1 x2 x1 x2 hm0 hk0 hmxr28 hkxr28 hgpxc15_0 hg1 sz) cg_11_262_X11_mergeOn rfl rfl (by decide +kernel) ⟨Nat.le_of_ble_eq_true rfl, Nat.le_of_ble_eq_true rfl⟩ hK hN TH hS hA rfl hm0 hk0 (by decide) rfl hl.1 rfl (Nat.le_of_ble_eq_true rfl) dX11_merge_77 ⟨Nat.le_of_ble_eq_true rfl, Nat.le_of_ble_eq_true rfl⟩ (fun v29 kp29 L29 E29 H locs hq29 hx29 TH hS => ?_)
          obtain ⟨⟨xc30, rfl, hgpxc30_0, hgpxc30_1⟩, hst29⟩ := hq29
          have hF := hF.tr hst29 (fun _ h => ⟨h, rfl⟩) (by decide) (by decide)
          have hex : ∀ a : Nat, a ∈ L0 → a ∈ L29 ∧ kp29 a = kp0 a := fun a h => ⟨(hx29 a (hex a h).1).1, ((hx29 a (hex a h).1).2).trans (hex a h).2⟩
          have hexb : ∀ a : Nat, a ∈ L → a ∈ L29 ∧ kp29 a = kp a := fun a h => ⟨(hx29 a (hexb a h).1).1, ((hx29 a (hexb a h).1).2).trans (hexb a h).2⟩
          have hmf31 : tw_fv E29 a0 7 = .ref xr1 := (hst29.1 a0 7 hm0 (by rw [hk0]; decide)).trans hmf16
          have hmf32 : tw_fv E29 a0 11 = .ref xr28 := (hst29.1 a0 11 hm0 (by rw [hk0]; decide)).trans hxr28
          have hm29_a0 := (hx29 a0 hm0).1
          have hk29_a0 : kp29 a0 = 11 := ((hx29 a0 hm0).2).trans hk0
          have hm29_xr1 := (hx29 xr1 hmxr1).1
          have hk29_xr1 : kp29 xr1 = 1 := ((hx29 xr1 hmxr1).2).trans hkxr1
          have hm29_xr28 := (hx29 xr28 hmxr28).1
          have hk29_xr28 : kp29 xr28 = 10 := ((hx29 xr28 hmxr28).2).trans hkxr28
          refine W.eq (g2 := F0 m 80 ls [.int xc30]) rfl ?_
          exact tw_iret hx hb hr hlocks TH hS hex ⟨⟨_, rfl, hgpxc30_0, hgpxc30_1⟩, hF⟩ (Nat.le_of_ble_eq_true rfl) (Nat.le_of_ble_eq_true rfl) dX11_merge_80
      · have hf33 : ¬ (xc11.toInt = 0) := fun q => hc12 ((fa_eq _ _).mpr (by have : ((0 : Int32).toInt) = 0 := (by decide); omega))
        refine lv_iconst (v := (-1)) hx hb dX11_merge_38 (by decide) ?_
        exact tw_iret hx hb hr hlocks TH hS hex ⟨⟨_, rfl, hg0, hg1⟩, hF⟩ (Nat.le_of_ble_eq_true rfl) (Nat.le_of_ble_eq_true rfl) dX11_merge_39
    · have hf34 : ¬ (xc7.toInt = 0) := fun q => hc8 ((fa_eq _ _).mpr (by have : ((0 : Int32).toInt) = 0 := (by decide); omega))
      refine lv_iload_n hx hb dX11_merge_26 rfl (lv_at hl 2 rfl) ?_
      exact tw_iret hx hb hr hlocks TH hS hex ⟨⟨_, rfl, hg0, hg1⟩, hF⟩ (Nat.le_of_ble_eq_true rfl) (Nat.le_of_ble_eq_true rfl) dX11_merge_27
  · have hf35 : ¬ (xc3.toInt = 0) := fun q => hc4 ((fa_eq _ _).mpr (by have : ((0 : Int32).toInt) = 0 := (by decide); omega))
    refine lv_iload_n hx hb dX11_merge_12 rfl (lv_at hl 1 rfl) ?_
    exact tw_iret hx hb hr hlocks TH hS hex ⟨⟨_, rfl, hg0, hg1⟩, hF⟩ (Nat.le_of_ble_eq_true rfl) (Nat.le_of_ble_eq_true rfl) dX11_merge_13
