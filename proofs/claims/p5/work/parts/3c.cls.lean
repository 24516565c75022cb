set_option maxHeartbeats 4000000 in
set_option maxRecDepth 100000 in
theorem tX11_matchText (l : Launch) (D : va_G) (cs : Nat → ClassId) {kp : Nat → Nat} {L : List Nat} {E : Nat → va_E} (a0 : Nat) (x1 : Int32) (hm0 : a0 ∈ L) (hk0 : kp a0 = 11) (sz : Nat) : Met l yX11_matchText (.code yX11_matchText cX11_matchText 3 (some .boolean) :: cx_big) { frames := 9, cells := 0, slots := 0, locals := 213 } (tw_P D cs kp L E [.ref a0, .int x1] sz) (tw_Q D cs kp L (fun v kq Lq Eq => (∃ x : Int32, v = some (.int x) ∧ 0 ≤ x.toInt ∧ x.toInt ≤ 1) ∧ kp = kq ∧ L = Lq ∧ tw_fr kp L [(4, 0), (4, 1), (4, 5), (4, 6), (9, 2), (9, 3), (9, 4), (10, 0)] [102, 110, 111, 112, 113, 114, 150, 151, 152] E Eq) (va_A (va_pl L E) sz)) 0 0 (va_A (va_pl L E) sz) := by
  refine tw_ofW (by decide) (Nat.le_of_ble_eq_true rfl) ?_
  intro p e s m below meth c A ls hx hb hr hml hB hown hlocks hK hN hA TH hS hl
  have hown : s.vm.findClass "TreeMerge" = some m.cls := hown
  have hl : lv_has ls 3 [(0, .ref a0), (1, .int x1)] := hl
  obtain ⟨kp0, ekp⟩ : ∃ z, z = kp := ⟨_, rfl⟩
  obtain ⟨L0, eL⟩ : ∃ z, z = L := ⟨_, rfl⟩
  rw [show tw_Q D cs kp L = tw_Q D cs kp0 L0 by rw [ekp, eL]]
  have hex : ∀ a : Nat, a ∈ L0 → a ∈ L ∧ kp a = kp0 a := fun a h => ⟨by rw [← eL]; exact h, by rw [ekp]⟩
  have hF : tw_fr kp L [(4, 0), (4, 1), (4, 5), (4, 6), (9, 2), (9, 3), (9, 4), (10, 0)] [102, 110, 111, 112, 113, 114, 150, 151, 152] E E := tw_fr.rf
  refine lv_aload_n hx hb dX11_matchText_0 rfl (lv_at hl 0 rfl) ?_
  refine tw_get (ci := 11) (C := RX11) (T := TX11) (N := 19) hx hb hB cx_inX11 hown hK TH hm0 hk0 rfl ⟨by decide, rfl⟩ 7 (by decide) cw_390 (fun _ h9 => h9) dX11_matchText_1 (fun hv => ?_)
  obtain ⟨xr1, hxr1, hmxr1, hkxr1⟩ : ∃ a : Nat, tw_fv E a0 7 = .ref a ∧ a ∈ L ∧ kp a = 1 := hv
  rw [hxr1]
  refine lv_iload_n hx hb dX11_matchText_4 rfl (lv_at hl 1 rfl) ?_
  refine tw_Vc (o := xr1) (ci := 1) (n := 1) (post := (fun v kq Lq Eq => (v = some .null ∨ ∃ a : Nat, v = some (.ref a) ∧ a ∈ Lq ∧ kq a = 10 ∧ (0 ≤ x1.toInt ∧ x1.toInt ≤ 11)) ∧ kp = kq ∧ L = Lq ∧ E = Eq)) (As := [.int x1]) (rest := []) ⟨hx, hb, hml, hown, hB⟩ (fun sz => tX1_treeOf l D cs xr1 x1 hmxr1 hkxr1 sz) cg_11_168_X1_treeOf rfl rfl (by decide +kernel) ⟨Nat.le_of_ble_eq_true rfl, Nat.le_of_ble_eq_true rfl⟩ hK hN TH hS hA rfl hmxr1 hkxr1 (by decide) rfl hl.1 rfl (Nat.le_of_ble_eq_true rfl) dX11_matchText_5 ⟨Nat.le_of_ble_eq_true rfl, Nat.le_of_ble_eq_true rfl⟩ (fun v2 kp2 L2 E2 H locs hq2 hx2 TH hS => ?_)
  obtain ⟨hnxc3, rfl, rfl, rfl⟩ := hq2
  rcases hnxc3 with rfl | ⟨xc3, rfl, hmxc3, hkxc3, hnpxc3⟩
  · refine W.eq (g2 := F0 m 8 ls [.null]) rfl ?_
    refine lv_astore_nN (lv' := [(2, .null), (0, .ref a0), (1, .int x1)]) hx hb dX11_matchText_8 rfl hl (by decide) rfl (fun ls hl => ?_)
    refine lv_aload_nN hx hb dX11_matchText_9 rfl (lv_at hl 0 rfl) ?_
    refine lv_ifnullN (tgt := 43) hx hb dX11_matchText_10 (by decide) ?_
    refine lv_iconst (v := 0) hx hb dX11_matchText_43 (by decide) ?_
    exact tw_zret hx hb hr hlocks (by decide) TH hS hex ⟨⟨_, rfl, (show 0 ≤ Int32.toInt 0 from by have : ((0 : Int32).toInt) = 0 := (by decide); omega), (show Int32.toInt 0 ≤ 1 from by have : ((0 : Int32).toInt) = 0 := (by decide); omega)⟩, rfl, rfl, hF⟩ (Nat.le_of_ble_eq_true rfl) (Nat.le_of_ble_eq_true rfl) dX11_matchText_44
  · refine W.eq (g2 := F0 m 8 ls [.ref xc3]) rfl ?_
    refine lv_astore_n (lv' := [(2, .ref xc3), (0, .ref a0), (1, .int x1)]) hx hb dX11_matchText_8 rfl hl (by decide) rfl (fun ls hl => ?_)
    refine lv_aload_n hx hb dX11_matchText_9 rfl (lv_at hl 0 rfl) ?_
    refine lv_ifnull hx hb dX11_matchText_10 ?_
    refine lv_aload_n hx hb dX11_matchText_13 rfl (lv_at hl 1 rfl) ?_
    refine tw_Vc (o := a0) (ci := 11) (n := 0) (post := (fun v kq Lq Eq => (∃ x : Int32, v = some (.int x) ∧ (-1) ≤ x.toInt ∧ x.toInt ≤ 500) ∧ kp = kq ∧ L = Lq ∧ tw_fr kp L [(9, 2), (9, 3), (9, 4), (10, 0)] [102, 110, 111, 112, 113, 114] E Eq)) (As := []) (rest := []) ⟨hx, hb, hml, hown, hB⟩ (fun sz => tX11_readTree l D cs a0 hm0 hk0 sz) cg_11_113_X11_readTree rfl rfl (by decide +kernel) ⟨Nat.le_of_ble_eq_true rfl, Nat.le_of_ble_eq_true rfl⟩ hK hN TH hS hA rfl hm0 hk0 (by decide) rfl hl.1 rfl (Nat.le_of_ble_eq_true rfl) dX11_matchText_14 ⟨Nat.le_of_ble_eq_true rfl, Nat.le_of_ble_eq_true rfl⟩ (fun v4 kp4 L4 E4 H locs hq4 hx4 TH hS => ?_)
    obtain ⟨⟨xc5, rfl, hxc5a, hxc5b⟩, rfl, rfl, hst4⟩ := hq4
    have hF := hF.tr hst4 (fun _ h => ⟨h, rfl⟩) (by decide) (by decide)
    have hmf6 : tw_fv E4 a0 7 = .ref xr1 := (hst4.1 a0 7 hm0 (by rw [hk0]; decide)).trans hxr1
    refine W.eq (g2 := F0 m 17 ls [.int xc5]) rfl ?_
    refine lv_iconst (v := (-1)) hx hb dX11_matchText_17 (by decide) ?_
    refine lv_icmp_ne (tgt := 43) hx hb dX11_matchText_18 (by decide) (fun hc7 => ?_) (fun hc7 => ?_)
    · have hf8 : ¬ (xc5.toInt = (-1)) := fun q => hc7 ((fa_eq _ _).mpr (by have : (((-1) : Int32).toInt) = (-1) := (by decide); omega))
      refine lv_iconst (v := 0) hx hb dX11_matchText_43 (by decide) ?_
      exact tw_zret hx hb hr hlocks (by decide) TH hS hex ⟨⟨_, rfl, (show 0 ≤ Int32.toInt 0 from by have : ((0 : Int32).toInt) = 0 := (by decide); omega), (show Int32.toInt 0 ≤ 1 from by have : ((0 : Int32).toInt) = 0 := (by decide); omega)⟩, rfl, rfl, hF⟩ (Nat.le_of_ble_eq_true rfl) (Nat.le_of_ble_eq_true rfl) dX11_matchText_44
    · have hf9 : xc5.toInt = (-1) := by have z := (fa_eq _ _).mp hc7; have : (((-1) : Int32).toInt) = (-1) := (by decide); omega
      refine lv_aload_n hx hb dX11_matchText_21 rfl (lv_at hl 1 rfl) ?_
      refine tw_get (ci := 11) (C := RX11) (T := TX11) (N := 19) hx hb hB cx_inX11 hown hK TH hm0 hk0 rfl ⟨by decide, rfl⟩ 4 (by decide) cw_387 (fun _ h9 => h9) dX11_matchText_22 (fun hv => ?_)
      obtain ⟨xr10, hxr10, hmxr10, hkxr10⟩ : ∃ a : Nat, tw_fv E4 a0 4 = .ref a ∧ a ∈ L ∧ kp a = 10 := hv
      rw [hxr10]
      refine tw_get (ci := 10) (C := RX10) (T := TX10) (N := 8) hx hb hB cx_inX10 hown hK TH hmxr10 hkxr10 rfl ⟨by decide, rfl⟩ 0 (by decide) cw_121 (fun _ h9 => h9) dX11_matchText_25 (fun hv => ?_)
      obtain ⟨xi11, hxi11, hxi11a, hxi11b⟩ : ∃ x : Int32, tw_fv E4 xr10 0 = .int x ∧ 0 ≤ x.toInt ∧ x.toInt ≤ 40 := hv
      rw [hxi11]
      refine lv_if_eq (tgt := 43) hx hb dX11_matchText_28 (by decide) (fun hc12 => ?_) (fun hc12 => ?_)
      · have hf13 : xi11.toInt = 0 := by have z := (fa_eq _ _).mp hc12; have : ((0 : Int32).toInt) = 0 := (by decide); omega
        refine lv_iconst (v := 0) hx hb dX11_matchText_43 (by decide) ?_
        exact tw_zret hx hb hr hlocks (by decide) TH hS hex ⟨⟨_, rfl, (show 0 ≤ Int32.toInt 0 from by have : ((0 : Int32).toInt) = 0 := (by decide); omega), (show Int32.toInt 0 ≤ 1 from by have : ((0 : Int32).toInt) = 0 := (by decide); omega)⟩, rfl, rfl, hF⟩ (Nat.le_of_ble_eq_true rfl) (Nat.le_of_ble_eq_true rfl) dX11_matchText_44
      · have hf14 : ¬ (xi11.toInt = 0) := fun q => hc12 ((fa_eq _ _).mpr (by have : ((0 : Int32).toInt) = 0 := (by decide); omega))
        refine lv_aload_n hx hb dX11_matchText_31 rfl (lv_at hl 1 rfl) ?_
        refine tw_get (ci := 11) (C := RX11) (T := TX11) (N := 19) hx hb hB cx_inX11 hown hK TH hm0 hk0 rfl ⟨by decide, rfl⟩ 4 (by decide) cw_387 (fun _ h9 => h9) dX11_matchText_32 (fun hv => ?_)
        rw [hxr10]
        refine tw_get (ci := 10) (C := RX10) (T := TX10) (N := 8) hx hb hB cx_inX10 hown hK TH hmxr10 hkxr10 rfl ⟨by decide, rfl⟩ 5 (by decide) cw_143 (fun _ h9 => h9) dX11_matchText_35 (fun hv => ?_)
        obtain ⟨xr15, hxr15, hmxr15, hkxr15⟩ : ∃ a : Nat, tw_fv E4 xr10 5 = .ref a ∧ a ∈ L ∧ kp a = 114 := hv
        rw [hxr15]
        refine lv_iconst (v := 0) hx hb dX11_matchText_38 (by decide) ?_
        refine tw_iald (k := 114) (t0 := 0) (n := 40) (lo := (-1)) (hi := 9) hx hb hK TH hmxr15 hkxr15 (by decide) rfl rfl (i := 0) (vp_in_iff.mpr ⟨by have : ((0 : Int32).toInt) = 0 := (by decide); omega, by have : ((0 : Int32).toInt) = 0 := (by decide); omega⟩) dX11_matchText_39 (fun hxe16a hxe16b => ?_)
        obtain ⟨xe16, exe16⟩ : ∃ z : Int32, tw_iv E4 xr15 (Int32.toNatClampNeg 0) = z := ⟨_, rfl⟩
        rw [exe16] at hxe16a hxe16b ⊢
        refine lv_if_eq (tgt := 45) hx hb dX11_matchText_40 (by decide) (fun hc17 => ?_) (fun hc17 => ?_)
        · have hf18 : xe16.toInt = 0 := by have z := (fa_eq _ _).mp hc17; have : ((0 : Int32).toInt) = 0 := (by decide); omega
          refine lv_aload_n hx hb dX11_matchText_45 rfl (lv_at hl 1 rfl) ?_
          refine tw_get (ci := 11) (C := RX11) (T := TX11) (N := 19) hx hb hB cx_inX11 hown hK TH hm0 hk0 rfl ⟨by decide, rfl⟩ 6 (by decide) cw_389 (fun _ h9 => h9) dX11_matchText_46 (fun hv => ?_)
          obtain ⟨xr19, hxr19, hmxr19, hkxr19⟩ : ∃ a : Nat, tw_fv E4 a0 6 = .ref a ∧ a ∈ L ∧ kp a = 4 := hv
          rw [hxr19]
          refine lv_aload_n hx hb dX11_matchText_49 rfl (lv_at hl 0 rfl) ?_
          refine lv_aload_n hx hb dX11_matchText_50 rfl (lv_at hl 1 rfl) ?_
          refine tw_get (ci := 11) (C := RX11) (T := TX11) (N := 19) hx hb hB cx_inX11 hown hK TH hm0 hk0 rfl ⟨by decide, rfl⟩ 4 (by decide) cw_387 (fun _ h9 => h9) dX11_matchText_51 (fun hv => ?_)
          rw [hxr10]
          refine tw_Vc (o := xr19) (ci := 4) (n := 2) (post := (fun v kq Lq Eq => v = none ∧ kp = kq ∧ L = Lq ∧ tw_fr kp L [(4, 0), (4, 1), (4, 5), (4, 6)] [150, 151, 152] E4 Eq)) (As := [.ref xc3, .ref xr10]) (rest := []) ⟨hx, hb, hml, hown, hB⟩ (fun sz => tX4_pairUp l D cs xr19 xc3 xr10 hmxr19 hkxr19 hmxc3 hkxc3 hmxr10 hkxr10 sz) cg_11_177_X4_pairUp rfl rfl (by decide +kernel) ⟨Nat.le_of_ble_eq_true rfl, Nat.le_of_ble_eq_true rfl⟩ hK hN TH hS hA rfl hmxr19 hkxr19 (by decide) rfl hl.1 rfl (Nat.le_of_ble_eq_true rfl) dX11_matchText_54 ⟨Nat.le_of_ble_eq_true rfl, Nat.le_of_ble_eq_true rfl⟩ (fun v20 kp20 L20 E20 H locs hq20 hx20 TH hS => ?_)
          obtain ⟨rfl, rfl, rfl, hst20⟩ := hq20
          have hF := hF.tr hst20 (fun _ h => ⟨h, rfl⟩) (by decide) (by decide)
          have hmf22 : tw_fv E20 a0 7 = .ref xr1 := (hst20.1 a0 7 hm0 (by rw [hk0]; decide)).trans hmf6
          have hmf23 : tw_fv E20 a0 4 = .ref xr10 := (hst20.1 a0 4 hm0 (by rw [hk0]; decide)).trans hxr10
          have hmf24 : tw_fv E20 xr10 0 = .int xi11 := (hst20.1 xr10 0 hmxr10 (by rw [hkxr10]; decide)).trans hxi11
          have hmf25 : tw_fv E20 xr10 5 = .ref xr15 := (hst20.1 xr10 5 hmxr10 (by rw [hkxr10]; decide)).trans hxr15
          have hmf26 : tw_fv E20 a0 6 = .ref xr19 := (hst20.1 a0 6 hm0 (by rw [hk0]; decide)).trans hxr19
          refine W.eq (g2 := F0 m 57 ls []) rfl ?_
          refine lv_iconst (v := 1) hx hb dX11_matchText_57 (by decide) ?_
          exact tw_zret hx hb hr hlocks (by decide) TH hS hex ⟨⟨_, rfl, (show 0 ≤ Int32.toInt 1 from by have : ((1 : Int32).toInt) = 1 := (by decide); omega), (show Int32.toInt 1 ≤ 1 from by have : ((1 : Int32).toInt) = 1 := (by decide); omega)⟩, rfl, rfl, hF⟩ (Nat.le_of_ble_eq_true rfl) (Nat.le_of_ble_eq_true rfl) dX11_matchText_58
        · have hf27 : ¬ (xe16.toInt = 0) := fun q => hc17 ((fa_eq _ _).mpr (by have : ((0 : Int32).toInt) = 0 := (by decide); omega))
          refine lv_iconst (v := 0) hx hb dX11_matchText_43 (by decide) ?_
          exact tw_zret hx hb hr hlocks (by decide) TH hS hex ⟨⟨_, rfl, (show 0 ≤ Int32.toInt 0 from by have : ((0 : Int32).toInt) = 0 := (by decide); omega), (show Int32.toInt 0 ≤ 1 from by have : ((0 : Int32).toInt) = 0 := (by decide); omega)⟩, rfl, rfl, hF⟩ (Nat.le_of_ble_eq_true rfl) (Nat.le_of_ble_eq_true rfl) dX11_matchText_44
set_option maxHeartbeats 4000000 in
set_option maxRecDepth 100000 in
theorem tX11_match (l : Launch) (D : va_G) (cs : Nat → ClassId) {kp : Nat → Nat} {L : List Nat} {E : Nat → va_E} (a0 : Nat) (x1 : Int32) (x2 : Int32) (hm0 : a0 ∈ L) (hk0 : kp a0 = 11) (sz : Nat) : Met l yX11_match (.code yX11_match cX11_match 3 (some .int) :: cx_big) { frames := 10, cells := 0, slots := 0, locals := 235 } (tw_P D cs kp L E [.ref a0, .int x1, .int x2] sz) (tw_Q D cs kp L (fun v kq Lq Eq => (∃ x : Int32, v = some (.int x)) ∧ kp = kq ∧ L = Lq ∧ tw_fr kp L [(4, 0), (4, 1), (4, 5), (4, 6), (9, 2), (9, 3), (9, 4), (10, 0)] [102, 110, 111, 112, 113, 114, 150, 151, 152] E Eq) (va_A (va_pl L E) sz)) 0 0 (va_A (va_pl L E) sz) := by
  refine tw_ofW (by decide) (Nat.le_of_ble_eq_true rfl) ?_
  intro p e s m below meth c A ls hx hb hr hml hB hown hlocks hK hN hA TH hS hl
  have hown : s.vm.findClass "TreeMerge" = some m.cls := hown
  have hl : lv_has ls 3 [(0, .ref a0), (1, .int x1), (2, .int x2)] := hl
  obtain ⟨kp0, ekp⟩ : ∃ z, z = kp := ⟨_, rfl⟩
  obtain ⟨L0, eL⟩ : ∃ z, z = L := ⟨_, rfl⟩
  rw [show tw_Q D cs kp L = tw_Q D cs kp0 L0 by rw [ekp, eL]]
  have hex : ∀ a : Nat, a ∈ L0 → a ∈ L ∧ kp a = kp0 a := fun a h => ⟨by rw [← eL]; exact h, by rw [ekp]⟩
  have hF : tw_fr kp L [(4, 0), (4, 1), (4, 5), (4, 6), (9, 2), (9, 3), (9, 4), (10, 0)] [102, 110, 111, 112, 113, 114, 150, 151, 152] E E := tw_fr.rf
  refine lv_aload_n hx hb dX11_match_0 rfl (lv_at hl 0 rfl) ?_
  refine lv_iload_n hx hb dX11_match_1 rfl (lv_at hl 1 rfl) ?_
  refine tw_Vc (o := a0) (ci := 11) (n := 1) (post := (fun v kq Lq Eq => (∃ x : Int32, v = some (.int x) ∧ 0 ≤ x.toInt ∧ x.toInt ≤ 1) ∧ kp = kq ∧ L = Lq ∧ tw_fr kp L [(4, 0), (4, 1), (4, 5), (4, 6), (9, 2), (9, 3), (9, 4), (10, 0)] [102, 110, 111, 112, 113, 114, 150, 151, 152] E Eq)) (As := [.int x1]) (rest := []) ⟨hx, hb, hml, hown, hB⟩ (fun sz => tX11_matchText l D cs a0 x1 hm0 hk0 sz) cg_11_149_X11_matchText rfl rfl (by decide +kernel) ⟨Nat.le_of_ble_eq_true rfl, Nat.le_of_ble_eq_true rfl⟩ hK hN TH hS hA rfl hm0 hk0 (by decide) rfl hl.1 rfl (Nat.le_of_ble_eq_true rfl) dX11_match_2 ⟨Nat.le_of_ble_eq_true rfl, Nat.le_of_ble_eq_true rfl⟩ (fun v1 kp1 L1 E1 H locs hq1 hx1 TH hS => ?_)
  obtain ⟨⟨xc2, rfl, hxc2a, hxc2b⟩, rfl, rfl, hst1⟩ := hq1
  have hF := hF.tr hst1 (fun _ h => ⟨h, rfl⟩) (by decide) (by decide)
  refine W.eq (g2 := F0 m 5 ls [.int xc2]) rfl ?_
  refine lv_if_ne (tgt := 10) hx hb dX11_match_5 (by decide) (fun hc3 => ?_) (fun hc3 => ?_)
  · have hf4 : ¬ (xc2.toInt = 0) := fun q => hc3 ((fa_eq _ _).mpr (by have : ((0 : Int32).toInt) = 0 := (by decide); omega))
    refine lv_iload_n hx hb dX11_match_10 rfl (lv_at hl 2 rfl) ?_
    refine lv_if_ne (tgt := 22) hx hb dX11_match_11 (by decide) (fun hc5 => ?_) (fun hc5 => ?_)
    · have hf6 : ¬ (x2.toInt = 0) := fun q => hc5 ((fa_eq _ _).mpr (by have : ((0 : Int32).toInt) = 0 := (by decide); omega))
      refine lv_iload_n hx hb dX11_match_22 rfl (lv_at hl 2 rfl) ?_
      refine lv_iconst (v := 1) hx hb dX11_match_23 (by decide) ?_
      refine lv_icmp_ne (tgt := 43) hx hb dX11_match_24 (by decide) (fun hc7 => ?_) (fun hc7 => ?_)
      · have hf8 : ¬ (x2.toInt = 1) := fun q => hc7 ((fa_eq _ _).mpr (by have : ((1 : Int32).toInt) = 1 := (by decide); omega))
        refine lv_iload_n hx hb dX11_match_43 rfl (lv_at hl 2 rfl) ?_
        refine lv_iconst (v := 2) hx hb dX11_match_44 (by decide) ?_
        refine lv_icmp_ne (tgt := 56) hx hb dX11_match_45 (by decide) (fun hc9 => ?_) (fun hc9 => ?_)
        · have hf10 : ¬ (x2.toInt = 2) := fun q => hc9 ((fa_eq _ _).mpr (by have : ((2 : Int32).toInt) = 2 := (by decide); omega))
          refine lv_iload_n hx hb dX11_match_56 rfl (lv_at hl 2 rfl) ?_
          refine lv_bipush (v := 100) hx hb dX11_match_57 (by decide) ?_
          refine lv_icmp_lt (tgt := 76) hx hb dX11_match_59 (by decide) (fun hc11 => ?_) (fun hc11 => ?_)
          · have hf12 : x2.toInt < 100 := by have z := (fa_lt _ _).mp hc11; have : ((100 : Int32).toInt) = 100 := (by decide); omega
            refine lv_iconst (v := (-1)) hx hb dX11_match_76 (by decide) ?_
            exact tw_iret hx hb hr hlocks TH hS hex ⟨⟨_, rfl⟩, rfl, rfl, hF⟩ (Nat.le_of_ble_eq_true rfl) (Nat.le_of_ble_eq_true rfl) dX11_match_77
          · have hf13 : ¬ (x2.toInt < 100) := fun q => hc11 ((fa_lt _ _).mpr (by have : ((100 : Int32).toInt) = 100 := (by decide); omega))
            refine lv_aload_n hx hb dX11_match_62 rfl (lv_at hl 0 rfl) ?_
            refine tw_get (ci := 11) (C := RX11) (T := TX11) (N := 19) hx hb hB cx_inX11 hown hK TH hm0 hk0 rfl ⟨by decide, rfl⟩ 6 (by decide) cw_389 (fun _ h9 => h9) dX11_match_63 (fun hv => ?_)
            obtain ⟨xr14, hxr14, hmxr14, hkxr14⟩ : ∃ a : Nat, tw_fv E1 a0 6 = .ref a ∧ a ∈ L ∧ kp a = 4 := hv
            rw [hxr14]
            refine lv_iload_n hx hb dX11_match_66 rfl (lv_at hl 2 rfl) ?_
            refine lv_bipush (v := 100) hx hb dX11_match_67 (by decide) ?_
            refine lv_isub hx hb dX11_match_69 ?_
            refine lv_topi (fun zi15 ezi15 => ?_)
            have hzi15 : zi15.toInt = x2.toInt - 100 := by rw [ezi15]; have : ((100 : Int32).toInt) = 100 := (by decide); have := ia_lo x2; have := ia_hi x2; exact (ia_sub (by omega) (by omega)).trans (by omega)
            refine tw_Vc (o := xr14) (ci := 4) (n := 1) (post := (fun v kq Lq Eq => (∃ x : Int32, v = some (.int x) ∧ (-1) ≤ x.toInt ∧ x.toInt ≤ 149) ∧ kp = kq ∧ L = Lq ∧ E1 = Eq)) (As := [.int zi15]) (rest := []) ⟨hx, hb, hml, hown, hB⟩ (fun sz => tX4_numberFor l D cs xr14 zi15 hmxr14 hkxr14 sz) cg_11_162_X4_numberFor rfl rfl (by decide +kernel) ⟨Nat.le_of_ble_eq_true rfl, Nat.le_of_ble_eq_true rfl⟩ hK hN TH hS hA rfl hmxr14 hkxr14 (by decide) rfl hl.1 rfl (Nat.le_of_ble_eq_true rfl) dX11_match_70 ⟨Nat.le_of_ble_eq_true rfl, Nat.le_of_ble_eq_true rfl⟩ (fun v16 kp16 L16 E16 H locs hq16 hx16 TH hS => ?_)
            obtain ⟨⟨xc17, rfl, hxc17a, hxc17b⟩, rfl, rfl, rfl⟩ := hq16
            refine W.eq (g2 := F0 m 73 ls [.int xc17]) rfl ?_
            refine lv_goto (tgt := 77) hx hb dX11_match_73 (by decide) ?_
            exact tw_iret hx hb hr hlocks TH hS hex ⟨⟨_, rfl⟩, rfl, rfl, hF⟩ (Nat.le_of_ble_eq_true rfl) (Nat.le_of_ble_eq_true rfl) dX11_match_77
        · have hf18 : x2.toInt = 2 := by have z := (fa_eq _ _).mp hc9; have : ((2 : Int32).toInt) = 2 := (by decide); omega
          refine lv_aload_n hx hb dX11_match_48 rfl (lv_at hl 0 rfl) ?_
          refine tw_get (ci := 11) (C := RX11) (T := TX11) (N := 19) hx hb hB cx_inX11 hown hK TH hm0 hk0 rfl ⟨by decide, rfl⟩ 6 (by decide) cw_389 (fun _ h9 => h9) dX11_match_49 (fun hv => ?_)
          obtain ⟨xr19, hxr19, hmxr19, hkxr19⟩ : ∃ a : Nat, tw_fv E1 a0 6 = .ref a ∧ a ∈ L ∧ kp a = 4 := hv
          rw [hxr19]
          refine tw_Vc (o := xr19) (ci := 4) (n := 0) (post := (fun v kq Lq Eq => (∃ x : Int32, v = some (.int x)) ∧ kp = kq ∧ L = Lq ∧ E1 = Eq)) (As := []) (rest := []) ⟨hx, hb, hml, hown, hB⟩ (fun sz => tX4_bound l D cs xr19 hmxr19 hkxr19 sz) cg_11_159_X4_bound rfl rfl (by decide +kernel) ⟨Nat.le_of_ble_eq_true rfl, Nat.le_of_ble_eq_true rfl⟩ hK hN TH hS hA rfl hmxr19 hkxr19 (by decide) rfl hl.1 rfl (Nat.le_of_ble_eq_true rfl) dX11_match_52 ⟨Nat.le_of_ble_eq_true rfl, Nat.le_of_ble_eq_true rfl⟩ (fun v20 kp20 L20 E20 H locs hq20 hx20 TH hS => ?_)
          obtain ⟨⟨xc21, rfl⟩, rfl, rfl, rfl⟩ := hq20
          refine W.eq (g2 := F0 m 55 ls [.int xc21]) rfl ?_
          exact tw_iret hx hb hr hlocks TH hS hex ⟨⟨_, rfl⟩, rfl, rfl, hF⟩ (Nat.le_of_ble_eq_true rfl) (Nat.le_of_ble_eq_true rfl) dX11_match_55
      · have hf22 : x2.toInt = 1 := by have z := (fa_eq _ _).mp hc7; have : ((1 : Int32).toInt) = 1 := (by decide); omega
        refine lv_aload_n hx hb dX11_match_27 rfl (lv_at hl 0 rfl) ?_
        refine tw_get (ci := 11) (C := RX11) (T := TX11) (N := 19) hx hb hB cx_inX11 hown hK TH hm0 hk0 rfl ⟨by decide, rfl⟩ 6 (by decide) cw_389 (fun _ h9 => h9) dX11_match_28 (fun hv => ?_)
        obtain ⟨xr23, hxr23, hmxr23, hkxr23⟩ : ∃ a : Nat, tw_fv E1 a0 6 = .ref a ∧ a ∈ L ∧ kp a = 4 := hv
        rw [hxr23]
        refine tw_get (ci := 4) (C := RX4) (T := TX4) (N := 7) hx hb hB cx_inX4 hown hK TH hmxr23 hkxr23 rfl ⟨by decide, rfl⟩ 6 (by decide) cw_205 (fun _ h9 => h9) dX11_match_31 (fun hv => ?_)
        obtain ⟨xi24, hxi24, hxi24a, hxi24b⟩ : ∃ x : Int32, tw_fv E1 xr23 6 = .int x ∧ 0 ≤ x.toInt ∧ x.toInt ≤ 1 := hv
        rw [hxi24]
        refine lv_if_eq (tgt := 41) hx hb dX11_match_34 (by decide) (fun hc25 => ?_) (fun hc25 => ?_)
        · have hf26 : xi24.toInt = 0 := by have z := (fa_eq _ _).mp hc25; have : ((0 : Int32).toInt) = 0 := (by decide); omega
          refine lv_iconst (v := 0) hx hb dX11_match_41 (by decide) ?_
          exact tw_iret hx hb hr hlocks TH hS hex ⟨⟨_, rfl⟩, rfl, rfl, hF⟩ (Nat.le_of_ble_eq_true rfl) (Nat.le_of_ble_eq_true rfl) dX11_match_42
        · have hf27 : ¬ (xi24.toInt = 0) := fun q => hc25 ((fa_eq _ _).mpr (by have : ((0 : Int32).toInt) = 0 := (by decide); omega))
          refine lv_iconst (v := 1) hx hb dX11_match_37 (by decide) ?_
          refine lv_goto (tgt := 42) hx hb dX11_match_38 (by decide) ?_
          exact tw_iret hx hb hr hlocks TH hS hex ⟨⟨_, rfl⟩, rfl, rfl, hF⟩ (Nat.le_of_ble_eq_true rfl) (Nat.le_of_ble_eq_true rfl) dX11_match_42
    · have hf28 : x2.toInt = 0 := by have z := (fa_eq _ _).mp hc5; have : ((0 : Int32).toInt) = 0 := (by decide); omega
      refine lv_aload_n hx hb dX11_match_14 rfl (lv_at hl 0 rfl) ?_
      refine tw_get (ci := 11) (C := RX11) (T := TX11) (N := 19) hx hb hB cx_inX11 hown hK TH hm0 hk0 rfl ⟨by decide, rfl⟩ 6 (by decide) cw_389 (fun _ h9 => h9) dX11_match_15 (fun hv => ?_)
      obtain ⟨xr29, hxr29, hmxr29, hkxr29⟩ : ∃ a : Nat, tw_fv E1 a0 6 = .ref a ∧ a ∈ L ∧ kp a = 4 := hv
      rw [hxr29]
      refine tw_get (ci := 4) (C := RX4) (T := TX4) (N := 7) hx hb hB cx_inX4 hown hK TH hmxr29 hkxr29 rfl ⟨by decide, rfl⟩ 5 (by decide) cw_203 (fun _ h9 => h9) dX11_match_18 (fun hv => ?_)
      obtain ⟨xi30, hxi30, hxi30a, hxi30b⟩ : ∃ x : Int32, tw_fv E1 xr29 5 = .int x ∧ (-2147483648) ≤ x.toInt ∧ x.toInt ≤ 2147483647 := hv
      rw [hxi30]
      exact tw_iret hx hb hr hlocks TH hS hex ⟨⟨_, rfl⟩, rfl, rfl, hF⟩ (Nat.le_of_ble_eq_true rfl) (Nat.le_of_ble_eq_true rfl) dX11_match_21
  · have hf31 : xc2.toInt = 0 := by have z := (fa_eq _ _).mp hc3; have : ((0 : Int32).toInt) = 0 := (by decide); omega
    refine lv_iconst (v := (-1)) hx hb dX11_match_8 (by decide) ?_
    exact tw_iret hx hb hr hlocks TH hS hex ⟨⟨_, rfl⟩, rfl, rfl, hF⟩ (Nat.le_of_ble_eq_true rfl) (Nat.le_of_ble_eq_true rfl) dX11_match_9
