set_option maxHeartbeats 4000000 in
set_option maxRecDepth 100000 in
theorem tX11_node (l : Launch) (D : va_G) (cs : Nat → ClassId) {kp : Nat → Nat} {L : List Nat} {E : Nat → va_E} (a0 : Nat) (x1 : Int32) (x2 : Int32) (hm0 : a0 ∈ L) (hk0 : kp a0 = 11) (sz : Nat) : Met l yX11_node (.code yX11_node cX11_node 4 (some .int) :: cx_big) { frames := 2, cells := 0, slots := 0, locals := 42 } (tw_P D cs kp L E [.ref a0, .int x1, .int x2] sz) (tw_Q D cs kp L (fun v kq Lq Eq => (∃ x : Int32, v = some (.int x)) ∧ kp = kq ∧ L = Lq ∧ E = Eq) (va_A (va_pl L E) sz)) 0 0 (va_A (va_pl L E) sz) := by
  refine tw_ofW (by decide) (Nat.le_of_ble_eq_true rfl) ?_
  intro p e s m below meth c A ls hx hb hr hml hB hown hlocks hK hN hA TH hS hl
  have hown : s.vm.findClass "TreeMerge" = some m.cls := hown
  have hl : lv_has ls 4 [(0, .ref a0), (1, .int x1), (2, .int x2)] := hl
  obtain ⟨kp0, ekp⟩ : ∃ z, z = kp := ⟨_, rfl⟩
  obtain ⟨L0, eL⟩ : ∃ z, z = L := ⟨_, rfl⟩
  rw [show tw_Q D cs kp L = tw_Q D cs kp0 L0 by rw [ekp, eL]]
  have hex : ∀ a : Nat, a ∈ L0 → a ∈ L ∧ kp a = kp0 a := fun a h => ⟨by rw [← eL]; exact h, by rw [ekp]⟩
  refine lv_aload_n hx hb dX11_node_0 rfl (lv_at hl 0 rfl) ?_
  refine tw_get (ci := 11) (C := RX11) (T := TX11) (N := 19) hx hb hB cx_inX11 hown hK TH hm0 hk0 rfl ⟨by decide, rfl⟩ 7 (by decide) cw_390 (fun _ h9 => h9) dX11_node_1 (fun hv => ?_)
  obtain ⟨xr1, hxr1, hmxr1, hkxr1⟩ : ∃ a : Nat, tw_fv E a0 7 = .ref a ∧ a ∈ L ∧ kp a = 1 := hv
  rw [hxr1]
  refine lv_iload_n hx hb dX11_node_4 rfl (lv_at hl 1 rfl) ?_
  refine tw_Vc (o := xr1) (ci := 1) (n := 1) (post := (fun v kq Lq Eq => (v = some .null ∨ ∃ a : Nat, v = some (.ref a) ∧ a ∈ Lq ∧ kq a = 10 ∧ (0 ≤ x1.toInt ∧ x1.toInt ≤ 11)) ∧ kp = kq ∧ L = Lq ∧ E = Eq)) (As := [.int x1]) (rest := []) ⟨hx, hb, hml, hown, hB⟩ (fun sz => tX1_treeOf l D cs xr1 x1 hmxr1 hkxr1 sz) cg_11_168_X1_treeOf rfl rfl (by decide +kernel) ⟨Nat.le_of_ble_eq_true rfl, Nat.le_of_ble_eq_true rfl⟩ hK hN TH hS hA rfl hmxr1 hkxr1 (by decide) rfl hl.1 rfl (Nat.le_of_ble_eq_true rfl) dX11_node_5 ⟨Nat.le_of_ble_eq_true rfl, Nat.le_of_ble_eq_true rfl⟩ (fun v2 kp2 L2 E2 H locs hq2 hx2 TH hS => ?_)
  obtain ⟨hnxc3, rfl, rfl, rfl⟩ := hq2
  rcases hnxc3 with rfl | ⟨xc3, rfl, hmxc3, hkxc3, hnpxc3⟩
  · refine W.eq (g2 := F0 m 8 ls [.null]) rfl ?_
    refine lv_astore_nN (lv' := [(3, .null), (0, .ref a0), (1, .int x1), (2, .int x2)]) hx hb dX11_node_8 rfl hl (by decide) rfl (fun ls hl => ?_)
    refine lv_aload_nN hx hb dX11_node_9 rfl (lv_at hl 0 rfl) ?_
    refine lv_ifnonnullN hx hb dX11_node_10 ?_
    refine lv_iconst (v := (-1)) hx hb dX11_node_13 (by decide) ?_
    exact tw_iret hx hb hr hlocks TH hS hex ⟨⟨_, rfl⟩, rfl, rfl, rfl⟩ (Nat.le_of_ble_eq_true rfl) (Nat.le_of_ble_eq_true rfl) dX11_node_14
  · refine W.eq (g2 := F0 m 8 ls [.ref xc3]) rfl ?_
    refine lv_astore_n (lv' := [(3, .ref xc3), (0, .ref a0), (1, .int x1), (2, .int x2)]) hx hb dX11_node_8 rfl hl (by decide) rfl (fun ls hl => ?_)
    refine lv_aload_n hx hb dX11_node_9 rfl (lv_at hl 0 rfl) ?_
    refine lv_ifnonnull (tgt := 15) hx hb dX11_node_10 (by decide) ?_
    refine lv_iload_n hx hb dX11_node_15 rfl (lv_at hl 3 rfl) ?_
    refine lv_iconst (v := (-1)) hx hb dX11_node_16 (by decide) ?_
    refine lv_icmp_ne (tgt := 25) hx hb dX11_node_17 (by decide) (fun hc4 => ?_) (fun hc4 => ?_)
    · have hf5 : ¬ (x2.toInt = (-1)) := fun q => hc4 ((fa_eq _ _).mpr (by have : (((-1) : Int32).toInt) = (-1) := (by decide); omega))
      refine lv_iload_n hx hb dX11_node_25 rfl (lv_at hl 3 rfl) ?_
      refine lv_if_lt (tgt := 46) hx hb dX11_node_26 (by decide) (fun hc6 => ?_) (fun hc6 => ?_)
      · have hf7 : x2.toInt < 0 := by have z := (fa_lt _ _).mp hc6; have : ((0 : Int32).toInt) = 0 := (by decide); omega
        refine lv_iconst (v := (-1)) hx hb dX11_node_46 (by decide) ?_
        exact tw_iret hx hb hr hlocks TH hS hex ⟨⟨_, rfl⟩, rfl, rfl, rfl⟩ (Nat.le_of_ble_eq_true rfl) (Nat.le_of_ble_eq_true rfl) dX11_node_47
      · have hf8 : ¬ (x2.toInt < 0) := fun q => hc6 ((fa_lt _ _).mpr (by have : ((0 : Int32).toInt) = 0 := (by decide); omega))
        refine lv_iload_n hx hb dX11_node_29 rfl (lv_at hl 3 rfl) ?_
        refine lv_aload_n hx hb dX11_node_30 rfl (lv_at hl 0 rfl) ?_
        refine tw_get (ci := 10) (C := RX10) (T := TX10) (N := 8) hx hb hB cx_inX10 hown hK TH hmxc3 hkxc3 rfl ⟨by decide, rfl⟩ 0 (by decide) cw_121 (fun _ h9 => h9) dX11_node_31 (fun hv => ?_)
        obtain ⟨xi9, hxi9, hxi9a, hxi9b⟩ : ∃ x : Int32, tw_fv E xc3 0 = .int x ∧ 0 ≤ x.toInt ∧ x.toInt ≤ 40 := hv
        rw [hxi9]
        refine lv_icmp_ge (tgt := 46) hx hb dX11_node_34 (by decide) (fun hc10 => ?_) (fun hc10 => ?_)
        · have hf11 : xi9.toInt ≤ x2.toInt := by have z := (fa_le _ _).mp hc10;  omega
          refine lv_iconst (v := (-1)) hx hb dX11_node_46 (by decide) ?_
          exact tw_iret hx hb hr hlocks TH hS hex ⟨⟨_, rfl⟩, rfl, rfl, rfl⟩ (Nat.le_of_ble_eq_true rfl) (Nat.le_of_ble_eq_true rfl) dX11_node_47
        · have hf12 : ¬ (xi9.toInt ≤ x2.toInt) := fun q => hc10 ((fa_le _ _).mpr (by  omega))
          refine lv_aload_n hx hb dX11_node_37 rfl (lv_at hl 0 rfl) ?_
          refine tw_get (ci := 10) (C := RX10) (T := TX10) (N := 8) hx hb hB cx_inX10 hown hK TH hmxc3 hkxc3 rfl ⟨by decide, rfl⟩ 1 (by decide) cw_125 (fun _ h9 => h9) dX11_node_38 (fun hv => ?_)
          obtain ⟨xr13, hxr13, hmxr13, hkxr13⟩ : ∃ a : Nat, tw_fv E xc3 1 = .ref a ∧ a ∈ L ∧ kp a = 110 := hv
          rw [hxr13]
          refine lv_iload_n hx hb dX11_node_41 rfl (lv_at hl 3 rfl) ?_
          refine tw_iald (k := 110) (t0 := 0) (n := 40) (lo := (-1)) (hi := 149) hx hb hK TH hmxr13 hkxr13 (by decide) rfl rfl (i := x2) (vp_in_iff.mpr ⟨by  omega, by  omega⟩) dX11_node_42 (fun hxe14a hxe14b => ?_)
          obtain ⟨xe14, exe14⟩ : ∃ z : Int32, tw_iv E xr13 (Int32.toNatClampNeg x2) = z := ⟨_, rfl⟩
          rw [exe14] at hxe14a hxe14b ⊢
          refine lv_goto (tgt := 47) hx hb dX11_node_43 (by decide) ?_
          exact tw_iret hx hb hr hlocks TH hS hex ⟨⟨_, rfl⟩, rfl, rfl, rfl⟩ (Nat.le_of_ble_eq_true rfl) (Nat.le_of_ble_eq_true rfl) dX11_node_47
    · have hf15 : x2.toInt = (-1) := by have z := (fa_eq _ _).mp hc4; have : (((-1) : Int32).toInt) = (-1) := (by decide); omega
      refine lv_aload_n hx hb dX11_node_20 rfl (lv_at hl 0 rfl) ?_
      refine tw_get (ci := 10) (C := RX10) (T := TX10) (N := 8) hx hb hB cx_inX10 hown hK TH hmxc3 hkxc3 rfl ⟨by decide, rfl⟩ 0 (by decide) cw_121 (fun _ h9 => h9) dX11_node_21 (fun hv => ?_)
      obtain ⟨xi16, hxi16, hxi16a, hxi16b⟩ : ∃ x : Int32, tw_fv E xc3 0 = .int x ∧ 0 ≤ x.toInt ∧ x.toInt ≤ 40 := hv
      rw [hxi16]
      exact tw_iret hx hb hr hlocks TH hS hex ⟨⟨_, rfl⟩, rfl, rfl, rfl⟩ (Nat.le_of_ble_eq_true rfl) (Nat.le_of_ble_eq_true rfl) dX11_node_24
set_option maxHeartbeats 4000000 in
set_option maxRecDepth 100000 in
theorem tX11_of (l : Launch) (D : va_G) (cs : Nat → ClassId) {kp : Nat → Nat} {L : List Nat} {E : Nat → va_E} (a0 : Nat) (x1 : Int32) (x2 : Int32) (x3 : Int32) (hm0 : a0 ∈ L) (hk0 : kp a0 = 11) (sz : Nat) : Met l yX11_of (.code yX11_of cX11_of 6 (some .int) :: cx_big) { frames := 3, cells := 0, slots := 0, locals := 63 } (tw_P D cs kp L E [.ref a0, .int x1, .int x2, .int x3] sz) (tw_Q D cs kp L (fun v kq Lq Eq => (∃ x : Int32, v = some (.int x)) ∧ kp = kq ∧ L = Lq ∧ tw_fr kp L [] [182] E Eq) (va_A (va_pl L E) sz)) 0 0 (va_A (va_pl L E) sz) := by
  refine tw_ofW (by decide) (Nat.le_of_ble_eq_true rfl) ?_
  intro p e s m below meth c A ls hx hb hr hml hB hown hlocks hK hN hA TH hS hl
  have hown : s.vm.findClass "TreeMerge" = some m.cls := hown
  have hl : lv_has ls 6 [(0, .ref a0), (1, .int x1), (2, .int x2), (3, .int x3)] := hl
  obtain ⟨kp0, ekp⟩ : ∃ z, z = kp := ⟨_, rfl⟩
  obtain ⟨L0, eL⟩ : ∃ z, z = L := ⟨_, rfl⟩
  rw [show tw_Q D cs kp L = tw_Q D cs kp0 L0 by rw [ekp, eL]]
  have hex : ∀ a : Nat, a ∈ L0 → a ∈ L ∧ kp a = kp0 a := fun a h => ⟨by rw [← eL]; exact h, by rw [ekp]⟩
  have hF : tw_fr kp L [] [182] E E := tw_fr.rf
  refine lv_aload_n hx hb dX11_of_0 rfl (lv_at hl 0 rfl) ?_
  refine lv_iload_n hx hb dX11_of_1 rfl (lv_at hl 1 rfl) ?_
  refine tw_Vc (o := a0) (ci := 11) (n := 1) (post := (fun v kq Lq Eq => (v = some .null ∨ ∃ a : Nat, v = some (.ref a) ∧ a ∈ Lq ∧ kq a = 10) ∧ kp = kq ∧ L = Lq ∧ E = Eq)) (As := [.int x1]) (rest := []) ⟨hx, hb, hml, hown, hB⟩ (fun sz => tX11_editionOrDraft l D cs a0 x1 hm0 hk0 sz) cg_11_320_X11_editionOrDraft rfl rfl (by decide +kernel) ⟨Nat.le_of_ble_eq_true rfl, Nat.le_of_ble_eq_true rfl⟩ hK hN TH hS hA rfl hm0 hk0 (by decide) rfl hl.1 rfl (Nat.le_of_ble_eq_true rfl) dX11_of_2 ⟨Nat.le_of_ble_eq_true rfl, Nat.le_of_ble_eq_true rfl⟩ (fun v1 kp1 L1 E1 H locs hq1 hx1 TH hS => ?_)
  obtain ⟨hnxc2, rfl, rfl, rfl⟩ := hq1
  rcases hnxc2 with rfl | ⟨xc2, rfl, hmxc2, hkxc2⟩
  · refine W.eq (g2 := F0 m 5 ls [.null]) rfl ?_
    refine lv_astoreN (lv' := [(4, .null), (0, .ref a0), (1, .int x1), (2, .int x2), (3, .int x3)]) hx hb dX11_of_5 hl (by decide) rfl (fun ls hl => ?_)
    refine lv_aloadN hx hb dX11_of_7 (lv_at hl 0 rfl) ?_
    refine lv_ifnonnullN hx hb dX11_of_9 ?_
    refine lv_iconst (v := (-1)) hx hb dX11_of_12 (by decide) ?_
    refine lv_goto (tgt := 22) hx hb dX11_of_13 (by decide) ?_
    refine lv_istore (lv' := [(5, .int (-1)), (4, .null), (0, .ref a0), (1, .int x1), (2, .int x2), (3, .int x3)]) hx hb dX11_of_22 hl (by decide) rfl (fun ls hl => ?_)
    refine lv_iload hx hb dX11_of_24 (lv_at hl 0 rfl) ?_
    refine lv_iconst (v := (-1)) hx hb dX11_of_26 (by decide) ?_
    refine lv_icmp_ne (tgt := 32) hx hb dX11_of_27 (by decide) (fun hc3 => ?_) (fun hc3 => ?_)
    · have hf4 : ¬ ((-1) = (-1)) := fun q => hc3 ((fa_eq _ _).mpr (by have : (((-1) : Int32).toInt) = (-1) := (by decide); omega))
      exfalso; omega
    · have hf5 : (-1) = (-1) := by have z := (fa_eq _ _).mp hc3; have : (((-1) : Int32).toInt) = (-1) := (by decide); omega
      refine lv_iconst (v := (-1)) hx hb dX11_of_30 (by decide) ?_
      exact tw_iret hx hb hr hlocks TH hS hex ⟨⟨_, rfl⟩, rfl, rfl, hF⟩ (Nat.le_of_ble_eq_true rfl) (Nat.le_of_ble_eq_true rfl) dX11_of_31
  · refine W.eq (g2 := F0 m 5 ls [.ref xc2]) rfl ?_
    refine lv_astore (lv' := [(4, .ref xc2), (0, .ref a0), (1, .int x1), (2, .int x2), (3, .int x3)]) hx hb dX11_of_5 hl (by decide) rfl (fun ls hl => ?_)
    refine lv_aload hx hb dX11_of_7 (lv_at hl 0 rfl) ?_
    refine lv_ifnonnull (tgt := 16) hx hb dX11_of_9 (by decide) ?_
    refine lv_aload hx hb dX11_of_16 (lv_at hl 0 rfl) ?_
    refine lv_iload_n hx hb dX11_of_18 rfl (lv_at hl 3 rfl) ?_
    refine tw_Vc (o := xc2) (ci := 10) (n := 1) (post := (fun v kq Lq Eq => (∃ x : Int32, v = some (.int x) ∧ (-1) ≤ x.toInt ∧ x.toInt ≤ 39 ∧ (x.toInt ≠ -1 → -1 ≤ x2.toInt ∧ x2.toInt ≤ 149)) ∧ kp = kq ∧ L = Lq ∧ E = Eq)) (As := [.int x2]) (rest := []) ⟨hx, hb, hml, hown, hB⟩ (fun sz => tX10_find l D cs xc2 x2 hmxc2 hkxc2 sz) cg_11_323_X10_find rfl rfl (by decide +kernel) ⟨Nat.le_of_ble_eq_true rfl, Nat.le_of_ble_eq_true rfl⟩ hK hN TH hS hA rfl hmxc2 hkxc2 (by decide) rfl hl.1 rfl (Nat.le_of_ble_eq_true rfl) dX11_of_19 ⟨Nat.le_of_ble_eq_true rfl, Nat.le_of_ble_eq_true rfl⟩ (fun v6 kp6 L6 E6 H locs hq6 hx6 TH hS => ?_)
    obtain ⟨⟨xc7, rfl, hxc7a, hxc7b, hpoxc7_0⟩, rfl, rfl, rfl⟩ := hq6
    refine W.eq (g2 := F0 m 22 ls [.int xc7]) rfl ?_
    refine lv_istore (lv' := [(5, .int xc7), (4, .ref xc2), (0, .ref a0), (1, .int x1), (2, .int x2), (3, .int x3)]) hx hb dX11_of_22 hl (by decide) rfl (fun ls hl => ?_)
    refine lv_iload hx hb dX11_of_24 (lv_at hl 0 rfl) ?_
    refine lv_iconst (v := (-1)) hx hb dX11_of_26 (by decide) ?_
    refine lv_icmp_ne (tgt := 32) hx hb dX11_of_27 (by decide) (fun hc8 => ?_) (fun hc8 => ?_)
    · have hf9 : ¬ (xc7.toInt = (-1)) := fun q => hc8 ((fa_eq _ _).mpr (by have : (((-1) : Int32).toInt) = (-1) := (by decide); omega))
      refine lv_iload_n hx hb dX11_of_32 rfl (lv_at hl 5 rfl) ?_
      by_cases hc10_0 : x3 = 0
      · refine lv_tableIn (x := x3) (off := 43) (tgt := 76) hx hb dX11_of_33 (by rw [hc10_0]; decide) (by rw [hc10_0]; decide) (by rw [hc10_0]; decide) (by decide) ?_
        refine lv_aload hx hb dX11_of_76 (lv_at hl 1 rfl) ?_
        refine tw_get (ci := 10) (C := RX10) (T := TX10) (N := 8) hx hb hB cx_inX10 hown hK TH hmxc2 hkxc2 rfl ⟨by decide, rfl⟩ 5 (by decide) cw_143 (fun _ h9 => h9) dX11_of_78 (fun hv => ?_)
        obtain ⟨xr11, hxr11, hmxr11, hkxr11⟩ : ∃ a : Nat, tw_fv E xc2 5 = .ref a ∧ a ∈ L ∧ kp a = 114 := hv
        rw [hxr11]
        refine lv_iload hx hb dX11_of_81 (lv_at hl 0 rfl) ?_
        refine tw_iald (k := 114) (t0 := 0) (n := 40) (lo := (-1)) (hi := 9) hx hb hK TH hmxr11 hkxr11 (by decide) rfl rfl (i := xc7) (vp_in_iff.mpr ⟨by  omega, by  omega⟩) dX11_of_83 (fun hxe12a hxe12b => ?_)
        obtain ⟨xe12, exe12⟩ : ∃ z : Int32, tw_iv E xr11 (Int32.toNatClampNeg xc7) = z := ⟨_, rfl⟩
        rw [exe12] at hxe12a hxe12b ⊢
        exact tw_iret hx hb hr hlocks TH hS hex ⟨⟨_, rfl⟩, rfl, rfl, hF⟩ (Nat.le_of_ble_eq_true rfl) (Nat.le_of_ble_eq_true rfl) dX11_of_84
      by_cases hc10_1 : x3 = 1
      · refine lv_tableIn (x := x3) (off := 52) (tgt := 85) hx hb dX11_of_33 (by rw [hc10_1]; decide) (by rw [hc10_1]; decide) (by rw [hc10_1]; decide) (by decide) ?_
        refine lv_aload hx hb dX11_of_85 (lv_at hl 1 rfl) ?_
        refine tw_get (ci := 10) (C := RX10) (T := TX10) (N := 8) hx hb hB cx_inX10 hown hK TH hmxc2 hkxc2 rfl ⟨by decide, rfl⟩ 2 (by decide) cw_129 (fun _ h9 => h9) dX11_of_87 (fun hv => ?_)
        obtain ⟨xr13, hxr13, hmxr13, hkxr13⟩ : ∃ a : Nat, tw_fv E xc2 2 = .ref a ∧ a ∈ L ∧ kp a = 111 := hv
        rw [hxr13]
        refine lv_iload hx hb dX11_of_90 (lv_at hl 0 rfl) ?_
        refine tw_iald (k := 111) (t0 := 0) (n := 40) (lo := (-1)) (hi := 149) hx hb hK TH hmxr13 hkxr13 (by decide) rfl rfl (i := xc7) (vp_in_iff.mpr ⟨by  omega, by  omega⟩) dX11_of_92 (fun hxe14a hxe14b => ?_)
        obtain ⟨xe14, exe14⟩ : ∃ z : Int32, tw_iv E xr13 (Int32.toNatClampNeg xc7) = z := ⟨_, rfl⟩
        rw [exe14] at hxe14a hxe14b ⊢
        exact tw_iret hx hb hr hlocks TH hS hex ⟨⟨_, rfl⟩, rfl, rfl, hF⟩ (Nat.le_of_ble_eq_true rfl) (Nat.le_of_ble_eq_true rfl) dX11_of_93
      by_cases hc10_2 : x3 = 2
      · refine lv_tableIn (x := x3) (off := 61) (tgt := 94) hx hb dX11_of_33 (by rw [hc10_2]; decide) (by rw [hc10_2]; decide) (by rw [hc10_2]; decide) (by decide) ?_
        refine lv_aload hx hb dX11_of_94 (lv_at hl 1 rfl) ?_
        refine lv_iload hx hb dX11_of_96 (lv_at hl 0 rfl) ?_
        refine tw_Vc (o := xc2) (ci := 10) (n := 1) (post := (fun v kq Lq Eq => (∃ x : Int32, v = some (.int x)) ∧ kp = kq ∧ L = Lq ∧ E = Eq)) (As := [.int xc7]) (rest := []) ⟨hx, hb, hml, hown, hB⟩ (fun sz => tX10_placeOf l D cs xc2 xc7 hmxc2 hkxc2 (by omega) (by omega) sz) cg_11_324_X10_placeOf rfl rfl (by decide +kernel) ⟨Nat.le_of_ble_eq_true rfl, Nat.le_of_ble_eq_true rfl⟩ hK hN TH hS hA rfl hmxc2 hkxc2 (by decide) rfl hl.1 rfl (Nat.le_of_ble_eq_true rfl) dX11_of_98 ⟨Nat.le_of_ble_eq_true rfl, Nat.le_of_ble_eq_true rfl⟩ (fun v15 kp15 L15 E15 H locs hq15 hx15 TH hS => ?_)
        obtain ⟨⟨xc16, rfl⟩, rfl, rfl, rfl⟩ := hq15
        refine W.eq (g2 := F0 m 101 ls [.int xc16]) rfl ?_
        exact tw_iret hx hb hr hlocks TH hS hex ⟨⟨_, rfl⟩, rfl, rfl, hF⟩ (Nat.le_of_ble_eq_true rfl) (Nat.le_of_ble_eq_true rfl) dX11_of_101
      by_cases hc10_3 : x3 = 3
      · refine lv_tableIn (x := x3) (off := 69) (tgt := 102) hx hb dX11_of_33 (by rw [hc10_3]; decide) (by rw [hc10_3]; decide) (by rw [hc10_3]; decide) (by decide) ?_
        refine lv_aload hx hb dX11_of_102 (lv_at hl 1 rfl) ?_
        refine lv_iload hx hb dX11_of_104 (lv_at hl 0 rfl) ?_
        refine tw_Vc (o := xc2) (ci := 10) (n := 1) (post := (fun v kq Lq Eq => (∃ x : Int32, v = some (.int x)) ∧ kp = kq ∧ L = Lq ∧ E = Eq)) (As := [.int xc7]) (rest := []) ⟨hx, hb, hml, hown, hB⟩ (fun sz => tX10_childCount l D cs xc2 xc7 hmxc2 hkxc2 (by omega) (by omega) sz) cg_11_241_X10_childCount rfl rfl (by decide +kernel) ⟨Nat.le_of_ble_eq_true rfl, Nat.le_of_ble_eq_true rfl⟩ hK hN TH hS hA rfl hmxc2 hkxc2 (by decide) rfl hl.1 rfl (Nat.le_of_ble_eq_true rfl) dX11_of_106 ⟨Nat.le_of_ble_eq_true rfl, Nat.le_of_ble_eq_true rfl⟩ (fun v17 kp17 L17 E17 H locs hq17 hx17 TH hS => ?_)
        obtain ⟨⟨xc18, rfl⟩, rfl, rfl, rfl⟩ := hq17
        refine W.eq (g2 := F0 m 109 ls [.int xc18]) rfl ?_
        exact tw_iret hx hb hr hlocks TH hS hex ⟨⟨_, rfl⟩, rfl, rfl, hF⟩ (Nat.le_of_ble_eq_true rfl) (Nat.le_of_ble_eq_true rfl) dX11_of_109
      by_cases hc10_4 : x3 = 4
      · refine lv_tableIn (x := x3) (off := 77) (tgt := 110) hx hb dX11_of_33 (by rw [hc10_4]; decide) (by rw [hc10_4]; decide) (by rw [hc10_4]; decide) (by decide) ?_
        refine lv_aload hx hb dX11_of_110 (lv_at hl 1 rfl) ?_
        refine lv_iload hx hb dX11_of_112 (lv_at hl 0 rfl) ?_
        refine lv_aload_n hx hb dX11_of_114 rfl (lv_at hl 2 rfl) ?_
        refine tw_get (ci := 11) (C := RX11) (T := TX11) (N := 19) hx hb hB cx_inX11 hown hK TH hm0 hk0 rfl ⟨by decide, rfl⟩ 18 (by decide) cw_401 (fun _ h9 => h9) dX11_of_115 (fun hv => ?_)
        obtain ⟨xr19, hxr19, hmxr19, hkxr19⟩ : ∃ a : Nat, tw_fv E a0 18 = .ref a ∧ a ∈ L ∧ kp a = 182 := hv
        rw [hxr19]
        refine tw_Vc (o := xc2) (ci := 10) (n := 2) (post := (fun v kq Lq Eq => (∃ x : Int32, v = some (.int x)) ∧ kp = kq ∧ L = Lq ∧ tw_fr kp L [] [182] E Eq)) (As := [.int xc7, .ref xr19]) (rest := []) ⟨hx, hb, hml, hown, hB⟩ (fun sz => tX10_nameOf l D cs xc2 xc7 xr19 hmxc2 hkxc2 (by omega) (by omega) hmxr19 hkxr19 sz) cg_11_327_X10_nameOf rfl rfl (by decide +kernel) ⟨Nat.le_of_ble_eq_true rfl, Nat.le_of_ble_eq_true rfl⟩ hK hN TH hS hA rfl hmxc2 hkxc2 (by decide) rfl hl.1 rfl (Nat.le_of_ble_eq_true rfl) dX11_of_118 ⟨Nat.le_of_ble_eq_true rfl, Nat.le_of_ble_eq_true rfl⟩ (fun v20 kp20 L20 E20 H locs hq20 hx20 TH hS => ?_)
        obtain ⟨⟨xc21, rfl⟩, rfl, rfl, hst20⟩ := hq20
        have hF := hF.tr hst20 (fun _ h => ⟨h, rfl⟩) (by decide) (by decide)
        have hmf22 : tw_fv E20 a0 18 = .ref xr19 := (hst20.1 a0 18 hm0 (by rw [hk0]; decide)).trans hxr19
        refine W.eq (g2 := F0 m 121 ls [.int xc21]) rfl ?_
        exact tw_iret hx hb hr hlocks TH hS hex ⟨⟨_, rfl⟩, rfl, rfl, hF⟩ (Nat.le_of_ble_eq_true rfl) (Nat.le_of_ble_eq_true rfl) dX11_of_121
      by_cases hc10_5 : x3 = 5
      · refine lv_tableIn (x := x3) (off := 89) (tgt := 122) hx hb dX11_of_33 (by rw [hc10_5]; decide) (by rw [hc10_5]; decide) (by rw [hc10_5]; decide) (by decide) ?_
        refine lv_iload_n hx hb dX11_of_122 rfl (lv_at hl 3 rfl) ?_
        refine lv_bipush (v := 12) hx hb dX11_of_123 (by decide) ?_
        refine lv_icmp_ne (tgt := 132) hx hb dX11_of_125 (by decide) (fun hc23 => ?_) (fun hc23 => ?_)
        · have hf24 : ¬ (x1.toInt = 12) := fun q => hc23 ((fa_eq _ _).mpr (by have : ((12 : Int32).toInt) = 12 := (by decide); omega))
          refine lv_aload hx hb dX11_of_132 (lv_at hl 1 rfl) ?_
          refine tw_get (ci := 10) (C := RX10) (T := TX10) (N := 8) hx hb hB cx_inX10 hown hK TH hmxc2 hkxc2 rfl ⟨by decide, rfl⟩ 7 (by decide) cw_152 (fun _ h9 => h9) dX11_of_134 (fun hv => ?_)
          obtain ⟨xr25, hxr25, hmxr25, hkxr25⟩ : ∃ a : Nat, tw_fv E xc2 7 = .ref a ∧ a ∈ L ∧ kp a = 115 := hv
          rw [hxr25]
          refine lv_iload hx hb dX11_of_137 (lv_at hl 0 rfl) ?_
          refine tw_iald (k := 115) (t0 := 0) (n := 40) (lo := (-1)) (hi := 11) hx hb hK TH hmxr25 hkxr25 (by decide) rfl rfl (i := xc7) (vp_in_iff.mpr ⟨by  omega, by  omega⟩) dX11_of_139 (fun hxe26a hxe26b => ?_)
          obtain ⟨xe26, exe26⟩ : ∃ z : Int32, tw_iv E xr25 (Int32.toNatClampNeg xc7) = z := ⟨_, rfl⟩
          rw [exe26] at hxe26a hxe26b ⊢
          exact tw_iret hx hb hr hlocks TH hS hex ⟨⟨_, rfl⟩, rfl, rfl, hF⟩ (Nat.le_of_ble_eq_true rfl) (Nat.le_of_ble_eq_true rfl) dX11_of_140
        · have hf27 : x1.toInt = 12 := by have z := (fa_eq _ _).mp hc23; have : ((12 : Int32).toInt) = 12 := (by decide); omega
          refine lv_iconst (v := (-1)) hx hb dX11_of_128 (by decide) ?_
          refine lv_goto (tgt := 140) hx hb dX11_of_129 (by decide) ?_
          exact tw_iret hx hb hr hlocks TH hS hex ⟨⟨_, rfl⟩, rfl, rfl, hF⟩ (Nat.le_of_ble_eq_true rfl) (Nat.le_of_ble_eq_true rfl) dX11_of_140
      by_cases hc10_6 : x3 = 6
      · refine lv_tableIn (x := x3) (off := 108) (tgt := 141) hx hb dX11_of_33 (by rw [hc10_6]; decide) (by rw [hc10_6]; decide) (by rw [hc10_6]; decide) (by decide) ?_
        refine lv_aload hx hb dX11_of_141 (lv_at hl 1 rfl) ?_
        refine tw_get (ci := 10) (C := RX10) (T := TX10) (N := 8) hx hb hB cx_inX10 hown hK TH hmxc2 hkxc2 rfl ⟨by decide, rfl⟩ 4 (by decide) cw_137 (fun _ h9 => h9) dX11_of_143 (fun hv => ?_)
        obtain ⟨xr28, hxr28, hmxr28, hkxr28⟩ : ∃ a : Nat, tw_fv E xc2 4 = .ref a ∧ a ∈ L ∧ kp a = 113 := hv
        rw [hxr28]
        refine lv_iload hx hb dX11_of_146 (lv_at hl 0 rfl) ?_
        refine tw_iald (k := 113) (t0 := 0) (n := 40) (lo := 0) (hi := 40) hx hb hK TH hmxr28 hkxr28 (by decide) rfl rfl (i := xc7) (vp_in_iff.mpr ⟨by  omega, by  omega⟩) dX11_of_148 (fun hxe29a hxe29b => ?_)
        obtain ⟨xe29, exe29⟩ : ∃ z : Int32, tw_iv E xr28 (Int32.toNatClampNeg xc7) = z := ⟨_, rfl⟩
        rw [exe29] at hxe29a hxe29b ⊢
        exact tw_iret hx hb hr hlocks TH hS hex ⟨⟨_, rfl⟩, rfl, rfl, hF⟩ (Nat.le_of_ble_eq_true rfl) (Nat.le_of_ble_eq_true rfl) dX11_of_149
      have hout : x3.toInt < 0 ∨ 6 < x3.toInt := by simp only [fa_eq] at hc10_0 hc10_1 hc10_2 hc10_3 hc10_4 hc10_5 hc10_6; have : ((0 : Int32).toInt) = 0 := (by decide); have : ((1 : Int32).toInt) = 1 := (by decide); have : ((2 : Int32).toInt) = 2 := (by decide); have : ((3 : Int32).toInt) = 3 := (by decide); have : ((4 : Int32).toInt) = 4 := (by decide); have : ((5 : Int32).toInt) = 5 := (by decide); have : ((6 : Int32).toInt) = 6 := (by decide); omega
      refine lv_tableOut (tgt := 150) hx hb dX11_of_33 hout (by decide) ?_
      refine lv_iconst (v := (-1)) hx hb dX11_of_150 (by decide) ?_
      exact tw_iret hx hb hr hlocks TH hS hex ⟨⟨_, rfl⟩, rfl, rfl, hF⟩ (Nat.le_of_ble_eq_true rfl) (Nat.le_of_ble_eq_true rfl) dX11_of_151
    · have hf30 : xc7.toInt = (-1) := by have z := (fa_eq _ _).mp hc8; have : (((-1) : Int32).toInt) = (-1) := (by decide); omega
      refine lv_iconst (v := (-1)) hx hb dX11_of_30 (by decide) ?_
      exact tw_iret hx hb hr hlocks TH hS hex ⟨⟨_, rfl⟩, rfl, rfl, hF⟩ (Nat.le_of_ble_eq_true rfl) (Nat.le_of_ble_eq_true rfl) dX11_of_31
set_option maxHeartbeats 4000000 in
set_option maxRecDepth 100000 in
theorem tX11_word (l : Launch) (D : va_G) (cs : Nat → ClassId) {kp : Nat → Nat} {L : List Nat} {E : Nat → va_E} (a0 : Nat) (x1 : Int32) (x2 : Int32) (hm0 : a0 ∈ L) (hk0 : kp a0 = 11) (sz : Nat) : Met l yX11_word (.code yX11_word cX11_word 5 (some .long) :: cx_big) { frames := 3, cells := 0, slots := 0, locals := 63 } (tw_P D cs kp L E [.ref a0, .int x1, .int x2] sz) (tw_Q D cs kp L (fun v kq Lq Eq => (∃ x : Int64, v = some (.long x)) ∧ kp = kq ∧ L = Lq ∧ E = Eq) (va_A (va_pl L E) sz)) 0 0 (va_A (va_pl L E) sz) := by
  refine tw_ofW (by decide) (Nat.le_of_ble_eq_true rfl) ?_
  intro p e s m below meth c A ls hx hb hr hml hB hown hlocks hK hN hA TH hS hl
  have hown : s.vm.findClass "TreeMerge" = some m.cls := hown
  have hl : lv_has ls 5 [(0, .ref a0), (1, .int x1), (2, .int x2)] := hl
  obtain ⟨kp0, ekp⟩ : ∃ z, z = kp := ⟨_, rfl⟩
  obtain ⟨L0, eL⟩ : ∃ z, z = L := ⟨_, rfl⟩
  rw [show tw_Q D cs kp L = tw_Q D cs kp0 L0 by rw [ekp, eL]]
  have hex : ∀ a : Nat, a ∈ L0 → a ∈ L ∧ kp a = kp0 a := fun a h => ⟨by rw [← eL]; exact h, by rw [ekp]⟩
  refine lv_aload_n hx hb dX11_word_0 rfl (lv_at hl 0 rfl) ?_
  refine lv_iload_n hx hb dX11_word_1 rfl (lv_at hl 1 rfl) ?_
  refine tw_Vc (o := a0) (ci := 11) (n := 1) (post := (fun v kq Lq Eq => (v = some .null ∨ ∃ a : Nat, v = some (.ref a) ∧ a ∈ Lq ∧ kq a = 10) ∧ kp = kq ∧ L = Lq ∧ E = Eq)) (As := [.int x1]) (rest := []) ⟨hx, hb, hml, hown, hB⟩ (fun sz => tX11_editionOrDraft l D cs a0 x1 hm0 hk0 sz) cg_11_320_X11_editionOrDraft rfl rfl (by decide +kernel) ⟨Nat.le_of_ble_eq_true rfl, Nat.le_of_ble_eq_true rfl⟩ hK hN TH hS hA rfl hm0 hk0 (by decide) rfl hl.1 rfl (Nat.le_of_ble_eq_true rfl) dX11_word_2 ⟨Nat.le_of_ble_eq_true rfl, Nat.le_of_ble_eq_true rfl⟩ (fun v1 kp1 L1 E1 H locs hq1 hx1 TH hS => ?_)
  obtain ⟨hnxc2, rfl, rfl, rfl⟩ := hq1
  rcases hnxc2 with rfl | ⟨xc2, rfl, hmxc2, hkxc2⟩
  · refine W.eq (g2 := F0 m 5 ls [.null]) rfl ?_
    refine lv_astore_nN (lv' := [(3, .null), (0, .ref a0), (1, .int x1), (2, .int x2)]) hx hb dX11_word_5 rfl hl (by decide) rfl (fun ls hl => ?_)
    refine lv_aload_nN hx hb dX11_word_6 rfl (lv_at hl 0 rfl) ?_
    refine lv_ifnonnullN hx hb dX11_word_7 ?_
    refine lv_iconst (v := (-1)) hx hb dX11_word_10 (by decide) ?_
    refine lv_goto (tgt := 19) hx hb dX11_word_11 (by decide) ?_
    refine lv_istore (lv' := [(4, .int (-1)), (3, .null), (0, .ref a0), (1, .int x1), (2, .int x2)]) hx hb dX11_word_19 hl (by decide) rfl (fun ls hl => ?_)
    refine lv_iload hx hb dX11_word_21 (lv_at hl 0 rfl) ?_
    refine lv_iconst (v := (-1)) hx hb dX11_word_23 (by decide) ?_
    refine lv_icmp_ne (tgt := 31) hx hb dX11_word_24 (by decide) (fun hc3 => ?_) (fun hc3 => ?_)
    · have hf4 : ¬ ((-1) = (-1)) := fun q => hc3 ((fa_eq _ _).mpr (by have : (((-1) : Int32).toInt) = (-1) := (by decide); omega))
      exfalso; omega
    · have hf5 : (-1) = (-1) := by have z := (fa_eq _ _).mp hc3; have : (((-1) : Int32).toInt) = (-1) := (by decide); omega
      refine lv_lconst (v := 0) hx hb dX11_word_27 (by decide) ?_
      refine lv_goto (tgt := 41) hx hb dX11_word_28 (by decide) ?_
      exact tw_lret hx hb hr hlocks TH hS hex ⟨⟨_, rfl⟩, rfl, rfl, rfl⟩ (Nat.le_of_ble_eq_true rfl) (Nat.le_of_ble_eq_true rfl) dX11_word_41
  · refine W.eq (g2 := F0 m 5 ls [.ref xc2]) rfl ?_
    refine lv_astore_n (lv' := [(3, .ref xc2), (0, .ref a0), (1, .int x1), (2, .int x2)]) hx hb dX11_word_5 rfl hl (by decide) rfl (fun ls hl => ?_)
    refine lv_aload_n hx hb dX11_word_6 rfl (lv_at hl 0 rfl) ?_
    refine lv_ifnonnull (tgt := 14) hx hb dX11_word_7 (by decide) ?_
    refine lv_aload_n hx hb dX11_word_14 rfl (lv_at hl 0 rfl) ?_
    refine lv_iload_n hx hb dX11_word_15 rfl (lv_at hl 3 rfl) ?_
    refine tw_Vc (o := xc2) (ci := 10) (n := 1) (post := (fun v kq Lq Eq => (∃ x : Int32, v = some (.int x) ∧ (-1) ≤ x.toInt ∧ x.toInt ≤ 39 ∧ (x.toInt ≠ -1 → -1 ≤ x2.toInt ∧ x2.toInt ≤ 149)) ∧ kp = kq ∧ L = Lq ∧ E = Eq)) (As := [.int x2]) (rest := []) ⟨hx, hb, hml, hown, hB⟩ (fun sz => tX10_find l D cs xc2 x2 hmxc2 hkxc2 sz) cg_11_323_X10_find rfl rfl (by decide +kernel) ⟨Nat.le_of_ble_eq_true rfl, Nat.le_of_ble_eq_true rfl⟩ hK hN TH hS hA rfl hmxc2 hkxc2 (by decide) rfl hl.1 rfl (Nat.le_of_ble_eq_true rfl) dX11_word_16 ⟨Nat.le_of_ble_eq_true rfl, Nat.le_of_ble_eq_true rfl⟩ (fun v6 kp6 L6 E6 H locs hq6 hx6 TH hS => ?_)
    obtain ⟨⟨xc7, rfl, hxc7a, hxc7b, hpoxc7_0⟩, rfl, rfl, rfl⟩ := hq6
    refine W.eq (g2 := F0 m 19 ls [.int xc7]) rfl ?_
    refine lv_istore (lv' := [(4, .int xc7), (3, .ref xc2), (0, .ref a0), (1, .int x1), (2, .int x2)]) hx hb dX11_word_19 hl (by decide) rfl (fun ls hl => ?_)
    refine lv_iload hx hb dX11_word_21 (lv_at hl 0 rfl) ?_
    refine lv_iconst (v := (-1)) hx hb dX11_word_23 (by decide) ?_
    refine lv_icmp_ne (tgt := 31) hx hb dX11_word_24 (by decide) (fun hc8 => ?_) (fun hc8 => ?_)
    · have hf9 : ¬ (xc7.toInt = (-1)) := fun q => hc8 ((fa_eq _ _).mpr (by have : (((-1) : Int32).toInt) = (-1) := (by decide); omega))
      refine lv_aload_n hx hb dX11_word_31 rfl (lv_at hl 1 rfl) ?_
      refine tw_get (ci := 10) (C := RX10) (T := TX10) (N := 8) hx hb hB cx_inX10 hown hK TH hmxc2 hkxc2 rfl ⟨by decide, rfl⟩ 6 (by decide) cw_149 (fun _ h9 => h9) dX11_word_32 (fun hv => ?_)
      obtain ⟨xr10, hxr10, hmxr10, hkxr10⟩ : ∃ a : Nat, tw_fv E xc2 6 = .ref a ∧ a ∈ L ∧ kp a = 102 := hv
      rw [hxr10]
      refine lv_iload hx hb dX11_word_35 (lv_at hl 0 rfl) ?_
      refine tw_lald (k := 102) (n := 40) (lo := 0) (hi := 0) hx hb hK TH hmxr10 hkxr10 (by decide) rfl (i := xc7) (vp_in_iff.mpr ⟨by  omega, by  omega⟩) dX11_word_37 (fun xl11 => ?_)
      refine tw_Sc (n := 1) (post := (fun v kq Lq Eq => (∃ x : Int64, v = some (.long x)) ∧ kp = kq ∧ L = Lq ∧ E = Eq)) (As := [.long xl11]) (rest := []) ⟨hx, hb, hml, hown, hB⟩ (fun sz => tX11_flushRight l D cs xl11  sz) cg_11_337_X11_flushRight rfl rfl (by decide +kernel) ⟨Nat.le_of_ble_eq_true rfl, Nat.le_of_ble_eq_true rfl⟩ hK hN TH hS hA rfl hl.1 rfl (Nat.le_of_ble_eq_true rfl) dX11_word_38 ⟨Nat.le_of_ble_eq_true rfl, Nat.le_of_ble_eq_true rfl⟩ (fun v12 kp12 L12 E12 H locs hq12 hx12 TH hS => ?_)
      obtain ⟨⟨xc13, rfl⟩, rfl, rfl, rfl⟩ := hq12
      refine W.eq (g2 := F0 m 41 ls [.long xc13]) rfl ?_
      exact tw_lret hx hb hr hlocks TH hS hex ⟨⟨_, rfl⟩, rfl, rfl, rfl⟩ (Nat.le_of_ble_eq_true rfl) (Nat.le_of_ble_eq_true rfl) dX11_word_41
    · have hf14 : xc7.toInt = (-1) := by have z := (fa_eq _ _).mp hc8; have : (((-1) : Int32).toInt) = (-1) := (by decide); omega
      refine lv_lconst (v := 0) hx hb dX11_word_27 (by decide) ?_
      refine lv_goto (tgt := 41) hx hb dX11_word_28 (by decide) ?_
      exact tw_lret hx hb hr hlocks TH hS hex ⟨⟨_, rfl⟩, rfl, rfl, rfl⟩ (Nat.le_of_ble_eq_true rfl) (Nat.le_of_ble_eq_true rfl) dX11_word_41
set_option maxHeartbeats 4000000 in
set_option maxRecDepth 100000 in
theorem tX11_name (l : Launch) (D : va_G) (cs : Nat → ClassId) {kp : Nat → Nat} {L : List Nat} {E : Nat → va_E} (a0 : Nat) (x1 : Int32) (hm0 : a0 ∈ L) (hk0 : kp a0 = 11) (sz : Nat) : Met l yX11_name (.code yX11_name cX11_name 3 (some .int) :: cx_big) { frames := 2, cells := 0, slots := 0, locals := 42 } (tw_P D cs kp L E [.ref a0, .int x1] sz) (tw_Q D cs kp L (fun v kq Lq Eq => (∃ x : Int32, v = some (.int x)) ∧ kp = kq ∧ L = Lq ∧ tw_fr kp L [] [182] E Eq) (va_A (va_pl L E) sz)) 0 0 (va_A (va_pl L E) sz) := by
  refine tw_ofW (by decide) (Nat.le_of_ble_eq_true rfl) ?_
  intro p e s m below meth c A ls hx hb hr hml hB hown hlocks hK hN hA TH hS hl
  have hown : s.vm.findClass "TreeMerge" = some m.cls := hown
  have hl : lv_has ls 3 [(0, .ref a0), (1, .int x1)] := hl
  obtain ⟨kp0, ekp⟩ : ∃ z, z = kp := ⟨_, rfl⟩
  obtain ⟨L0, eL⟩ : ∃ z, z = L := ⟨_, rfl⟩
  rw [show tw_Q D cs kp L = tw_Q D cs kp0 L0 by rw [ekp, eL]]
  have hex : ∀ a : Nat, a ∈ L0 → a ∈ L ∧ kp a = kp0 a := fun a h => ⟨by rw [← eL]; exact h, by rw [ekp]⟩
  have hF : tw_fr kp L [] [182] E E := tw_fr.rf
  refine lv_aload_n hx hb dX11_name_0 rfl (lv_at hl 0 rfl) ?_
  refine tw_get (ci := 11) (C := RX11) (T := TX11) (N := 19) hx hb hB cx_inX11 hown hK TH hm0 hk0 rfl ⟨by decide, rfl⟩ 7 (by decide) cw_390 (fun _ h9 => h9) dX11_name_1 (fun hv => ?_)
  obtain ⟨xr1, hxr1, hmxr1, hkxr1⟩ : ∃ a : Nat, tw_fv E a0 7 = .ref a ∧ a ∈ L ∧ kp a = 1 := hv
  rw [hxr1]
  refine lv_iload_n hx hb dX11_name_4 rfl (lv_at hl 1 rfl) ?_
  refine tw_Vc (o := xr1) (ci := 1) (n := 1) (post := (fun v kq Lq Eq => (v = some .null ∨ ∃ a : Nat, v = some (.ref a) ∧ a ∈ Lq ∧ kq a = 10 ∧ (0 ≤ x1.toInt ∧ x1.toInt ≤ 11)) ∧ kp = kq ∧ L = Lq ∧ E = Eq)) (As := [.int x1]) (rest := []) ⟨hx, hb, hml, hown, hB⟩ (fun sz => tX1_treeOf l D cs xr1 x1 hmxr1 hkxr1 sz) cg_11_168_X1_treeOf rfl rfl (by decide +kernel) ⟨Nat.le_of_ble_eq_true rfl, Nat.le_of_ble_eq_true rfl⟩ hK hN TH hS hA rfl hmxr1 hkxr1 (by decide) rfl hl.1 rfl (Nat.le_of_ble_eq_true rfl) dX11_name_5 ⟨Nat.le_of_ble_eq_true rfl, Nat.le_of_ble_eq_true rfl⟩ (fun v2 kp2 L2 E2 H locs hq2 hx2 TH hS => ?_)
  obtain ⟨hnxc3, rfl, rfl, rfl⟩ := hq2
  rcases hnxc3 with rfl | ⟨xc3, rfl, hmxc3, hkxc3, hnpxc3⟩
  · refine W.eq (g2 := F0 m 8 ls [.null]) rfl ?_
    refine lv_astore_nN (lv' := [(2, .null), (0, .ref a0), (1, .int x1)]) hx hb dX11_name_8 rfl hl (by decide) rfl (fun ls hl => ?_)
    refine lv_aload_nN hx hb dX11_name_9 rfl (lv_at hl 0 rfl) ?_
    refine lv_ifnonnullN hx hb dX11_name_10 ?_
    refine lv_iconst (v := (-1)) hx hb dX11_name_13 (by decide) ?_
    refine lv_goto (tgt := 26) hx hb dX11_name_14 (by decide) ?_
    exact tw_iret hx hb hr hlocks TH hS hex ⟨⟨_, rfl⟩, rfl, rfl, hF⟩ (Nat.le_of_ble_eq_true rfl) (Nat.le_of_ble_eq_true rfl) dX11_name_26
  · refine W.eq (g2 := F0 m 8 ls [.ref xc3]) rfl ?_
    refine lv_astore_n (lv' := [(2, .ref xc3), (0, .ref a0), (1, .int x1)]) hx hb dX11_name_8 rfl hl (by decide) rfl (fun ls hl => ?_)
    refine lv_aload_n hx hb dX11_name_9 rfl (lv_at hl 0 rfl) ?_
    refine lv_ifnonnull (tgt := 17) hx hb dX11_name_10 (by decide) ?_
    refine lv_aload_n hx hb dX11_name_17 rfl (lv_at hl 0 rfl) ?_
    refine lv_iconst (v := 0) hx hb dX11_name_18 (by decide) ?_
    refine lv_aload_n hx hb dX11_name_19 rfl (lv_at hl 1 rfl) ?_
    refine tw_get (ci := 11) (C := RX11) (T := TX11) (N := 19) hx hb hB cx_inX11 hown hK TH hm0 hk0 rfl ⟨by decide, rfl⟩ 18 (by decide) cw_401 (fun _ h9 => h9) dX11_name_20 (fun hv => ?_)
    obtain ⟨xr4, hxr4, hmxr4, hkxr4⟩ : ∃ a : Nat, tw_fv E a0 18 = .ref a ∧ a ∈ L ∧ kp a = 182 := hv
    rw [hxr4]
    refine tw_Vc (o := xc3) (ci := 10) (n := 2) (post := (fun v kq Lq Eq => (∃ x : Int32, v = some (.int x)) ∧ kp = kq ∧ L = Lq ∧ tw_fr kp L [] [182] E Eq)) (As := [.int 0, .ref xr4]) (rest := []) ⟨hx, hb, hml, hown, hB⟩ (fun sz => tX10_nameOf l D cs xc3 (0 : Int32) xr4 hmxc3 hkxc3 (by have : ((0 : Int32).toInt) = 0 := (by decide); omega) (by have : ((0 : Int32).toInt) = 0 := (by decide); omega) hmxr4 hkxr4 sz) cg_11_327_X10_nameOf rfl rfl (by decide +kernel) ⟨Nat.le_of_ble_eq_true rfl, Nat.le_of_ble_eq_true rfl⟩ hK hN TH hS hA rfl hmxc3 hkxc3 (by decide) rfl hl.1 rfl (Nat.le_of_ble_eq_true rfl) dX11_name_23 ⟨Nat.le_of_ble_eq_true rfl, Nat.le_of_ble_eq_true rfl⟩ (fun v5 kp5 L5 E5 H locs hq5 hx5 TH hS => ?_)
    obtain ⟨⟨xc6, rfl⟩, rfl, rfl, hst5⟩ := hq5
    have hF := hF.tr hst5 (fun _ h => ⟨h, rfl⟩) (by decide) (by decide)
    have hmf7 : tw_fv E5 a0 7 = .ref xr1 := (hst5.1 a0 7 hm0 (by rw [hk0]; decide)).trans hxr1
    have hmf8 : tw_fv E5 a0 18 = .ref xr4 := (hst5.1 a0 18 hm0 (by rw [hk0]; decide)).trans hxr4
    refine W.eq (g2 := F0 m 26 ls [.int xc6]) rfl ?_
    exact tw_iret hx hb hr hlocks TH hS hex ⟨⟨_, rfl⟩, rfl, rfl, hF⟩ (Nat.le_of_ble_eq_true rfl) (Nat.le_of_ble_eq_true rfl) dX11_name_26
set_option maxHeartbeats 4000000 in
set_option maxRecDepth 100000 in
theorem tX11_same (l : Launch) (D : va_G) (cs : Nat → ClassId) {kp : Nat → Nat} {L : List Nat} {E : Nat → va_E} (a0 : Nat) (x1 : Int32) (x2 : Int32) (hm0 : a0 ∈ L) (hk0 : kp a0 = 11) (sz : Nat) : Met l yX11_same (.code yX11_same cX11_same 5 (some .boolean) :: cx_big) { frames := 2, cells := 0, slots := 0, locals := 48 } (tw_P D cs kp L E [.ref a0, .int x1, .int x2] sz) (tw_Q D cs kp L (fun v kq Lq Eq => (∃ x : Int32, v = some (.int x) ∧ 0 ≤ x.toInt ∧ x.toInt ≤ 1) ∧ kp = kq ∧ L = Lq ∧ E = Eq) (va_A (va_pl L E) sz)) 0 0 (va_A (va_pl L E) sz) := by
  refine tw_ofW (by decide) (Nat.le_of_ble_eq_true rfl) ?_
  intro p e s m below meth c A ls hx hb hr hml hB hown hlocks hK hN hA TH hS hl
  have hown : s.vm.findClass "TreeMerge" = some m.cls := hown
  have hl : lv_has ls 5 [(0, .ref a0), (1, .int x1), (2, .int x2)] := hl
  obtain ⟨kp0, ekp⟩ : ∃ z, z = kp := ⟨_, rfl⟩
  obtain ⟨L0, eL⟩ : ∃ z, z = L := ⟨_, rfl⟩
  rw [show tw_Q D cs kp L = tw_Q D cs kp0 L0 by rw [ekp, eL]]
  have hex : ∀ a : Nat, a ∈ L0 → a ∈ L ∧ kp a = kp0 a := fun a h => ⟨by rw [← eL]; exact h, by rw [ekp]⟩
  refine lv_aload_n hx hb dX11_same_0 rfl (lv_at hl 0 rfl) ?_
  refine tw_get (ci := 11) (C := RX11) (T := TX11) (N := 19) hx hb hB cx_inX11 hown hK TH hm0 hk0 rfl ⟨by decide, rfl⟩ 7 (by decide) cw_390 (fun _ h9 => h9) dX11_same_1 (fun hv => ?_)
  obtain ⟨xr1, hxr1, hmxr1, hkxr1⟩ : ∃ a : Nat, tw_fv E a0 7 = .ref a ∧ a ∈ L ∧ kp a = 1 := hv
  rw [hxr1]
  refine lv_iload_n hx hb dX11_same_4 rfl (lv_at hl 1 rfl) ?_
  refine tw_Vc (o := xr1) (ci := 1) (n := 1) (post := (fun v kq Lq Eq => (v = some .null ∨ ∃ a : Nat, v = some (.ref a) ∧ a ∈ Lq ∧ kq a = 10 ∧ (0 ≤ x1.toInt ∧ x1.toInt ≤ 11)) ∧ kp = kq ∧ L = Lq ∧ E = Eq)) (As := [.int x1]) (rest := []) ⟨hx, hb, hml, hown, hB⟩ (fun sz => tX1_treeOf l D cs xr1 x1 hmxr1 hkxr1 sz) cg_11_168_X1_treeOf rfl rfl (by decide +kernel) ⟨Nat.le_of_ble_eq_true rfl, Nat.le_of_ble_eq_true rfl⟩ hK hN TH hS hA rfl hmxr1 hkxr1 (by decide) rfl hl.1 rfl (Nat.le_of_ble_eq_true rfl) dX11_same_5 ⟨Nat.le_of_ble_eq_true rfl, Nat.le_of_ble_eq_true rfl⟩ (fun v2 kp2 L2 E2 H locs hq2 hx2 TH hS => ?_)
  obtain ⟨hnxc3, rfl, rfl, rfl⟩ := hq2
  rcases hnxc3 with rfl | ⟨xc3, rfl, hmxc3, hkxc3, hnpxc3⟩
  · refine W.eq (g2 := F0 m 8 ls [.null]) rfl ?_
    refine lv_astore_nN (lv' := [(3, .null), (0, .ref a0), (1, .int x1), (2, .int x2)]) hx hb dX11_same_8 rfl hl (by decide) rfl (fun ls hl => ?_)
    refine lv_aload_n hx hb dX11_same_9 rfl (lv_at hl 1 rfl) ?_
    refine tw_get (ci := 11) (C := RX11) (T := TX11) (N := 19) hx hb hB cx_inX11 hown hK TH hm0 hk0 rfl ⟨by decide, rfl⟩ 7 (by decide) cw_390 (fun _ h9 => h9) dX11_same_10 (fun hv => ?_)
    rw [hxr1]
    refine lv_iload_n hx hb dX11_same_13 rfl (lv_at hl 3 rfl) ?_
    refine tw_Vc (o := xr1) (ci := 1) (n := 1) (post := (fun v kq Lq Eq => (v = some .null ∨ ∃ a : Nat, v = some (.ref a) ∧ a ∈ Lq ∧ kq a = 10 ∧ (0 ≤ x2.toInt ∧ x2.toInt ≤ 11)) ∧ kp = kq ∧ L = Lq ∧ E = Eq)) (As := [.int x2]) (rest := []) ⟨hx, hb, hml, hown, hB⟩ (fun sz => tX1_treeOf l D cs xr1 x2 hmxr1 hkxr1 sz) cg_11_168_X1_treeOf rfl rfl (by decide +kernel) ⟨Nat.le_of_ble_eq_true rfl, Nat.le_of_ble_eq_true rfl⟩ hK hN TH hS hA rfl hmxr1 hkxr1 (by decide) rfl hl.1 rfl (Nat.le_of_ble_eq_true rfl) dX11_same_14 ⟨Nat.le_of_ble_eq_true rfl, Nat.le_of_ble_eq_true rfl⟩ (fun v4 kp4 L4 E4 H locs hq4 hx4 TH hS => ?_)
    obtain ⟨hnxc5, rfl, rfl, rfl⟩ := hq4
    rcases hnxc5 with rfl | ⟨xc5, rfl, hmxc5, hkxc5, hnpxc5⟩
    · refine W.eq (g2 := F0 m 17 ls [.null]) rfl ?_
      refine lv_astoreN (lv' := [(4, .null), (3, .null), (0, .ref a0), (1, .int x1), (2, .int x2)]) hx hb dX11_same_17 hl (by decide) rfl (fun ls hl => ?_)
      refine lv_aload_nN hx hb dX11_same_19 rfl (lv_at hl 1 rfl) ?_
      refine lv_ifnullN (tgt := 43) hx hb dX11_same_20 (by decide) ?_
      refine lv_iconst (v := 0) hx hb dX11_same_43 (by decide) ?_
      exact tw_zret hx hb hr hlocks (by decide) TH hS hex ⟨⟨_, rfl, (show 0 ≤ Int32.toInt 0 from by have : ((0 : Int32).toInt) = 0 := (by decide); omega), (show Int32.toInt 0 ≤ 1 from by have : ((0 : Int32).toInt) = 0 := (by decide); omega)⟩, rfl, rfl, rfl⟩ (Nat.le_of_ble_eq_true rfl) (Nat.le_of_ble_eq_true rfl) dX11_same_44
    · refine W.eq (g2 := F0 m 17 ls [.ref xc5]) rfl ?_
      refine lv_astore (lv' := [(4, .ref xc5), (3, .null), (0, .ref a0), (1, .int x1), (2, .int x2)]) hx hb dX11_same_17 hl (by decide) rfl (fun ls hl => ?_)
      refine lv_aload_nN hx hb dX11_same_19 rfl (lv_at hl 1 rfl) ?_
      refine lv_ifnullN (tgt := 43) hx hb dX11_same_20 (by decide) ?_
      refine lv_iconst (v := 0) hx hb dX11_same_43 (by decide) ?_
      exact tw_zret hx hb hr hlocks (by decide) TH hS hex ⟨⟨_, rfl, (show 0 ≤ Int32.toInt 0 from by have : ((0 : Int32).toInt) = 0 := (by decide); omega), (show Int32.toInt 0 ≤ 1 from by have : ((0 : Int32).toInt) = 0 := (by decide); omega)⟩, rfl, rfl, rfl⟩ (Nat.le_of_ble_eq_true rfl) (Nat.le_of_ble_eq_true rfl) dX11_same_44
  · refine W.eq (g2 := F0 m 8 ls [.ref xc3]) rfl ?_
    refine lv_astore_n (lv' := [(3, .ref xc3), (0, .ref a0), (1, .int x1), (2, .int x2)]) hx hb dX11_same_8 rfl hl (by decide) rfl (fun ls hl => ?_)
    refine lv_aload_n hx hb dX11_same_9 rfl (lv_at hl 1 rfl) ?_
    refine tw_get (ci := 11) (C := RX11) (T := TX11) (N := 19) hx hb hB cx_inX11 hown hK TH hm0 hk0 rfl ⟨by decide, rfl⟩ 7 (by decide) cw_390 (fun _ h9 => h9) dX11_same_10 (fun hv => ?_)
    rw [hxr1]
    refine lv_iload_n hx hb dX11_same_13 rfl (lv_at hl 3 rfl) ?_
    refine tw_Vc (o := xr1) (ci := 1) (n := 1) (post := (fun v kq Lq Eq => (v = some .null ∨ ∃ a : Nat, v = some (.ref a) ∧ a ∈ Lq ∧ kq a = 10 ∧ (0 ≤ x2.toInt ∧ x2.toInt ≤ 11)) ∧ kp = kq ∧ L = Lq ∧ E = Eq)) (As := [.int x2]) (rest := []) ⟨hx, hb, hml, hown, hB⟩ (fun sz => tX1_treeOf l D cs xr1 x2 hmxr1 hkxr1 sz) cg_11_168_X1_treeOf rfl rfl (by decide +kernel) ⟨Nat.le_of_ble_eq_true rfl, Nat.le_of_ble_eq_true rfl⟩ hK hN TH hS hA rfl hmxr1 hkxr1 (by decide) rfl hl.1 rfl (Nat.le_of_ble_eq_true rfl) dX11_same_14 ⟨Nat.le_of_ble_eq_true rfl, Nat.le_of_ble_eq_true rfl⟩ (fun v6 kp6 L6 E6 H locs hq6 hx6 TH hS => ?_)
    obtain ⟨hnxc7, rfl, rfl, rfl⟩ := hq6
    rcases hnxc7 with rfl | ⟨xc7, rfl, hmxc7, hkxc7, hnpxc7⟩
    · refine W.eq (g2 := F0 m 17 ls [.null]) rfl ?_
      refine lv_astoreN (lv' := [(4, .null), (3, .ref xc3), (0, .ref a0), (1, .int x1), (2, .int x2)]) hx hb dX11_same_17 hl (by decide) rfl (fun ls hl => ?_)
      refine lv_aload_n hx hb dX11_same_19 rfl (lv_at hl 1 rfl) ?_
      refine lv_ifnull hx hb dX11_same_20 ?_
      refine lv_aloadN hx hb dX11_same_23 (lv_at hl 0 rfl) ?_
      refine lv_ifnullN (tgt := 43) hx hb dX11_same_25 (by decide) ?_
      refine lv_iconst (v := 0) hx hb dX11_same_43 (by decide) ?_
      exact tw_zret hx hb hr hlocks (by decide) TH hS hex ⟨⟨_, rfl, (show 0 ≤ Int32.toInt 0 from by have : ((0 : Int32).toInt) = 0 := (by decide); omega), (show Int32.toInt 0 ≤ 1 from by have : ((0 : Int32).toInt) = 0 := (by decide); omega)⟩, rfl, rfl, rfl⟩ (Nat.le_of_ble_eq_true rfl) (Nat.le_of_ble_eq_true rfl) dX11_same_44
    · refine W.eq (g2 := F0 m 17 ls [.ref xc7]) rfl ?_
      refine lv_astore (lv' := [(4, .ref xc7), (3, .ref xc3), (0, .ref a0), (1, .int x1), (2, .int x2)]) hx hb dX11_same_17 hl (by decide) rfl (fun ls hl => ?_)
      refine lv_aload_n hx hb dX11_same_19 rfl (lv_at hl 1 rfl) ?_
      refine lv_ifnull hx hb dX11_same_20 ?_
      refine lv_aload hx hb dX11_same_23 (lv_at hl 0 rfl) ?_
      refine lv_ifnull hx hb dX11_same_25 ?_
      refine lv_aload_n hx hb dX11_same_28 rfl (lv_at hl 1 rfl) ?_
      refine lv_iconst (v := 0) hx hb dX11_same_29 (by decide) ?_
      refine lv_aload hx hb dX11_same_30 (lv_at hl 0 rfl) ?_
      refine lv_iconst (v := 0) hx hb dX11_same_32 (by decide) ?_
      refine tw_Vc (o := xc3) (ci := 10) (n := 3) (post := (fun v kq Lq Eq => (∃ x : Int32, v = some (.int x) ∧ 0 ≤ x.toInt ∧ x.toInt ≤ 1 ∧ (x.toInt ≠ 0 → ∀ n : Int, xt_is E xc3 (0 : Int32).toInt n → (0 : Int32).toInt + n ≤ 40)) ∧ kp = kq ∧ L = Lq ∧ E = Eq)) (As := [.int 0, .ref xc7, .int 0]) (rest := []) ⟨hx, hb, hml, hown, hB⟩ (fun sz => tX10_isSameFrom l D cs xc3 (0 : Int32) xc7 (0 : Int32) hmxc3 hkxc3 (by have : ((0 : Int32).toInt) = 0 := (by decide); omega) (by have : ((0 : Int32).toInt) = 0 := (by decide); omega) hmxc7 hkxc7 (by have : ((0 : Int32).toInt) = 0 := (by decide); omega) (by have : ((0 : Int32).toInt) = 0 := (by decide); omega) sz) cg_11_345_X10_isSameFrom rfl rfl (by decide +kernel) ⟨Nat.le_of_ble_eq_true rfl, Nat.le_of_ble_eq_true rfl⟩ hK hN TH hS hA rfl hmxc3 hkxc3 (by decide) rfl hl.1 rfl (Nat.le_of_ble_eq_true rfl) dX11_same_33 ⟨Nat.le_of_ble_eq_true rfl, Nat.le_of_ble_eq_true rfl⟩ (fun v8 kp8 L8 E8 H locs hq8 hx8 TH hS => ?_)
      obtain ⟨⟨xc9, rfl, hxc9a, hxc9b, hpoxc9_0⟩, rfl, rfl, rfl⟩ := hq8
      refine W.eq (g2 := F0 m 36 ls [.int xc9]) rfl ?_
      refine lv_if_eq (tgt := 43) hx hb dX11_same_36 (by decide) (fun hc10 => ?_) (fun hc10 => ?_)
      · have hf11 : xc9.toInt = 0 := by have z := (fa_eq _ _).mp hc10; have : ((0 : Int32).toInt) = 0 := (by decide); omega
        refine lv_iconst (v := 0) hx hb dX11_same_43 (by decide) ?_
        exact tw_zret hx hb hr hlocks (by decide) TH hS hex ⟨⟨_, rfl, (show 0 ≤ Int32.toInt 0 from by have : ((0 : Int32).toInt) = 0 := (by decide); omega), (show Int32.toInt 0 ≤ 1 from by have : ((0 : Int32).toInt) = 0 := (by decide); omega)⟩, rfl, rfl, rfl⟩ (Nat.le_of_ble_eq_true rfl) (Nat.le_of_ble_eq_true rfl) dX11_same_44
      · have hf12 : ¬ (xc9.toInt = 0) := fun q => hc10 ((fa_eq _ _).mpr (by have : ((0 : Int32).toInt) = 0 := (by decide); omega))
        refine lv_iconst (v := 1) hx hb dX11_same_39 (by decide) ?_
        refine lv_goto (tgt := 44) hx hb dX11_same_40 (by decide) ?_
        exact tw_zret hx hb hr hlocks (by decide) TH hS hex ⟨⟨_, rfl, (show 0 ≤ Int32.toInt 1 from by have : ((1 : Int32).toInt) = 1 := (by decide); omega), (show Int32.toInt 1 ≤ 1 from by have : ((1 : Int32).toInt) = 1 := (by decide); omega)⟩, rfl, rfl, rfl⟩ (Nat.le_of_ble_eq_true rfl) (Nat.le_of_ble_eq_true rfl) dX11_same_44
set_option maxHeartbeats 4000000 in
set_option maxRecDepth 100000 in
theorem tX11_print (l : Launch) (D : va_G) (cs : Nat → ClassId) {kp : Nat → Nat} {L : List Nat} {E : Nat → va_E} (a0 : Nat) (x1 : Int32) (x2 : Int32) (hm0 : a0 ∈ L) (hk0 : kp a0 = 11) (hg0 : gz_ok E a0) (sz : Nat) : Met l yX11_print (.code yX11_print cX11_print 4 (some .int) :: cx_big) { frames := 3, cells := 0, slots := 0, locals := 69 } (tw_P D cs kp L E [.ref a0, .int x1, .int x2] sz) (tw_Q D cs kp L (fun v kq Lq Eq => (∃ x : Int32, v = some (.int x) ∧ gz_ok Eq a0) ∧ kp = kq ∧ L = Lq ∧ tw_fr kp L [(6, 0), (6, 1), (6, 2)] [] E Eq) (va_A (va_pl L E) sz)) 0 0 (va_A (va_pl L E) sz) := by
  refine tw_ofW (by decide) (Nat.le_of_ble_eq_true rfl) ?_
  intro p e s m below meth c A ls hx hb hr hml hB hown hlocks hK hN hA TH hS hl
  have hown : s.vm.findClass "TreeMerge" = some m.cls := hown
  have hl : lv_has ls 4 [(0, .ref a0), (1, .int x1), (2, .int x2)] := hl
  obtain ⟨kp0, ekp⟩ : ∃ z, z = kp := ⟨_, rfl⟩
  obtain ⟨L0, eL⟩ : ∃ z, z = L := ⟨_, rfl⟩
  rw [show tw_Q D cs kp L = tw_Q D cs kp0 L0 by rw [ekp, eL]]
  have hex : ∀ a : Nat, a ∈ L0 → a ∈ L ∧ kp a = kp0 a := fun a h => ⟨by rw [← eL]; exact h, by rw [ekp]⟩
  have hF : tw_fr kp L [(6, 0), (6, 1), (6, 2)] [] E E := tw_fr.rf
  refine lv_aload_n hx hb dX11_print_0 rfl (lv_at hl 0 rfl) ?_
  refine tw_get (ci := 11) (C := RX11) (T := TX11) (N := 19) hx hb hB cx_inX11 hown hK TH hm0 hk0 rfl ⟨by decide, rfl⟩ 7 (by decide) cw_390 (fun _ h9 => h9) dX11_print_1 (fun hv => ?_)
  obtain ⟨xr1, hxr1, hmxr1, hkxr1⟩ : ∃ a : Nat, tw_fv E a0 7 = .ref a ∧ a ∈ L ∧ kp a = 1 := hv
  rw [hxr1]
  refine lv_iload_n hx hb dX11_print_4 rfl (lv_at hl 1 rfl) ?_
  refine tw_Vc (o := xr1) (ci := 1) (n := 1) (post := (fun v kq Lq Eq => (v = some .null ∨ ∃ a : Nat, v = some (.ref a) ∧ a ∈ Lq ∧ kq a = 10 ∧ (0 ≤ x1.toInt ∧ x1.toInt ≤ 11)) ∧ kp = kq ∧ L = Lq ∧ E = Eq)) (As := [.int x1]) (rest := []) ⟨hx, hb, hml, hown, hB⟩ (fun sz => tX1_treeOf l D cs xr1 x1 hmxr1 hkxr1 sz) cg_11_168_X1_treeOf rfl rfl (by decide +kernel) ⟨Nat.le_of_ble_eq_true rfl, Nat.le_of_ble_eq_true rfl⟩ hK hN TH hS hA rfl hmxr1 hkxr1 (by decide) rfl hl.1 rfl (Nat.le_of_ble_eq_true rfl) dX11_print_5 ⟨Nat.le_of_ble_eq_true rfl, Nat.le_of_ble_eq_true rfl⟩ (fun v2 kp2 L2 E2 H locs hq2 hx2 TH hS => ?_)
  obtain ⟨hnxc3, rfl, rfl, rfl⟩ := hq2
  rcases hnxc3 with rfl | ⟨xc3, rfl, hmxc3, hkxc3, hnpxc3⟩
  · refine W.eq (g2 := F0 m 8 ls [.null]) rfl ?_
    refine lv_astore_nN (lv' := [(3, .null), (0, .ref a0), (1, .int x1), (2, .int x2)]) hx hb dX11_print_8 rfl hl (by decide) rfl (fun ls hl => ?_)
    refine lv_aload_nN hx hb dX11_print_9 rfl (lv_at hl 0 rfl) ?_
    refine lv_ifnonnullN hx hb dX11_print_10 ?_
    refine lv_iconst (v := (-1)) hx hb dX11_print_13 (by decide) ?_
    exact tw_iret hx hb hr hlocks TH hS hex ⟨⟨_, rfl, hg0⟩, rfl, rfl, hF⟩ (Nat.le_of_ble_eq_true rfl) (Nat.le_of_ble_eq_true rfl) dX11_print_14
  · refine W.eq (g2 := F0 m 8 ls [.ref xc3]) rfl ?_
    refine lv_astore_n (lv' := [(3, .ref xc3), (0, .ref a0), (1, .int x1), (2, .int x2)]) hx hb dX11_print_8 rfl hl (by decide) rfl (fun ls hl => ?_)
    refine lv_aload_n hx hb dX11_print_9 rfl (lv_at hl 0 rfl) ?_
    refine lv_ifnonnull (tgt := 15) hx hb dX11_print_10 (by decide) ?_
    refine lv_aload_n hx hb dX11_print_15 rfl (lv_at hl 1 rfl) ?_
    refine tw_get (ci := 11) (C := RX11) (T := TX11) (N := 19) hx hb hB cx_inX11 hown hK TH hm0 hk0 rfl ⟨by decide, rfl⟩ 13 (by decide) cw_396 (fun _ h9 => h9) dX11_print_16 (fun hv => ?_)
    obtain ⟨xr4, hxr4, hmxr4, hkxr4⟩ : ∃ a : Nat, tw_fv E a0 13 = .ref a ∧ a ∈ L ∧ kp a = 6 := hv
    rw [hxr4]
    refine lv_iload_n hx hb dX11_print_19 rfl (lv_at hl 3 rfl) ?_
    refine tw_Vc (o := xr4) (ci := 6) (n := 1) (post := (fun v kq Lq Eq => v = none ∧ kp = kq ∧ L = Lq ∧ tw_fr kp L [(6, 0), (6, 1), (6, 2)] [] E Eq ∧ (∃ z0 : Int32, tw_fv Eq xr4 1 = .int z0 ∧ (z0.toInt = 0)))) (As := [.int x2]) (rest := []) ⟨hx, hb, hml, hown, hB⟩ (fun sz => tX6_start l D cs xr4 x2 hmxr4 hkxr4 sz) cg_11_349_X6_start rfl rfl (by decide +kernel) ⟨Nat.le_of_ble_eq_true rfl, Nat.le_of_ble_eq_true rfl⟩ hK hN TH hS hA rfl hmxr4 hkxr4 (by decide) rfl hl.1 rfl (Nat.le_of_ble_eq_true rfl) dX11_print_20 ⟨Nat.le_of_ble_eq_true rfl, Nat.le_of_ble_eq_true rfl⟩ (fun v5 kp5 L5 E5 H locs hq5 hx5 TH hS => ?_)
    obtain ⟨rfl, rfl, rfl, hst5, ⟨zfxc6_0_0, hzfxc6_0_0, hzpxc6_0⟩⟩ := hq5
    have hF := hF.tr hst5 (fun _ h => ⟨h, rfl⟩) (by decide) (by decide)
    have hmf7 : tw_fv E5 a0 7 = .ref xr1 := (hst5.1 a0 7 hm0 (by rw [hk0]; decide)).trans hxr1
    have hmf8 : tw_fv E5 a0 13 = .ref xr4 := (hst5.1 a0 13 hm0 (by rw [hk0]; decide)).trans hxr4
    have hg0 : gz_ok E5 a0 := gz_ok_fr TH hst5 hm0 hk0 (by decide) (by decide) hg0
    obtain ⟨qzfxc6_0_0, hqzfxc6_0_0, hqzfxc6_0_0a, hqzfxc6_0_0b⟩ := tw_rd TH hmxr4 hkxr4 (by decide) (by decide) (k := 1) rfl
    have eqzfxc6_0_0 : qzfxc6_0_0 = zfxc6_0_0 := by have q := hqzfxc6_0_0.symm.trans hzfxc6_0_0; injection q
    rw [eqzfxc6_0_0] at hqzfxc6_0_0a hqzfxc6_0_0b
    refine W.eq (g2 := F0 m 23 ls []) rfl ?_
    refine lv_aload_n hx hb dX11_print_23 rfl (lv_at hl 1 rfl) ?_
    refine tw_get (ci := 11) (C := RX11) (T := TX11) (N := 19) hx hb hB cx_inX11 hown hK TH hm0 hk0 rfl ⟨by decide, rfl⟩ 13 (by decide) cw_396 (fun _ h9 => h9) dX11_print_24 (fun hv => ?_)
    rw [hmf8]
    refine lv_aload_n hx hb dX11_print_27 rfl (lv_at hl 0 rfl) ?_
    refine lv_aload_n hx hb dX11_print_28 rfl (lv_at hl 1 rfl) ?_
    refine tw_get (ci := 11) (C := RX11) (T := TX11) (N := 19) hx hb hB cx_inX11 hown hK TH hm0 hk0 rfl ⟨by decide, rfl⟩ 1 (by decide) cw_384 (fun _ h9 => h9) dX11_print_29 (fun hv => ?_)
    obtain ⟨xr9, hxr9, hmxr9, hkxr9⟩ : ∃ a : Nat, tw_fv E5 a0 1 = .ref a ∧ a ∈ L ∧ kp a = 2 := hv
    rw [hxr9]
    have hgm10 : gm_ok E5 xr9 := by have q := hg0; unfold gz_ok at q; rw [tw_fa_of hxr9] at q; exact q
    refine tw_Vc (o := xr4) (ci := 6) (n := 2) (post := (fun v kq Lq Eq => v = none ∧ kp = kq ∧ L = Lq ∧ tw_fr kp L [(6, 1), (6, 2)] [] E5 Eq ∧ gm_ok Eq xr9)) (As := [.ref xc3, .ref xr9]) (rest := []) ⟨hx, hb, hml, hown, hB⟩ (fun sz => tX6_addTree l D cs xr4 xc3 xr9 zfxc6_0_0 hmxr4 hkxr4 hmxc3 hkxc3 hmxr9 hkxr9 hzfxc6_0_0 (by  omega) hgm10 sz) cg_11_352_X6_addTree rfl rfl (by decide +kernel) ⟨Nat.le_of_ble_eq_true rfl, Nat.le_of_ble_eq_true rfl⟩ hK hN TH hS hA rfl hmxr4 hkxr4 (by decide) rfl hl.1 rfl (Nat.le_of_ble_eq_true rfl) dX11_print_32 ⟨Nat.le_of_ble_eq_true rfl, Nat.le_of_ble_eq_true rfl⟩ (fun v11 kp11 L11 E11 H locs hq11 hx11 TH hS => ?_)
    obtain ⟨rfl, rfl, rfl, hst11, hgpxc12_0⟩ := hq11
    have hF := hF.tr hst11 (fun _ h => ⟨h, rfl⟩) (by decide) (by decide)
    have hmf13 : tw_fv E11 a0 7 = .ref xr1 := (hst11.1 a0 7 hm0 (by rw [hk0]; decide)).trans hmf7
    have hmf14 : tw_fv E11 a0 13 = .ref xr4 := (hst11.1 a0 13 hm0 (by rw [hk0]; decide)).trans hmf8
    have hmf15 : tw_fv E11 a0 1 = .ref xr9 := (hst11.1 a0 1 hm0 (by rw [hk0]; decide)).trans hxr9
    have hg0 : gz_ok E11 a0 := gz_ok_fr TH hst11 hm0 hk0 (by decide) (by decide) hg0
    refine W.eq (g2 := F0 m 35 ls []) rfl ?_
    refine lv_iload_n hx hb dX11_print_35 rfl (lv_at hl 3 rfl) ?_
    refine lv_iconst (v := (-1)) hx hb dX11_print_36 (by decide) ?_
    refine lv_icmp_ne (tgt := 50) hx hb dX11_print_37 (by decide) (fun hc16 => ?_) (fun hc16 => ?_)
    · have hf17 : ¬ (x2.toInt = (-1)) := fun q => hc16 ((fa_eq _ _).mpr (by have : (((-1) : Int32).toInt) = (-1) := (by decide); omega))
      refine lv_aload_n hx hb dX11_print_50 rfl (lv_at hl 1 rfl) ?_
      refine tw_get (ci := 11) (C := RX11) (T := TX11) (N := 19) hx hb hB cx_inX11 hown hK TH hm0 hk0 rfl ⟨by decide, rfl⟩ 13 (by decide) cw_396 (fun _ h9 => h9) dX11_print_51 (fun hv => ?_)
      rw [hmf14]
      refine tw_get (ci := 6) (C := RX6) (T := TX6) (N := 3) hx hb hB cx_inX6 hown hK TH hmxr4 hkxr4 rfl ⟨by decide, rfl⟩ 2 (by decide) cw_375 (fun _ h9 => h9) dX11_print_54 (fun hv => ?_)
      obtain ⟨xi18, hxi18, hxi18a, hxi18b⟩ : ∃ x : Int32, tw_fv E11 xr4 2 = .int x ∧ (-2147483648) ≤ x.toInt ∧ x.toInt ≤ 2147483647 := hv
      rw [hxi18]
      exact tw_iret hx hb hr hlocks TH hS hex ⟨⟨_, rfl, hg0⟩, rfl, rfl, hF⟩ (Nat.le_of_ble_eq_true rfl) (Nat.le_of_ble_eq_true rfl) dX11_print_57
    · have hf19 : x2.toInt = (-1) := by have z := (fa_eq _ _).mp hc16; have : (((-1) : Int32).toInt) = (-1) := (by decide); omega
      refine lv_aload_n hx hb dX11_print_40 rfl (lv_at hl 1 rfl) ?_
      refine tw_get (ci := 11) (C := RX11) (T := TX11) (N := 19) hx hb hB cx_inX11 hown hK TH hm0 hk0 rfl ⟨by decide, rfl⟩ 13 (by decide) cw_396 (fun _ h9 => h9) dX11_print_41 (fun hv => ?_)
      rw [hmf14]
      refine tw_get (ci := 6) (C := RX6) (T := TX6) (N := 3) hx hb hB cx_inX6 hown hK TH hmxr4 hkxr4 rfl ⟨by decide, rfl⟩ 1 (by decide) cw_373 (fun _ h9 => h9) dX11_print_44 (fun hv => ?_)
      obtain ⟨xi20, hxi20, hxi20a, hxi20b⟩ : ∃ x : Int32, tw_fv E11 xr4 1 = .int x ∧ 0 ≤ x.toInt ∧ x.toInt ≤ 1000000 := hv
      rw [hxi20]
      refine lv_goto (tgt := 57) hx hb dX11_print_47 (by decide) ?_
      exact tw_iret hx hb hr hlocks TH hS hex ⟨⟨_, rfl, hg0⟩, rfl, rfl, hF⟩ (Nat.le_of_ble_eq_true rfl) (Nat.le_of_ble_eq_true rfl) dX11_print_57
set_option maxHeartbeats 4000000 in
set_option maxRecDepth 100000 in
theorem tX11_put (l : Launch) (D : va_G) (cs : Nat → ClassId) {kp : Nat → Nat} {L : List Nat} {E : Nat → va_E} (a0 : Nat) (x1 : Int32) (x2 : Int32) (x3 : Int32) (x4 : Int64) (hm0 : a0 ∈ L) (hk0 : kp a0 = 11) (sz : Nat) : Met l yX11_put (.code yX11_put cX11_put 10 (some .int) :: cx_big) { frames := 4, cells := 0, slots := 0, locals := 97 } (tw_P D cs kp L E [.ref a0, .int x1, .int x2, .int x3, .long x4] sz) (tw_Q D cs kp L (fun v kq Lq Eq => (∃ x : Int32, v = some (.int x)) ∧ kp = kq ∧ L = Lq ∧ tw_fr kp L [(10, 0), (11, 15)] [102, 110, 111, 112, 113, 114, 115, 180] E Eq) (va_A (va_pl L E) sz)) 0 0 (va_A (va_pl L E) sz) := by
  refine tw_ofW (by decide) (Nat.le_of_ble_eq_true rfl) ?_
  intro p e s m below meth c A ls hx hb hr hml hB hown hlocks hK hN hA TH hS hl
  have hown : s.vm.findClass "TreeMerge" = some m.cls := hown
  have hl : lv_has ls 10 [(0, .ref a0), (1, .int x1), (2, .int x2), (3, .int x3), (4, .long x4)] := hl
  obtain ⟨kp0, ekp⟩ : ∃ z, z = kp := ⟨_, rfl⟩
  obtain ⟨L0, eL⟩ : ∃ z, z = L := ⟨_, rfl⟩
  rw [show tw_Q D cs kp L = tw_Q D cs kp0 L0 by rw [ekp, eL]]
  have hex : ∀ a : Nat, a ∈ L0 → a ∈ L ∧ kp a = kp0 a := fun a h => ⟨by rw [← eL]; exact h, by rw [ekp]⟩
  have hF : tw_fr kp L [(10, 0), (11, 15)] [102, 110, 111, 112, 113, 114, 115, 180] E E := tw_fr.rf
  refine lv_aload_n hx hb dX11_put_0 rfl (lv_at hl 0 rfl) ?_
  refine tw_get (ci := 11) (C := RX11) (T := TX11) (N := 19) hx hb hB cx_inX11 hown hK TH hm0 hk0 rfl ⟨by decide, rfl⟩ 8 (by decide) cw_391 (fun _ h9 => h9) dX11_put_1 (fun hv => ?_)
  obtain ⟨xr1, hxr1, hmxr1, hkxr1⟩ : ∃ a : Nat, tw_fv E a0 8 = .ref a ∧ a ∈ L ∧ kp a = 0 := hv
  rw [hxr1]
  refine lv_iload_n hx hb dX11_put_4 rfl (lv_at hl 1 rfl) ?_
  refine tw_Vc (o := xr1) (ci := 0) (n := 1) (post := (fun v kq Lq Eq => (∃ x : Int32, v = some (.int x) ∧ (-1) ≤ x.toInt ∧ x.toInt ≤ 39 ∧ (x.toInt ≠ -1 → -1 ≤ x1.toInt ∧ x1.toInt ≤ 149)) ∧ kp = kq ∧ L = Lq ∧ E = Eq)) (As := [.int x1]) (rest := []) ⟨hx, hb, hml, hown, hB⟩ (fun sz => tX0_find l D cs xr1 x1 hmxr1 hkxr1 sz) cg_11_220_X0_find rfl rfl (by decide +kernel) ⟨Nat.le_of_ble_eq_true rfl, Nat.le_of_ble_eq_true rfl⟩ hK hN TH hS hA rfl hmxr1 hkxr1 (by decide) rfl hl.1 rfl (Nat.le_of_ble_eq_true rfl) dX11_put_5 ⟨Nat.le_of_ble_eq_true rfl, Nat.le_of_ble_eq_true rfl⟩ (fun v2 kp2 L2 E2 H locs hq2 hx2 TH hS => ?_)
  obtain ⟨⟨xc3, rfl, hxc3a, hxc3b, hpoxc3_0⟩, rfl, rfl, rfl⟩ := hq2
  refine W.eq (g2 := F0 m 8 ls [.int xc3]) rfl ?_
  refine lv_istore (lv' := [(6, .int xc3), (0, .ref a0), (1, .int x1), (2, .int x2), (3, .int x3), (4, .long x4)]) hx hb dX11_put_8 hl (by decide) rfl (fun ls hl => ?_)
  refine lv_lload hx hb dX11_put_10 (lv_at hl 5 rfl) ?_
  refine tw_Sc (n := 1) (post := (fun v kq Lq Eq => (∃ x : Int64, v = some (.long x)) ∧ kp = kq ∧ L = Lq ∧ E = Eq)) (As := [.long x4]) (rest := []) ⟨hx, hb, hml, hown, hB⟩ (fun sz => tX11_flushLeft l D cs x4  sz) cg_11_223_X11_flushLeft rfl rfl (by decide +kernel) ⟨Nat.le_of_ble_eq_true rfl, Nat.le_of_ble_eq_true rfl⟩ hK hN TH hS hA rfl hl.1 rfl (Nat.le_of_ble_eq_true rfl) dX11_put_12 ⟨Nat.le_of_ble_eq_true rfl, Nat.le_of_ble_eq_true rfl⟩ (fun v4 kp4 L4 E4 H locs hq4 hx4 TH hS => ?_)
  obtain ⟨⟨xc5, rfl⟩, rfl, rfl, rfl⟩ := hq4
  refine W.eq (g2 := F0 m 15 ls [.long xc5]) rfl ?_
  refine lv_lstore (lv' := [(7, .long xc5), (6, .int xc3), (0, .ref a0), (1, .int x1), (2, .int x2), (3, .int x3), (4, .long x4)]) hx hb dX11_put_15 hl (by decide) rfl (fun ls hl => ?_)
  refine lv_iload hx hb dX11_put_17 (lv_at hl 1 rfl) ?_
  refine lv_iconst (v := (-1)) hx hb dX11_put_19 (by decide) ?_
  refine lv_icmp_eq (tgt := 41) hx hb dX11_put_20 (by decide) (fun hc6 => ?_) (fun hc6 => ?_)
  · have hf7 : xc3.toInt = (-1) := by have z := (fa_eq _ _).mp hc6; have : (((-1) : Int32).toInt) = (-1) := (by decide); omega
    refine lv_iconst (v := (-1)) hx hb dX11_put_41 (by decide) ?_
    exact tw_iret hx hb hr hlocks TH hS hex ⟨⟨_, rfl⟩, rfl, rfl, hF⟩ (Nat.le_of_ble_eq_true rfl) (Nat.le_of_ble_eq_true rfl) dX11_put_42
  · have hf8 : ¬ (xc3.toInt = (-1)) := fun q => hc6 ((fa_eq _ _).mpr (by have : (((-1) : Int32).toInt) = (-1) := (by decide); omega))
    refine lv_aload_n hx hb dX11_put_23 rfl (lv_at hl 2 rfl) ?_
    refine tw_get (ci := 11) (C := RX11) (T := TX11) (N := 19) hx hb hB cx_inX11 hown hK TH hm0 hk0 rfl ⟨by decide, rfl⟩ 1 (by decide) cw_384 (fun _ h9 => h9) dX11_put_24 (fun hv => ?_)
    obtain ⟨xr9, hxr9, hmxr9, hkxr9⟩ : ∃ a : Nat, tw_fv E a0 1 = .ref a ∧ a ∈ L ∧ kp a = 2 := hv
    rw [hxr9]
    refine lv_iload_n hx hb dX11_put_27 rfl (lv_at hl 5 rfl) ?_
    refine tw_Vc (o := xr9) (ci := 2) (n := 1) (post := (fun v kq Lq Eq => (∃ x : Int32, v = some (.int x) ∧ 0 ≤ x.toInt ∧ x.toInt ≤ 1 ∧ (x.toInt ≠ 0 → 0 ≤ x3.toInt ∧ x3.toInt ≤ 9) ∧ (∃ z0 : Int32, tw_fv Eq xr9 1 = .int z0 ∧ (x.toInt ≠ 0 → 0 ≤ x3.toInt ∧ x3.toInt < z0.toInt))) ∧ kp = kq ∧ L = Lq ∧ E = Eq)) (As := [.int x3]) (rest := []) ⟨hx, hb, hml, hown, hB⟩ (fun sz => tX2_hasKind l D cs xr9 x3 hmxr9 hkxr9 sz) cg_11_227_X2_hasKind rfl rfl (by decide +kernel) ⟨Nat.le_of_ble_eq_true rfl, Nat.le_of_ble_eq_true rfl⟩ hK hN TH hS hA rfl hmxr9 hkxr9 (by decide) rfl hl.1 rfl (Nat.le_of_ble_eq_true rfl) dX11_put_28 ⟨Nat.le_of_ble_eq_true rfl, Nat.le_of_ble_eq_true rfl⟩ (fun v10 kp10 L10 E10 H locs hq10 hx10 TH hS => ?_)
    obtain ⟨⟨xc11, rfl, hxc11a, hxc11b, hpoxc11_0, ⟨zfxc11_0_0, hzfxc11_0_0, hzpxc11_0⟩⟩, rfl, rfl, rfl⟩ := hq10
    obtain ⟨qzfxc11_0_0, hqzfxc11_0_0, hqzfxc11_0_0a, hqzfxc11_0_0b⟩ := tw_rd TH hmxr9 hkxr9 (by decide) (by decide) (k := 1) rfl
    have eqzfxc11_0_0 : qzfxc11_0_0 = zfxc11_0_0 := by have q := hqzfxc11_0_0.symm.trans hzfxc11_0_0; injection q
    rw [eqzfxc11_0_0] at hqzfxc11_0_0a hqzfxc11_0_0b
    refine W.eq (g2 := F0 m 31 ls [.int xc11]) rfl ?_
    refine lv_if_eq (tgt := 41) hx hb dX11_put_31 (by decide) (fun hc12 => ?_) (fun hc12 => ?_)
    · have hf13 : xc11.toInt = 0 := by have z := (fa_eq _ _).mp hc12; have : ((0 : Int32).toInt) = 0 := (by decide); omega
      refine lv_iconst (v := (-1)) hx hb dX11_put_41 (by decide) ?_
      exact tw_iret hx hb hr hlocks TH hS hex ⟨⟨_, rfl⟩, rfl, rfl, hF⟩ (Nat.le_of_ble_eq_true rfl) (Nat.le_of_ble_eq_true rfl) dX11_put_42
    · have hf14 : ¬ (xc11.toInt = 0) := fun q => hc12 ((fa_eq _ _).mpr (by have : ((0 : Int32).toInt) = 0 := (by decide); omega))
      refine lv_lload hx hb dX11_put_34 (lv_at hl 0 rfl) ?_
      refine lv_lconst (v := 0) hx hb dX11_put_36 (by decide) ?_
      refine W.lcmp hx hb dX11_put_37 ?_
      have hzi15 := ia_lcmp xc5 (0 : Int64)
      generalize lg_cmp xc5 (0 : Int64) = zi15 at hzi15 ⊢
      refine lv_if_ge (tgt := 43) hx hb dX11_put_38 (by decide) (fun hc16 => ?_) (fun hc16 => ?_)
      · have hf17 : 0 ≤ zi15.toInt := by have z := (fa_le _ _).mp hc16; have : ((0 : Int32).toInt) = 0 := (by decide); omega
        refine lv_aload_n hx hb dX11_put_43 rfl (lv_at hl 2 rfl) ?_
        refine tw_get (ci := 11) (C := RX11) (T := TX11) (N := 19) hx hb hB cx_inX11 hown hK TH hm0 hk0 rfl ⟨by decide, rfl⟩ 8 (by decide) cw_391 (fun _ h9 => h9) dX11_put_44 (fun hv => ?_)
        rw [hxr1]
        refine tw_get (ci := 0) (C := RX0) (T := TX0) (N := 4) hx hb hB cx_inX0 hown hK TH hmxr1 hkxr1 rfl ⟨by decide, rfl⟩ 2 (by decide) cw_260 (fun _ h9 => h9) dX11_put_47 (fun hv => ?_)
        obtain ⟨xr18, hxr18, hmxr18, hkxr18⟩ : ∃ a : Nat, tw_fv E xr1 2 = .ref a ∧ a ∈ L ∧ kp a = 10 := hv
        rw [hxr18]
        refine tw_get (ci := 10) (C := RX10) (T := TX10) (N := 8) hx hb hB cx_inX10 hown hK TH hmxr18 hkxr18 rfl ⟨by decide, rfl⟩ 0 (by decide) cw_121 (fun _ h9 => h9) dX11_put_50 (fun hv => ?_)
        obtain ⟨xi19, hxi19, hxi19a, hxi19b⟩ : ∃ x : Int32, tw_fv E xr18 0 = .int x ∧ 0 ≤ x.toInt ∧ x.toInt ≤ 40 := hv
        rw [hxi19]
        refine lv_bipush (v := 24) hx hb dX11_put_53 (by decide) ?_
        refine lv_icmp_ge (tgt := 86) hx hb dX11_put_55 (by decide) (fun hc20 => ?_) (fun hc20 => ?_)
        · have hf21 : 24 ≤ xi19.toInt := by have z := (fa_le _ _).mp hc20; have : ((24 : Int32).toInt) = 24 := (by decide); omega
          refine lv_iconst (v := (-1)) hx hb dX11_put_86 (by decide) ?_
          exact tw_iret hx hb hr hlocks TH hS hex ⟨⟨_, rfl⟩, rfl, rfl, hF⟩ (Nat.le_of_ble_eq_true rfl) (Nat.le_of_ble_eq_true rfl) dX11_put_87
        · have hf22 : ¬ (24 ≤ xi19.toInt) := fun q => hc20 ((fa_le _ _).mpr (by have : ((24 : Int32).toInt) = 24 := (by decide); omega))
          refine lv_aload_n hx hb dX11_put_58 rfl (lv_at hl 2 rfl) ?_
          refine tw_get (ci := 11) (C := RX11) (T := TX11) (N := 19) hx hb hB cx_inX11 hown hK TH hm0 hk0 rfl ⟨by decide, rfl⟩ 15 (by decide) cw_398 (fun _ h9 => h9) dX11_put_59 (fun hv => ?_)
          obtain ⟨xi23, hxi23, hxi23a, hxi23b⟩ : ∃ x : Int32, tw_fv E a0 15 = .int x ∧ 0 ≤ x.toInt ∧ x.toInt ≤ 150 := hv
          rw [hxi23]
          refine lv_sipush (v := 150) hx hb dX11_put_62 (by decide) ?_
          refine lv_icmp_ge (tgt := 86) hx hb dX11_put_65 (by decide) (fun hc24 => ?_) (fun hc24 => ?_)
          · have hf25 : 150 ≤ xi23.toInt := by have z := (fa_le _ _).mp hc24; have : ((150 : Int32).toInt) = 150 := (by decide); omega
            refine lv_iconst (v := (-1)) hx hb dX11_put_86 (by decide) ?_
            exact tw_iret hx hb hr hlocks TH hS hex ⟨⟨_, rfl⟩, rfl, rfl, hF⟩ (Nat.le_of_ble_eq_true rfl) (Nat.le_of_ble_eq_true rfl) dX11_put_87
          · have hf26 : ¬ (150 ≤ xi23.toInt) := fun q => hc24 ((fa_le _ _).mpr (by have : ((150 : Int32).toInt) = 150 := (by decide); omega))
            refine lv_aload_n hx hb dX11_put_68 rfl (lv_at hl 2 rfl) ?_
            refine tw_get (ci := 11) (C := RX11) (T := TX11) (N := 19) hx hb hB cx_inX11 hown hK TH hm0 hk0 rfl ⟨by decide, rfl⟩ 8 (by decide) cw_391 (fun _ h9 => h9) dX11_put_69 (fun hv => ?_)
            rw [hxr1]
            refine lv_iload hx hb dX11_put_72 (lv_at hl 1 rfl) ?_
            refine lv_iload_n hx hb dX11_put_74 rfl (lv_at hl 4 rfl) ?_
            refine lv_iconst (v := (-1)) hx hb dX11_put_75 (by decide) ?_
            refine lv_aload_n hx hb dX11_put_76 rfl (lv_at hl 2 rfl) ?_
            refine tw_get (ci := 11) (C := RX11) (T := TX11) (N := 19) hx hb hB cx_inX11 hown hK TH hm0 hk0 rfl ⟨by decide, rfl⟩ 1 (by decide) cw_384 (fun _ h9 => h9) dX11_put_77 (fun hv => ?_)
            rw [hxr9]
            refine tw_Vc (o := xr1) (ci := 0) (n := 4) (post := (fun v kq Lq Eq => (∃ x : Int32, v = some (.int x) ∧ 0 ≤ x.toInt ∧ x.toInt ≤ 1) ∧ kp = kq ∧ L = Lq ∧ E = Eq)) (As := [.int xc3, .int x2, .int (-1), .ref xr9]) (rest := []) ⟨hx, hb, hml, hown, hB⟩ (fun sz => tX0_hasPlace l D cs xr1 xc3 x2 ((-1) : Int32) xr9 hmxr1 hkxr1 (by omega) (by omega) (by have : (((-1) : Int32).toInt) = (-1) := (by decide); omega) (by have : (((-1) : Int32).toInt) = (-1) := (by decide); omega) hmxr9 hkxr9 sz) cg_11_230_X0_hasPlace rfl rfl (by decide +kernel) ⟨Nat.le_of_ble_eq_true rfl, Nat.le_of_ble_eq_true rfl⟩ hK hN TH hS hA rfl hmxr1 hkxr1 (by decide) rfl hl.1 rfl (Nat.le_of_ble_eq_true rfl) dX11_put_80 ⟨Nat.le_of_ble_eq_true rfl, Nat.le_of_ble_eq_true rfl⟩ (fun v27 kp27 L27 E27 H locs hq27 hx27 TH hS => ?_)
            obtain ⟨⟨xc28, rfl, hxc28a, hxc28b⟩, rfl, rfl, rfl⟩ := hq27
            refine W.eq (g2 := F0 m 83 ls [.int xc28]) rfl ?_
            refine lv_if_ne (tgt := 88) hx hb dX11_put_83 (by decide) (fun hc29 => ?_) (fun hc29 => ?_)
            · have hf30 : ¬ (xc28.toInt = 0) := fun q => hc29 ((fa_eq _ _).mpr (by have : ((0 : Int32).toInt) = 0 := (by decide); omega))
              refine lv_aload_n hx hb dX11_put_88 rfl (lv_at hl 2 rfl) ?_
              refine lv_bipush (v := (-2)) hx hb dX11_put_89 (by decide) ?_
              refine tw_Vc (o := a0) (ci := 11) (n := 1) (post := (fun v kq Lq Eq => (∃ x : Int32, v = some (.int x) ∧ (-1) ≤ x.toInt ∧ x.toInt ≤ 149) ∧ kp = kq ∧ L = Lq ∧ tw_fr kp L [(11, 15)] [180] E Eq)) (As := [.int (-2)]) (rest := []) ⟨hx, hb, hml, hown, hB⟩ (fun sz => tX11_newNumber l D cs a0 ((-2) : Int32) hm0 hk0 (by have : (((-2) : Int32).toInt) = (-2) := (by decide); omega) (by have : (((-2) : Int32).toInt) = (-2) := (by decide); omega) sz) cg_11_195_X11_newNumber rfl rfl (by decide +kernel) ⟨Nat.le_of_ble_eq_true rfl, Nat.le_of_ble_eq_true rfl⟩ hK hN TH hS hA rfl hm0 hk0 (by decide) rfl hl.1 rfl (Nat.le_of_ble_eq_true rfl) dX11_put_91 ⟨Nat.le_of_ble_eq_true rfl, Nat.le_of_ble_eq_true rfl⟩ (fun v31 kp31 L31 E31 H locs hq31 hx31 TH hS => ?_)
              obtain ⟨⟨xc32, rfl, hxc32a, hxc32b⟩, rfl, rfl, hst31⟩ := hq31
              have hF := hF.tr hst31 (fun _ h => ⟨h, rfl⟩) (by decide) (by decide)
              have hmf33 : tw_fv E31 a0 8 = .ref xr1 := (hst31.1 a0 8 hm0 (by rw [hk0]; decide)).trans hxr1
              have hmf34 : tw_fv E31 a0 1 = .ref xr9 := (hst31.1 a0 1 hm0 (by rw [hk0]; decide)).trans hxr9
              have hmf35 : tw_fv E31 xr9 1 = .int zfxc11_0_0 := (hst31.1 xr9 1 hmxr9 (by rw [hkxr9]; decide)).trans hzfxc11_0_0
              have hmf36 : tw_fv E31 xr1 2 = .ref xr18 := (hst31.1 xr1 2 hmxr1 (by rw [hkxr1]; decide)).trans hxr18
              have hmf37 : tw_fv E31 xr18 0 = .int xi19 := (hst31.1 xr18 0 hmxr18 (by rw [hkxr18]; decide)).trans hxi19
              refine W.eq (g2 := F0 m 94 ls [.int xc32]) rfl ?_
              refine lv_istore (lv' := [(9, .int xc32), (7, .long xc5), (6, .int xc3), (0, .ref a0), (1, .int x1), (2, .int x2), (3, .int x3), (4, .long x4)]) hx hb dX11_put_94 hl (by decide) rfl (fun ls hl => ?_)
              refine lv_aload_n hx hb dX11_put_96 rfl (lv_at hl 3 rfl) ?_
              refine tw_get (ci := 11) (C := RX11) (T := TX11) (N := 19) hx hb hB cx_inX11 hown hK TH hm0 hk0 rfl ⟨by decide, rfl⟩ 8 (by decide) cw_391 (fun _ h9 => h9) dX11_put_97 (fun hv => ?_)
              rw [hmf33]
              refine lv_iload hx hb dX11_put_100 (lv_at hl 0 rfl) ?_
              refine lv_iload_n hx hb dX11_put_102 rfl (lv_at hl 4 rfl) ?_
              refine lv_iload_n hx hb dX11_put_103 rfl (lv_at hl 5 rfl) ?_
              refine lv_iload_n hx hb dX11_put_104 rfl (lv_at hl 6 rfl) ?_
              refine lv_lload hx hb dX11_put_105 (lv_at hl 1 rfl) ?_
              refine tw_Vc (o := xr1) (ci := 0) (n := 5) (post := (fun v kq Lq Eq => v = none ∧ kp = kq ∧ L = Lq ∧ tw_fr kp L [(10, 0)] [102, 110, 111, 114] E31 Eq)) (As := [.int xc32, .int x1, .int x2, .int x3, .long xc5]) (rest := []) ⟨hx, hb, hml, hown, hB⟩ (fun sz => tX0_insert l D cs xr1 xc32 x1 x2 x3 xc5 hmxr1 hkxr1 (by omega) (by omega) (by omega) (by omega) (by omega) (by omega) sz) cg_11_234_X0_insert rfl rfl (by decide +kernel) ⟨Nat.le_of_ble_eq_true rfl, Nat.le_of_ble_eq_true rfl⟩ hK hN TH hS hA rfl hmxr1 hkxr1 (by decide) rfl hl.1 rfl (Nat.le_of_ble_eq_true rfl) dX11_put_107 ⟨Nat.le_of_ble_eq_true rfl, Nat.le_of_ble_eq_true rfl⟩ (fun v38 kp38 L38 E38 H locs hq38 hx38 TH hS => ?_)
              obtain ⟨rfl, rfl, rfl, hst38⟩ := hq38
              have hF := hF.tr hst38 (fun _ h => ⟨h, rfl⟩) (by decide) (by decide)
              have hmf40 : tw_fv E38 a0 8 = .ref xr1 := (hst38.1 a0 8 hm0 (by rw [hk0]; decide)).trans hmf33
              have hmf41 : tw_fv E38 a0 1 = .ref xr9 := (hst38.1 a0 1 hm0 (by rw [hk0]; decide)).trans hmf34
              have hmf42 : tw_fv E38 xr9 1 = .int zfxc11_0_0 := (hst38.1 xr9 1 hmxr9 (by rw [hkxr9]; decide)).trans hmf35
              have hmf43 : tw_fv E38 xr1 2 = .ref xr18 := (hst38.1 xr1 2 hmxr1 (by rw [hkxr1]; decide)).trans hmf36
              refine W.eq (g2 := F0 m 110 ls []) rfl ?_
              refine lv_aload_n hx hb dX11_put_110 rfl (lv_at hl 3 rfl) ?_
              refine tw_get (ci := 11) (C := RX11) (T := TX11) (N := 19) hx hb hB cx_inX11 hown hK TH hm0 hk0 rfl ⟨by decide, rfl⟩ 8 (by decide) cw_391 (fun _ h9 => h9) dX11_put_111 (fun hv => ?_)
              rw [hmf40]
              refine lv_aload_n hx hb dX11_put_114 rfl (lv_at hl 3 rfl) ?_
              refine tw_get (ci := 11) (C := RX11) (T := TX11) (N := 19) hx hb hB cx_inX11 hown hK TH hm0 hk0 rfl ⟨by decide, rfl⟩ 1 (by decide) cw_384 (fun _ h9 => h9) dX11_put_115 (fun hv => ?_)
              rw [hmf41]
              refine tw_Vc (o := xr1) (ci := 0) (n := 1) (post := (fun v kq Lq Eq => v = none ∧ kp = kq ∧ L = Lq ∧ tw_fr kp L [(10, 0)] [102, 110, 111, 112, 113, 114, 115] E38 Eq)) (As := [.ref xr9]) (rest := []) ⟨hx, hb, hml, hown, hB⟩ (fun sz => tX0_arrange l D cs xr1 xr9 hmxr1 hkxr1 hmxr9 hkxr9 sz) cg_11_238_X0_arrange rfl rfl (by decide +kernel) ⟨Nat.le_of_ble_eq_true rfl, Nat.le_of_ble_eq_true rfl⟩ hK hN TH hS hA rfl hmxr1 hkxr1 (by decide) rfl hl.1 rfl (Nat.le_of_ble_eq_true rfl) dX11_put_118 ⟨Nat.le_of_ble_eq_true rfl, Nat.le_of_ble_eq_true rfl⟩ (fun v44 kp44 L44 E44 H locs hq44 hx44 TH hS => ?_)
              obtain ⟨rfl, rfl, rfl, hst44⟩ := hq44
              have hF := hF.tr hst44 (fun _ h => ⟨h, rfl⟩) (by decide) (by decide)
              have hmf46 : tw_fv E44 a0 8 = .ref xr1 := (hst44.1 a0 8 hm0 (by rw [hk0]; decide)).trans hmf40
              have hmf47 : tw_fv E44 a0 1 = .ref xr9 := (hst44.1 a0 1 hm0 (by rw [hk0]; decide)).trans hmf41
              have hmf48 : tw_fv E44 xr9 1 = .int zfxc11_0_0 := (hst44.1 xr9 1 hmxr9 (by rw [hkxr9]; decide)).trans hmf42
              have hmf49 : tw_fv E44 xr1 2 = .ref xr18 := (hst44.1 xr1 2 hmxr1 (by rw [hkxr1]; decide)).trans hmf43
              refine W.eq (g2 := F0 m 121 ls []) rfl ?_
              refine lv_iload hx hb dX11_put_121 (lv_at hl 0 rfl) ?_
              exact tw_iret hx hb hr hlocks TH hS hex ⟨⟨_, rfl⟩, rfl, rfl, hF⟩ (Nat.le_of_ble_eq_true rfl) (Nat.le_of_ble_eq_true rfl) dX11_put_123
            · have hf50 : xc28.toInt = 0 := by have z := (fa_eq _ _).mp hc29; have : ((0 : Int32).toInt) = 0 := (by decide); omega
              refine lv_iconst (v := (-1)) hx hb dX11_put_86 (by decide) ?_
              exact tw_iret hx hb hr hlocks TH hS hex ⟨⟨_, rfl⟩, rfl, rfl, hF⟩ (Nat.le_of_ble_eq_true rfl) (Nat.le_of_ble_eq_true rfl) dX11_put_87
      · have hf51 : ¬ (0 ≤ zi15.toInt) := fun q => hc16 ((fa_le _ _).mpr (by have : ((0 : Int32).toInt) = 0 := (by decide); omega))
        refine lv_iconst (v := (-1)) hx hb dX11_put_41 (by decide) ?_
        exact tw_iret hx hb hr hlocks TH hS hex ⟨⟨_, rfl⟩, rfl, rfl, hF⟩ (Nat.le_of_ble_eq_true rfl) (Nat.le_of_ble_eq_true rfl) dX11_put_42
set_option maxHeartbeats 4000000 in
set_option maxRecDepth 100000 in
theorem tX11_take (l : Launch) (D : va_G) (cs : Nat → ClassId) {kp : Nat → Nat} {L : List Nat} {E : Nat → va_E} (a0 : Nat) (x1 : Int32) (hm0 : a0 ∈ L) (hk0 : kp a0 = 11) (sz : Nat) : Met l yX11_take (.code yX11_take cX11_take 3 (some .boolean) :: cx_big) { frames := 4, cells := 0, slots := 0, locals := 97 } (tw_P D cs kp L E [.ref a0, .int x1] sz) (tw_Q D cs kp L (fun v kq Lq Eq => (∃ x : Int32, v = some (.int x) ∧ 0 ≤ x.toInt ∧ x.toInt ≤ 1) ∧ kp = kq ∧ L = Lq ∧ tw_fr kp L [(10, 0)] [102, 110, 111, 112, 113, 114, 115] E Eq) (va_A (va_pl L E) sz)) 0 0 (va_A (va_pl L E) sz) := by
  refine tw_ofW (by decide) (Nat.le_of_ble_eq_true rfl) ?_
  intro p e s m below meth c A ls hx hb hr hml hB hown hlocks hK hN hA TH hS hl
  have hown : s.vm.findClass "TreeMerge" = some m.cls := hown
  have hl : lv_has ls 3 [(0, .ref a0), (1, .int x1)] := hl
  obtain ⟨kp0, ekp⟩ : ∃ z, z = kp := ⟨_, rfl⟩
  obtain ⟨L0, eL⟩ : ∃ z, z = L := ⟨_, rfl⟩
  rw [show tw_Q D cs kp L = tw_Q D cs kp0 L0 by rw [ekp, eL]]
  have hex : ∀ a : Nat, a ∈ L0 → a ∈ L ∧ kp a = kp0 a := fun a h => ⟨by rw [← eL]; exact h, by rw [ekp]⟩
  have hF : tw_fr kp L [(10, 0)] [102, 110, 111, 112, 113, 114, 115] E E := tw_fr.rf
  refine lv_aload_n hx hb dX11_take_0 rfl (lv_at hl 0 rfl) ?_
  refine tw_get (ci := 11) (C := RX11) (T := TX11) (N := 19) hx hb hB cx_inX11 hown hK TH hm0 hk0 rfl ⟨by decide, rfl⟩ 8 (by decide) cw_391 (fun _ h9 => h9) dX11_take_1 (fun hv => ?_)
  obtain ⟨xr1, hxr1, hmxr1, hkxr1⟩ : ∃ a : Nat, tw_fv E a0 8 = .ref a ∧ a ∈ L ∧ kp a = 0 := hv
  rw [hxr1]
  refine lv_iload_n hx hb dX11_take_4 rfl (lv_at hl 1 rfl) ?_
  refine tw_Vc (o := xr1) (ci := 0) (n := 1) (post := (fun v kq Lq Eq => (∃ x : Int32, v = some (.int x) ∧ (-1) ≤ x.toInt ∧ x.toInt ≤ 39 ∧ (x.toInt ≠ -1 → -1 ≤ x1.toInt ∧ x1.toInt ≤ 149)) ∧ kp = kq ∧ L = Lq ∧ E = Eq)) (As := [.int x1]) (rest := []) ⟨hx, hb, hml, hown, hB⟩ (fun sz => tX0_find l D cs xr1 x1 hmxr1 hkxr1 sz) cg_11_220_X0_find rfl rfl (by decide +kernel) ⟨Nat.le_of_ble_eq_true rfl, Nat.le_of_ble_eq_true rfl⟩ hK hN TH hS hA rfl hmxr1 hkxr1 (by decide) rfl hl.1 rfl (Nat.le_of_ble_eq_true rfl) dX11_take_5 ⟨Nat.le_of_ble_eq_true rfl, Nat.le_of_ble_eq_true rfl⟩ (fun v2 kp2 L2 E2 H locs hq2 hx2 TH hS => ?_)
  obtain ⟨⟨xc3, rfl, hxc3a, hxc3b, hpoxc3_0⟩, rfl, rfl, rfl⟩ := hq2
  refine W.eq (g2 := F0 m 8 ls [.int xc3]) rfl ?_
  refine lv_istore_n (lv' := [(2, .int xc3), (0, .ref a0), (1, .int x1)]) hx hb dX11_take_8 rfl hl (by decide) rfl (fun ls hl => ?_)
  refine lv_iload_n hx hb dX11_take_9 rfl (lv_at hl 0 rfl) ?_
  refine lv_iconst (v := (-1)) hx hb dX11_take_10 (by decide) ?_
  refine lv_icmp_eq (tgt := 32) hx hb dX11_take_11 (by decide) (fun hc4 => ?_) (fun hc4 => ?_)
  · have hf5 : xc3.toInt = (-1) := by have z := (fa_eq _ _).mp hc4; have : (((-1) : Int32).toInt) = (-1) := (by decide); omega
    refine lv_iconst (v := 0) hx hb dX11_take_32 (by decide) ?_
    exact tw_zret hx hb hr hlocks (by decide) TH hS hex ⟨⟨_, rfl, (show 0 ≤ Int32.toInt 0 from by have : ((0 : Int32).toInt) = 0 := (by decide); omega), (show Int32.toInt 0 ≤ 1 from by have : ((0 : Int32).toInt) = 0 := (by decide); omega)⟩, rfl, rfl, hF⟩ (Nat.le_of_ble_eq_true rfl) (Nat.le_of_ble_eq_true rfl) dX11_take_33
  · have hf6 : ¬ (xc3.toInt = (-1)) := fun q => hc4 ((fa_eq _ _).mpr (by have : (((-1) : Int32).toInt) = (-1) := (by decide); omega))
    refine lv_iload_n hx hb dX11_take_14 rfl (lv_at hl 0 rfl) ?_
    refine lv_if_eq (tgt := 32) hx hb dX11_take_15 (by decide) (fun hc7 => ?_) (fun hc7 => ?_)
    · have hf8 : xc3.toInt = 0 := by have z := (fa_eq _ _).mp hc7; have : ((0 : Int32).toInt) = 0 := (by decide); omega
      refine lv_iconst (v := 0) hx hb dX11_take_32 (by decide) ?_
      exact tw_zret hx hb hr hlocks (by decide) TH hS hex ⟨⟨_, rfl, (show 0 ≤ Int32.toInt 0 from by have : ((0 : Int32).toInt) = 0 := (by decide); omega), (show Int32.toInt 0 ≤ 1 from by have : ((0 : Int32).toInt) = 0 := (by decide); omega)⟩, rfl, rfl, hF⟩ (Nat.le_of_ble_eq_true rfl) (Nat.le_of_ble_eq_true rfl) dX11_take_33
    · have hf9 : ¬ (xc3.toInt = 0) := fun q => hc7 ((fa_eq _ _).mpr (by have : ((0 : Int32).toInt) = 0 := (by decide); omega))
      refine lv_aload_n hx hb dX11_take_18 rfl (lv_at hl 1 rfl) ?_
      refine tw_get (ci := 11) (C := RX11) (T := TX11) (N := 19) hx hb hB cx_inX11 hown hK TH hm0 hk0 rfl ⟨by decide, rfl⟩ 8 (by decide) cw_391 (fun _ h9 => h9) dX11_take_19 (fun hv => ?_)
      rw [hxr1]
      refine tw_get (ci := 0) (C := RX0) (T := TX0) (N := 4) hx hb hB cx_inX0 hown hK TH hmxr1 hkxr1 rfl ⟨by decide, rfl⟩ 2 (by decide) cw_260 (fun _ h9 => h9) dX11_take_22 (fun hv => ?_)
      obtain ⟨xr10, hxr10, hmxr10, hkxr10⟩ : ∃ a : Nat, tw_fv E xr1 2 = .ref a ∧ a ∈ L ∧ kp a = 10 := hv
      rw [hxr10]
      refine lv_iload_n hx hb dX11_take_25 rfl (lv_at hl 0 rfl) ?_
      refine tw_Vc (o := xr10) (ci := 10) (n := 1) (post := (fun v kq Lq Eq => (∃ x : Int32, v = some (.int x)) ∧ kp = kq ∧ L = Lq ∧ E = Eq)) (As := [.int xc3]) (rest := []) ⟨hx, hb, hml, hown, hB⟩ (fun sz => tX10_childCount l D cs xr10 xc3 hmxr10 hkxr10 (by omega) (by omega) sz) cg_11_241_X10_childCount rfl rfl (by decide +kernel) ⟨Nat.le_of_ble_eq_true rfl, Nat.le_of_ble_eq_true rfl⟩ hK hN TH hS hA rfl hmxr10 hkxr10 (by decide) rfl hl.1 rfl (Nat.le_of_ble_eq_true rfl) dX11_take_26 ⟨Nat.le_of_ble_eq_true rfl, Nat.le_of_ble_eq_true rfl⟩ (fun v11 kp11 L11 E11 H locs hq11 hx11 TH hS => ?_)
      obtain ⟨⟨xc12, rfl⟩, rfl, rfl, rfl⟩ := hq11
      refine W.eq (g2 := F0 m 29 ls [.int xc12]) rfl ?_
      refine lv_if_le (tgt := 34) hx hb dX11_take_29 (by decide) (fun hc13 => ?_) (fun hc13 => ?_)
      · have hf14 : xc12.toInt ≤ 0 := by have z := (fa_le _ _).mp hc13; have : ((0 : Int32).toInt) = 0 := (by decide); omega
        refine lv_aload_n hx hb dX11_take_34 rfl (lv_at hl 1 rfl) ?_
        refine tw_get (ci := 11) (C := RX11) (T := TX11) (N := 19) hx hb hB cx_inX11 hown hK TH hm0 hk0 rfl ⟨by decide, rfl⟩ 8 (by decide) cw_391 (fun _ h9 => h9) dX11_take_35 (fun hv => ?_)
        rw [hxr1]
        refine lv_iload_n hx hb dX11_take_38 rfl (lv_at hl 0 rfl) ?_
        refine tw_Vc (o := xr1) (ci := 0) (n := 1) (post := (fun v kq Lq Eq => v = none ∧ kp = kq ∧ L = Lq ∧ tw_fr kp L [(10, 0)] [102, 110, 111, 114] E Eq)) (As := [.int xc3]) (rest := []) ⟨hx, hb, hml, hown, hB⟩ (fun sz => tX0_cut l D cs xr1 xc3 hmxr1 hkxr1 sz) cg_11_244_X0_cut rfl rfl (by decide +kernel) ⟨Nat.le_of_ble_eq_true rfl, Nat.le_of_ble_eq_true rfl⟩ hK hN TH hS hA rfl hmxr1 hkxr1 (by decide) rfl hl.1 rfl (Nat.le_of_ble_eq_true rfl) dX11_take_39 ⟨Nat.le_of_ble_eq_true rfl, Nat.le_of_ble_eq_true rfl⟩ (fun v15 kp15 L15 E15 H locs hq15 hx15 TH hS => ?_)
        obtain ⟨rfl, rfl, rfl, hst15⟩ := hq15
        have hF := hF.tr hst15 (fun _ h => ⟨h, rfl⟩) (by decide) (by decide)
        have hmf17 : tw_fv E15 a0 8 = .ref xr1 := (hst15.1 a0 8 hm0 (by rw [hk0]; decide)).trans hxr1
        have hmf18 : tw_fv E15 xr1 2 = .ref xr10 := (hst15.1 xr1 2 hmxr1 (by rw [hkxr1]; decide)).trans hxr10
        refine W.eq (g2 := F0 m 42 ls []) rfl ?_
        refine lv_aload_n hx hb dX11_take_42 rfl (lv_at hl 1 rfl) ?_
        refine tw_get (ci := 11) (C := RX11) (T := TX11) (N := 19) hx hb hB cx_inX11 hown hK TH hm0 hk0 rfl ⟨by decide, rfl⟩ 8 (by decide) cw_391 (fun _ h9 => h9) dX11_take_43 (fun hv => ?_)
        rw [hmf17]
        refine lv_aload_n hx hb dX11_take_46 rfl (lv_at hl 1 rfl) ?_
        refine tw_get (ci := 11) (C := RX11) (T := TX11) (N := 19) hx hb hB cx_inX11 hown hK TH hm0 hk0 rfl ⟨by decide, rfl⟩ 1 (by decide) cw_384 (fun _ h9 => h9) dX11_take_47 (fun hv => ?_)
        obtain ⟨xr19, hxr19, hmxr19, hkxr19⟩ : ∃ a : Nat, tw_fv E15 a0 1 = .ref a ∧ a ∈ L ∧ kp a = 2 := hv
        rw [hxr19]
        refine tw_Vc (o := xr1) (ci := 0) (n := 1) (post := (fun v kq Lq Eq => v = none ∧ kp = kq ∧ L = Lq ∧ tw_fr kp L [(10, 0)] [102, 110, 111, 112, 113, 114, 115] E15 Eq)) (As := [.ref xr19]) (rest := []) ⟨hx, hb, hml, hown, hB⟩ (fun sz => tX0_arrange l D cs xr1 xr19 hmxr1 hkxr1 hmxr19 hkxr19 sz) cg_11_238_X0_arrange rfl rfl (by decide +kernel) ⟨Nat.le_of_ble_eq_true rfl, Nat.le_of_ble_eq_true rfl⟩ hK hN TH hS hA rfl hmxr1 hkxr1 (by decide) rfl hl.1 rfl (Nat.le_of_ble_eq_true rfl) dX11_take_50 ⟨Nat.le_of_ble_eq_true rfl, Nat.le_of_ble_eq_true rfl⟩ (fun v20 kp20 L20 E20 H locs hq20 hx20 TH hS => ?_)
        obtain ⟨rfl, rfl, rfl, hst20⟩ := hq20
        have hF := hF.tr hst20 (fun _ h => ⟨h, rfl⟩) (by decide) (by decide)
        have hmf22 : tw_fv E20 a0 8 = .ref xr1 := (hst20.1 a0 8 hm0 (by rw [hk0]; decide)).trans hmf17
        have hmf23 : tw_fv E20 xr1 2 = .ref xr10 := (hst20.1 xr1 2 hmxr1 (by rw [hkxr1]; decide)).trans hmf18
        have hmf24 : tw_fv E20 a0 1 = .ref xr19 := (hst20.1 a0 1 hm0 (by rw [hk0]; decide)).trans hxr19
        refine W.eq (g2 := F0 m 53 ls []) rfl ?_
        refine lv_iconst (v := 1) hx hb dX11_take_53 (by decide) ?_
        exact tw_zret hx hb hr hlocks (by decide) TH hS hex ⟨⟨_, rfl, (show 0 ≤ Int32.toInt 1 from by have : ((1 : Int32).toInt) = 1 := (by decide); omega), (show Int32.toInt 1 ≤ 1 from by have : ((1 : Int32).toInt) = 1 := (by decide); omega)⟩, rfl, rfl, hF⟩ (Nat.le_of_ble_eq_true rfl) (Nat.le_of_ble_eq_true rfl) dX11_take_54
      · have hf25 : ¬ (xc12.toInt ≤ 0) := fun q => hc13 ((fa_le _ _).mpr (by have : ((0 : Int32).toInt) = 0 := (by decide); omega))
        refine lv_iconst (v := 0) hx hb dX11_take_32 (by decide) ?_
        exact tw_zret hx hb hr hlocks (by decide) TH hS hex ⟨⟨_, rfl, (show 0 ≤ Int32.toInt 0 from by have : ((0 : Int32).toInt) = 0 := (by decide); omega), (show Int32.toInt 0 ≤ 1 from by have : ((0 : Int32).toInt) = 0 := (by decide); omega)⟩, rfl, rfl, hF⟩ (Nat.le_of_ble_eq_true rfl) (Nat.le_of_ble_eq_true rfl) dX11_take_33
set_option maxHeartbeats 4000000 in
set_option maxRecDepth 100000 in
theorem tX11_move (l : Launch) (D : va_G) (cs : Nat → ClassId) {kp : Nat → Nat} {L : List Nat} {E : Nat → va_E} (a0 : Nat) (x1 : Int32) (x2 : Int32) (x3 : Int32) (hm0 : a0 ∈ L) (hk0 : kp a0 = 11) (sz : Nat) : Met l yX11_move (.code yX11_move cX11_move 9 (some .boolean) :: cx_big) { frames := 4, cells := 0, slots := 0, locals := 97 } (tw_P D cs kp L E [.ref a0, .int x1, .int x2, .int x3] sz) (tw_Q D cs kp L (fun v kq Lq Eq => (∃ x : Int32, v = some (.int x) ∧ 0 ≤ x.toInt ∧ x.toInt ≤ 1) ∧ kp = kq ∧ L = Lq ∧ tw_fr kp L [(10, 0)] [102, 110, 111, 112, 113, 114, 115] E Eq) (va_A (va_pl L E) sz)) 0 0 (va_A (va_pl L E) sz) := by
  refine tw_ofW (by decide) (Nat.le_of_ble_eq_true rfl) ?_
  intro p e s m below meth c A ls hx hb hr hml hB hown hlocks hK hN hA TH hS hl
  have hown : s.vm.findClass "TreeMerge" = some m.cls := hown
  have hl : lv_has ls 9 [(0, .ref a0), (1, .int x1), (2, .int x2), (3, .int x3)] := hl
  obtain ⟨kp0, ekp⟩ : ∃ z, z = kp := ⟨_, rfl⟩
  obtain ⟨L0, eL⟩ : ∃ z, z = L := ⟨_, rfl⟩
  rw [show tw_Q D cs kp L = tw_Q D cs kp0 L0 by rw [ekp, eL]]
  have hex : ∀ a : Nat, a ∈ L0 → a ∈ L ∧ kp a = kp0 a := fun a h => ⟨by rw [← eL]; exact h, by rw [ekp]⟩
  have hF : tw_fr kp L [(10, 0)] [102, 110, 111, 112, 113, 114, 115] E E := tw_fr.rf
  refine lv_aload_n hx hb dX11_move_0 rfl (lv_at hl 0 rfl) ?_
  refine tw_get (ci := 11) (C := RX11) (T := TX11) (N := 19) hx hb hB cx_inX11 hown hK TH hm0 hk0 rfl ⟨by decide, rfl⟩ 8 (by decide) cw_391 (fun _ h9 => h9) dX11_move_1 (fun hv => ?_)
  obtain ⟨xr1, hxr1, hmxr1, hkxr1⟩ : ∃ a : Nat, tw_fv E a0 8 = .ref a ∧ a ∈ L ∧ kp a = 0 := hv
  rw [hxr1]
  refine lv_iload_n hx hb dX11_move_4 rfl (lv_at hl 1 rfl) ?_
  refine tw_Vc (o := xr1) (ci := 0) (n := 1) (post := (fun v kq Lq Eq => (∃ x : Int32, v = some (.int x) ∧ (-1) ≤ x.toInt ∧ x.toInt ≤ 39 ∧ (x.toInt ≠ -1 → -1 ≤ x1.toInt ∧ x1.toInt ≤ 149)) ∧ kp = kq ∧ L = Lq ∧ E = Eq)) (As := [.int x1]) (rest := []) ⟨hx, hb, hml, hown, hB⟩ (fun sz => tX0_find l D cs xr1 x1 hmxr1 hkxr1 sz) cg_11_220_X0_find rfl rfl (by decide +kernel) ⟨Nat.le_of_ble_eq_true rfl, Nat.le_of_ble_eq_true rfl⟩ hK hN TH hS hA rfl hmxr1 hkxr1 (by decide) rfl hl.1 rfl (Nat.le_of_ble_eq_true rfl) dX11_move_5 ⟨Nat.le_of_ble_eq_true rfl, Nat.le_of_ble_eq_true rfl⟩ (fun v2 kp2 L2 E2 H locs hq2 hx2 TH hS => ?_)
  obtain ⟨⟨xc3, rfl, hxc3a, hxc3b, hpoxc3_0⟩, rfl, rfl, rfl⟩ := hq2
  refine W.eq (g2 := F0 m 8 ls [.int xc3]) rfl ?_
  refine lv_istore (lv' := [(4, .int xc3), (0, .ref a0), (1, .int x1), (2, .int x2), (3, .int x3)]) hx hb dX11_move_8 hl (by decide) rfl (fun ls hl => ?_)
  refine lv_aload_n hx hb dX11_move_10 rfl (lv_at hl 1 rfl) ?_
  refine tw_get (ci := 11) (C := RX11) (T := TX11) (N := 19) hx hb hB cx_inX11 hown hK TH hm0 hk0 rfl ⟨by decide, rfl⟩ 8 (by decide) cw_391 (fun _ h9 => h9) dX11_move_11 (fun hv => ?_)
  rw [hxr1]
  refine lv_iload_n hx hb dX11_move_14 rfl (lv_at hl 3 rfl) ?_
  refine tw_Vc (o := xr1) (ci := 0) (n := 1) (post := (fun v kq Lq Eq => (∃ x : Int32, v = some (.int x) ∧ (-1) ≤ x.toInt ∧ x.toInt ≤ 39 ∧ (x.toInt ≠ -1 → -1 ≤ x2.toInt ∧ x2.toInt ≤ 149)) ∧ kp = kq ∧ L = Lq ∧ E = Eq)) (As := [.int x2]) (rest := []) ⟨hx, hb, hml, hown, hB⟩ (fun sz => tX0_find l D cs xr1 x2 hmxr1 hkxr1 sz) cg_11_220_X0_find rfl rfl (by decide +kernel) ⟨Nat.le_of_ble_eq_true rfl, Nat.le_of_ble_eq_true rfl⟩ hK hN TH hS hA rfl hmxr1 hkxr1 (by decide) rfl hl.1 rfl (Nat.le_of_ble_eq_true rfl) dX11_move_15 ⟨Nat.le_of_ble_eq_true rfl, Nat.le_of_ble_eq_true rfl⟩ (fun v4 kp4 L4 E4 H locs hq4 hx4 TH hS => ?_)
  obtain ⟨⟨xc5, rfl, hxc5a, hxc5b, hpoxc5_0⟩, rfl, rfl, rfl⟩ := hq4
  refine W.eq (g2 := F0 m 18 ls [.int xc5]) rfl ?_
  refine lv_istore (lv' := [(5, .int xc5), (4, .int xc3), (0, .ref a0), (1, .int x1), (2, .int x2), (3, .int x3)]) hx hb dX11_move_18 hl (by decide) rfl (fun ls hl => ?_)
  refine lv_iload hx hb dX11_move_20 (lv_at hl 1 rfl) ?_
  refine lv_iconst (v := (-1)) hx hb dX11_move_22 (by decide) ?_
  refine lv_icmp_eq (tgt := 54) hx hb dX11_move_23 (by decide) (fun hc6 => ?_) (fun hc6 => ?_)
  · have hf7 : xc3.toInt = (-1) := by have z := (fa_eq _ _).mp hc6; have : (((-1) : Int32).toInt) = (-1) := (by decide); omega
    refine lv_iconst (v := 0) hx hb dX11_move_54 (by decide) ?_
    exact tw_zret hx hb hr hlocks (by decide) TH hS hex ⟨⟨_, rfl, (show 0 ≤ Int32.toInt 0 from by have : ((0 : Int32).toInt) = 0 := (by decide); omega), (show Int32.toInt 0 ≤ 1 from by have : ((0 : Int32).toInt) = 0 := (by decide); omega)⟩, rfl, rfl, hF⟩ (Nat.le_of_ble_eq_true rfl) (Nat.le_of_ble_eq_true rfl) dX11_move_55
  · have hf8 : ¬ (xc3.toInt = (-1)) := fun q => hc6 ((fa_eq _ _).mpr (by have : (((-1) : Int32).toInt) = (-1) := (by decide); omega))
    refine lv_iload hx hb dX11_move_26 (lv_at hl 1 rfl) ?_
    refine lv_if_eq (tgt := 54) hx hb dX11_move_28 (by decide) (fun hc9 => ?_) (fun hc9 => ?_)
    · have hf10 : xc3.toInt = 0 := by have z := (fa_eq _ _).mp hc9; have : ((0 : Int32).toInt) = 0 := (by decide); omega
      refine lv_iconst (v := 0) hx hb dX11_move_54 (by decide) ?_
      exact tw_zret hx hb hr hlocks (by decide) TH hS hex ⟨⟨_, rfl, (show 0 ≤ Int32.toInt 0 from by have : ((0 : Int32).toInt) = 0 := (by decide); omega), (show Int32.toInt 0 ≤ 1 from by have : ((0 : Int32).toInt) = 0 := (by decide); omega)⟩, rfl, rfl, hF⟩ (Nat.le_of_ble_eq_true rfl) (Nat.le_of_ble_eq_true rfl) dX11_move_55
    · have hf11 : ¬ (xc3.toInt = 0) := fun q => hc9 ((fa_eq _ _).mpr (by have : ((0 : Int32).toInt) = 0 := (by decide); omega))
      refine lv_iload hx hb dX11_move_31 (lv_at hl 0 rfl) ?_
      refine lv_iconst (v := (-1)) hx hb dX11_move_33 (by decide) ?_
      refine lv_icmp_eq (tgt := 54) hx hb dX11_move_34 (by decide) (fun hc12 => ?_) (fun hc12 => ?_)
      · have hf13 : xc5.toInt = (-1) := by have z := (fa_eq _ _).mp hc12; have : (((-1) : Int32).toInt) = (-1) := (by decide); omega
        refine lv_iconst (v := 0) hx hb dX11_move_54 (by decide) ?_
        exact tw_zret hx hb hr hlocks (by decide) TH hS hex ⟨⟨_, rfl, (show 0 ≤ Int32.toInt 0 from by have : ((0 : Int32).toInt) = 0 := (by decide); omega), (show Int32.toInt 0 ≤ 1 from by have : ((0 : Int32).toInt) = 0 := (by decide); omega)⟩, rfl, rfl, hF⟩ (Nat.le_of_ble_eq_true rfl) (Nat.le_of_ble_eq_true rfl) dX11_move_55
      · have hf14 : ¬ (xc5.toInt = (-1)) := fun q => hc12 ((fa_eq _ _).mpr (by have : (((-1) : Int32).toInt) = (-1) := (by decide); omega))
        refine lv_aload_n hx hb dX11_move_37 rfl (lv_at hl 2 rfl) ?_
        refine tw_get (ci := 11) (C := RX11) (T := TX11) (N := 19) hx hb hB cx_inX11 hown hK TH hm0 hk0 rfl ⟨by decide, rfl⟩ 8 (by decide) cw_391 (fun _ h9 => h9) dX11_move_38 (fun hv => ?_)
        rw [hxr1]
        refine tw_get (ci := 0) (C := RX0) (T := TX0) (N := 4) hx hb hB cx_inX0 hown hK TH hmxr1 hkxr1 rfl ⟨by decide, rfl⟩ 2 (by decide) cw_260 (fun _ h9 => h9) dX11_move_41 (fun hv => ?_)
        obtain ⟨xr15, hxr15, hmxr15, hkxr15⟩ : ∃ a : Nat, tw_fv E xr1 2 = .ref a ∧ a ∈ L ∧ kp a = 10 := hv
        rw [hxr15]
        refine lv_iload hx hb dX11_move_44 (lv_at hl 0 rfl) ?_
        refine lv_iload hx hb dX11_move_46 (lv_at hl 1 rfl) ?_
        refine tw_Vc (o := xr15) (ci := 10) (n := 2) (post := (fun v kq Lq Eq => (∃ x : Int32, v = some (.int x) ∧ 0 ≤ x.toInt ∧ x.toInt ≤ 1) ∧ kp = kq ∧ L = Lq ∧ E = Eq)) (As := [.int xc5, .int xc3]) (rest := []) ⟨hx, hb, hml, hown, hB⟩ (fun sz => tX10_isWithin l D cs xr15 xc5 xc3 hmxr15 hkxr15 (by omega) (by omega) (by omega) (by omega) sz) cg_11_247_X10_isWithin rfl rfl (by decide +kernel) ⟨Nat.le_of_ble_eq_true rfl, Nat.le_of_ble_eq_true rfl⟩ hK hN TH hS hA rfl hmxr15 hkxr15 (by decide) rfl hl.1 rfl (Nat.le_of_ble_eq_true rfl) dX11_move_48 ⟨Nat.le_of_ble_eq_true rfl, Nat.le_of_ble_eq_true rfl⟩ (fun v16 kp16 L16 E16 H locs hq16 hx16 TH hS => ?_)
        obtain ⟨⟨xc17, rfl, hxc17a, hxc17b⟩, rfl, rfl, rfl⟩ := hq16
        refine W.eq (g2 := F0 m 51 ls [.int xc17]) rfl ?_
        refine lv_if_eq (tgt := 56) hx hb dX11_move_51 (by decide) (fun hc18 => ?_) (fun hc18 => ?_)
        · have hf19 : xc17.toInt = 0 := by have z := (fa_eq _ _).mp hc18; have : ((0 : Int32).toInt) = 0 := (by decide); omega
          refine lv_aload_n hx hb dX11_move_56 rfl (lv_at hl 2 rfl) ?_
          refine tw_get (ci := 11) (C := RX11) (T := TX11) (N := 19) hx hb hB cx_inX11 hown hK TH hm0 hk0 rfl ⟨by decide, rfl⟩ 8 (by decide) cw_391 (fun _ h9 => h9) dX11_move_57 (fun hv => ?_)
          rw [hxr1]
          refine lv_iload hx hb dX11_move_60 (lv_at hl 0 rfl) ?_
          refine lv_iload_n hx hb dX11_move_62 rfl (lv_at hl 5 rfl) ?_
          refine lv_iload hx hb dX11_move_63 (lv_at hl 1 rfl) ?_
          refine lv_aload_n hx hb dX11_move_65 rfl (lv_at hl 2 rfl) ?_
          refine tw_get (ci := 11) (C := RX11) (T := TX11) (N := 19) hx hb hB cx_inX11 hown hK TH hm0 hk0 rfl ⟨by decide, rfl⟩ 1 (by decide) cw_384 (fun _ h9 => h9) dX11_move_66 (fun hv => ?_)
          obtain ⟨xr20, hxr20, hmxr20, hkxr20⟩ : ∃ a : Nat, tw_fv E a0 1 = .ref a ∧ a ∈ L ∧ kp a = 2 := hv
          rw [hxr20]
          refine tw_Vc (o := xr1) (ci := 0) (n := 4) (post := (fun v kq Lq Eq => (∃ x : Int32, v = some (.int x) ∧ 0 ≤ x.toInt ∧ x.toInt ≤ 1) ∧ kp = kq ∧ L = Lq ∧ E = Eq)) (As := [.int xc5, .int x3, .int xc3, .ref xr20]) (rest := []) ⟨hx, hb, hml, hown, hB⟩ (fun sz => tX0_hasPlace l D cs xr1 xc5 x3 xc3 xr20 hmxr1 hkxr1 (by omega) (by omega) (by omega) (by omega) hmxr20 hkxr20 sz) cg_11_230_X0_hasPlace rfl rfl (by decide +kernel) ⟨Nat.le_of_ble_eq_true rfl, Nat.le_of_ble_eq_true rfl⟩ hK hN TH hS hA rfl hmxr1 hkxr1 (by decide) rfl hl.1 rfl (Nat.le_of_ble_eq_true rfl) dX11_move_69 ⟨Nat.le_of_ble_eq_true rfl, Nat.le_of_ble_eq_true rfl⟩ (fun v21 kp21 L21 E21 H locs hq21 hx21 TH hS => ?_)
          obtain ⟨⟨xc22, rfl, hxc22a, hxc22b⟩, rfl, rfl, rfl⟩ := hq21
          refine W.eq (g2 := F0 m 72 ls [.int xc22]) rfl ?_
          refine lv_if_ne (tgt := 77) hx hb dX11_move_72 (by decide) (fun hc23 => ?_) (fun hc23 => ?_)
          · have hf24 : ¬ (xc22.toInt = 0) := fun q => hc23 ((fa_eq _ _).mpr (by have : ((0 : Int32).toInt) = 0 := (by decide); omega))
            refine lv_aload_n hx hb dX11_move_77 rfl (lv_at hl 2 rfl) ?_
            refine tw_get (ci := 11) (C := RX11) (T := TX11) (N := 19) hx hb hB cx_inX11 hown hK TH hm0 hk0 rfl ⟨by decide, rfl⟩ 8 (by decide) cw_391 (fun _ h9 => h9) dX11_move_78 (fun hv => ?_)
            rw [hxr1]
            refine tw_get (ci := 0) (C := RX0) (T := TX0) (N := 4) hx hb hB cx_inX0 hown hK TH hmxr1 hkxr1 rfl ⟨by decide, rfl⟩ 2 (by decide) cw_260 (fun _ h9 => h9) dX11_move_81 (fun hv => ?_)
            rw [hxr15]
            refine tw_get (ci := 10) (C := RX10) (T := TX10) (N := 8) hx hb hB cx_inX10 hown hK TH hmxr15 hkxr15 rfl ⟨by decide, rfl⟩ 5 (by decide) cw_143 (fun _ h9 => h9) dX11_move_84 (fun hv => ?_)
            obtain ⟨xr25, hxr25, hmxr25, hkxr25⟩ : ∃ a : Nat, tw_fv E xr15 5 = .ref a ∧ a ∈ L ∧ kp a = 114 := hv
            rw [hxr25]
            refine lv_iload hx hb dX11_move_87 (lv_at hl 1 rfl) ?_
            refine tw_iald (k := 114) (t0 := 0) (n := 40) (lo := (-1)) (hi := 9) hx hb hK TH hmxr25 hkxr25 (by decide) rfl rfl (i := xc3) (vp_in_iff.mpr ⟨by  omega, by  omega⟩) dX11_move_89 (fun hxe26a hxe26b => ?_)
            obtain ⟨xe26, exe26⟩ : ∃ z : Int32, tw_iv E xr25 (Int32.toNatClampNeg xc3) = z := ⟨_, rfl⟩
            rw [exe26] at hxe26a hxe26b ⊢
            refine lv_istore (lv' := [(6, .int xe26), (5, .int xc5), (4, .int xc3), (0, .ref a0), (1, .int x1), (2, .int x2), (3, .int x3)]) hx hb dX11_move_90 hl (by decide) rfl (fun ls hl => ?_)
            refine lv_aload_n hx hb dX11_move_92 rfl (lv_at hl 3 rfl) ?_
            refine tw_get (ci := 11) (C := RX11) (T := TX11) (N := 19) hx hb hB cx_inX11 hown hK TH hm0 hk0 rfl ⟨by decide, rfl⟩ 8 (by decide) cw_391 (fun _ h9 => h9) dX11_move_93 (fun hv => ?_)
            rw [hxr1]
            refine tw_get (ci := 0) (C := RX0) (T := TX0) (N := 4) hx hb hB cx_inX0 hown hK TH hmxr1 hkxr1 rfl ⟨by decide, rfl⟩ 2 (by decide) cw_260 (fun _ h9 => h9) dX11_move_96 (fun hv => ?_)
            rw [hxr15]
            refine tw_get (ci := 10) (C := RX10) (T := TX10) (N := 8) hx hb hB cx_inX10 hown hK TH hmxr15 hkxr15 rfl ⟨by decide, rfl⟩ 6 (by decide) cw_149 (fun _ h9 => h9) dX11_move_99 (fun hv => ?_)
            obtain ⟨xr27, hxr27, hmxr27, hkxr27⟩ : ∃ a : Nat, tw_fv E xr15 6 = .ref a ∧ a ∈ L ∧ kp a = 102 := hv
            rw [hxr27]
            refine lv_iload hx hb dX11_move_102 (lv_at hl 2 rfl) ?_
            refine tw_lald (k := 102) (n := 40) (lo := 0) (hi := 0) hx hb hK TH hmxr27 hkxr27 (by decide) rfl (i := xc3) (vp_in_iff.mpr ⟨by  omega, by  omega⟩) dX11_move_104 (fun xl28 => ?_)
            refine lv_lstore (lv' := [(7, .long xl28), (6, .int xe26), (5, .int xc5), (4, .int xc3), (0, .ref a0), (1, .int x1), (2, .int x2), (3, .int x3)]) hx hb dX11_move_105 hl (by decide) rfl (fun ls hl => ?_)
            refine lv_aload_n hx hb dX11_move_107 rfl (lv_at hl 4 rfl) ?_
            refine tw_get (ci := 11) (C := RX11) (T := TX11) (N := 19) hx hb hB cx_inX11 hown hK TH hm0 hk0 rfl ⟨by decide, rfl⟩ 8 (by decide) cw_391 (fun _ h9 => h9) dX11_move_108 (fun hv => ?_)
            rw [hxr1]
            refine lv_iload hx hb dX11_move_111 (lv_at hl 3 rfl) ?_
            refine tw_Vc (o := xr1) (ci := 0) (n := 1) (post := (fun v kq Lq Eq => v = none ∧ kp = kq ∧ L = Lq ∧ tw_fr kp L [(10, 0)] [102, 110, 111, 114] E Eq)) (As := [.int xc3]) (rest := []) ⟨hx, hb, hml, hown, hB⟩ (fun sz => tX0_cut l D cs xr1 xc3 hmxr1 hkxr1 sz) cg_11_244_X0_cut rfl rfl (by decide +kernel) ⟨Nat.le_of_ble_eq_true rfl, Nat.le_of_ble_eq_true rfl⟩ hK hN TH hS hA rfl hmxr1 hkxr1 (by decide) rfl hl.1 rfl (Nat.le_of_ble_eq_true rfl) dX11_move_113 ⟨Nat.le_of_ble_eq_true rfl, Nat.le_of_ble_eq_true rfl⟩ (fun v29 kp29 L29 E29 H locs hq29 hx29 TH hS => ?_)
            obtain ⟨rfl, rfl, rfl, hst29⟩ := hq29
            have hF := hF.tr hst29 (fun _ h => ⟨h, rfl⟩) (by decide) (by decide)
            have hmf31 : tw_fv E29 a0 8 = .ref xr1 := (hst29.1 a0 8 hm0 (by rw [hk0]; decide)).trans hxr1
            have hmf32 : tw_fv E29 xr1 2 = .ref xr15 := (hst29.1 xr1 2 hmxr1 (by rw [hkxr1]; decide)).trans hxr15
            have hmf33 : tw_fv E29 a0 1 = .ref xr20 := (hst29.1 a0 1 hm0 (by rw [hk0]; decide)).trans hxr20
            have hmf34 : tw_fv E29 xr15 5 = .ref xr25 := (hst29.1 xr15 5 hmxr15 (by rw [hkxr15]; decide)).trans hxr25
            have hmf35 : tw_fv E29 xr15 6 = .ref xr27 := (hst29.1 xr15 6 hmxr15 (by rw [hkxr15]; decide)).trans hxr27
            refine W.eq (g2 := F0 m 116 ls []) rfl ?_
            refine lv_aload_n hx hb dX11_move_116 rfl (lv_at hl 4 rfl) ?_
            refine tw_get (ci := 11) (C := RX11) (T := TX11) (N := 19) hx hb hB cx_inX11 hown hK TH hm0 hk0 rfl ⟨by decide, rfl⟩ 8 (by decide) cw_391 (fun _ h9 => h9) dX11_move_117 (fun hv => ?_)
            rw [hmf31]
            refine lv_iload_n hx hb dX11_move_120 rfl (lv_at hl 5 rfl) ?_
            refine lv_iload_n hx hb dX11_move_121 rfl (lv_at hl 6 rfl) ?_
            refine lv_iload_n hx hb dX11_move_122 rfl (lv_at hl 7 rfl) ?_
            refine lv_iload hx hb dX11_move_123 (lv_at hl 1 rfl) ?_
            refine lv_lload hx hb dX11_move_125 (lv_at hl 0 rfl) ?_
            refine tw_Vc (o := xr1) (ci := 0) (n := 5) (post := (fun v kq Lq Eq => v = none ∧ kp = kq ∧ L = Lq ∧ tw_fr kp L [(10, 0)] [102, 110, 111, 114] E29 Eq)) (As := [.int x1, .int x2, .int x3, .int xe26, .long xl28]) (rest := []) ⟨hx, hb, hml, hown, hB⟩ (fun sz => tX0_insert l D cs xr1 x1 x2 x3 xe26 xl28 hmxr1 hkxr1 (by omega) (by omega) (by omega) (by omega) (by omega) (by omega) sz) cg_11_234_X0_insert rfl rfl (by decide +kernel) ⟨Nat.le_of_ble_eq_true rfl, Nat.le_of_ble_eq_true rfl⟩ hK hN TH hS hA rfl hmxr1 hkxr1 (by decide) rfl hl.1 rfl (Nat.le_of_ble_eq_true rfl) dX11_move_127 ⟨Nat.le_of_ble_eq_true rfl, Nat.le_of_ble_eq_true rfl⟩ (fun v36 kp36 L36 E36 H locs hq36 hx36 TH hS => ?_)
            obtain ⟨rfl, rfl, rfl, hst36⟩ := hq36
            have hF := hF.tr hst36 (fun _ h => ⟨h, rfl⟩) (by decide) (by decide)
            have hmf38 : tw_fv E36 a0 8 = .ref xr1 := (hst36.1 a0 8 hm0 (by rw [hk0]; decide)).trans hmf31
            have hmf39 : tw_fv E36 xr1 2 = .ref xr15 := (hst36.1 xr1 2 hmxr1 (by rw [hkxr1]; decide)).trans hmf32
            have hmf40 : tw_fv E36 a0 1 = .ref xr20 := (hst36.1 a0 1 hm0 (by rw [hk0]; decide)).trans hmf33
            have hmf41 : tw_fv E36 xr15 5 = .ref xr25 := (hst36.1 xr15 5 hmxr15 (by rw [hkxr15]; decide)).trans hmf34
            have hmf42 : tw_fv E36 xr15 6 = .ref xr27 := (hst36.1 xr15 6 hmxr15 (by rw [hkxr15]; decide)).trans hmf35
            refine W.eq (g2 := F0 m 130 ls []) rfl ?_
            refine lv_aload_n hx hb dX11_move_130 rfl (lv_at hl 4 rfl) ?_
            refine tw_get (ci := 11) (C := RX11) (T := TX11) (N := 19) hx hb hB cx_inX11 hown hK TH hm0 hk0 rfl ⟨by decide, rfl⟩ 8 (by decide) cw_391 (fun _ h9 => h9) dX11_move_131 (fun hv => ?_)
            rw [hmf38]
            refine lv_aload_n hx hb dX11_move_134 rfl (lv_at hl 4 rfl) ?_
            refine tw_get (ci := 11) (C := RX11) (T := TX11) (N := 19) hx hb hB cx_inX11 hown hK TH hm0 hk0 rfl ⟨by decide, rfl⟩ 1 (by decide) cw_384 (fun _ h9 => h9) dX11_move_135 (fun hv => ?_)
            rw [hmf40]
            refine tw_Vc (o := xr1) (ci := 0) (n := 1) (post := (fun v kq Lq Eq => v = none ∧ kp = kq ∧ L = Lq ∧ tw_fr kp L [(10, 0)] [102, 110, 111, 112, 113, 114, 115] E36 Eq)) (As := [.ref xr20]) (rest := []) ⟨hx, hb, hml, hown, hB⟩ (fun sz => tX0_arrange l D cs xr1 xr20 hmxr1 hkxr1 hmxr20 hkxr20 sz) cg_11_238_X0_arrange rfl rfl (by decide +kernel) ⟨Nat.le_of_ble_eq_true rfl, Nat.le_of_ble_eq_true rfl⟩ hK hN TH hS hA rfl hmxr1 hkxr1 (by decide) rfl hl.1 rfl (Nat.le_of_ble_eq_true rfl) dX11_move_138 ⟨Nat.le_of_ble_eq_true rfl, Nat.le_of_ble_eq_true rfl⟩ (fun v43 kp43 L43 E43 H locs hq43 hx43 TH hS => ?_)
            obtain ⟨rfl, rfl, rfl, hst43⟩ := hq43
            have hF := hF.tr hst43 (fun _ h => ⟨h, rfl⟩) (by decide) (by decide)
            have hmf45 : tw_fv E43 a0 8 = .ref xr1 := (hst43.1 a0 8 hm0 (by rw [hk0]; decide)).trans hmf38
            have hmf46 : tw_fv E43 xr1 2 = .ref xr15 := (hst43.1 xr1 2 hmxr1 (by rw [hkxr1]; decide)).trans hmf39
            have hmf47 : tw_fv E43 a0 1 = .ref xr20 := (hst43.1 a0 1 hm0 (by rw [hk0]; decide)).trans hmf40
            have hmf48 : tw_fv E43 xr15 5 = .ref xr25 := (hst43.1 xr15 5 hmxr15 (by rw [hkxr15]; decide)).trans hmf41
            have hmf49 : tw_fv E43 xr15 6 = .ref xr27 := (hst43.1 xr15 6 hmxr15 (by rw [hkxr15]; decide)).trans hmf42
            refine W.eq (g2 := F0 m 141 ls []) rfl ?_
            refine lv_iconst (v := 1) hx hb dX11_move_141 (by decide) ?_
            exact tw_zret hx hb hr hlocks (by decide) TH hS hex ⟨⟨_, rfl, (show 0 ≤ Int32.toInt 1 from by have : ((1 : Int32).toInt) = 1 := (by decide); omega), (show Int32.toInt 1 ≤ 1 from by have : ((1 : Int32).toInt) = 1 := (by decide); omega)⟩, rfl, rfl, hF⟩ (Nat.le_of_ble_eq_true rfl) (Nat.le_of_ble_eq_true rfl) dX11_move_142
          · have hf50 : xc22.toInt = 0 := by have z := (fa_eq _ _).mp hc23; have : ((0 : Int32).toInt) = 0 := (by decide); omega
            refine lv_iconst (v := 0) hx hb dX11_move_75 (by decide) ?_
            exact tw_zret hx hb hr hlocks (by decide) TH hS hex ⟨⟨_, rfl, (show 0 ≤ Int32.toInt 0 from by have : ((0 : Int32).toInt) = 0 := (by decide); omega), (show Int32.toInt 0 ≤ 1 from by have : ((0 : Int32).toInt) = 0 := (by decide); omega)⟩, rfl, rfl, hF⟩ (Nat.le_of_ble_eq_true rfl) (Nat.le_of_ble_eq_true rfl) dX11_move_76
        · have hf51 : ¬ (xc17.toInt = 0) := fun q => hc18 ((fa_eq _ _).mpr (by have : ((0 : Int32).toInt) = 0 := (by decide); omega))
          refine lv_iconst (v := 0) hx hb dX11_move_54 (by decide) ?_
          exact tw_zret hx hb hr hlocks (by decide) TH hS hex ⟨⟨_, rfl, (show 0 ≤ Int32.toInt 0 from by have : ((0 : Int32).toInt) = 0 := (by decide); omega), (show Int32.toInt 0 ≤ 1 from by have : ((0 : Int32).toInt) = 0 := (by decide); omega)⟩, rfl, rfl, hF⟩ (Nat.le_of_ble_eq_true rfl) (Nat.le_of_ble_eq_true rfl) dX11_move_55
set_option maxHeartbeats 4000000 in
set_option maxRecDepth 100000 in
theorem tX11_rename (l : Launch) (D : va_G) (cs : Nat → ClassId) {kp : Nat → Nat} {L : List Nat} {E : Nat → va_E} (a0 : Nat) (x1 : Int32) (x2 : Int64) (hm0 : a0 ∈ L) (hk0 : kp a0 = 11) (sz : Nat) : Met l yX11_rename (.code yX11_rename cX11_rename 7 (some .boolean) :: cx_big) { frames := 4, cells := 0, slots := 0, locals := 97 } (tw_P D cs kp L E [.ref a0, .int x1, .long x2] sz) (tw_Q D cs kp L (fun v kq Lq Eq => (∃ x : Int32, v = some (.int x) ∧ 0 ≤ x.toInt ∧ x.toInt ≤ 1) ∧ kp = kq ∧ L = Lq ∧ tw_fr kp L [(10, 0)] [102, 110, 111, 112, 113, 114, 115] E Eq) (va_A (va_pl L E) sz)) 0 0 (va_A (va_pl L E) sz) := by
  refine tw_ofW (by decide) (Nat.le_of_ble_eq_true rfl) ?_
  intro p e s m below meth c A ls hx hb hr hml hB hown hlocks hK hN hA TH hS hl
  have hown : s.vm.findClass "TreeMerge" = some m.cls := hown
  have hl : lv_has ls 7 [(0, .ref a0), (1, .int x1), (2, .long x2)] := hl
  obtain ⟨kp0, ekp⟩ : ∃ z, z = kp := ⟨_, rfl⟩
  obtain ⟨L0, eL⟩ : ∃ z, z = L := ⟨_, rfl⟩
  rw [show tw_Q D cs kp L = tw_Q D cs kp0 L0 by rw [ekp, eL]]
  have hex : ∀ a : Nat, a ∈ L0 → a ∈ L ∧ kp a = kp0 a := fun a h => ⟨by rw [← eL]; exact h, by rw [ekp]⟩
  have hF : tw_fr kp L [(10, 0)] [102, 110, 111, 112, 113, 114, 115] E E := tw_fr.rf
  refine lv_aload_n hx hb dX11_rename_0 rfl (lv_at hl 0 rfl) ?_
  refine tw_get (ci := 11) (C := RX11) (T := TX11) (N := 19) hx hb hB cx_inX11 hown hK TH hm0 hk0 rfl ⟨by decide, rfl⟩ 8 (by decide) cw_391 (fun _ h9 => h9) dX11_rename_1 (fun hv => ?_)
  obtain ⟨xr1, hxr1, hmxr1, hkxr1⟩ : ∃ a : Nat, tw_fv E a0 8 = .ref a ∧ a ∈ L ∧ kp a = 0 := hv
  rw [hxr1]
  refine lv_iload_n hx hb dX11_rename_4 rfl (lv_at hl 1 rfl) ?_
  refine tw_Vc (o := xr1) (ci := 0) (n := 1) (post := (fun v kq Lq Eq => (∃ x : Int32, v = some (.int x) ∧ (-1) ≤ x.toInt ∧ x.toInt ≤ 39 ∧ (x.toInt ≠ -1 → -1 ≤ x1.toInt ∧ x1.toInt ≤ 149)) ∧ kp = kq ∧ L = Lq ∧ E = Eq)) (As := [.int x1]) (rest := []) ⟨hx, hb, hml, hown, hB⟩ (fun sz => tX0_find l D cs xr1 x1 hmxr1 hkxr1 sz) cg_11_220_X0_find rfl rfl (by decide +kernel) ⟨Nat.le_of_ble_eq_true rfl, Nat.le_of_ble_eq_true rfl⟩ hK hN TH hS hA rfl hmxr1 hkxr1 (by decide) rfl hl.1 rfl (Nat.le_of_ble_eq_true rfl) dX11_rename_5 ⟨Nat.le_of_ble_eq_true rfl, Nat.le_of_ble_eq_true rfl⟩ (fun v2 kp2 L2 E2 H locs hq2 hx2 TH hS => ?_)
  obtain ⟨⟨xc3, rfl, hxc3a, hxc3b, hpoxc3_0⟩, rfl, rfl, rfl⟩ := hq2
  refine W.eq (g2 := F0 m 8 ls [.int xc3]) rfl ?_
  refine lv_istore (lv' := [(4, .int xc3), (0, .ref a0), (1, .int x1), (2, .long x2)]) hx hb dX11_rename_8 hl (by decide) rfl (fun ls hl => ?_)
  refine lv_lload_n hx hb dX11_rename_10 rfl (lv_at hl 3 rfl) ?_
  refine tw_Sc (n := 1) (post := (fun v kq Lq Eq => (∃ x : Int64, v = some (.long x)) ∧ kp = kq ∧ L = Lq ∧ E = Eq)) (As := [.long x2]) (rest := []) ⟨hx, hb, hml, hown, hB⟩ (fun sz => tX11_flushLeft l D cs x2  sz) cg_11_223_X11_flushLeft rfl rfl (by decide +kernel) ⟨Nat.le_of_ble_eq_true rfl, Nat.le_of_ble_eq_true rfl⟩ hK hN TH hS hA rfl hl.1 rfl (Nat.le_of_ble_eq_true rfl) dX11_rename_11 ⟨Nat.le_of_ble_eq_true rfl, Nat.le_of_ble_eq_true rfl⟩ (fun v4 kp4 L4 E4 H locs hq4 hx4 TH hS => ?_)
  obtain ⟨⟨xc5, rfl⟩, rfl, rfl, rfl⟩ := hq4
  refine W.eq (g2 := F0 m 14 ls [.long xc5]) rfl ?_
  refine lv_lstore (lv' := [(5, .long xc5), (4, .int xc3), (0, .ref a0), (1, .int x1), (2, .long x2)]) hx hb dX11_rename_14 hl (by decide) rfl (fun ls hl => ?_)
  refine lv_iload hx hb dX11_rename_16 (lv_at hl 1 rfl) ?_
  refine lv_iconst (v := (-1)) hx hb dX11_rename_18 (by decide) ?_
  refine lv_icmp_eq (tgt := 48) hx hb dX11_rename_19 (by decide) (fun hc6 => ?_) (fun hc6 => ?_)
  · have hf7 : xc3.toInt = (-1) := by have z := (fa_eq _ _).mp hc6; have : (((-1) : Int32).toInt) = (-1) := (by decide); omega
    refine lv_iconst (v := 0) hx hb dX11_rename_48 (by decide) ?_
    exact tw_zret hx hb hr hlocks (by decide) TH hS hex ⟨⟨_, rfl, (show 0 ≤ Int32.toInt 0 from by have : ((0 : Int32).toInt) = 0 := (by decide); omega), (show Int32.toInt 0 ≤ 1 from by have : ((0 : Int32).toInt) = 0 := (by decide); omega)⟩, rfl, rfl, hF⟩ (Nat.le_of_ble_eq_true rfl) (Nat.le_of_ble_eq_true rfl) dX11_rename_49
  · have hf8 : ¬ (xc3.toInt = (-1)) := fun q => hc6 ((fa_eq _ _).mpr (by have : (((-1) : Int32).toInt) = (-1) := (by decide); omega))
    refine lv_lload hx hb dX11_rename_22 (lv_at hl 0 rfl) ?_
    refine lv_lconst (v := 0) hx hb dX11_rename_24 (by decide) ?_
    refine W.lcmp hx hb dX11_rename_25 ?_
    have hzi9 := ia_lcmp xc5 (0 : Int64)
    generalize lg_cmp xc5 (0 : Int64) = zi9 at hzi9 ⊢
    refine lv_if_lt (tgt := 48) hx hb dX11_rename_26 (by decide) (fun hc10 => ?_) (fun hc10 => ?_)
    · have hf11 : zi9.toInt < 0 := by have z := (fa_lt _ _).mp hc10; have : ((0 : Int32).toInt) = 0 := (by decide); omega
      refine lv_iconst (v := 0) hx hb dX11_rename_48 (by decide) ?_
      exact tw_zret hx hb hr hlocks (by decide) TH hS hex ⟨⟨_, rfl, (show 0 ≤ Int32.toInt 0 from by have : ((0 : Int32).toInt) = 0 := (by decide); omega), (show Int32.toInt 0 ≤ 1 from by have : ((0 : Int32).toInt) = 0 := (by decide); omega)⟩, rfl, rfl, hF⟩ (Nat.le_of_ble_eq_true rfl) (Nat.le_of_ble_eq_true rfl) dX11_rename_49
    · have hf12 : ¬ (zi9.toInt < 0) := fun q => hc10 ((fa_lt _ _).mpr (by have : ((0 : Int32).toInt) = 0 := (by decide); omega))
      refine lv_aload_n hx hb dX11_rename_29 rfl (lv_at hl 2 rfl) ?_
      refine tw_get (ci := 11) (C := RX11) (T := TX11) (N := 19) hx hb hB cx_inX11 hown hK TH hm0 hk0 rfl ⟨by decide, rfl⟩ 8 (by decide) cw_391 (fun _ h9 => h9) dX11_rename_30 (fun hv => ?_)
      rw [hxr1]
      refine tw_get (ci := 0) (C := RX0) (T := TX0) (N := 4) hx hb hB cx_inX0 hown hK TH hmxr1 hkxr1 rfl ⟨by decide, rfl⟩ 2 (by decide) cw_260 (fun _ h9 => h9) dX11_rename_33 (fun hv => ?_)
      obtain ⟨xr13, hxr13, hmxr13, hkxr13⟩ : ∃ a : Nat, tw_fv E xr1 2 = .ref a ∧ a ∈ L ∧ kp a = 10 := hv
      rw [hxr13]
      refine tw_get (ci := 10) (C := RX10) (T := TX10) (N := 8) hx hb hB cx_inX10 hown hK TH hmxr13 hkxr13 rfl ⟨by decide, rfl⟩ 6 (by decide) cw_149 (fun _ h9 => h9) dX11_rename_36 (fun hv => ?_)
      obtain ⟨xr14, hxr14, hmxr14, hkxr14⟩ : ∃ a : Nat, tw_fv E xr13 6 = .ref a ∧ a ∈ L ∧ kp a = 102 := hv
      rw [hxr14]
      refine lv_iload hx hb dX11_rename_39 (lv_at hl 1 rfl) ?_
      refine tw_lald (k := 102) (n := 40) (lo := 0) (hi := 0) hx hb hK TH hmxr14 hkxr14 (by decide) rfl (i := xc3) (vp_in_iff.mpr ⟨by  omega, by  omega⟩) dX11_rename_41 (fun xl15 => ?_)
      refine lv_lload hx hb dX11_rename_42 (lv_at hl 0 rfl) ?_
      refine W.lcmp hx hb dX11_rename_44 ?_
      have hzi16 := ia_lcmp xl15 xc5
      generalize lg_cmp xl15 xc5 = zi16 at hzi16 ⊢
      refine lv_if_ne (tgt := 50) hx hb dX11_rename_45 (by decide) (fun hc17 => ?_) (fun hc17 => ?_)
      · have hf18 : ¬ (zi16.toInt = 0) := fun q => hc17 ((fa_eq _ _).mpr (by have : ((0 : Int32).toInt) = 0 := (by decide); omega))
        refine lv_aload_n hx hb dX11_rename_50 rfl (lv_at hl 2 rfl) ?_
        refine tw_get (ci := 11) (C := RX11) (T := TX11) (N := 19) hx hb hB cx_inX11 hown hK TH hm0 hk0 rfl ⟨by decide, rfl⟩ 8 (by decide) cw_391 (fun _ h9 => h9) dX11_rename_51 (fun hv => ?_)
        rw [hxr1]
        refine tw_get (ci := 0) (C := RX0) (T := TX0) (N := 4) hx hb hB cx_inX0 hown hK TH hmxr1 hkxr1 rfl ⟨by decide, rfl⟩ 2 (by decide) cw_260 (fun _ h9 => h9) dX11_rename_54 (fun hv => ?_)
        rw [hxr13]
        refine tw_get (ci := 10) (C := RX10) (T := TX10) (N := 8) hx hb hB cx_inX10 hown hK TH hmxr13 hkxr13 rfl ⟨by decide, rfl⟩ 6 (by decide) cw_149 (fun _ h9 => h9) dX11_rename_57 (fun hv => ?_)
        rw [hxr14]
        refine lv_iload hx hb dX11_rename_60 (lv_at hl 1 rfl) ?_
        refine lv_lload hx hb dX11_rename_62 (lv_at hl 0 rfl) ?_
        refine tw_last (k := 102) (n := 40) (lo := 0) (hi := 0) hx hb hK TH hS hmxr14 hkxr14 (by decide) rfl (i := xc3) (x := xc5) (vp_in_iff.mpr ⟨by  omega, by  omega⟩) dX11_rename_64 (fun H locs E19 TH hS hp20 hp21  => ?_)
        have hst22 : tw_fr kp L [] [102] E E19 := tw_fr.ast tw_fr.rf (fun _ => hkxr14) hp20 hp21 (by decide)
        have hF := hF.tr hst22 (fun _ h => ⟨h, rfl⟩) (by decide) (by decide)
        have hmf23 : tw_fv E19 a0 8 = .ref xr1 := (hst22.1 a0 8 hm0 (by rw [hk0]; decide)).trans hxr1
        have hmf24 : tw_fv E19 xr1 2 = .ref xr13 := (hst22.1 xr1 2 hmxr1 (by rw [hkxr1]; decide)).trans hxr13
        have hmf25 : tw_fv E19 xr13 6 = .ref xr14 := (hst22.1 xr13 6 hmxr13 (by rw [hkxr13]; decide)).trans hxr14
        refine lv_aload_n hx hb dX11_rename_65 rfl (lv_at hl 2 rfl) ?_
        refine tw_get (ci := 11) (C := RX11) (T := TX11) (N := 19) hx hb hB cx_inX11 hown hK TH hm0 hk0 rfl ⟨by decide, rfl⟩ 8 (by decide) cw_391 (fun _ h9 => h9) dX11_rename_66 (fun hv => ?_)
        rw [hmf23]
        refine lv_aload_n hx hb dX11_rename_69 rfl (lv_at hl 2 rfl) ?_
        refine tw_get (ci := 11) (C := RX11) (T := TX11) (N := 19) hx hb hB cx_inX11 hown hK TH hm0 hk0 rfl ⟨by decide, rfl⟩ 1 (by decide) cw_384 (fun _ h9 => h9) dX11_rename_70 (fun hv => ?_)
        obtain ⟨xr26, hxr26, hmxr26, hkxr26⟩ : ∃ a : Nat, tw_fv E19 a0 1 = .ref a ∧ a ∈ L ∧ kp a = 2 := hv
        rw [hxr26]
        refine tw_Vc (o := xr1) (ci := 0) (n := 1) (post := (fun v kq Lq Eq => v = none ∧ kp = kq ∧ L = Lq ∧ tw_fr kp L [(10, 0)] [102, 110, 111, 112, 113, 114, 115] E19 Eq)) (As := [.ref xr26]) (rest := []) ⟨hx, hb, hml, hown, hB⟩ (fun sz => tX0_arrange l D cs xr1 xr26 hmxr1 hkxr1 hmxr26 hkxr26 sz) cg_11_238_X0_arrange rfl rfl (by decide +kernel) ⟨Nat.le_of_ble_eq_true rfl, Nat.le_of_ble_eq_true rfl⟩ hK hN TH hS hA rfl hmxr1 hkxr1 (by decide) rfl hl.1 rfl (Nat.le_of_ble_eq_true rfl) dX11_rename_73 ⟨Nat.le_of_ble_eq_true rfl, Nat.le_of_ble_eq_true rfl⟩ (fun v27 kp27 L27 E27 H locs hq27 hx27 TH hS => ?_)
        obtain ⟨rfl, rfl, rfl, hst27⟩ := hq27
        have hF := hF.tr hst27 (fun _ h => ⟨h, rfl⟩) (by decide) (by decide)
        have hmf29 : tw_fv E27 a0 8 = .ref xr1 := (hst27.1 a0 8 hm0 (by rw [hk0]; decide)).trans hmf23
        have hmf30 : tw_fv E27 xr1 2 = .ref xr13 := (hst27.1 xr1 2 hmxr1 (by rw [hkxr1]; decide)).trans hmf24
        have hmf31 : tw_fv E27 xr13 6 = .ref xr14 := (hst27.1 xr13 6 hmxr13 (by rw [hkxr13]; decide)).trans hmf25
        have hmf32 : tw_fv E27 a0 1 = .ref xr26 := (hst27.1 a0 1 hm0 (by rw [hk0]; decide)).trans hxr26
        refine W.eq (g2 := F0 m 76 ls []) rfl ?_
        refine lv_iconst (v := 1) hx hb dX11_rename_76 (by decide) ?_
        exact tw_zret hx hb hr hlocks (by decide) TH hS hex ⟨⟨_, rfl, (show 0 ≤ Int32.toInt 1 from by have : ((1 : Int32).toInt) = 1 := (by decide); omega), (show Int32.toInt 1 ≤ 1 from by have : ((1 : Int32).toInt) = 1 := (by decide); omega)⟩, rfl, rfl, hF⟩ (Nat.le_of_ble_eq_true rfl) (Nat.le_of_ble_eq_true rfl) dX11_rename_77
      · have hf33 : zi16.toInt = 0 := by have z := (fa_eq _ _).mp hc17; have : ((0 : Int32).toInt) = 0 := (by decide); omega
        refine lv_iconst (v := 0) hx hb dX11_rename_48 (by decide) ?_
        exact tw_zret hx hb hr hlocks (by decide) TH hS hex ⟨⟨_, rfl, (show 0 ≤ Int32.toInt 0 from by have : ((0 : Int32).toInt) = 0 := (by decide); omega), (show Int32.toInt 0 ≤ 1 from by have : ((0 : Int32).toInt) = 0 := (by decide); omega)⟩, rfl, rfl, hF⟩ (Nat.le_of_ble_eq_true rfl) (Nat.le_of_ble_eq_true rfl) dX11_rename_49
set_option maxHeartbeats 4000000 in
set_option maxRecDepth 100000 in
theorem tX11_runMerging (l : Launch) (D : va_G) (cs : Nat → ClassId) {kp : Nat → Nat} {L : List Nat} {E : Nat → va_E} (a0 : Nat) (a1 : Nat) (x2 : Int32) (x3 : Int32) (hm0 : a0 ∈ L) (hk0 : kp a0 = 11) (hm1 : a1 ∈ L) (hk1 : kp a1 = 10) (hg0 : gz_ok E a0) (sz : Nat) : Met l yX11_runMerging (.code yX11_runMerging cX11_runMerging 6 (some .boolean) :: cx_big) { frames := 5, cells := 0, slots := 0, locals := 126 } (tw_P D cs kp L E [.ref a0, .ref a1, .int x2, .int x3] sz) (tw_Q D cs kp L (fun v kq Lq Eq => (∃ x : Int32, v = some (.int x) ∧ 0 ≤ x.toInt ∧ x.toInt ≤ 1 ∧ gz_ok Eq a0) ∧ kp = kq ∧ L = Lq ∧ tw_fr kp L [(3, 0), (5, 10), (5, 12), (8, 0), (8, 1), (10, 0)] [101, 102, 110, 111, 112, 113, 114, 135, 160, 161, 162, 163, 164, 165, 166, 167, 170, 171] E Eq) (va_A (va_pl L E) sz)) 0 0 (va_A (va_pl L E) sz) := by
  refine tw_ofW (by decide) (Nat.le_of_ble_eq_true rfl) ?_
  intro p e s m below meth c A ls hx hb hr hml hB hown hlocks hK hN hA TH hS hl
  have hown : s.vm.findClass "TreeMerge" = some m.cls := hown
  have hl : lv_has ls 6 [(0, .ref a0), (1, .ref a1), (2, .int x2), (3, .int x3)] := hl
  obtain ⟨kp0, ekp⟩ : ∃ z, z = kp := ⟨_, rfl⟩
  obtain ⟨L0, eL⟩ : ∃ z, z = L := ⟨_, rfl⟩
  rw [show tw_Q D cs kp L = tw_Q D cs kp0 L0 by rw [ekp, eL]]
  have hex : ∀ a : Nat, a ∈ L0 → a ∈ L ∧ kp a = kp0 a := fun a h => ⟨by rw [← eL]; exact h, by rw [ekp]⟩
  have hF : tw_fr kp L [(3, 0), (5, 10), (5, 12), (8, 0), (8, 1), (10, 0)] [101, 102, 110, 111, 112, 113, 114, 135, 160, 161, 162, 163, 164, 165, 166, 167, 170, 171] E E := tw_fr.rf
  refine lv_aload_n hx hb dX11_runMerging_0 rfl (lv_at hl 0 rfl) ?_
  refine tw_get (ci := 11) (C := RX11) (T := TX11) (N := 19) hx hb hB cx_inX11 hown hK TH hm0 hk0 rfl ⟨by decide, rfl⟩ 7 (by decide) cw_390 (fun _ h9 => h9) dX11_runMerging_1 (fun hv => ?_)
  obtain ⟨xr1, hxr1, hmxr1, hkxr1⟩ : ∃ a : Nat, tw_fv E a0 7 = .ref a ∧ a ∈ L ∧ kp a = 1 := hv
  rw [hxr1]
  refine lv_iload_n hx hb dX11_runMerging_4 rfl (lv_at hl 2 rfl) ?_
  refine tw_Vc (o := xr1) (ci := 1) (n := 1) (post := (fun v kq Lq Eq => (v = some .null ∨ ∃ a : Nat, v = some (.ref a) ∧ a ∈ Lq ∧ kq a = 10 ∧ (0 ≤ x2.toInt ∧ x2.toInt ≤ 11)) ∧ kp = kq ∧ L = Lq ∧ E = Eq)) (As := [.int x2]) (rest := []) ⟨hx, hb, hml, hown, hB⟩ (fun sz => tX1_treeOf l D cs xr1 x2 hmxr1 hkxr1 sz) cg_11_168_X1_treeOf rfl rfl (by decide +kernel) ⟨Nat.le_of_ble_eq_true rfl, Nat.le_of_ble_eq_true rfl⟩ hK hN TH hS hA rfl hmxr1 hkxr1 (by decide) rfl hl.1 rfl (Nat.le_of_ble_eq_true rfl) dX11_runMerging_5 ⟨Nat.le_of_ble_eq_true rfl, Nat.le_of_ble_eq_true rfl⟩ (fun v2 kp2 L2 E2 H locs hq2 hx2 TH hS => ?_)
  obtain ⟨hnxc3, rfl, rfl, rfl⟩ := hq2
  rcases hnxc3 with rfl | ⟨xc3, rfl, hmxc3, hkxc3, hnpxc3⟩
  · refine W.eq (g2 := F0 m 8 ls [.null]) rfl ?_
    refine lv_astoreN (lv' := [(4, .null), (0, .ref a0), (1, .ref a1), (2, .int x2), (3, .int x3)]) hx hb dX11_runMerging_8 hl (by decide) rfl (fun ls hl => ?_)
    refine lv_aload_n hx hb dX11_runMerging_10 rfl (lv_at hl 1 rfl) ?_
    refine tw_get (ci := 11) (C := RX11) (T := TX11) (N := 19) hx hb hB cx_inX11 hown hK TH hm0 hk0 rfl ⟨by decide, rfl⟩ 7 (by decide) cw_390 (fun _ h9 => h9) dX11_runMerging_11 (fun hv => ?_)
    rw [hxr1]
    refine lv_iload_n hx hb dX11_runMerging_14 rfl (lv_at hl 4 rfl) ?_
    refine tw_Vc (o := xr1) (ci := 1) (n := 1) (post := (fun v kq Lq Eq => (v = some .null ∨ ∃ a : Nat, v = some (.ref a) ∧ a ∈ Lq ∧ kq a = 10 ∧ (0 ≤ x3.toInt ∧ x3.toInt ≤ 11)) ∧ kp = kq ∧ L = Lq ∧ E = Eq)) (As := [.int x3]) (rest := []) ⟨hx, hb, hml, hown, hB⟩ (fun sz => tX1_treeOf l D cs xr1 x3 hmxr1 hkxr1 sz) cg_11_168_X1_treeOf rfl rfl (by decide +kernel) ⟨Nat.le_of_ble_eq_true rfl, Nat.le_of_ble_eq_true rfl⟩ hK hN TH hS hA rfl hmxr1 hkxr1 (by decide) rfl hl.1 rfl (Nat.le_of_ble_eq_true rfl) dX11_runMerging_15 ⟨Nat.le_of_ble_eq_true rfl, Nat.le_of_ble_eq_true rfl⟩ (fun v4 kp4 L4 E4 H locs hq4 hx4 TH hS => ?_)
    obtain ⟨hnxc5, rfl, rfl, rfl⟩ := hq4
    rcases hnxc5 with rfl | ⟨xc5, rfl, hmxc5, hkxc5, hnpxc5⟩
    · refine W.eq (g2 := F0 m 18 ls [.null]) rfl ?_
      refine lv_astoreN (lv' := [(5, .null), (4, .null), (0, .ref a0), (1, .ref a1), (2, .int x2), (3, .int x3)]) hx hb dX11_runMerging_18 hl (by decide) rfl (fun ls hl => ?_)
      refine lv_aloadN hx hb dX11_runMerging_20 (lv_at hl 1 rfl) ?_
      refine lv_ifnullN (tgt := 30) hx hb dX11_runMerging_22 (by decide) ?_
      refine lv_iconst (v := 0) hx hb dX11_runMerging_30 (by decide) ?_
      exact tw_zret hx hb hr hlocks (by decide) TH hS hex ⟨⟨_, rfl, (show 0 ≤ Int32.toInt 0 from by have : ((0 : Int32).toInt) = 0 := (by decide); omega), (show Int32.toInt 0 ≤ 1 from by have : ((0 : Int32).toInt) = 0 := (by decide); omega), hg0⟩, rfl, rfl, hF⟩ (Nat.le_of_ble_eq_true rfl) (Nat.le_of_ble_eq_true rfl) dX11_runMerging_31
    · refine W.eq (g2 := F0 m 18 ls [.ref xc5]) rfl ?_
      refine lv_astore (lv' := [(5, .ref xc5), (4, .null), (0, .ref a0), (1, .ref a1), (2, .int x2), (3, .int x3)]) hx hb dX11_runMerging_18 hl (by decide) rfl (fun ls hl => ?_)
      refine lv_aloadN hx hb dX11_runMerging_20 (lv_at hl 1 rfl) ?_
      refine lv_ifnullN (tgt := 30) hx hb dX11_runMerging_22 (by decide) ?_
      refine lv_iconst (v := 0) hx hb dX11_runMerging_30 (by decide) ?_
      exact tw_zret hx hb hr hlocks (by decide) TH hS hex ⟨⟨_, rfl, (show 0 ≤ Int32.toInt 0 from by have : ((0 : Int32).toInt) = 0 := (by decide); omega), (show Int32.toInt 0 ≤ 1 from by have : ((0 : Int32).toInt) = 0 := (by decide); omega), hg0⟩, rfl, rfl, hF⟩ (Nat.le_of_ble_eq_true rfl) (Nat.le_of_ble_eq_true rfl) dX11_runMerging_31
  · refine W.eq (g2 := F0 m 8 ls [.ref xc3]) rfl ?_
    refine lv_astore (lv' := [(4, .ref xc3), (0, .ref a0), (1, .ref a1), (2, .int x2), (3, .int x3)]) hx hb dX11_runMerging_8 hl (by decide) rfl (fun ls hl => ?_)
    refine lv_aload_n hx hb dX11_runMerging_10 rfl (lv_at hl 1 rfl) ?_
    refine tw_get (ci := 11) (C := RX11) (T := TX11) (N := 19) hx hb hB cx_inX11 hown hK TH hm0 hk0 rfl ⟨by decide, rfl⟩ 7 (by decide) cw_390 (fun _ h9 => h9) dX11_runMerging_11 (fun hv => ?_)
    rw [hxr1]
    refine lv_iload_n hx hb dX11_runMerging_14 rfl (lv_at hl 4 rfl) ?_
    refine tw_Vc (o := xr1) (ci := 1) (n := 1) (post := (fun v kq Lq Eq => (v = some .null ∨ ∃ a : Nat, v = some (.ref a) ∧ a ∈ Lq ∧ kq a = 10 ∧ (0 ≤ x3.toInt ∧ x3.toInt ≤ 11)) ∧ kp = kq ∧ L = Lq ∧ E = Eq)) (As := [.int x3]) (rest := []) ⟨hx, hb, hml, hown, hB⟩ (fun sz => tX1_treeOf l D cs xr1 x3 hmxr1 hkxr1 sz) cg_11_168_X1_treeOf rfl rfl (by decide +kernel) ⟨Nat.le_of_ble_eq_true rfl, Nat.le_of_ble_eq_true rfl⟩ hK hN TH hS hA rfl hmxr1 hkxr1 (by decide) rfl hl.1 rfl (Nat.le_of_ble_eq_true rfl) dX11_runMerging_15 ⟨Nat.le_of_ble_eq_true rfl, Nat.le_of_ble_eq_true rfl⟩ (fun v6 kp6 L6 E6 H locs hq6 hx6 TH hS => ?_)
    obtain ⟨hnxc7, rfl, rfl, rfl⟩ := hq6
    rcases hnxc7 with rfl | ⟨xc7, rfl, hmxc7, hkxc7, hnpxc7⟩
    · refine W.eq (g2 := F0 m 18 ls [.null]) rfl ?_
      refine lv_astoreN (lv' := [(5, .null), (4, .ref xc3), (0, .ref a0), (1, .ref a1), (2, .int x2), (3, .int x3)]) hx hb dX11_runMerging_18 hl (by decide) rfl (fun ls hl => ?_)
      refine lv_aload hx hb dX11_runMerging_20 (lv_at hl 1 rfl) ?_
      refine lv_ifnull hx hb dX11_runMerging_22 ?_
      refine lv_aloadN hx hb dX11_runMerging_25 (lv_at hl 0 rfl) ?_
      refine lv_ifnonnullN hx hb dX11_runMerging_27 ?_
      refine lv_iconst (v := 0) hx hb dX11_runMerging_30 (by decide) ?_
      exact tw_zret hx hb hr hlocks (by decide) TH hS hex ⟨⟨_, rfl, (show 0 ≤ Int32.toInt 0 from by have : ((0 : Int32).toInt) = 0 := (by decide); omega), (show Int32.toInt 0 ≤ 1 from by have : ((0 : Int32).toInt) = 0 := (by decide); omega), hg0⟩, rfl, rfl, hF⟩ (Nat.le_of_ble_eq_true rfl) (Nat.le_of_ble_eq_true rfl) dX11_runMerging_31
    · refine W.eq (g2 := F0 m 18 ls [.ref xc7]) rfl ?_
      refine lv_astore (lv' := [(5, .ref xc7), (4, .ref xc3), (0, .ref a0), (1, .ref a1), (2, .int x2), (3, .int x3)]) hx hb dX11_runMerging_18 hl (by decide) rfl (fun ls hl => ?_)
      refine lv_aload hx hb dX11_runMerging_20 (lv_at hl 1 rfl) ?_
      refine lv_ifnull hx hb dX11_runMerging_22 ?_
      refine lv_aload hx hb dX11_runMerging_25 (lv_at hl 0 rfl) ?_
      refine lv_ifnonnull (tgt := 32) hx hb dX11_runMerging_27 (by decide) ?_
      refine lv_aload_n hx hb dX11_runMerging_32 rfl (lv_at hl 2 rfl) ?_
      refine tw_get (ci := 11) (C := RX11) (T := TX11) (N := 19) hx hb hB cx_inX11 hown hK TH hm0 hk0 rfl ⟨by decide, rfl⟩ 10 (by decide) cw_393 (fun _ h9 => h9) dX11_runMerging_33 (fun hv => ?_)
      obtain ⟨xr8, hxr8, hmxr8, hkxr8⟩ : ∃ a : Nat, tw_fv E a0 10 = .ref a ∧ a ∈ L ∧ kp a = 5 := hv
      rw [hxr8]
      refine tw_get (ci := 5) (C := RX5) (T := TX5) (N := 15) hx hb hB cx_inX5 hown hK TH hmxr8 hkxr8 rfl ⟨by decide, rfl⟩ 0 (by decide) cw_316 (fun _ h9 => h9) dX11_runMerging_36 (fun hv => ?_)
      obtain ⟨xr9, hxr9, hmxr9, hkxr9⟩ : ∃ a : Nat, tw_fv E xr8 0 = .ref a ∧ a ∈ L ∧ kp a = 8 := hv
      rw [hxr9]
      refine lv_aload hx hb dX11_runMerging_39 (lv_at hl 1 rfl) ?_
      refine lv_iload_n hx hb dX11_runMerging_41 rfl (lv_at hl 4 rfl) ?_
      refine tw_Vc (o := xr9) (ci := 8) (n := 2) (post := (fun v kq Lq Eq => v = none ∧ kp = kq ∧ L = Lq ∧ tw_fr kp L [(8, 0), (8, 1)] [170] E Eq)) (As := [.ref xc3, .int x2]) (rest := []) ⟨hx, hb, hml, hown, hB⟩ (fun sz => tX8_load l D cs xr9 xc3 x2 hmxr9 hkxr9 hmxc3 hkxc3 (by omega) (by omega) sz) cg_11_289_X8_load rfl rfl (by decide +kernel) ⟨Nat.le_of_ble_eq_true rfl, Nat.le_of_ble_eq_true rfl⟩ hK hN TH hS hA rfl hmxr9 hkxr9 (by decide) rfl hl.1 rfl (Nat.le_of_ble_eq_true rfl) dX11_runMerging_42 ⟨Nat.le_of_ble_eq_true rfl, Nat.le_of_ble_eq_true rfl⟩ (fun v10 kp10 L10 E10 H locs hq10 hx10 TH hS => ?_)
      obtain ⟨rfl, rfl, rfl, hst10⟩ := hq10
      have hF := hF.tr hst10 (fun _ h => ⟨h, rfl⟩) (by decide) (by decide)
      have hmf12 : tw_fv E10 a0 7 = .ref xr1 := (hst10.1 a0 7 hm0 (by rw [hk0]; decide)).trans hxr1
      have hmf13 : tw_fv E10 a0 10 = .ref xr8 := (hst10.1 a0 10 hm0 (by rw [hk0]; decide)).trans hxr8
      have hmf14 : tw_fv E10 xr8 0 = .ref xr9 := (hst10.1 xr8 0 hmxr8 (by rw [hkxr8]; decide)).trans hxr9
      have hg0 : gz_ok E10 a0 := gz_ok_fr TH hst10 hm0 hk0 (by decide) (by decide) hg0
      refine W.eq (g2 := F0 m 45 ls []) rfl ?_
      refine lv_aload_n hx hb dX11_runMerging_45 rfl (lv_at hl 2 rfl) ?_
      refine tw_get (ci := 11) (C := RX11) (T := TX11) (N := 19) hx hb hB cx_inX11 hown hK TH hm0 hk0 rfl ⟨by decide, rfl⟩ 10 (by decide) cw_393 (fun _ h9 => h9) dX11_runMerging_46 (fun hv => ?_)
      rw [hmf13]
      refine tw_get (ci := 5) (C := RX5) (T := TX5) (N := 15) hx hb hB cx_inX5 hown hK TH hmxr8 hkxr8 rfl ⟨by decide, rfl⟩ 1 (by decide) cw_318 (fun _ h9 => h9) dX11_runMerging_49 (fun hv => ?_)
      obtain ⟨xr15, hxr15, hmxr15, hkxr15⟩ : ∃ a : Nat, tw_fv E10 xr8 1 = .ref a ∧ a ∈ L ∧ kp a = 8 := hv
      rw [hxr15]
      refine lv_aload hx hb dX11_runMerging_52 (lv_at hl 0 rfl) ?_
      refine lv_iload_n hx hb dX11_runMerging_54 rfl (lv_at hl 5 rfl) ?_
      refine tw_Vc (o := xr15) (ci := 8) (n := 2) (post := (fun v kq Lq Eq => v = none ∧ kp = kq ∧ L = Lq ∧ tw_fr kp L [(8, 0), (8, 1)] [170] E10 Eq)) (As := [.ref xc7, .int x3]) (rest := []) ⟨hx, hb, hml, hown, hB⟩ (fun sz => tX8_load l D cs xr15 xc7 x3 hmxr15 hkxr15 hmxc7 hkxc7 (by omega) (by omega) sz) cg_11_289_X8_load rfl rfl (by decide +kernel) ⟨Nat.le_of_ble_eq_true rfl, Nat.le_of_ble_eq_true rfl⟩ hK hN TH hS hA rfl hmxr15 hkxr15 (by decide) rfl hl.1 rfl (Nat.le_of_ble_eq_true rfl) dX11_runMerging_55 ⟨Nat.le_of_ble_eq_true rfl, Nat.le_of_ble_eq_true rfl⟩ (fun v16 kp16 L16 E16 H locs hq16 hx16 TH hS => ?_)
      obtain ⟨rfl, rfl, rfl, hst16⟩ := hq16
      have hF := hF.tr hst16 (fun _ h => ⟨h, rfl⟩) (by decide) (by decide)
      have hmf18 : tw_fv E16 a0 7 = .ref xr1 := (hst16.1 a0 7 hm0 (by rw [hk0]; decide)).trans hmf12
      have hmf19 : tw_fv E16 a0 10 = .ref xr8 := (hst16.1 a0 10 hm0 (by rw [hk0]; decide)).trans hmf13
      have hmf20 : tw_fv E16 xr8 0 = .ref xr9 := (hst16.1 xr8 0 hmxr8 (by rw [hkxr8]; decide)).trans hmf14
      have hmf21 : tw_fv E16 xr8 1 = .ref xr15 := (hst16.1 xr8 1 hmxr8 (by rw [hkxr8]; decide)).trans hxr15
      have hg0 : gz_ok E16 a0 := gz_ok_fr TH hst16 hm0 hk0 (by decide) (by decide) hg0
      refine W.eq (g2 := F0 m 58 ls []) rfl ?_
      refine lv_aload_n hx hb dX11_runMerging_58 rfl (lv_at hl 2 rfl) ?_
      refine tw_get (ci := 11) (C := RX11) (T := TX11) (N := 19) hx hb hB cx_inX11 hown hK TH hm0 hk0 rfl ⟨by decide, rfl⟩ 10 (by decide) cw_393 (fun _ h9 => h9) dX11_runMerging_59 (fun hv => ?_)
      rw [hmf19]
      refine tw_get (ci := 5) (C := RX5) (T := TX5) (N := 15) hx hb hB cx_inX5 hown hK TH hmxr8 hkxr8 rfl ⟨by decide, rfl⟩ 2 (by decide) cw_320 (fun _ h9 => h9) dX11_runMerging_62 (fun hv => ?_)
      obtain ⟨xr22, hxr22, hmxr22, hkxr22⟩ : ∃ a : Nat, tw_fv E16 xr8 2 = .ref a ∧ a ∈ L ∧ kp a = 8 := hv
      rw [hxr22]
      refine lv_aload_n hx hb dX11_runMerging_65 rfl (lv_at hl 3 rfl) ?_
      refine lv_iconst (v := (-1)) hx hb dX11_runMerging_66 (by decide) ?_
      refine tw_Vc (o := xr22) (ci := 8) (n := 2) (post := (fun v kq Lq Eq => v = none ∧ kp = kq ∧ L = Lq ∧ tw_fr kp L [(8, 0), (8, 1)] [170] E16 Eq)) (As := [.ref a1, .int (-1)]) (rest := []) ⟨hx, hb, hml, hown, hB⟩ (fun sz => tX8_load l D cs xr22 a1 ((-1) : Int32) hmxr22 hkxr22 hm1 hk1 (by have : (((-1) : Int32).toInt) = (-1) := (by decide); omega) (by have : (((-1) : Int32).toInt) = (-1) := (by decide); omega) sz) cg_11_289_X8_load rfl rfl (by decide +kernel) ⟨Nat.le_of_ble_eq_true rfl, Nat.le_of_ble_eq_true rfl⟩ hK hN TH hS hA rfl hmxr22 hkxr22 (by decide) rfl hl.1 rfl (Nat.le_of_ble_eq_true rfl) dX11_runMerging_67 ⟨Nat.le_of_ble_eq_true rfl, Nat.le_of_ble_eq_true rfl⟩ (fun v23 kp23 L23 E23 H locs hq23 hx23 TH hS => ?_)
      obtain ⟨rfl, rfl, rfl, hst23⟩ := hq23
      have hF := hF.tr hst23 (fun _ h => ⟨h, rfl⟩) (by decide) (by decide)
      have hmf25 : tw_fv E23 a0 7 = .ref xr1 := (hst23.1 a0 7 hm0 (by rw [hk0]; decide)).trans hmf18
      have hmf26 : tw_fv E23 a0 10 = .ref xr8 := (hst23.1 a0 10 hm0 (by rw [hk0]; decide)).trans hmf19
      have hmf27 : tw_fv E23 xr8 0 = .ref xr9 := (hst23.1 xr8 0 hmxr8 (by rw [hkxr8]; decide)).trans hmf20
      have hmf28 : tw_fv E23 xr8 1 = .ref xr15 := (hst23.1 xr8 1 hmxr8 (by rw [hkxr8]; decide)).trans hmf21
      have hmf29 : tw_fv E23 xr8 2 = .ref xr22 := (hst23.1 xr8 2 hmxr8 (by rw [hkxr8]; decide)).trans hxr22
      have hg0 : gz_ok E23 a0 := gz_ok_fr TH hst23 hm0 hk0 (by decide) (by decide) hg0
      refine W.eq (g2 := F0 m 70 ls []) rfl ?_
      refine lv_aload_n hx hb dX11_runMerging_70 rfl (lv_at hl 2 rfl) ?_
      refine tw_get (ci := 11) (C := RX11) (T := TX11) (N := 19) hx hb hB cx_inX11 hown hK TH hm0 hk0 rfl ⟨by decide, rfl⟩ 10 (by decide) cw_393 (fun _ h9 => h9) dX11_runMerging_71 (fun hv => ?_)
      rw [hmf26]
      refine lv_aload_n hx hb dX11_runMerging_74 rfl (lv_at hl 2 rfl) ?_
      refine tw_get (ci := 11) (C := RX11) (T := TX11) (N := 19) hx hb hB cx_inX11 hown hK TH hm0 hk0 rfl ⟨by decide, rfl⟩ 9 (by decide) cw_392 (fun _ h9 => h9) dX11_runMerging_75 (fun hv => ?_)
      obtain ⟨xr30, hxr30, hmxr30, hkxr30⟩ : ∃ a : Nat, tw_fv E23 a0 9 = .ref a ∧ a ∈ L ∧ kp a = 7 := hv
      rw [hxr30]
      refine lv_aload_n hx hb dX11_runMerging_78 rfl (lv_at hl 2 rfl) ?_
      refine tw_get (ci := 11) (C := RX11) (T := TX11) (N := 19) hx hb hB cx_inX11 hown hK TH hm0 hk0 rfl ⟨by decide, rfl⟩ 1 (by decide) cw_384 (fun _ h9 => h9) dX11_runMerging_79 (fun hv => ?_)
      obtain ⟨xr31, hxr31, hmxr31, hkxr31⟩ : ∃ a : Nat, tw_fv E23 a0 1 = .ref a ∧ a ∈ L ∧ kp a = 2 := hv
      rw [hxr31]
      have hgm32 : gm_ok E23 xr31 := by have q := hg0; unfold gz_ok at q; rw [tw_fa_of hxr31] at q; exact q
      refine lv_aload_n hx hb dX11_runMerging_82 rfl (lv_at hl 2 rfl) ?_
      refine tw_get (ci := 11) (C := RX11) (T := TX11) (N := 19) hx hb hB cx_inX11 hown hK TH hm0 hk0 rfl ⟨by decide, rfl⟩ 5 (by decide) cw_388 (fun _ h9 => h9) dX11_runMerging_83 (fun hv => ?_)
      obtain ⟨xr33, hxr33, hmxr33, hkxr33⟩ : ∃ a : Nat, tw_fv E23 a0 5 = .ref a ∧ a ∈ L ∧ kp a = 3 := hv
      rw [hxr33]
      refine tw_Vc (o := xr8) (ci := 5) (n := 3) (post := (fun v kq Lq Eq => (∃ x : Int32, v = some (.int x) ∧ 0 ≤ x.toInt ∧ x.toInt ≤ 1 ∧ gm_ok Eq xr31) ∧ kp = kq ∧ L = Lq ∧ tw_fr kp L [(3, 0), (5, 10), (5, 12), (10, 0)] [101, 102, 110, 111, 112, 113, 114, 135, 160, 161, 162, 163, 164, 165, 166, 167, 171] E23 Eq)) (As := [.ref xr30, .ref xr31, .ref xr33]) (rest := []) ⟨hx, hb, hml, hown, hB⟩ (fun sz => tX5_run l D cs xr8 xr30 xr31 xr33 hmxr8 hkxr8 hmxr30 hkxr30 hmxr31 hkxr31 hmxr33 hkxr33 hgm32 sz) cg_11_301_X5_run rfl rfl (by decide +kernel) ⟨Nat.le_of_ble_eq_true rfl, Nat.le_of_ble_eq_true rfl⟩ hK hN TH hS hA rfl hmxr8 hkxr8 (by decide) rfl hl.1 rfl (Nat.le_of_ble_eq_true rfl) dX11_runMerging_86 ⟨Nat.le_of_ble_eq_true rfl, Nat.le_of_ble_eq_true rfl⟩ (fun v34 kp34 L34 E34 H locs hq34 hx34 TH hS => ?_)
      obtain ⟨⟨xc35, rfl, hxc35a, hxc35b, hgpxc35_0⟩, rfl, rfl, hst34⟩ := hq34
      have hF := hF.tr hst34 (fun _ h => ⟨h, rfl⟩) (by decide) (by decide)
      have hmf36 : tw_fv E34 a0 7 = .ref xr1 := (hst34.1 a0 7 hm0 (by rw [hk0]; decide)).trans hmf25
      have hmf37 : tw_fv E34 a0 10 = .ref xr8 := (hst34.1 a0 10 hm0 (by rw [hk0]; decide)).trans hmf26
      have hmf38 : tw_fv E34 xr8 0 = .ref xr9 := (hst34.1 xr8 0 hmxr8 (by rw [hkxr8]; decide)).trans hmf27
      have hmf39 : tw_fv E34 xr8 1 = .ref xr15 := (hst34.1 xr8 1 hmxr8 (by rw [hkxr8]; decide)).trans hmf28
      have hmf40 : tw_fv E34 xr8 2 = .ref xr22 := (hst34.1 xr8 2 hmxr8 (by rw [hkxr8]; decide)).trans hmf29
      have hmf41 : tw_fv E34 a0 9 = .ref xr30 := (hst34.1 a0 9 hm0 (by rw [hk0]; decide)).trans hxr30
      have hmf42 : tw_fv E34 a0 1 = .ref xr31 := (hst34.1 a0 1 hm0 (by rw [hk0]; decide)).trans hxr31
      have hmf43 : tw_fv E34 a0 5 = .ref xr33 := (hst34.1 a0 5 hm0 (by rw [hk0]; decide)).trans hxr33
      have hg0 : gz_ok E34 a0 := gz_ok_fr TH hst34 hm0 hk0 (by decide) (by decide) hg0
      refine W.eq (g2 := F0 m 89 ls [.int xc35]) rfl ?_
      exact tw_zret hx hb hr hlocks (ia_bool (by omega) (by omega)) TH hS hex ⟨⟨_, rfl, (show 0 ≤ Int32.toInt xc35 from by  omega), (show Int32.toInt xc35 ≤ 1 from by  omega), hg0⟩, rfl, rfl, hF⟩ (Nat.le_of_ble_eq_true rfl) (Nat.le_of_ble_eq_true rfl) dX11_runMerging_89
set_option maxHeartbeats 4000000 in
set_option maxRecDepth 100000 in
theorem tX11_findBase (l : Launch) (D : va_G) (cs : Nat → ClassId) {kp : Nat → Nat} {L : List Nat} {E : Nat → va_E} (a0 : Nat) (x1 : Int32) (x2 : Int32) (hm0 : a0 ∈ L) (hk0 : kp a0 = 11) (hg0 : gz_ok E a0) (sz : Nat) : Met l yX11_findBase (.code yX11_findBase cX11_findBase 8 (some .int) :: cx_big) { frames := 6, cells := 0, slots := 0, locals := 151 } (tw_P D cs kp L E [.ref a0, .int x1, .int x2] sz) (tw_Q D cs kp L (fun v kq Lq Eq => (∃ x : Int32, v = some (.int x) ∧ gz_ok Eq a0) ∧ kp = kq ∧ L = Lq ∧ tw_fr kp L [(3, 0), (5, 10), (5, 12), (8, 0), (8, 1), (10, 0)] [101, 102, 110, 111, 112, 113, 114, 115, 135, 160, 161, 162, 163, 164, 165, 166, 167, 170, 171] E Eq) (va_A (va_pl L E) sz)) 0 0 (va_A (va_pl L E) sz) := by
  refine tw_ofW (by decide) (Nat.le_of_ble_eq_true rfl) ?_
  intro p e s m below meth c A ls hx hb hr hml hB hown hlocks hK hN hA TH hS hl
  have hown : s.vm.findClass "TreeMerge" = some m.cls := hown
  have hl : lv_has ls 8 [(0, .ref a0), (1, .int x1), (2, .int x2)] := hl
  obtain ⟨kp0, ekp⟩ : ∃ z, z = kp := ⟨_, rfl⟩
  obtain ⟨L0, eL⟩ : ∃ z, z = L := ⟨_, rfl⟩
  rw [show tw_Q D cs kp L = tw_Q D cs kp0 L0 by rw [ekp, eL]]
  have hex : ∀ a : Nat, a ∈ L0 → a ∈ L ∧ kp a = kp0 a := fun a h => ⟨by rw [← eL]; exact h, by rw [ekp]⟩
  have hF : tw_fr kp L [(3, 0), (5, 10), (5, 12), (8, 0), (8, 1), (10, 0)] [101, 102, 110, 111, 112, 113, 114, 115, 135, 160, 161, 162, 163, 164, 165, 166, 167, 170, 171] E E := tw_fr.rf
  refine lv_aload_n hx hb dX11_findBase_0 rfl (lv_at hl 0 rfl) ?_
  refine tw_get (ci := 11) (C := RX11) (T := TX11) (N := 19) hx hb hB cx_inX11 hown hK TH hm0 hk0 rfl ⟨by decide, rfl⟩ 7 (by decide) cw_390 (fun _ h9 => h9) dX11_findBase_1 (fun hv => ?_)
  obtain ⟨xr1, hxr1, hmxr1, hkxr1⟩ : ∃ a : Nat, tw_fv E a0 7 = .ref a ∧ a ∈ L ∧ kp a = 1 := hv
  rw [hxr1]
  refine lv_aload_n hx hb dX11_findBase_4 rfl (lv_at hl 0 rfl) ?_
  refine tw_get (ci := 11) (C := RX11) (T := TX11) (N := 19) hx hb hB cx_inX11 hown hK TH hm0 hk0 rfl ⟨by decide, rfl⟩ 7 (by decide) cw_390 (fun _ h9 => h9) dX11_findBase_5 (fun hv => ?_)
  rw [hxr1]
  refine lv_iload_n hx hb dX11_findBase_8 rfl (lv_at hl 1 rfl) ?_
  refine lv_iload_n hx hb dX11_findBase_9 rfl (lv_at hl 2 rfl) ?_
  refine tw_Vc (o := xr1) (ci := 1) (n := 2) (post := (fun v kq Lq Eq => (∃ x : Int32, v = some (.int x)) ∧ kp = kq ∧ L = Lq ∧ E = Eq)) (As := [.int x1, .int x2]) (rest := [.ref xr1]) ⟨hx, hb, hml, hown, hB⟩ (fun sz => tX1_common l D cs xr1 x1 x2 hmxr1 hkxr1 sz) cg_11_269_X1_common rfl rfl (by decide +kernel) ⟨Nat.le_of_ble_eq_true rfl, Nat.le_of_ble_eq_true rfl⟩ hK hN TH hS hA rfl hmxr1 hkxr1 (by decide) rfl hl.1 rfl (Nat.le_of_ble_eq_true rfl) dX11_findBase_10 ⟨Nat.le_of_ble_eq_true rfl, Nat.le_of_ble_eq_true rfl⟩ (fun v2 kp2 L2 E2 H locs hq2 hx2 TH hS => ?_)
  obtain ⟨⟨xc3, rfl⟩, rfl, rfl, rfl⟩ := hq2
  refine W.eq (g2 := F0 m 13 ls [.int xc3, .ref xr1]) rfl ?_
  refine tw_Vc (o := xr1) (ci := 1) (n := 1) (post := (fun v kq Lq Eq => (∃ x : Int32, v = some (.int x)) ∧ kp = kq ∧ L = Lq ∧ E = Eq)) (As := [.int xc3]) (rest := []) ⟨hx, hb, hml, hown, hB⟩ (fun sz => tX1_latest l D cs xr1 xc3 hmxr1 hkxr1 sz) cg_11_272_X1_latest rfl rfl (by decide +kernel) ⟨Nat.le_of_ble_eq_true rfl, Nat.le_of_ble_eq_true rfl⟩ hK hN TH hS hA rfl hmxr1 hkxr1 (by decide) rfl hl.1 rfl (Nat.le_of_ble_eq_true rfl) dX11_findBase_13 ⟨Nat.le_of_ble_eq_true rfl, Nat.le_of_ble_eq_true rfl⟩ (fun v4 kp4 L4 E4 H locs hq4 hx4 TH hS => ?_)
  obtain ⟨⟨xc5, rfl⟩, rfl, rfl, rfl⟩ := hq4
  refine W.eq (g2 := F0 m 16 ls [.int xc5]) rfl ?_
  refine lv_istore_n (lv' := [(3, .int xc5), (0, .ref a0), (1, .int x1), (2, .int x2)]) hx hb dX11_findBase_16 rfl hl (by decide) rfl (fun ls hl => ?_)
  refine lv_aload_n hx hb dX11_findBase_17 rfl (lv_at hl 1 rfl) ?_
  refine tw_get (ci := 11) (C := RX11) (T := TX11) (N := 19) hx hb hB cx_inX11 hown hK TH hm0 hk0 rfl ⟨by decide, rfl⟩ 7 (by decide) cw_390 (fun _ h9 => h9) dX11_findBase_18 (fun hv => ?_)
  rw [hxr1]
  refine lv_iload_n hx hb dX11_findBase_21 rfl (lv_at hl 0 rfl) ?_
  refine tw_Vc (o := xr1) (ci := 1) (n := 1) (post := (fun v kq Lq Eq => (∃ x : Int32, v = some (.int x) ∧ (-1) ≤ x.toInt ∧ x.toInt ≤ 11) ∧ kp = kq ∧ L = Lq ∧ E = Eq)) (As := [.int xc5]) (rest := []) ⟨hx, hb, hml, hown, hB⟩ (fun sz => tX1_leastOf l D cs xr1 xc5 hmxr1 hkxr1 sz) cg_11_275_X1_leastOf rfl rfl (by decide +kernel) ⟨Nat.le_of_ble_eq_true rfl, Nat.le_of_ble_eq_true rfl⟩ hK hN TH hS hA rfl hmxr1 hkxr1 (by decide) rfl hl.1 rfl (Nat.le_of_ble_eq_true rfl) dX11_findBase_22 ⟨Nat.le_of_ble_eq_true rfl, Nat.le_of_ble_eq_true rfl⟩ (fun v6 kp6 L6 E6 H locs hq6 hx6 TH hS => ?_)
  obtain ⟨⟨xc7, rfl, hxc7a, hxc7b⟩, rfl, rfl, rfl⟩ := hq6
  refine W.eq (g2 := F0 m 25 ls [.int xc7]) rfl ?_
  refine lv_istore (lv' := [(4, .int xc7), (3, .int xc5), (0, .ref a0), (1, .int x1), (2, .int x2)]) hx hb dX11_findBase_25 hl (by decide) rfl (fun ls hl => ?_)
  refine lv_aload_n hx hb dX11_findBase_27 rfl (lv_at hl 2 rfl) ?_
  refine tw_get (ci := 11) (C := RX11) (T := TX11) (N := 19) hx hb hB cx_inX11 hown hK TH hm0 hk0 rfl ⟨by decide, rfl⟩ 7 (by decide) cw_390 (fun _ h9 => h9) dX11_findBase_28 (fun hv => ?_)
  rw [hxr1]
  refine lv_iload_n hx hb dX11_findBase_31 rfl (lv_at hl 1 rfl) ?_
  refine lv_iload_n hx hb dX11_findBase_32 rfl (lv_at hl 1 rfl) ?_
  refine lv_iconst (v := 1) hx hb dX11_findBase_33 (by decide) ?_
  refine lv_isub hx hb dX11_findBase_34 ?_
  refine lv_topi (fun zi8 ezi8 => ?_)
  refine lv_iand hx hb dX11_findBase_35 ?_
  refine lv_topi (fun zi9 ezi9 => ?_)
  refine tw_Vc (o := xr1) (ci := 1) (n := 1) (post := (fun v kq Lq Eq => (∃ x : Int32, v = some (.int x) ∧ (-1) ≤ x.toInt ∧ x.toInt ≤ 11) ∧ kp = kq ∧ L = Lq ∧ E = Eq)) (As := [.int zi9]) (rest := []) ⟨hx, hb, hml, hown, hB⟩ (fun sz => tX1_leastOf l D cs xr1 zi9 hmxr1 hkxr1 sz) cg_11_275_X1_leastOf rfl rfl (by decide +kernel) ⟨Nat.le_of_ble_eq_true rfl, Nat.le_of_ble_eq_true rfl⟩ hK hN TH hS hA rfl hmxr1 hkxr1 (by decide) rfl hl.1 rfl (Nat.le_of_ble_eq_true rfl) dX11_findBase_36 ⟨Nat.le_of_ble_eq_true rfl, Nat.le_of_ble_eq_true rfl⟩ (fun v10 kp10 L10 E10 H locs hq10 hx10 TH hS => ?_)
  obtain ⟨⟨xc11, rfl, hxc11a, hxc11b⟩, rfl, rfl, rfl⟩ := hq10
  refine W.eq (g2 := F0 m 39 ls [.int xc11]) rfl ?_
  refine lv_istore (lv' := [(5, .int xc11), (4, .int xc7), (3, .int xc5), (0, .ref a0), (1, .int x1), (2, .int x2)]) hx hb dX11_findBase_39 hl (by decide) rfl (fun ls hl => ?_)
  refine lv_iload hx hb dX11_findBase_41 (lv_at hl 0 rfl) ?_
  refine lv_iconst (v := (-1)) hx hb dX11_findBase_43 (by decide) ?_
  refine lv_icmp_ne (tgt := 50) hx hb dX11_findBase_44 (by decide) (fun hc12 => ?_) (fun hc12 => ?_)
  · have hf13 : ¬ (xc11.toInt = (-1)) := fun q => hc12 ((fa_eq _ _).mpr (by have : (((-1) : Int32).toInt) = (-1) := (by decide); omega))
    refine lv_aload_n hx hb dX11_findBase_50 rfl (lv_at hl 3 rfl) ?_
    refine tw_get (ci := 11) (C := RX11) (T := TX11) (N := 19) hx hb hB cx_inX11 hown hK TH hm0 hk0 rfl ⟨by decide, rfl⟩ 7 (by decide) cw_390 (fun _ h9 => h9) dX11_findBase_51 (fun hv => ?_)
    rw [hxr1]
    refine lv_aload_n hx hb dX11_findBase_54 rfl (lv_at hl 3 rfl) ?_
    refine tw_get (ci := 11) (C := RX11) (T := TX11) (N := 19) hx hb hB cx_inX11 hown hK TH hm0 hk0 rfl ⟨by decide, rfl⟩ 7 (by decide) cw_390 (fun _ h9 => h9) dX11_findBase_55 (fun hv => ?_)
    rw [hxr1]
    refine lv_iload hx hb dX11_findBase_58 (lv_at hl 1 rfl) ?_
    refine lv_iload hx hb dX11_findBase_60 (lv_at hl 0 rfl) ?_
    refine tw_Vc (o := xr1) (ci := 1) (n := 2) (post := (fun v kq Lq Eq => (∃ x : Int32, v = some (.int x)) ∧ kp = kq ∧ L = Lq ∧ E = Eq)) (As := [.int xc7, .int xc11]) (rest := [.ref xr1]) ⟨hx, hb, hml, hown, hB⟩ (fun sz => tX1_common l D cs xr1 xc7 xc11 hmxr1 hkxr1 sz) cg_11_269_X1_common rfl rfl (by decide +kernel) ⟨Nat.le_of_ble_eq_true rfl, Nat.le_of_ble_eq_true rfl⟩ hK hN TH hS hA rfl hmxr1 hkxr1 (by decide) rfl hl.1 rfl (Nat.le_of_ble_eq_true rfl) dX11_findBase_62 ⟨Nat.le_of_ble_eq_true rfl, Nat.le_of_ble_eq_true rfl⟩ (fun v14 kp14 L14 E14 H locs hq14 hx14 TH hS => ?_)
    obtain ⟨⟨xc15, rfl⟩, rfl, rfl, rfl⟩ := hq14
    refine W.eq (g2 := F0 m 65 ls [.int xc15, .ref xr1]) rfl ?_
    refine tw_Vc (o := xr1) (ci := 1) (n := 1) (post := (fun v kq Lq Eq => (∃ x : Int32, v = some (.int x)) ∧ kp = kq ∧ L = Lq ∧ E = Eq)) (As := [.int xc15]) (rest := []) ⟨hx, hb, hml, hown, hB⟩ (fun sz => tX1_latest l D cs xr1 xc15 hmxr1 hkxr1 sz) cg_11_272_X1_latest rfl rfl (by decide +kernel) ⟨Nat.le_of_ble_eq_true rfl, Nat.le_of_ble_eq_true rfl⟩ hK hN TH hS hA rfl hmxr1 hkxr1 (by decide) rfl hl.1 rfl (Nat.le_of_ble_eq_true rfl) dX11_findBase_65 ⟨Nat.le_of_ble_eq_true rfl, Nat.le_of_ble_eq_true rfl⟩ (fun v16 kp16 L16 E16 H locs hq16 hx16 TH hS => ?_)
    obtain ⟨⟨xc17, rfl⟩, rfl, rfl, rfl⟩ := hq16
    refine W.eq (g2 := F0 m 68 ls [.int xc17]) rfl ?_
    refine lv_istore (lv' := [(6, .int xc17), (5, .int xc11), (4, .int xc7), (3, .int xc5), (0, .ref a0), (1, .int x1), (2, .int x2)]) hx hb dX11_findBase_68 hl (by decide) rfl (fun ls hl => ?_)
    refine lv_aload_n hx hb dX11_findBase_70 rfl (lv_at hl 4 rfl) ?_
    refine tw_get (ci := 11) (C := RX11) (T := TX11) (N := 19) hx hb hB cx_inX11 hown hK TH hm0 hk0 rfl ⟨by decide, rfl⟩ 7 (by decide) cw_390 (fun _ h9 => h9) dX11_findBase_71 (fun hv => ?_)
    rw [hxr1]
    refine lv_aload_n hx hb dX11_findBase_74 rfl (lv_at hl 4 rfl) ?_
    refine tw_get (ci := 11) (C := RX11) (T := TX11) (N := 19) hx hb hB cx_inX11 hown hK TH hm0 hk0 rfl ⟨by decide, rfl⟩ 7 (by decide) cw_390 (fun _ h9 => h9) dX11_findBase_75 (fun hv => ?_)
    rw [hxr1]
    refine lv_iload hx hb dX11_findBase_78 (lv_at hl 0 rfl) ?_
    refine tw_Vc (o := xr1) (ci := 1) (n := 1) (post := (fun v kq Lq Eq => (∃ x : Int32, v = some (.int x) ∧ (-1) ≤ x.toInt ∧ x.toInt ≤ 11) ∧ kp = kq ∧ L = Lq ∧ E = Eq)) (As := [.int xc17]) (rest := [.ref xr1]) ⟨hx, hb, hml, hown, hB⟩ (fun sz => tX1_leastOf l D cs xr1 xc17 hmxr1 hkxr1 sz) cg_11_275_X1_leastOf rfl rfl (by decide +kernel) ⟨Nat.le_of_ble_eq_true rfl, Nat.le_of_ble_eq_true rfl⟩ hK hN TH hS hA rfl hmxr1 hkxr1 (by decide) rfl hl.1 rfl (Nat.le_of_ble_eq_true rfl) dX11_findBase_80 ⟨Nat.le_of_ble_eq_true rfl, Nat.le_of_ble_eq_true rfl⟩ (fun v18 kp18 L18 E18 H locs hq18 hx18 TH hS => ?_)
    obtain ⟨⟨xc19, rfl, hxc19a, hxc19b⟩, rfl, rfl, rfl⟩ := hq18
    refine W.eq (g2 := F0 m 83 ls [.int xc19, .ref xr1]) rfl ?_
    refine tw_Vc (o := xr1) (ci := 1) (n := 1) (post := (fun v kq Lq Eq => (v = some .null ∨ ∃ a : Nat, v = some (.ref a) ∧ a ∈ Lq ∧ kq a = 10 ∧ (0 ≤ xc19.toInt ∧ xc19.toInt ≤ 11)) ∧ kp = kq ∧ L = Lq ∧ E = Eq)) (As := [.int xc19]) (rest := []) ⟨hx, hb, hml, hown, hB⟩ (fun sz => tX1_treeOf l D cs xr1 xc19 hmxr1 hkxr1 sz) cg_11_168_X1_treeOf rfl rfl (by decide +kernel) ⟨Nat.le_of_ble_eq_true rfl, Nat.le_of_ble_eq_true rfl⟩ hK hN TH hS hA rfl hmxr1 hkxr1 (by decide) rfl hl.1 rfl (Nat.le_of_ble_eq_true rfl) dX11_findBase_83 ⟨Nat.le_of_ble_eq_true rfl, Nat.le_of_ble_eq_true rfl⟩ (fun v20 kp20 L20 E20 H locs hq20 hx20 TH hS => ?_)
    obtain ⟨hnxc21, rfl, rfl, rfl⟩ := hq20
    rcases hnxc21 with rfl | ⟨xc21, rfl, hmxc21, hkxc21, hnpxc21⟩
    · refine W.eq (g2 := F0 m 86 ls [.null]) rfl ?_
      refine lv_astoreN (lv' := [(7, .null), (6, .int xc17), (5, .int xc11), (4, .int xc7), (3, .int xc5), (0, .ref a0), (1, .int x1), (2, .int x2)]) hx hb dX11_findBase_86 hl (by decide) rfl (fun ls hl => ?_)
      refine lv_aloadN hx hb dX11_findBase_88 (lv_at hl 0 rfl) ?_
      refine lv_ifnullN (tgt := 116) hx hb dX11_findBase_90 (by decide) ?_
      refine lv_iconst (v := (-1)) hx hb dX11_findBase_116 (by decide) ?_
      exact tw_iret hx hb hr hlocks TH hS hex ⟨⟨_, rfl, hg0⟩, rfl, rfl, hF⟩ (Nat.le_of_ble_eq_true rfl) (Nat.le_of_ble_eq_true rfl) dX11_findBase_117
    · refine W.eq (g2 := F0 m 86 ls [.ref xc21]) rfl ?_
      refine lv_astore (lv' := [(7, .ref xc21), (6, .int xc17), (5, .int xc11), (4, .int xc7), (3, .int xc5), (0, .ref a0), (1, .int x1), (2, .int x2)]) hx hb dX11_findBase_86 hl (by decide) rfl (fun ls hl => ?_)
      refine lv_aload hx hb dX11_findBase_88 (lv_at hl 0 rfl) ?_
      refine lv_ifnull hx hb dX11_findBase_90 ?_
      refine lv_iload hx hb dX11_findBase_93 (lv_at hl 1 rfl) ?_
      refine lv_iload hx hb dX11_findBase_95 (lv_at hl 1 rfl) ?_
      refine lv_iconst (v := 1) hx hb dX11_findBase_97 (by decide) ?_
      refine lv_isub hx hb dX11_findBase_98 ?_
      refine lv_topi (fun zi22 ezi22 => ?_)
      refine lv_iand hx hb dX11_findBase_99 ?_
      refine lv_topi (fun zi23 ezi23 => ?_)
      refine lv_if_ne (tgt := 116) hx hb dX11_findBase_100 (by decide) (fun hc24 => ?_) (fun hc24 => ?_)
      · have hf25 : ¬ (zi23.toInt = 0) := fun q => hc24 ((fa_eq _ _).mpr (by have : ((0 : Int32).toInt) = 0 := (by decide); omega))
        refine lv_iconst (v := (-1)) hx hb dX11_findBase_116 (by decide) ?_
        exact tw_iret hx hb hr hlocks TH hS hex ⟨⟨_, rfl, hg0⟩, rfl, rfl, hF⟩ (Nat.le_of_ble_eq_true rfl) (Nat.le_of_ble_eq_true rfl) dX11_findBase_117
      · have hf26 : zi23.toInt = 0 := by have z := (fa_eq _ _).mp hc24; have : ((0 : Int32).toInt) = 0 := (by decide); omega
        refine lv_aload_n hx hb dX11_findBase_103 rfl (lv_at hl 5 rfl) ?_
        refine lv_aload hx hb dX11_findBase_104 (lv_at hl 0 rfl) ?_
        refine lv_iload hx hb dX11_findBase_106 (lv_at hl 3 rfl) ?_
        refine lv_iload hx hb dX11_findBase_108 (lv_at hl 2 rfl) ?_
        refine tw_Vc (o := a0) (ci := 11) (n := 3) (post := (fun v kq Lq Eq => (∃ x : Int32, v = some (.int x) ∧ 0 ≤ x.toInt ∧ x.toInt ≤ 1 ∧ gz_ok Eq a0) ∧ kp = kq ∧ L = Lq ∧ tw_fr kp L [(3, 0), (5, 10), (5, 12), (8, 0), (8, 1), (10, 0)] [101, 102, 110, 111, 112, 113, 114, 135, 160, 161, 162, 163, 164, 165, 166, 167, 170, 171] E Eq)) (As := [.ref xc21, .int xc7, .int xc11]) (rest := []) ⟨hx, hb, hml, hown, hB⟩ (fun sz => tX11_runMerging l D cs a0 xc21 xc7 xc11 hm0 hk0 hmxc21 hkxc21 hg0 sz) cg_11_278_X11_runMerging rfl rfl (by decide +kernel) ⟨Nat.le_of_ble_eq_true rfl, Nat.le_of_ble_eq_true rfl⟩ hK hN TH hS hA rfl hm0 hk0 (by decide) rfl hl.1 rfl (Nat.le_of_ble_eq_true rfl) dX11_findBase_110 ⟨Nat.le_of_ble_eq_true rfl, Nat.le_of_ble_eq_true rfl⟩ (fun v27 kp27 L27 E27 H locs hq27 hx27 TH hS => ?_)
        obtain ⟨⟨xc28, rfl, hxc28a, hxc28b, hgpxc28_0⟩, rfl, rfl, hst27⟩ := hq27
        have hF := hF.tr hst27 (fun _ h => ⟨h, rfl⟩) (by decide) (by decide)
        have hmf29 : tw_fv E27 a0 7 = .ref xr1 := (hst27.1 a0 7 hm0 (by rw [hk0]; decide)).trans hxr1
        refine W.eq (g2 := F0 m 113 ls [.int xc28]) rfl ?_
        refine lv_if_ne (tgt := 118) hx hb dX11_findBase_113 (by decide) (fun hc30 => ?_) (fun hc30 => ?_)
        · have hf31 : ¬ (xc28.toInt = 0) := fun q => hc30 ((fa_eq _ _).mpr (by have : ((0 : Int32).toInt) = 0 := (by decide); omega))
          refine lv_aload_n hx hb dX11_findBase_118 rfl (lv_at hl 5 rfl) ?_
          refine tw_get (ci := 11) (C := RX11) (T := TX11) (N := 19) hx hb hB cx_inX11 hown hK TH hm0 hk0 rfl ⟨by decide, rfl⟩ 11 (by decide) cw_394 (fun _ h9 => h9) dX11_findBase_119 (fun hv => ?_)
          obtain ⟨xr32, hxr32, hmxr32, hkxr32⟩ : ∃ a : Nat, tw_fv E27 a0 11 = .ref a ∧ a ∈ L ∧ kp a = 10 := hv
          rw [hxr32]
          refine lv_aload_n hx hb dX11_findBase_122 rfl (lv_at hl 5 rfl) ?_
          refine tw_get (ci := 11) (C := RX11) (T := TX11) (N := 19) hx hb hB cx_inX11 hown hK TH hm0 hk0 rfl ⟨by decide, rfl⟩ 10 (by decide) cw_393 (fun _ h9 => h9) dX11_findBase_123 (fun hv => ?_)
          obtain ⟨xr33, hxr33, hmxr33, hkxr33⟩ : ∃ a : Nat, tw_fv E27 a0 10 = .ref a ∧ a ∈ L ∧ kp a = 5 := hv
          rw [hxr33]
          refine tw_get (ci := 5) (C := RX5) (T := TX5) (N := 15) hx hb hB cx_inX5 hown hK TH hmxr33 hkxr33 rfl ⟨by decide, rfl⟩ 3 (by decide) cw_322 (fun _ h9 => h9) dX11_findBase_126 (fun hv => ?_)
          obtain ⟨xr34, hxr34, hmxr34, hkxr34⟩ : ∃ a : Nat, tw_fv E27 xr33 3 = .ref a ∧ a ∈ L ∧ kp a = 10 := hv
          rw [hxr34]
          refine tw_Vc (o := xr32) (ci := 10) (n := 1) (post := (fun v kq Lq Eq => v = none ∧ kp = kq ∧ L = Lq ∧ tw_fr kp L [(10, 0)] [102, 110, 111, 112, 113, 114, 115] E27 Eq)) (As := [.ref xr34]) (rest := []) ⟨hx, hb, hml, hown, hB⟩ (fun sz => tX10_copy l D cs xr32 xr34 hmxr32 hkxr32 hmxr34 hkxr34 sz) cg_11_188_X10_copy rfl rfl (by decide +kernel) ⟨Nat.le_of_ble_eq_true rfl, Nat.le_of_ble_eq_true rfl⟩ hK hN TH hS hA rfl hmxr32 hkxr32 (by decide) rfl hl.1 rfl (Nat.le_of_ble_eq_true rfl) dX11_findBase_129 ⟨Nat.le_of_ble_eq_true rfl, Nat.le_of_ble_eq_true rfl⟩ (fun v35 kp35 L35 E35 H locs hq35 hx35 TH hS => ?_)
          obtain ⟨rfl, rfl, rfl, hst35⟩ := hq35
          have hF := hF.tr hst35 (fun _ h => ⟨h, rfl⟩) (by decide) (by decide)
          have hmf37 : tw_fv E35 a0 7 = .ref xr1 := (hst35.1 a0 7 hm0 (by rw [hk0]; decide)).trans hmf29
          have hmf38 : tw_fv E35 a0 11 = .ref xr32 := (hst35.1 a0 11 hm0 (by rw [hk0]; decide)).trans hxr32
          have hmf39 : tw_fv E35 a0 10 = .ref xr33 := (hst35.1 a0 10 hm0 (by rw [hk0]; decide)).trans hxr33
          have hmf40 : tw_fv E35 xr33 3 = .ref xr34 := (hst35.1 xr33 3 hmxr33 (by rw [hkxr33]; decide)).trans hxr34
          have hgpxc28_0 : gz_ok E35 a0 := gz_ok_fr TH hst35 hm0 hk0 (by decide) (by decide) hgpxc28_0
          refine W.eq (g2 := F0 m 132 ls []) rfl ?_
          refine lv_bipush (v := 100) hx hb dX11_findBase_132 (by decide) ?_
          exact tw_iret hx hb hr hlocks TH hS hex ⟨⟨_, rfl, hgpxc28_0⟩, rfl, rfl, hF⟩ (Nat.le_of_ble_eq_true rfl) (Nat.le_of_ble_eq_true rfl) dX11_findBase_134
        · have hf41 : xc28.toInt = 0 := by have z := (fa_eq _ _).mp hc30; have : ((0 : Int32).toInt) = 0 := (by decide); omega
          refine lv_iconst (v := (-1)) hx hb dX11_findBase_116 (by decide) ?_
          exact tw_iret hx hb hr hlocks TH hS hex ⟨⟨_, rfl, hgpxc28_0⟩, rfl, rfl, hF⟩ (Nat.le_of_ble_eq_true rfl) (Nat.le_of_ble_eq_true rfl) dX11_findBase_117
  · have hf42 : xc11.toInt = (-1) := by have z := (fa_eq _ _).mp hc12; have : (((-1) : Int32).toInt) = (-1) := (by decide); omega
    refine lv_iload hx hb dX11_findBase_47 (lv_at hl 1 rfl) ?_
    exact tw_iret hx hb hr hlocks TH hS hex ⟨⟨_, rfl, hg0⟩, rfl, rfl, hF⟩ (Nat.le_of_ble_eq_true rfl) (Nat.le_of_ble_eq_true rfl) dX11_findBase_49
set_option maxHeartbeats 4000000 in
set_option maxRecDepth 100000 in
theorem tX11_base (l : Launch) (D : va_G) (cs : Nat → ClassId) {kp : Nat → Nat} {L : List Nat} {E : Nat → va_E} (a0 : Nat) (x1 : Int32) (x2 : Int32) (hm0 : a0 ∈ L) (hk0 : kp a0 = 11) (hg0 : gz_ok E a0) (sz : Nat) : Met l yX11_base (.code yX11_base cX11_base 3 (some .int) :: cx_big) { frames := 7, cells := 0, slots := 0, locals := 178 } (tw_P D cs kp L E [.ref a0, .int x1, .int x2] sz) (tw_Q D cs kp L (fun v kq Lq Eq => (∃ x : Int32, v = some (.int x) ∧ gz_ok Eq a0) ∧ kp = kq ∧ L = Lq ∧ tw_fr kp L [(3, 0), (5, 10), (5, 12), (8, 0), (8, 1), (10, 0)] [101, 102, 110, 111, 112, 113, 114, 115, 135, 160, 161, 162, 163, 164, 165, 166, 167, 170, 171] E Eq) (va_A (va_pl L E) sz)) 0 0 (va_A (va_pl L E) sz) := by
  refine tw_ofW (by decide) (Nat.le_of_ble_eq_true rfl) ?_
  intro p e s m below meth c A ls hx hb hr hml hB hown hlocks hK hN hA TH hS hl
  have hown : s.vm.findClass "TreeMerge" = some m.cls := hown
  have hl : lv_has ls 3 [(0, .ref a0), (1, .int x1), (2, .int x2)] := hl
  obtain ⟨kp0, ekp⟩ : ∃ z, z = kp := ⟨_, rfl⟩
  obtain ⟨L0, eL⟩ : ∃ z, z = L := ⟨_, rfl⟩
  rw [show tw_Q D cs kp L = tw_Q D cs kp0 L0 by rw [ekp, eL]]
  have hex : ∀ a : Nat, a ∈ L0 → a ∈ L ∧ kp a = kp0 a := fun a h => ⟨by rw [← eL]; exact h, by rw [ekp]⟩
  have hF : tw_fr kp L [(3, 0), (5, 10), (5, 12), (8, 0), (8, 1), (10, 0)] [101, 102, 110, 111, 112, 113, 114, 115, 135, 160, 161, 162, 163, 164, 165, 166, 167, 170, 171] E E := tw_fr.rf
  refine lv_aload_n hx hb dX11_base_0 rfl (lv_at hl 0 rfl) ?_
  refine lv_iload_n hx hb dX11_base_1 rfl (lv_at hl 1 rfl) ?_
  refine lv_iload_n hx hb dX11_base_2 rfl (lv_at hl 2 rfl) ?_
  refine tw_Vc (o := a0) (ci := 11) (n := 2) (post := (fun v kq Lq Eq => (∃ x : Int32, v = some (.int x) ∧ gz_ok Eq a0) ∧ kp = kq ∧ L = Lq ∧ tw_fr kp L [(3, 0), (5, 10), (5, 12), (8, 0), (8, 1), (10, 0)] [101, 102, 110, 111, 112, 113, 114, 115, 135, 160, 161, 162, 163, 164, 165, 166, 167, 170, 171] E Eq)) (As := [.int x1, .int x2]) (rest := []) ⟨hx, hb, hml, hown, hB⟩ (fun sz => tX11_findBase l D cs a0 x1 x2 hm0 hk0 hg0 sz) cg_11_255_X11_findBase rfl rfl (by decide +kernel) ⟨Nat.le_of_ble_eq_true rfl, Nat.le_of_ble_eq_true rfl⟩ hK hN TH hS hA rfl hm0 hk0 (by decide) rfl hl.1 rfl (Nat.le_of_ble_eq_true rfl) dX11_base_3 ⟨Nat.le_of_ble_eq_true rfl, Nat.le_of_ble_eq_true rfl⟩ (fun v1 kp1 L1 E1 H locs hq1 hx1 TH hS => ?_)
  obtain ⟨⟨xc2, rfl, hgpxc2_0⟩, rfl, rfl, hst1⟩ := hq1
  have hF := hF.tr hst1 (fun _ h => ⟨h, rfl⟩) (by decide) (by decide)
  refine W.eq (g2 := F0 m 6 ls [.int xc2]) rfl ?_
  exact tw_iret hx hb hr hlocks TH hS hex ⟨⟨_, rfl, hgpxc2_0⟩, rfl, rfl, hF⟩ (Nat.le_of_ble_eq_true rfl) (Nat.le_of_ble_eq_true rfl) dX11_base_6
