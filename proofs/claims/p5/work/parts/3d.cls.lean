set_option maxHeartbeats 4000000 in
set_option maxRecDepth 100000 in
theorem tX11_carry (l : Launch) (D : va_G) (cs : Nat → ClassId) {kp : Nat → Nat} {L : List Nat} {E : Nat → va_E} (a0 : Nat) (x1 : Int32) (x2 : Int32) (hm0 : a0 ∈ L) (hk0 : kp a0 = 11) (hg0 : gz_ok E a0) (hg1 : ss_ok E a0) (sz : Nat) : Met l yX11_carry (.code yX11_carry cX11_carry 4 (some .int) :: cx_big) { frames := 7, cells := 8, slots := 288, locals := 177 } (tw_P D cs kp L E [.ref a0, .int x1, .int x2] sz) (tw_Q D cs kp L (fun v kq Lq Eq => (∃ x : Int32, v = some (.int x) ∧ gz_ok Eq a0 ∧ ss_ok Eq a0) ∧ tw_fr kp L [(1, 0), (3, 0), (5, 10), (5, 12), (8, 0), (8, 1), (10, 0), (11, 17)] [101, 102, 110, 111, 112, 113, 114, 115, 135, 140, 141, 142, 160, 161, 162, 163, 164, 165, 166, 167, 170, 171, 181] E Eq) (va_A (va_pl L E) sz)) 8 288 (va_A (va_pl L E) sz) := by
  refine tw_ofW (by decide) (Nat.le_of_ble_eq_true rfl) ?_
  intro p e s m below meth c A ls hx hb hr hml hB hown hlocks hK hN hA TH hS hl
  have hown : s.vm.findClass "TreeMerge" = some m.cls := hown
  have hl : lv_has ls 4 [(0, .ref a0), (1, .int x1), (2, .int x2)] := hl
  obtain ⟨kp0, ekp⟩ : ∃ z, z = kp := ⟨_, rfl⟩
  obtain ⟨L0, eL⟩ : ∃ z, z = L := ⟨_, rfl⟩
  rw [show tw_Q D cs kp L = tw_Q D cs kp0 L0 by rw [ekp, eL]]
  have hex : ∀ a : Nat, a ∈ L0 → a ∈ L ∧ kp a = kp0 a := fun a h => ⟨by rw [← eL]; exact h, by rw [ekp]⟩
  have hF : tw_fr kp L [(1, 0), (3, 0), (5, 10), (5, 12), (8, 0), (8, 1), (10, 0), (11, 17)] [101, 102, 110, 111, 112, 113, 114, 115, 135, 140, 141, 142, 160, 161, 162, 163, 164, 165, 166, 167, 170, 171, 181] E E := tw_fr.rf
  have hexb : ∀ a : Nat, a ∈ L → a ∈ L ∧ kp a = kp a := fun a h => ⟨h, rfl⟩
  refine lv_aload_n hx hb dX11_carry_0 rfl (lv_at hl 0 rfl) ?_
  refine tw_get (ci := 11) (C := RX11) (T := TX11) (N := 19) hx hb hB cx_inX11 hown hK TH hm0 hk0 rfl ⟨by decide, rfl⟩ 7 (by decide) cw_390 (fun _ h9 => h9) dX11_carry_1 (fun hv => ?_)
  obtain ⟨xr1, hxr1, hmxr1, hkxr1⟩ : ∃ a : Nat, tw_fv E a0 7 = .ref a ∧ a ∈ L ∧ kp a = 1 := hv
  rw [hxr1]
  refine lv_iload_n hx hb dX11_carry_4 rfl (lv_at hl 1 rfl) ?_
  refine tw_Vc (o := xr1) (ci := 1) (n := 1) (post := (fun v kq Lq Eq => (∃ x : Int32, v = some (.int x)) ∧ kp = kq ∧ L = Lq ∧ E = Eq)) (As := [.int x1]) (rest := []) ⟨hx, hb, hml, hown, hB⟩ (fun sz => tX1_onlyParent l D cs xr1 x1 hmxr1 hkxr1 sz) cg_11_266_X1_onlyParent rfl rfl (by decide +kernel) ⟨Nat.le_of_ble_eq_true rfl, Nat.le_of_ble_eq_true rfl⟩ hK hN TH hS hA rfl hmxr1 hkxr1 (by decide) rfl hl.1 rfl (Nat.le_of_ble_eq_true rfl) dX11_carry_5 ⟨Nat.le_of_ble_eq_true rfl, Nat.le_of_ble_eq_true rfl⟩ (fun v2 kp2 L2 E2 H locs hq2 hx2 TH hS => ?_)
  obtain ⟨⟨xc3, rfl⟩, rfl, rfl, rfl⟩ := hq2
  refine W.eq (g2 := F0 m 8 ls [.int xc3]) rfl ?_
  refine lv_istore_n (lv' := [(3, .int xc3), (0, .ref a0), (1, .int x1), (2, .int x2)]) hx hb dX11_carry_8 rfl hl (by decide) rfl (fun ls hl => ?_)
  refine lv_iload_n hx hb dX11_carry_9 rfl (lv_at hl 0 rfl) ?_
  refine lv_iconst (v := (-1)) hx hb dX11_carry_10 (by decide) ?_
  refine lv_icmp_eq (tgt := 36) hx hb dX11_carry_11 (by decide) (fun hc4 => ?_) (fun hc4 => ?_)
  · have hf5 : xc3.toInt = (-1) := by have z := (fa_eq _ _).mp hc4; have : (((-1) : Int32).toInt) = (-1) := (by decide); omega
    refine lv_iconst (v := (-1)) hx hb dX11_carry_36 (by decide) ?_
    exact tw_iret hx hb hr hlocks TH hS hex ⟨⟨_, rfl, hg0, hg1⟩, hF⟩ (Nat.le_of_ble_eq_true rfl) (Nat.le_of_ble_eq_true rfl) dX11_carry_37
  · have hf6 : ¬ (xc3.toInt = (-1)) := fun q => hc4 ((fa_eq _ _).mpr (by have : (((-1) : Int32).toInt) = (-1) := (by decide); omega))
    refine lv_aload_n hx hb dX11_carry_14 rfl (lv_at hl 1 rfl) ?_
    refine tw_get (ci := 11) (C := RX11) (T := TX11) (N := 19) hx hb hB cx_inX11 hown hK TH hm0 hk0 rfl ⟨by decide, rfl⟩ 7 (by decide) cw_390 (fun _ h9 => h9) dX11_carry_15 (fun hv => ?_)
    rw [hxr1]
    refine tw_Vc (o := xr1) (ci := 1) (n := 0) (post := (fun v kq Lq Eq => (∃ x : Int32, v = some (.int x) ∧ 0 ≤ x.toInt ∧ x.toInt ≤ 1 ∧ (∃ z0 : Int32, tw_fv Eq xr1 0 = .int z0 ∧ (x.toInt = 0 → z0.toInt ≤ 11))) ∧ kp = kq ∧ L = Lq ∧ E = Eq)) (As := []) (rest := []) ⟨hx, hb, hml, hown, hB⟩ (fun sz => tX1_isFull l D cs xr1 hmxr1 hkxr1 sz) cg_11_135_X1_isFull rfl rfl (by decide +kernel) ⟨Nat.le_of_ble_eq_true rfl, Nat.le_of_ble_eq_true rfl⟩ hK hN TH hS hA rfl hmxr1 hkxr1 (by decide) rfl hl.1 rfl (Nat.le_of_ble_eq_true rfl) dX11_carry_18 ⟨Nat.le_of_ble_eq_true rfl, Nat.le_of_ble_eq_true rfl⟩ (fun v7 kp7 L7 E7 H locs hq7 hx7 TH hS => ?_)
    obtain ⟨⟨xc8, rfl, hxc8a, hxc8b, ⟨zfxc8_0_0, hzfxc8_0_0, hzpxc8_0⟩⟩, rfl, rfl, rfl⟩ := hq7
    obtain ⟨qzfxc8_0_0, hqzfxc8_0_0, hqzfxc8_0_0a, hqzfxc8_0_0b⟩ := tw_rd TH hmxr1 hkxr1 (by decide) (by decide) (k := 0) rfl
    have eqzfxc8_0_0 : qzfxc8_0_0 = zfxc8_0_0 := by have q := hqzfxc8_0_0.symm.trans hzfxc8_0_0; injection q
    rw [eqzfxc8_0_0] at hqzfxc8_0_0a hqzfxc8_0_0b
    refine W.eq (g2 := F0 m 21 ls [.int xc8]) rfl ?_
    refine lv_if_ne (tgt := 36) hx hb dX11_carry_21 (by decide) (fun hc9 => ?_) (fun hc9 => ?_)
    · have hf10 : ¬ (xc8.toInt = 0) := fun q => hc9 ((fa_eq _ _).mpr (by have : ((0 : Int32).toInt) = 0 := (by decide); omega))
      refine lv_iconst (v := (-1)) hx hb dX11_carry_36 (by decide) ?_
      exact tw_iret hx hb hr hlocks TH hS hex ⟨⟨_, rfl, hg0, hg1⟩, hF⟩ (Nat.le_of_ble_eq_true rfl) (Nat.le_of_ble_eq_true rfl) dX11_carry_37
    · have hf11 : xc8.toInt = 0 := by have z := (fa_eq _ _).mp hc9; have : ((0 : Int32).toInt) = 0 := (by decide); omega
      refine lv_aload_n hx hb dX11_carry_24 rfl (lv_at hl 1 rfl) ?_
      refine tw_get (ci := 11) (C := RX11) (T := TX11) (N := 19) hx hb hB cx_inX11 hown hK TH hm0 hk0 rfl ⟨by decide, rfl⟩ 7 (by decide) cw_390 (fun _ h9 => h9) dX11_carry_25 (fun hv => ?_)
      rw [hxr1]
      refine lv_iload_n hx hb dX11_carry_28 rfl (lv_at hl 2 rfl) ?_
      refine lv_iload_n hx hb dX11_carry_29 rfl (lv_at hl 3 rfl) ?_
      refine tw_Vc (o := xr1) (ci := 1) (n := 2) (post := (fun v kq Lq Eq => (∃ x : Int32, v = some (.int x)) ∧ kp = kq ∧ L = Lq ∧ E = Eq)) (As := [.int x1, .int x2]) (rest := []) ⟨hx, hb, hml, hown, hB⟩ (fun sz => tX1_common l D cs xr1 x1 x2 hmxr1 hkxr1 sz) cg_11_269_X1_common rfl rfl (by decide +kernel) ⟨Nat.le_of_ble_eq_true rfl, Nat.le_of_ble_eq_true rfl⟩ hK hN TH hS hA rfl hmxr1 hkxr1 (by decide) rfl hl.1 rfl (Nat.le_of_ble_eq_true rfl) dX11_carry_30 ⟨Nat.le_of_ble_eq_true rfl, Nat.le_of_ble_eq_true rfl⟩ (fun v12 kp12 L12 E12 H locs hq12 hx12 TH hS => ?_)
      obtain ⟨⟨xc13, rfl⟩, rfl, rfl, rfl⟩ := hq12
      refine W.eq (g2 := F0 m 33 ls [.int xc13]) rfl ?_
      refine lv_if_ne (tgt := 38) hx hb dX11_carry_33 (by decide) (fun hc14 => ?_) (fun hc14 => ?_)
      · have hf15 : ¬ (xc13.toInt = 0) := fun q => hc14 ((fa_eq _ _).mpr (by have : ((0 : Int32).toInt) = 0 := (by decide); omega))
        refine lv_aload_n hx hb dX11_carry_38 rfl (lv_at hl 1 rfl) ?_
        refine lv_aload_n hx hb dX11_carry_39 rfl (lv_at hl 1 rfl) ?_
        refine tw_get (ci := 11) (C := RX11) (T := TX11) (N := 19) hx hb hB cx_inX11 hown hK TH hm0 hk0 rfl ⟨by decide, rfl⟩ 7 (by decide) cw_390 (fun _ h9 => h9) dX11_carry_40 (fun hv => ?_)
        rw [hxr1]
        refine lv_iload_n hx hb dX11_carry_43 rfl (lv_at hl 0 rfl) ?_
        refine tw_Vc (o := xr1) (ci := 1) (n := 1) (post := (fun v kq Lq Eq => (v = some .null ∨ ∃ a : Nat, v = some (.ref a) ∧ a ∈ Lq ∧ kq a = 10 ∧ (0 ≤ xc3.toInt ∧ xc3.toInt ≤ 11)) ∧ kp = kq ∧ L = Lq ∧ E = Eq)) (As := [.int xc3]) (rest := [.ref a0]) ⟨hx, hb, hml, hown, hB⟩ (fun sz => tX1_treeOf l D cs xr1 xc3 hmxr1 hkxr1 sz) cg_11_168_X1_treeOf rfl rfl (by decide +kernel) ⟨Nat.le_of_ble_eq_true rfl, Nat.le_of_ble_eq_true rfl⟩ hK hN TH hS hA rfl hmxr1 hkxr1 (by decide) rfl hl.1 rfl (Nat.le_of_ble_eq_true rfl) dX11_carry_44 ⟨Nat.le_of_ble_eq_true rfl, Nat.le_of_ble_eq_true rfl⟩ (fun v16 kp16 L16 E16 H locs hq16 hx16 TH hS => ?_)
        obtain ⟨hnxc17, rfl, rfl, rfl⟩ := hq16
        rcases hnxc17 with rfl | ⟨xc17, rfl, hmxc17, hkxc17, hnpxc17⟩
        · refine W.eq (g2 := F0 m 47 ls [.null, .ref a0]) rfl ?_
          refine lv_iload_n hx hb dX11_carry_47 rfl (lv_at hl 2 rfl) ?_
          refine lv_iload_n hx hb dX11_carry_48 rfl (lv_at hl 3 rfl) ?_
          refine lv_iload_n hx hb dX11_carry_49 rfl (lv_at hl 3 rfl) ?_
          refine lv_iconst (v := (-1)) hx hb dX11_carry_50 (by decide) ?_
          refine tw_Vc (o := a0) (ci := 11) (n := 5) (post := (fun v kq Lq Eq => (∃ x : Int32, v = some (.int x) ∧ gz_ok Eq a0 ∧ ss_ok Eq a0) ∧ kp = kq ∧ L = Lq ∧ E = Eq)) (As := [.null, .int x1, .int x2, .int x2, .int (-1)]) (rest := []) ⟨hx, hb, hml, hown, hB⟩ (fun sz => tX11_mergeOn_v0 l D cs a0 x1 x2 x2 ((-1) : Int32) hm0 hk0 hg0 hg1 sz) cg_11_262_X11_mergeOn rfl rfl (by decide +kernel) ⟨Nat.le_of_ble_eq_true rfl, Nat.le_of_ble_eq_true rfl⟩ hK hN TH hS hA rfl hm0 hk0 (by decide) rfl hl.1 rfl (Nat.le_of_ble_eq_true rfl) dX11_carry_51 ⟨Nat.le_of_ble_eq_true rfl, Nat.le_of_ble_eq_true rfl⟩ (fun v18 kp18 L18 E18 H locs hq18 hx18 TH hS => ?_)
          obtain ⟨⟨xc19, rfl, hgpxc19_0, hgpxc19_1⟩, rfl, rfl, rfl⟩ := hq18
          refine W.eq (g2 := F0 m 54 ls [.int xc19]) rfl ?_
          exact tw_iret hx hb hr hlocks TH hS hex ⟨⟨_, rfl, hg0, hg1⟩, hF⟩ (Nat.le_of_ble_eq_true rfl) (Nat.le_of_ble_eq_true rfl) dX11_carry_54
        · refine W.eq (g2 := F0 m 47 ls [.ref xc17, .ref a0]) rfl ?_
          refine lv_iload_n hx hb dX11_carry_47 rfl (lv_at hl 2 rfl) ?_
          refine lv_iload_n hx hb dX11_carry_48 rfl (lv_at hl 3 rfl) ?_
          refine lv_iload_n hx hb dX11_carry_49 rfl (lv_at hl 3 rfl) ?_
          refine lv_iconst (v := (-1)) hx hb dX11_carry_50 (by decide) ?_
          have hTo := TH.2.2
          refine tw_Vc (o := a0) (ci := 11) (n := 5) (post := (fun v kq Lq Eq => (∃ x : Int32, v = some (.int x) ∧ gz_ok Eq a0 ∧ ss_ok Eq a0) ∧ tw_fr kp L [(1, 0), (3, 0), (5, 10), (5, 12), (8, 0), (8, 1), (10, 0), (11, 17)] [101, 102, 110, 111, 112, 113, 114, 115, 135, 140, 141, 142, 160, 161, 162, 163, 164, 165, 166, 167, 170, 171, 181] E Eq)) (As := [.ref xc17, .int x1, .int x2, .int x2, .int (-1)]) (rest := []) ⟨hx, hb, hml, hown, hB⟩ (fun sz => tX11_mergeOn l D cs a0 xc17 x1 x2 x2 ((-1) : Int32) hm0 hk0 hmxc17 hkxc17 hg0 hg1 sz) cg_11_262_X11_mergeOn rfl rfl (by decide +kernel) ⟨Nat.le_of_ble_eq_true rfl, Nat.le_of_ble_eq_true rfl⟩ hK hN TH hS hA rfl hm0 hk0 (by decide) rfl hl.1 rfl (Nat.le_of_ble_eq_true rfl) dX11_carry_51 ⟨Nat.le_of_ble_eq_true rfl, Nat.le_of_ble_eq_true rfl⟩ (fun v20 kp20 L20 E20 H locs hq20 hx20 TH hS => ?_)
          obtain ⟨⟨xc21, rfl, hgpxc21_0, hgpxc21_1⟩, hst20⟩ := hq20
          have hF := hF.tr hst20 (fun _ h => ⟨h, rfl⟩) (by decide) (by decide)
          have hex : ∀ a : Nat, a ∈ L0 → a ∈ L20 ∧ kp20 a = kp0 a := fun a h => ⟨(hx20 a (hex a h).1).1, ((hx20 a (hex a h).1).2).trans (hex a h).2⟩
          have hexb : ∀ a : Nat, a ∈ L → a ∈ L20 ∧ kp20 a = kp a := fun a h => ⟨(hx20 a (hexb a h).1).1, ((hx20 a (hexb a h).1).2).trans (hexb a h).2⟩
          have hmf22 : tw_fv E20 a0 7 = .ref xr1 := (hst20.1 a0 7 hm0 (by rw [hk0]; decide)).trans hxr1
          have hm20_a0 := (hx20 a0 hm0).1
          have hk20_a0 : kp20 a0 = 11 := ((hx20 a0 hm0).2).trans hk0
          have hm20_xr1 := (hx20 xr1 hmxr1).1
          have hk20_xr1 : kp20 xr1 = 1 := ((hx20 xr1 hmxr1).2).trans hkxr1
          have hm20_xc17 := (hx20 xc17 hmxc17).1
          have hk20_xc17 : kp20 xc17 = 10 := ((hx20 xc17 hmxc17).2).trans hkxc17
          refine W.eq (g2 := F0 m 54 ls [.int xc21]) rfl ?_
          exact tw_iret hx hb hr hlocks TH hS hex ⟨⟨_, rfl, hgpxc21_0, hgpxc21_1⟩, hF⟩ (Nat.le_of_ble_eq_true rfl) (Nat.le_of_ble_eq_true rfl) dX11_carry_54
      · have hf23 : xc13.toInt = 0 := by have z := (fa_eq _ _).mp hc14; have : ((0 : Int32).toInt) = 0 := (by decide); omega
        refine lv_iconst (v := (-1)) hx hb dX11_carry_36 (by decide) ?_
        exact tw_iret hx hb hr hlocks TH hS hex ⟨⟨_, rfl, hg0, hg1⟩, hF⟩ (Nat.le_of_ble_eq_true rfl) (Nat.le_of_ble_eq_true rfl) dX11_carry_37
set_option maxHeartbeats 4000000 in
set_option maxRecDepth 100000 in
theorem tX11_back (l : Launch) (D : va_G) (cs : Nat → ClassId) {kp : Nat → Nat} {L : List Nat} {E : Nat → va_E} (a0 : Nat) (x1 : Int32) (x2 : Int32) (hm0 : a0 ∈ L) (hk0 : kp a0 = 11) (hg0 : gz_ok E a0) (hg1 : ss_ok E a0) (sz : Nat) : Met l yX11_back (.code yX11_back cX11_back 4 (some .int) :: cx_big) { frames := 7, cells := 8, slots := 288, locals := 177 } (tw_P D cs kp L E [.ref a0, .int x1, .int x2] sz) (tw_Q D cs kp L (fun v kq Lq Eq => (∃ x : Int32, v = some (.int x) ∧ gz_ok Eq a0 ∧ ss_ok Eq a0) ∧ tw_fr kp L [(1, 0), (3, 0), (5, 10), (5, 12), (8, 0), (8, 1), (10, 0), (11, 17)] [101, 102, 110, 111, 112, 113, 114, 115, 135, 140, 141, 142, 160, 161, 162, 163, 164, 165, 166, 167, 170, 171, 181] E Eq) (va_A (va_pl L E) sz)) 8 288 (va_A (va_pl L E) sz) := by
  refine tw_ofW (by decide) (Nat.le_of_ble_eq_true rfl) ?_
  intro p e s m below meth c A ls hx hb hr hml hB hown hlocks hK hN hA TH hS hl
  have hown : s.vm.findClass "TreeMerge" = some m.cls := hown
  have hl : lv_has ls 4 [(0, .ref a0), (1, .int x1), (2, .int x2)] := hl
  obtain ⟨kp0, ekp⟩ : ∃ z, z = kp := ⟨_, rfl⟩
  obtain ⟨L0, eL⟩ : ∃ z, z = L := ⟨_, rfl⟩
  rw [show tw_Q D cs kp L = tw_Q D cs kp0 L0 by rw [ekp, eL]]
  have hex : ∀ a : Nat, a ∈ L0 → a ∈ L ∧ kp a = kp0 a := fun a h => ⟨by rw [← eL]; exact h, by rw [ekp]⟩
  have hF : tw_fr kp L [(1, 0), (3, 0), (5, 10), (5, 12), (8, 0), (8, 1), (10, 0), (11, 17)] [101, 102, 110, 111, 112, 113, 114, 115, 135, 140, 141, 142, 160, 161, 162, 163, 164, 165, 166, 167, 170, 171, 181] E E := tw_fr.rf
  have hexb : ∀ a : Nat, a ∈ L → a ∈ L ∧ kp a = kp a := fun a h => ⟨h, rfl⟩
  refine lv_aload_n hx hb dX11_back_0 rfl (lv_at hl 0 rfl) ?_
  refine tw_get (ci := 11) (C := RX11) (T := TX11) (N := 19) hx hb hB cx_inX11 hown hK TH hm0 hk0 rfl ⟨by decide, rfl⟩ 7 (by decide) cw_390 (fun _ h9 => h9) dX11_back_1 (fun hv => ?_)
  obtain ⟨xr1, hxr1, hmxr1, hkxr1⟩ : ∃ a : Nat, tw_fv E a0 7 = .ref a ∧ a ∈ L ∧ kp a = 1 := hv
  rw [hxr1]
  refine lv_iload_n hx hb dX11_back_4 rfl (lv_at hl 1 rfl) ?_
  refine tw_Vc (o := xr1) (ci := 1) (n := 1) (post := (fun v kq Lq Eq => (∃ x : Int32, v = some (.int x)) ∧ kp = kq ∧ L = Lq ∧ E = Eq)) (As := [.int x1]) (rest := []) ⟨hx, hb, hml, hown, hB⟩ (fun sz => tX1_onlyParent l D cs xr1 x1 hmxr1 hkxr1 sz) cg_11_266_X1_onlyParent rfl rfl (by decide +kernel) ⟨Nat.le_of_ble_eq_true rfl, Nat.le_of_ble_eq_true rfl⟩ hK hN TH hS hA rfl hmxr1 hkxr1 (by decide) rfl hl.1 rfl (Nat.le_of_ble_eq_true rfl) dX11_back_5 ⟨Nat.le_of_ble_eq_true rfl, Nat.le_of_ble_eq_true rfl⟩ (fun v2 kp2 L2 E2 H locs hq2 hx2 TH hS => ?_)
  obtain ⟨⟨xc3, rfl⟩, rfl, rfl, rfl⟩ := hq2
  refine W.eq (g2 := F0 m 8 ls [.int xc3]) rfl ?_
  refine lv_istore_n (lv' := [(3, .int xc3), (0, .ref a0), (1, .int x1), (2, .int x2)]) hx hb dX11_back_8 rfl hl (by decide) rfl (fun ls hl => ?_)
  refine lv_iload_n hx hb dX11_back_9 rfl (lv_at hl 0 rfl) ?_
  refine lv_iconst (v := (-1)) hx hb dX11_back_10 (by decide) ?_
  refine lv_icmp_eq (tgt := 41) hx hb dX11_back_11 (by decide) (fun hc4 => ?_) (fun hc4 => ?_)
  · have hf5 : xc3.toInt = (-1) := by have z := (fa_eq _ _).mp hc4; have : (((-1) : Int32).toInt) = (-1) := (by decide); omega
    refine lv_iconst (v := (-1)) hx hb dX11_back_41 (by decide) ?_
    exact tw_iret hx hb hr hlocks TH hS hex ⟨⟨_, rfl, hg0, hg1⟩, hF⟩ (Nat.le_of_ble_eq_true rfl) (Nat.le_of_ble_eq_true rfl) dX11_back_42
  · have hf6 : ¬ (xc3.toInt = (-1)) := fun q => hc4 ((fa_eq _ _).mpr (by have : (((-1) : Int32).toInt) = (-1) := (by decide); omega))
    refine lv_aload_n hx hb dX11_back_14 rfl (lv_at hl 1 rfl) ?_
    refine tw_get (ci := 11) (C := RX11) (T := TX11) (N := 19) hx hb hB cx_inX11 hown hK TH hm0 hk0 rfl ⟨by decide, rfl⟩ 7 (by decide) cw_390 (fun _ h9 => h9) dX11_back_15 (fun hv => ?_)
    rw [hxr1]
    refine tw_Vc (o := xr1) (ci := 1) (n := 0) (post := (fun v kq Lq Eq => (∃ x : Int32, v = some (.int x) ∧ 0 ≤ x.toInt ∧ x.toInt ≤ 1 ∧ (∃ z0 : Int32, tw_fv Eq xr1 0 = .int z0 ∧ (x.toInt = 0 → z0.toInt ≤ 11))) ∧ kp = kq ∧ L = Lq ∧ E = Eq)) (As := []) (rest := []) ⟨hx, hb, hml, hown, hB⟩ (fun sz => tX1_isFull l D cs xr1 hmxr1 hkxr1 sz) cg_11_135_X1_isFull rfl rfl (by decide +kernel) ⟨Nat.le_of_ble_eq_true rfl, Nat.le_of_ble_eq_true rfl⟩ hK hN TH hS hA rfl hmxr1 hkxr1 (by decide) rfl hl.1 rfl (Nat.le_of_ble_eq_true rfl) dX11_back_18 ⟨Nat.le_of_ble_eq_true rfl, Nat.le_of_ble_eq_true rfl⟩ (fun v7 kp7 L7 E7 H locs hq7 hx7 TH hS => ?_)
    obtain ⟨⟨xc8, rfl, hxc8a, hxc8b, ⟨zfxc8_0_0, hzfxc8_0_0, hzpxc8_0⟩⟩, rfl, rfl, rfl⟩ := hq7
    obtain ⟨qzfxc8_0_0, hqzfxc8_0_0, hqzfxc8_0_0a, hqzfxc8_0_0b⟩ := tw_rd TH hmxr1 hkxr1 (by decide) (by decide) (k := 0) rfl
    have eqzfxc8_0_0 : qzfxc8_0_0 = zfxc8_0_0 := by have q := hqzfxc8_0_0.symm.trans hzfxc8_0_0; injection q
    rw [eqzfxc8_0_0] at hqzfxc8_0_0a hqzfxc8_0_0b
    refine W.eq (g2 := F0 m 21 ls [.int xc8]) rfl ?_
    refine lv_if_ne (tgt := 41) hx hb dX11_back_21 (by decide) (fun hc9 => ?_) (fun hc9 => ?_)
    · have hf10 : ¬ (xc8.toInt = 0) := fun q => hc9 ((fa_eq _ _).mpr (by have : ((0 : Int32).toInt) = 0 := (by decide); omega))
      refine lv_iconst (v := (-1)) hx hb dX11_back_41 (by decide) ?_
      exact tw_iret hx hb hr hlocks TH hS hex ⟨⟨_, rfl, hg0, hg1⟩, hF⟩ (Nat.le_of_ble_eq_true rfl) (Nat.le_of_ble_eq_true rfl) dX11_back_42
    · have hf11 : xc8.toInt = 0 := by have z := (fa_eq _ _).mp hc9; have : ((0 : Int32).toInt) = 0 := (by decide); omega
      refine lv_iload_n hx hb dX11_back_24 rfl (lv_at hl 2 rfl) ?_
      refine lv_iload_n hx hb dX11_back_25 rfl (lv_at hl 3 rfl) ?_
      refine lv_icmp_eq (tgt := 41) hx hb dX11_back_26 (by decide) (fun hc12 => ?_) (fun hc12 => ?_)
      · have hf13 : x1.toInt = x2.toInt := by have z := (fa_eq _ _).mp hc12;  omega
        refine lv_iconst (v := (-1)) hx hb dX11_back_41 (by decide) ?_
        exact tw_iret hx hb hr hlocks TH hS hex ⟨⟨_, rfl, hg0, hg1⟩, hF⟩ (Nat.le_of_ble_eq_true rfl) (Nat.le_of_ble_eq_true rfl) dX11_back_42
      · have hf14 : ¬ (x1.toInt = x2.toInt) := fun q => hc12 ((fa_eq _ _).mpr (by  omega))
        refine lv_aload_n hx hb dX11_back_29 rfl (lv_at hl 1 rfl) ?_
        refine tw_get (ci := 11) (C := RX11) (T := TX11) (N := 19) hx hb hB cx_inX11 hown hK TH hm0 hk0 rfl ⟨by decide, rfl⟩ 7 (by decide) cw_390 (fun _ h9 => h9) dX11_back_30 (fun hv => ?_)
        rw [hxr1]
        refine lv_iload_n hx hb dX11_back_33 rfl (lv_at hl 3 rfl) ?_
        refine lv_iload_n hx hb dX11_back_34 rfl (lv_at hl 2 rfl) ?_
        refine tw_Vc (o := xr1) (ci := 1) (n := 2) (post := (fun v kq Lq Eq => (∃ x : Int32, v = some (.int x) ∧ 0 ≤ x.toInt ∧ x.toInt ≤ 1) ∧ kp = kq ∧ L = Lq ∧ E = Eq)) (As := [.int x2, .int x1]) (rest := []) ⟨hx, hb, hml, hown, hB⟩ (fun sz => tX1_comesFrom l D cs xr1 x2 x1 hmxr1 hkxr1 sz) cg_11_259_X1_comesFrom rfl rfl (by decide +kernel) ⟨Nat.le_of_ble_eq_true rfl, Nat.le_of_ble_eq_true rfl⟩ hK hN TH hS hA rfl hmxr1 hkxr1 (by decide) rfl hl.1 rfl (Nat.le_of_ble_eq_true rfl) dX11_back_35 ⟨Nat.le_of_ble_eq_true rfl, Nat.le_of_ble_eq_true rfl⟩ (fun v15 kp15 L15 E15 H locs hq15 hx15 TH hS => ?_)
        obtain ⟨⟨xc16, rfl, hxc16a, hxc16b⟩, rfl, rfl, rfl⟩ := hq15
        refine W.eq (g2 := F0 m 38 ls [.int xc16]) rfl ?_
        refine lv_if_ne (tgt := 43) hx hb dX11_back_38 (by decide) (fun hc17 => ?_) (fun hc17 => ?_)
        · have hf18 : ¬ (xc16.toInt = 0) := fun q => hc17 ((fa_eq _ _).mpr (by have : ((0 : Int32).toInt) = 0 := (by decide); omega))
          refine lv_aload_n hx hb dX11_back_43 rfl (lv_at hl 1 rfl) ?_
          refine lv_aload_n hx hb dX11_back_44 rfl (lv_at hl 1 rfl) ?_
          refine tw_get (ci := 11) (C := RX11) (T := TX11) (N := 19) hx hb hB cx_inX11 hown hK TH hm0 hk0 rfl ⟨by decide, rfl⟩ 7 (by decide) cw_390 (fun _ h9 => h9) dX11_back_45 (fun hv => ?_)
          rw [hxr1]
          refine lv_iload_n hx hb dX11_back_48 rfl (lv_at hl 2 rfl) ?_
          refine tw_Vc (o := xr1) (ci := 1) (n := 1) (post := (fun v kq Lq Eq => (v = some .null ∨ ∃ a : Nat, v = some (.ref a) ∧ a ∈ Lq ∧ kq a = 10 ∧ (0 ≤ x1.toInt ∧ x1.toInt ≤ 11)) ∧ kp = kq ∧ L = Lq ∧ E = Eq)) (As := [.int x1]) (rest := [.ref a0]) ⟨hx, hb, hml, hown, hB⟩ (fun sz => tX1_treeOf l D cs xr1 x1 hmxr1 hkxr1 sz) cg_11_168_X1_treeOf rfl rfl (by decide +kernel) ⟨Nat.le_of_ble_eq_true rfl, Nat.le_of_ble_eq_true rfl⟩ hK hN TH hS hA rfl hmxr1 hkxr1 (by decide) rfl hl.1 rfl (Nat.le_of_ble_eq_true rfl) dX11_back_49 ⟨Nat.le_of_ble_eq_true rfl, Nat.le_of_ble_eq_true rfl⟩ (fun v19 kp19 L19 E19 H locs hq19 hx19 TH hS => ?_)
          obtain ⟨hnxc20, rfl, rfl, rfl⟩ := hq19
          rcases hnxc20 with rfl | ⟨xc20, rfl, hmxc20, hkxc20, hnpxc20⟩
          · refine W.eq (g2 := F0 m 52 ls [.null, .ref a0]) rfl ?_
            refine lv_iload_n hx hb dX11_back_52 rfl (lv_at hl 0 rfl) ?_
            refine lv_iload_n hx hb dX11_back_53 rfl (lv_at hl 3 rfl) ?_
            refine lv_iload_n hx hb dX11_back_54 rfl (lv_at hl 3 rfl) ?_
            refine lv_iconst (v := (-1)) hx hb dX11_back_55 (by decide) ?_
            refine tw_Vc (o := a0) (ci := 11) (n := 5) (post := (fun v kq Lq Eq => (∃ x : Int32, v = some (.int x) ∧ gz_ok Eq a0 ∧ ss_ok Eq a0) ∧ kp = kq ∧ L = Lq ∧ E = Eq)) (As := [.null, .int xc3, .int x2, .int x2, .int (-1)]) (rest := []) ⟨hx, hb, hml, hown, hB⟩ (fun sz => tX11_mergeOn_v0 l D cs a0 xc3 x2 x2 ((-1) : Int32) hm0 hk0 hg0 hg1 sz) cg_11_262_X11_mergeOn rfl rfl (by decide +kernel) ⟨Nat.le_of_ble_eq_true rfl, Nat.le_of_ble_eq_true rfl⟩ hK hN TH hS hA rfl hm0 hk0 (by decide) rfl hl.1 rfl (Nat.le_of_ble_eq_true rfl) dX11_back_56 ⟨Nat.le_of_ble_eq_true rfl, Nat.le_of_ble_eq_true rfl⟩ (fun v21 kp21 L21 E21 H locs hq21 hx21 TH hS => ?_)
            obtain ⟨⟨xc22, rfl, hgpxc22_0, hgpxc22_1⟩, rfl, rfl, rfl⟩ := hq21
            refine W.eq (g2 := F0 m 59 ls [.int xc22]) rfl ?_
            exact tw_iret hx hb hr hlocks TH hS hex ⟨⟨_, rfl, hg0, hg1⟩, hF⟩ (Nat.le_of_ble_eq_true rfl) (Nat.le_of_ble_eq_true rfl) dX11_back_59
          · refine W.eq (g2 := F0 m 52 ls [.ref xc20, .ref a0]) rfl ?_
            refine lv_iload_n hx hb dX11_back_52 rfl (lv_at hl 0 rfl) ?_
            refine lv_iload_n hx hb dX11_back_53 rfl (lv_at hl 3 rfl) ?_
            refine lv_iload_n hx hb dX11_back_54 rfl (lv_at hl 3 rfl) ?_
            refine lv_iconst (v := (-1)) hx hb dX11_back_55 (by decide) ?_
            have hTo := TH.2.2
            refine tw_Vc (o := a0) (ci := 11) (n := 5) (post := (fun v kq Lq Eq => (∃ x : Int32, v = some (.int x) ∧ gz_ok Eq a0 ∧ ss_ok Eq a0) ∧ tw_fr kp L [(1, 0), (3, 0), (5, 10), (5, 12), (8, 0), (8, 1), (10, 0), (11, 17)] [101, 102, 110, 111, 112, 113, 114, 115, 135, 140, 141, 142, 160, 161, 162, 163, 164, 165, 166, 167, 170, 171, 181] E Eq)) (As := [.ref xc20, .int xc3, .int x2, .int x2, .int (-1)]) (rest := []) ⟨hx, hb, hml, hown, hB⟩ (fun sz => tX11_mergeOn l D cs a0 xc20 xc3 x2 x2 ((-1) : Int32) hm0 hk0 hmxc20 hkxc20 hg0 hg1 sz) cg_11_262_X11_mergeOn rfl rfl (by decide +kernel) ⟨Nat.le_of_ble_eq_true rfl, Nat.le_of_ble_eq_true rfl⟩ hK hN TH hS hA rfl hm0 hk0 (by decide) rfl hl.1 rfl (Nat.le_of_ble_eq_true rfl) dX11_back_56 ⟨Nat.le_of_ble_eq_true rfl, Nat.le_of_ble_eq_true rfl⟩ (fun v23 kp23 L23 E23 H locs hq23 hx23 TH hS => ?_)
            obtain ⟨⟨xc24, rfl, hgpxc24_0, hgpxc24_1⟩, hst23⟩ := hq23
            have hF := hF.tr hst23 (fun _ h => ⟨h, rfl⟩) (by decide) (by decide)
            have hex : ∀ a : Nat, a ∈ L0 → a ∈ L23 ∧ kp23 a = kp0 a := fun a h => ⟨(hx23 a (hex a h).1).1, ((hx23 a (hex a h).1).2).trans (hex a h).2⟩
            have hexb : ∀ a : Nat, a ∈ L → a ∈ L23 ∧ kp23 a = kp a := fun a h => ⟨(hx23 a (hexb a h).1).1, ((hx23 a (hexb a h).1).2).trans (hexb a h).2⟩
            have hmf25 : tw_fv E23 a0 7 = .ref xr1 := (hst23.1 a0 7 hm0 (by rw [hk0]; decide)).trans hxr1
            have hm23_a0 := (hx23 a0 hm0).1
            have hk23_a0 : kp23 a0 = 11 := ((hx23 a0 hm0).2).trans hk0
            have hm23_xr1 := (hx23 xr1 hmxr1).1
            have hk23_xr1 : kp23 xr1 = 1 := ((hx23 xr1 hmxr1).2).trans hkxr1
            have hm23_xc20 := (hx23 xc20 hmxc20).1
            have hk23_xc20 : kp23 xc20 = 10 := ((hx23 xc20 hmxc20).2).trans hkxc20
            refine W.eq (g2 := F0 m 59 ls [.int xc24]) rfl ?_
            exact tw_iret hx hb hr hlocks TH hS hex ⟨⟨_, rfl, hgpxc24_0, hgpxc24_1⟩, hF⟩ (Nat.le_of_ble_eq_true rfl) (Nat.le_of_ble_eq_true rfl) dX11_back_59
        · have hf26 : xc16.toInt = 0 := by have z := (fa_eq _ _).mp hc17; have : ((0 : Int32).toInt) = 0 := (by decide); omega
          refine lv_iconst (v := (-1)) hx hb dX11_back_41 (by decide) ?_
          exact tw_iret hx hb hr hlocks TH hS hex ⟨⟨_, rfl, hg0, hg1⟩, hF⟩ (Nat.le_of_ble_eq_true rfl) (Nat.le_of_ble_eq_true rfl) dX11_back_42
