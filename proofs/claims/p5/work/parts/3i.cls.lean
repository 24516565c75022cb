set_option maxHeartbeats 4000000 in
set_option maxRecDepth 100000 in
theorem tX12_fitsBut (l : Launch) (D : va_G) (cs : Nat → ClassId) {kp : Nat → Nat} {L : List Nat} {E : Nat → va_E} (a0 : Nat) (x1 : Int32) (x2 : Int32) (hm0 : a0 ∈ L) (hk0 : kp a0 = 12) (hp1a : 0 ≤ x1.toInt) (hp1b : x1.toInt ≤ 15) (hp2a : 0 ≤ x2.toInt) (hp2b : x2.toInt ≤ 149) (hpre0 : x1.toInt = 15 → x2.toInt ≤ 23) (hg0 : ht_ok E a0) (sz : Nat) : Met l yX12_fitsBut (.code yX12_fitsBut cX12_fitsBut 4 (some .boolean) :: cx_big) { frames := 3, cells := 0, slots := 0, locals := 73 } (tw_P D cs kp L E [.ref a0, .int x1, .int x2] sz) (tw_Q D cs kp L (fun v kq Lq Eq => (∃ x : Int32, v = some (.int x) ∧ 0 ≤ x.toInt ∧ x.toInt ≤ 1) ∧ kp = kq ∧ L = Lq ∧ tw_fr kp L [] [348, 349] E Eq) (va_A (va_pl L E) sz)) 0 0 (va_A (va_pl L E) sz) := by
  refine tw_ofW (by decide) (Nat.le_of_ble_eq_true rfl) ?_
  intro p e s m below meth c A ls hx hb hr hml hB hown hlocks hK hN hA TH hS hl
  have hown : s.vm.findClass "TreeMergeModel" = some m.cls := hown
  have hl : lv_has ls 4 [(0, .ref a0), (1, .int x1), (2, .int x2)] := hl
  obtain ⟨kp0, ekp⟩ : ∃ z, z = kp := ⟨_, rfl⟩
  obtain ⟨L0, eL⟩ : ∃ z, z = L := ⟨_, rfl⟩
  rw [show tw_Q D cs kp L = tw_Q D cs kp0 L0 by rw [ekp, eL]]
  have hex : ∀ a : Nat, a ∈ L0 → a ∈ L ∧ kp a = kp0 a := fun a h => ⟨by rw [← eL]; exact h, by rw [ekp]⟩
  have hF : tw_fr kp L [] [348, 349] E E := tw_fr.rf
  refine lv_aload_n hx hb dX12_fitsBut_0 rfl (lv_at hl 0 rfl) ?_
  refine lv_iload_n hx hb dX12_fitsBut_1 rfl (lv_at hl 1 rfl) ?_
  refine lv_iload_n hx hb dX12_fitsBut_2 rfl (lv_at hl 2 rfl) ?_
  refine tw_Vc (o := a0) (ci := 12) (n := 2) (post := (fun v kq Lq Eq => (∃ x : Int32, v = some (.int x) ∧ 0 ≤ x.toInt ∧ x.toInt ≤ 9) ∧ kp = kq ∧ L = Lq ∧ E = Eq)) (As := [.int x1, .int x2]) (rest := []) ⟨hx, hb, hml, hown, hB⟩ (fun sz => tX12_kindOf l D cs a0 x1 x2 hm0 hk0 (by omega) (by omega) (by omega) (by omega) (by  omega) sz) cg_12_301_X12_kindOf rfl rfl (by decide +kernel) ⟨Nat.le_of_ble_eq_true rfl, Nat.le_of_ble_eq_true rfl⟩ hK hN TH hS hA rfl hm0 hk0 (by decide) rfl hl.1 rfl (Nat.le_of_ble_eq_true rfl) dX12_fitsBut_3 ⟨Nat.le_of_ble_eq_true rfl, Nat.le_of_ble_eq_true rfl⟩ (fun v1 kp1 L1 E1 H locs hq1 hx1 TH hS => ?_)
  obtain ⟨⟨xc2, rfl, hxc2a, hxc2b⟩, rfl, rfl, rfl⟩ := hq1
  refine W.eq (g2 := F0 m 6 ls [.int xc2]) rfl ?_
  refine lv_istore_n (lv' := [(3, .int xc2), (0, .ref a0), (1, .int x1), (2, .int x2)]) hx hb dX12_fitsBut_6 rfl hl (by decide) rfl (fun ls hl => ?_)
  refine lv_aload_n hx hb dX12_fitsBut_7 rfl (lv_at hl 1 rfl) ?_
  refine tw_get (ci := 12) (C := RX12) (T := TX12) (N := 64) hx hb hB cx_inX12 hown hK TH hm0 hk0 rfl ⟨by decide, rfl⟩ 33 (by decide) cw_1226 (fun _ h9 => h9) dX12_fitsBut_8 (fun hv => ?_)
  obtain ⟨xr3, hxr3, hmxr3, hkxr3⟩ : ∃ a : Nat, tw_fv E a0 33 = .ref a ∧ a ∈ L ∧ kp a = 339 := hv
  rw [hxr3]
  refine lv_iload_n hx hb dX12_fitsBut_11 rfl (lv_at hl 0 rfl) ?_
  refine tw_iald (k := 339) (t0 := 0) (n := 10) (lo := 0) (hi := 2) hx hb hK TH hmxr3 hkxr3 (by decide) rfl rfl (i := xc2) (vp_in_iff.mpr ⟨by  omega, by  omega⟩) dX12_fitsBut_12 (fun hxe4a hxe4b => ?_)
  obtain ⟨xe4, exe4⟩ : ∃ z : Int32, tw_iv E xr3 (Int32.toNatClampNeg xc2) = z := ⟨_, rfl⟩
  rw [exe4] at hxe4a hxe4b ⊢
  refine lv_if_ne (tgt := 31) hx hb dX12_fitsBut_13 (by decide) (fun hc5 => ?_) (fun hc5 => ?_)
  · have hf6 : ¬ (xe4.toInt = 0) := fun q => hc5 ((fa_eq _ _).mpr (by have : ((0 : Int32).toInt) = 0 := (by decide); omega))
    refine lv_aload_n hx hb dX12_fitsBut_31 rfl (lv_at hl 1 rfl) ?_
    refine tw_get (ci := 12) (C := RX12) (T := TX12) (N := 64) hx hb hB cx_inX12 hown hK TH hm0 hk0 rfl ⟨by decide, rfl⟩ 33 (by decide) cw_1226 (fun _ h9 => h9) dX12_fitsBut_32 (fun hv => ?_)
    rw [hxr3]
    refine lv_iload_n hx hb dX12_fitsBut_35 rfl (lv_at hl 0 rfl) ?_
    refine tw_iald (k := 339) (t0 := 0) (n := 10) (lo := 0) (hi := 2) hx hb hK TH hmxr3 hkxr3 (by decide) rfl rfl (i := xc2) (vp_in_iff.mpr ⟨by  omega, by  omega⟩) dX12_fitsBut_36 (fun hxe7a hxe7b => ?_)
    rw [exe4]
    refine lv_iconst (v := 1) hx hb dX12_fitsBut_37 (by decide) ?_
    refine lv_icmp_ne (tgt := 51) hx hb dX12_fitsBut_38 (by decide) (fun hc8 => ?_) (fun hc8 => ?_)
    · have hf9 : ¬ (xe4.toInt = 1) := fun q => hc8 ((fa_eq _ _).mpr (by have : ((1 : Int32).toInt) = 1 := (by decide); omega))
      refine lv_aload_n hx hb dX12_fitsBut_51 rfl (lv_at hl 1 rfl) ?_
      refine lv_iload_n hx hb dX12_fitsBut_52 rfl (lv_at hl 2 rfl) ?_
      refine lv_iload_n hx hb dX12_fitsBut_53 rfl (lv_at hl 3 rfl) ?_
      refine lv_iload_n hx hb dX12_fitsBut_54 rfl (lv_at hl 0 rfl) ?_
      refine tw_Vc (o := a0) (ci := 12) (n := 3) (post := (fun v kq Lq Eq => (∃ x : Int32, v = some (.int x) ∧ 0 ≤ x.toInt ∧ x.toInt ≤ 1) ∧ kp = kq ∧ L = Lq ∧ tw_fr kp L [] [348, 349] E Eq)) (As := [.int x1, .int x2, .int xc2]) (rest := []) ⟨hx, hb, hml, hown, hB⟩ (fun sz => tX12_fitsList l D cs a0 x1 x2 xc2 hm0 hk0 (by omega) (by omega) (by omega) (by omega) hg0 sz) cg_12_321_X12_fitsList rfl rfl (by decide +kernel) ⟨Nat.le_of_ble_eq_true rfl, Nat.le_of_ble_eq_true rfl⟩ hK hN TH hS hA rfl hm0 hk0 (by decide) rfl hl.1 rfl (Nat.le_of_ble_eq_true rfl) dX12_fitsBut_55 ⟨Nat.le_of_ble_eq_true rfl, Nat.le_of_ble_eq_true rfl⟩ (fun v10 kp10 L10 E10 H locs hq10 hx10 TH hS => ?_)
      obtain ⟨⟨xc11, rfl, hxc11a, hxc11b⟩, rfl, rfl, hst10⟩ := hq10
      have hF := hF.tr hst10 (fun _ h => ⟨h, rfl⟩) (by decide) (by decide)
      have hmf12 : tw_fv E10 a0 33 = .ref xr3 := (hst10.1 a0 33 hm0 (by rw [hk0]; decide)).trans hxr3
      have hg0 : ht_ok E10 a0 := ht_ok_fr TH hst10 hm0 hk0 (by decide) (by decide) hg0
      refine W.eq (g2 := F0 m 58 ls [.int xc11]) rfl ?_
      exact tw_zret hx hb hr hlocks (ia_bool (by omega) (by omega)) TH hS hex ⟨⟨_, rfl, (show 0 ≤ Int32.toInt xc11 from by  omega), (show Int32.toInt xc11 ≤ 1 from by  omega)⟩, rfl, rfl, hF⟩ (Nat.le_of_ble_eq_true rfl) (Nat.le_of_ble_eq_true rfl) dX12_fitsBut_58
    · have hf13 : xe4.toInt = 1 := by have z := (fa_eq _ _).mp hc8; have : ((1 : Int32).toInt) = 1 := (by decide); omega
      refine lv_aload_n hx hb dX12_fitsBut_41 rfl (lv_at hl 1 rfl) ?_
      refine lv_iload_n hx hb dX12_fitsBut_42 rfl (lv_at hl 2 rfl) ?_
      refine lv_iload_n hx hb dX12_fitsBut_43 rfl (lv_at hl 3 rfl) ?_
      refine lv_iload_n hx hb dX12_fitsBut_44 rfl (lv_at hl 0 rfl) ?_
      refine tw_Vc (o := a0) (ci := 12) (n := 3) (post := (fun v kq Lq Eq => (∃ x : Int32, v = some (.int x) ∧ 0 ≤ x.toInt ∧ x.toInt ≤ 1) ∧ kp = kq ∧ L = Lq ∧ E = Eq)) (As := [.int x1, .int x2, .int xc2]) (rest := []) ⟨hx, hb, hml, hown, hB⟩ (fun sz => tX12_fitsSet l D cs a0 x1 x2 xc2 hm0 hk0 (by omega) (by omega) (by omega) (by omega) hg0 sz) cg_12_318_X12_fitsSet rfl rfl (by decide +kernel) ⟨Nat.le_of_ble_eq_true rfl, Nat.le_of_ble_eq_true rfl⟩ hK hN TH hS hA rfl hm0 hk0 (by decide) rfl hl.1 rfl (Nat.le_of_ble_eq_true rfl) dX12_fitsBut_45 ⟨Nat.le_of_ble_eq_true rfl, Nat.le_of_ble_eq_true rfl⟩ (fun v14 kp14 L14 E14 H locs hq14 hx14 TH hS => ?_)
      obtain ⟨⟨xc15, rfl, hxc15a, hxc15b⟩, rfl, rfl, rfl⟩ := hq14
      refine W.eq (g2 := F0 m 48 ls [.int xc15]) rfl ?_
      refine lv_goto (tgt := 58) hx hb dX12_fitsBut_48 (by decide) ?_
      exact tw_zret hx hb hr hlocks (ia_bool (by omega) (by omega)) TH hS hex ⟨⟨_, rfl, (show 0 ≤ Int32.toInt xc15 from by  omega), (show Int32.toInt xc15 ≤ 1 from by  omega)⟩, rfl, rfl, hF⟩ (Nat.le_of_ble_eq_true rfl) (Nat.le_of_ble_eq_true rfl) dX12_fitsBut_58
  · have hf16 : xe4.toInt = 0 := by have z := (fa_eq _ _).mp hc5; have : ((0 : Int32).toInt) = 0 := (by decide); omega
    refine lv_aload_n hx hb dX12_fitsBut_16 rfl (lv_at hl 1 rfl) ?_
    refine lv_iload_n hx hb dX12_fitsBut_17 rfl (lv_at hl 2 rfl) ?_
    refine lv_iload_n hx hb dX12_fitsBut_18 rfl (lv_at hl 3 rfl) ?_
    refine tw_Vc (o := a0) (ci := 12) (n := 2) (post := (fun v kq Lq Eq => (∃ x : Int32, v = some (.int x) ∧ 0 ≤ x.toInt ∧ x.toInt ≤ 150 ∧ (x.toInt = 0 → nk_inv (rw_h E a0 x1.toInt) (rw_p E a0 x1.toInt) x2.toInt 150)) ∧ kp = kq ∧ L = Lq ∧ E = Eq)) (As := [.int x1, .int x2]) (rest := []) ⟨hx, hb, hml, hown, hB⟩ (fun sz => tX12_kidsOf l D cs a0 x1 x2 hm0 hk0 (by omega) (by omega) sz) cg_12_315_X12_kidsOf rfl rfl (by decide +kernel) ⟨Nat.le_of_ble_eq_true rfl, Nat.le_of_ble_eq_true rfl⟩ hK hN TH hS hA rfl hm0 hk0 (by decide) rfl hl.1 rfl (Nat.le_of_ble_eq_true rfl) dX12_fitsBut_19 ⟨Nat.le_of_ble_eq_true rfl, Nat.le_of_ble_eq_true rfl⟩ (fun v17 kp17 L17 E17 H locs hq17 hx17 TH hS => ?_)
    obtain ⟨⟨xc18, rfl, hxc18a, hxc18b, hpoxc18_0⟩, rfl, rfl, rfl⟩ := hq17
    refine W.eq (g2 := F0 m 22 ls [.int xc18]) rfl ?_
    refine lv_if_ne (tgt := 29) hx hb dX12_fitsBut_22 (by decide) (fun hc19 => ?_) (fun hc19 => ?_)
    · have hf20 : ¬ (xc18.toInt = 0) := fun q => hc19 ((fa_eq _ _).mpr (by have : ((0 : Int32).toInt) = 0 := (by decide); omega))
      refine lv_iconst (v := 0) hx hb dX12_fitsBut_29 (by decide) ?_
      exact tw_zret hx hb hr hlocks (by decide) TH hS hex ⟨⟨_, rfl, (show 0 ≤ Int32.toInt 0 from by have : ((0 : Int32).toInt) = 0 := (by decide); omega), (show Int32.toInt 0 ≤ 1 from by have : ((0 : Int32).toInt) = 0 := (by decide); omega)⟩, rfl, rfl, hF⟩ (Nat.le_of_ble_eq_true rfl) (Nat.le_of_ble_eq_true rfl) dX12_fitsBut_30
    · have hf21 : xc18.toInt = 0 := by have z := (fa_eq _ _).mp hc19; have : ((0 : Int32).toInt) = 0 := (by decide); omega
      refine lv_iconst (v := 1) hx hb dX12_fitsBut_25 (by decide) ?_
      refine lv_goto (tgt := 30) hx hb dX12_fitsBut_26 (by decide) ?_
      exact tw_zret hx hb hr hlocks (by decide) TH hS hex ⟨⟨_, rfl, (show 0 ≤ Int32.toInt 1 from by have : ((1 : Int32).toInt) = 1 := (by decide); omega), (show Int32.toInt 1 ≤ 1 from by have : ((1 : Int32).toInt) = 1 := (by decide); omega)⟩, rfl, rfl, hF⟩ (Nat.le_of_ble_eq_true rfl) (Nat.le_of_ble_eq_true rfl) dX12_fitsBut_30
set_option maxHeartbeats 4000000 in
set_option maxRecDepth 100000 in
theorem tX12_firstBreak (l : Launch) (D : va_G) (cs : Nat → ClassId) {kp : Nat → Nat} {L : List Nat} {E : Nat → va_E} (a0 : Nat) (x1 : Int32) (hm0 : a0 ∈ L) (hk0 : kp a0 = 12) (hp1a : 0 ≤ x1.toInt) (hp1b : x1.toInt ≤ 15) (hg0 : ht_ok E a0) (hg1 : rw_ok E a0 (x1.toInt)) (sz : Nat) : Met l yX12_firstBreak (.code yX12_firstBreak cX12_firstBreak 4 (some .int) :: cx_big) { frames := 4, cells := 0, slots := 0, locals := 96 } (tw_P D cs kp L E [.ref a0, .int x1] sz) (tw_Q D cs kp L (fun v kq Lq Eq => (∃ x : Int32, v = some (.int x) ∧ (-1) ≤ x.toInt ∧ x.toInt ≤ 149) ∧ kp = kq ∧ L = Lq ∧ tw_fr kp L [] [348, 349] E Eq) (va_A (va_pl L E) sz)) 0 0 (va_A (va_pl L E) sz) := by
  refine tw_ofW (by decide) (Nat.le_of_ble_eq_true rfl) ?_
  intro p e s m below meth c A ls hx hb hr hml hB hown hlocks hK hN hA TH hS hl
  have hown : s.vm.findClass "TreeMergeModel" = some m.cls := hown
  have hl : lv_has ls 4 [(0, .ref a0), (1, .int x1)] := hl
  obtain ⟨kp0, ekp⟩ : ∃ z, z = kp := ⟨_, rfl⟩
  obtain ⟨L0, eL⟩ : ∃ z, z = L := ⟨_, rfl⟩
  rw [show tw_Q D cs kp L = tw_Q D cs kp0 L0 by rw [ekp, eL]]
  have hex : ∀ a : Nat, a ∈ L0 → a ∈ L ∧ kp a = kp0 a := fun a h => ⟨by rw [← eL]; exact h, by rw [ekp]⟩
  have hF : tw_fr kp L [] [348, 349] E E := tw_fr.rf
  refine lv_aload_n hx hb dX12_firstBreak_0 rfl (lv_at hl 0 rfl) ?_
  refine lv_iload_n hx hb dX12_firstBreak_1 rfl (lv_at hl 1 rfl) ?_
  refine tw_Vc (o := a0) (ci := 12) (n := 1) (post := (fun v kq Lq Eq => (∃ x : Int32, v = some (.int x) ∧ (-1) ≤ x.toInt ∧ x.toInt ≤ 149 ∧ ((x.toInt = -1 ∧ rt_nr (rw_h E a0 x1.toInt) (rw_p E a0 x1.toInt) 150) ∨ (0 ≤ x.toInt ∧ x.toInt < 150 ∧ rw_h E a0 x1.toInt (x.toInt).toNat ≠ 0 ∧ rw_p E a0 x1.toInt (x.toInt).toNat = -1))) ∧ kp = kq ∧ L = Lq ∧ E = Eq)) (As := [.int x1]) (rest := []) ⟨hx, hb, hml, hown, hB⟩ (fun sz => tX12_root l D cs a0 x1 hm0 hk0 (by omega) (by omega) sz) cg_12_324_X12_root rfl rfl (by decide +kernel) ⟨Nat.le_of_ble_eq_true rfl, Nat.le_of_ble_eq_true rfl⟩ hK hN TH hS hA rfl hm0 hk0 (by decide) rfl hl.1 rfl (Nat.le_of_ble_eq_true rfl) dX12_firstBreak_2 ⟨Nat.le_of_ble_eq_true rfl, Nat.le_of_ble_eq_true rfl⟩ (fun v1 kp1 L1 E1 H locs hq1 hx1 TH hS => ?_)
  obtain ⟨⟨xc2, rfl, hxc2a, hxc2b, hpoxc2_0⟩, rfl, rfl, rfl⟩ := hq1
  refine W.eq (g2 := F0 m 5 ls [.int xc2]) rfl ?_
  refine lv_istore_n (lv' := [(2, .int xc2), (0, .ref a0), (1, .int x1)]) hx hb dX12_firstBreak_5 rfl hl (by decide) rfl (fun ls hl => ?_)
  refine lv_iload_n hx hb dX12_firstBreak_6 rfl (lv_at hl 0 rfl) ?_
  refine lv_istore_n (lv' := [(3, .int xc2), (2, .int xc2), (0, .ref a0), (1, .int x1)]) hx hb dX12_firstBreak_7 rfl hl (by decide) rfl (fun ls hl => ?_)
  have hJ8 : ∀ (n8 : Nat) (y8_3 : Int32) (Eg8 : Nat → va_E) (H : Heap) (locs : List Loc) (ls : Array Slot), (-1) ≤ y8_3.toInt → y8_3.toInt ≤ 149 → (y8_3.toInt = -1 ∨ (0 ≤ y8_3.toInt ∧ y8_3.toInt < 150 ∧ rw_h E a0 (x1.toInt) (y8_3.toInt).toNat ≠ 0)) → (y8_3.toInt = -1 ∨ (0 ≤ xc2.toInt ∧ xc2.toInt < 150 ∧ rw_h E a0 (x1.toInt) (xc2.toInt).toNat ≠ 0 ∧ rw_p E a0 (x1.toInt) (xc2.toInt).toNat = -1)) → (rt_mz (rw_h E a0 (x1.toInt)) (rw_p E a0 (x1.toInt)) (rw_q E a0 (x1.toInt)) (y8_3.toInt) : Int) ≤ (n8 : Int) → tw_fr kp L [] [348, 349] E Eg8 → ht_ok Eg8 a0 → rw_ok Eg8 a0 (x1.toInt) → tw_H D cs kp L Eg8 A H → va_S A s.heap H locs → lv_has ls 4 [(3, .int y8_3), (2, .int xc2), (0, .ref a0), (1, .int x1)] → W p l e { frames := 4, cells := 0, slots := 0, locals := 96 } s m [.ref a0, .int x1].toArray below meth c H locs 0 0 (MQ below (tw_Q D cs kp0 L0 (fun v kq Lq Eq => (∃ x : Int32, v = some (.int x) ∧ (-1) ≤ x.toInt ∧ x.toInt ≤ 149) ∧ kp = kq ∧ L = Lq ∧ tw_fr kp L [] [348, 349] E Eq) A) [.ref a0, .int x1].toArray s 0 0 A) (F0 m 8 ls []) := by
    intro n8
    induction n8 using Nat.strongRecOn with
    | _ n8 ih8 =>
      intro y8_3 Eg8 H locs ls hy8_3a hy8_3b hin8_0 hin8_1 hmeas8 hG8 hg0 hg1 TH hS hl
      have hF := hF.tr hG8 (fun _ h => ⟨h, rfl⟩) (by decide) (by decide)
      refine lv_iload_n hx hb dX12_firstBreak_8 rfl (lv_at hl 0 rfl) ?_
      refine lv_iconst (v := (-1)) hx hb dX12_firstBreak_9 (by decide) ?_
      refine lv_icmp_eq (tgt := 58) hx hb dX12_firstBreak_10 (by decide) (fun hc3 => ?_) (fun hc3 => ?_)
      · have hf4 : y8_3.toInt = (-1) := by have z := (fa_eq _ _).mp hc3; have : (((-1) : Int32).toInt) = (-1) := (by decide); omega
        refine lv_iconst (v := (-1)) hx hb dX12_firstBreak_58 (by decide) ?_
        exact tw_iret hx hb hr hlocks TH hS hex ⟨⟨_, rfl, (show (-1) ≤ Int32.toInt (-1) from by have : (((-1) : Int32).toInt) = (-1) := (by decide); omega), (show Int32.toInt (-1) ≤ 149 from by have : (((-1) : Int32).toInt) = (-1) := (by decide); omega)⟩, rfl, rfl, hF⟩ (Nat.le_of_ble_eq_true rfl) (Nat.le_of_ble_eq_true rfl) dX12_firstBreak_59
      · have hf5 : ¬ (y8_3.toInt = (-1)) := fun q => hc3 ((fa_eq _ _).mpr (by have : (((-1) : Int32).toInt) = (-1) := (by decide); omega))
        have hn3 := hin8_0.resolve_left (by omega)
        have ht3 := hin8_1.resolve_left (by omega)
        refine lv_iload_n hx hb dX12_firstBreak_13 rfl (lv_at hl 0 rfl) ?_
        refine lv_iload_n hx hb dX12_firstBreak_14 rfl (lv_at hl 1 rfl) ?_
        have hJ27 : ∀  (H : Heap) (locs : List Loc) (ls : Array Slot), tw_H D cs kp L Eg8 A H → va_S A s.heap H locs → lv_has ls 4 [(3, .int y8_3), (2, .int xc2), (0, .ref a0), (1, .int x1)] → W p l e { frames := 4, cells := 0, slots := 0, locals := 96 } s m [.ref a0, .int x1].toArray below meth c H locs 0 0 (MQ below (tw_Q D cs kp0 L0 (fun v kq Lq Eq => (∃ x : Int32, v = some (.int x) ∧ (-1) ≤ x.toInt ∧ x.toInt ≤ 149) ∧ kp = kq ∧ L = Lq ∧ tw_fr kp L [] [348, 349] E Eq) A) [.ref a0, .int x1].toArray s 0 0 A) (F0 m 27 ls []) := by
          intro H locs ls TH hS hl
          refine lv_aload_n hx hb dX12_firstBreak_27 rfl (lv_at hl 2 rfl) ?_
          refine lv_iload_n hx hb dX12_firstBreak_28 rfl (lv_at hl 3 rfl) ?_
          refine lv_iload_n hx hb dX12_firstBreak_29 rfl (lv_at hl 0 rfl) ?_
          refine tw_Vc (o := a0) (ci := 12) (n := 2) (post := (fun v kq Lq Eq => (∃ x : Int32, v = some (.int x) ∧ 0 ≤ x.toInt ∧ x.toInt ≤ 1) ∧ kp = kq ∧ L = Lq ∧ tw_fr kp L [] [348, 349] Eg8 Eq)) (As := [.int x1, .int y8_3]) (rest := []) ⟨hx, hb, hml, hown, hB⟩ (fun sz => tX12_fitsBut l D cs a0 x1 y8_3 hm0 hk0 (by omega) (by omega) (by omega) (by omega) (by  have fh := rw_h_fr TH hF hm0 hk0 (by decide) (by decide) (by decide) (i := x1.toInt) (by omega); have fp := rw_p_fr TH hF hm0 hk0 (by decide) (by decide) (by decide) (i := x1.toInt) (by omega); have fq := rw_q_fr TH hF hm0 hk0 (by decide) (by decide) (by decide) (i := x1.toInt) (by omega); intro q15; have hn3 := hin8_0.resolve_left (by omega); exact ht_le hg0 hn3.1 hn3.2.1 (by rw [fh]; exact hn3.2.2) q15) hg0 sz) cg_12_327_X12_fitsBut rfl rfl (by decide +kernel) ⟨Nat.le_of_ble_eq_true rfl, Nat.le_of_ble_eq_true rfl⟩ hK hN TH hS hA rfl hm0 hk0 (by decide) rfl hl.1 rfl (Nat.le_of_ble_eq_true rfl) dX12_firstBreak_30 ⟨Nat.le_of_ble_eq_true rfl, Nat.le_of_ble_eq_true rfl⟩ (fun v6 kp6 L6 E6 H locs hq6 hx6 TH hS => ?_)
          obtain ⟨⟨xc7, rfl, hxc7a, hxc7b⟩, rfl, rfl, hst6⟩ := hq6
          have hF := hF.tr hst6 (fun _ h => ⟨h, rfl⟩) (by decide) (by decide)
          have hG8 := hG8.tr hst6 (fun _ h => ⟨h, rfl⟩) (by decide) (by decide)
          have hg0 : ht_ok E6 a0 := ht_ok_fr TH hst6 hm0 hk0 (by decide) (by decide) hg0
          have hg1 : rw_ok E6 a0 (x1.toInt) := rw_ok_fr TH hst6 hm0 hk0 (by decide) (by decide) (by omega) hg1
          refine W.eq (g2 := F0 m 33 ls [.int xc7]) rfl ?_
          refine lv_if_eq (tgt := 45) hx hb dX12_firstBreak_33 (by decide) (fun hc8 => ?_) (fun hc8 => ?_)
          · have hf9 : xc7.toInt = 0 := by have z := (fa_eq _ _).mp hc8; have : ((0 : Int32).toInt) = 0 := (by decide); omega
            refine lv_iload_n hx hb dX12_firstBreak_45 rfl (lv_at hl 0 rfl) ?_
            exact tw_iret hx hb hr hlocks TH hS hex ⟨⟨_, rfl, (show (-1) ≤ Int32.toInt y8_3 from by  omega), (show Int32.toInt y8_3 ≤ 149 from by  omega)⟩, rfl, rfl, hF⟩ (Nat.le_of_ble_eq_true rfl) (Nat.le_of_ble_eq_true rfl) dX12_firstBreak_46
          · have hf10 : ¬ (xc7.toInt = 0) := fun q => hc8 ((fa_eq _ _).mpr (by have : ((0 : Int32).toInt) = 0 := (by decide); omega))
            refine lv_aload_n hx hb dX12_firstBreak_36 rfl (lv_at hl 2 rfl) ?_
            refine lv_iload_n hx hb dX12_firstBreak_37 rfl (lv_at hl 3 rfl) ?_
            refine lv_iload_n hx hb dX12_firstBreak_38 rfl (lv_at hl 0 rfl) ?_
            refine tw_Vc (o := a0) (ci := 12) (n := 2) (post := (fun v kq Lq Eq => (∃ x : Int32, v = some (.int x) ∧ 0 ≤ x.toInt ∧ x.toInt ≤ 1) ∧ kp = kq ∧ L = Lq ∧ E6 = Eq)) (As := [.int x1, .int y8_3]) (rest := []) ⟨hx, hb, hml, hown, hB⟩ (fun sz => tX12_hasLike l D cs a0 x1 y8_3 hm0 hk0 (by omega) (by omega) (by omega) (by omega) (by  have fh := rw_h_fr TH hF hm0 hk0 (by decide) (by decide) (by decide) (i := x1.toInt) (by omega); have fp := rw_p_fr TH hF hm0 hk0 (by decide) (by decide) (by decide) (i := x1.toInt) (by omega); have fq := rw_q_fr TH hF hm0 hk0 (by decide) (by decide) (by decide) (i := x1.toInt) (by omega); intro q15; have hn3 := hin8_0.resolve_left (by omega); exact ht_le hg0 hn3.1 hn3.2.1 (by rw [fh]; exact hn3.2.2) q15) hg0 sz) cg_12_330_X12_hasLike rfl rfl (by decide +kernel) ⟨Nat.le_of_ble_eq_true rfl, Nat.le_of_ble_eq_true rfl⟩ hK hN TH hS hA rfl hm0 hk0 (by decide) rfl hl.1 rfl (Nat.le_of_ble_eq_true rfl) dX12_firstBreak_39 ⟨Nat.le_of_ble_eq_true rfl, Nat.le_of_ble_eq_true rfl⟩ (fun v11 kp11 L11 E11 H locs hq11 hx11 TH hS => ?_)
            obtain ⟨⟨xc12, rfl, hxc12a, hxc12b⟩, rfl, rfl, rfl⟩ := hq11
            refine W.eq (g2 := F0 m 42 ls [.int xc12]) rfl ?_
            refine lv_if_eq (tgt := 47) hx hb dX12_firstBreak_42 (by decide) (fun hc13 => ?_) (fun hc13 => ?_)
            · have hf14 : xc12.toInt = 0 := by have z := (fa_eq _ _).mp hc13; have : ((0 : Int32).toInt) = 0 := (by decide); omega
              refine lv_aload_n hx hb dX12_firstBreak_47 rfl (lv_at hl 2 rfl) ?_
              refine lv_iload_n hx hb dX12_firstBreak_48 rfl (lv_at hl 3 rfl) ?_
              refine lv_iload_n hx hb dX12_firstBreak_49 rfl (lv_at hl 0 rfl) ?_
              refine lv_iload_n hx hb dX12_firstBreak_50 rfl (lv_at hl 1 rfl) ?_
              refine tw_Vc (o := a0) (ci := 12) (n := 3) (post := (fun v kq Lq Eq => (∃ x : Int32, v = some (.int x) ∧ (-1) ≤ x.toInt ∧ x.toInt ≤ 149 ∧ (x.toInt = -1 ∨ (rw_h E6 a0 x1.toInt (x.toInt).toNat ≠ 0 ∧ rt_lt (rt_K (rw_p E6 a0 x1.toInt) (rw_q E6 a0 x1.toInt) y8_3.toInt) (rt_K (rw_p E6 a0 x1.toInt) (rw_q E6 a0 x1.toInt) x.toInt)))) ∧ kp = kq ∧ L = Lq ∧ E6 = Eq)) (As := [.int x1, .int y8_3, .int xc2]) (rest := []) ⟨hx, hb, hml, hown, hB⟩ (fun sz => tX12_next l D cs a0 x1 y8_3 xc2 hm0 hk0 (by omega) (by omega) (by omega) (by omega) (by omega) (by omega) (by  have fh := rw_h_fr TH hF hm0 hk0 (by decide) (by decide) (by decide) (i := x1.toInt) (by omega); have fp := rw_p_fr TH hF hm0 hk0 (by decide) (by decide) (by decide) (i := x1.toInt) (by omega); have fq := rw_q_fr TH hF hm0 hk0 (by decide) (by decide) (by decide) (i := x1.toInt) (by omega); have hn3 := hin8_0.resolve_left (by omega); rw [fh]; exact hn3.2.2) (by  have fh := rw_h_fr TH hF hm0 hk0 (by decide) (by decide) (by decide) (i := x1.toInt) (by omega); have fp := rw_p_fr TH hF hm0 hk0 (by decide) (by decide) (by decide) (i := x1.toInt) (by omega); have fq := rw_q_fr TH hF hm0 hk0 (by decide) (by decide) (by decide) (i := x1.toInt) (by omega); have ht3 := hin8_1.resolve_left (by omega); rw [fh]; exact ht3.2.2.1) (by  have fh := rw_h_fr TH hF hm0 hk0 (by decide) (by decide) (by decide) (i := x1.toInt) (by omega); have fp := rw_p_fr TH hF hm0 hk0 (by decide) (by decide) (by decide) (i := x1.toInt) (by omega); have fq := rw_q_fr TH hF hm0 hk0 (by decide) (by decide) (by decide) (i := x1.toInt) (by omega); have ht3 := hin8_1.resolve_left (by omega); rw [fp]; exact ht3.2.2.2) hg1 sz) cg_12_278_X12_next rfl rfl (by decide +kernel) ⟨Nat.le_of_ble_eq_true rfl, Nat.le_of_ble_eq_true rfl⟩ hK hN TH hS hA rfl hm0 hk0 (by decide) rfl hl.1 rfl (Nat.le_of_ble_eq_true rfl) dX12_firstBreak_51 ⟨Nat.le_of_ble_eq_true rfl, Nat.le_of_ble_eq_true rfl⟩ (fun v15 kp15 L15 E15 H locs hq15 hx15 TH hS => ?_)
              obtain ⟨⟨xc16, rfl, hxc16a, hxc16b, hpoxc16_0⟩, rfl, rfl, rfl⟩ := hq15
              refine W.eq (g2 := F0 m 54 ls [.int xc16]) rfl ?_
              refine lv_istore_n (lv' := [(3, .int xc16), (2, .int xc2), (0, .ref a0), (1, .int x1)]) hx hb dX12_firstBreak_54 rfl hl (by decide) rfl (fun ls hl => ?_)
              refine lv_goto (tgt := 8) hx hb dX12_firstBreak_55 (by decide) ?_
              exact ih8 (n8 - 1) (by  have fh := rw_h_fr TH hF hm0 hk0 (by decide) (by decide) (by decide) (i := x1.toInt) (by omega); have fp := rw_p_fr TH hF hm0 hk0 (by decide) (by decide) (by decide) (i := x1.toInt) (by omega); have fq := rw_q_fr TH hF hm0 hk0 (by decide) (by decide) (by decide) (i := x1.toInt) (by omega); have hn3 := hin8_0.resolve_left (by omega); have hfall := rt_mz_fall (h := rw_h E a0 (x1.toInt)) (p := rw_p E a0 (x1.toInt)) (q := rw_q E a0 (x1.toInt)) (n := y8_3.toInt) (c := xc16.toInt) hn3.1 (by rcases hpoxc16_0 with q | q; exact Or.inl q; (by_cases hz : xc16.toInt = -1; exact Or.inl hz; (rw [fh, fp, fq] at q; exact Or.inr ⟨by omega, by omega, q.1, q.2⟩)));  omega) xc16 _ _ _ ls (by omega) (by omega) (by  have fh := rw_h_fr TH hF hm0 hk0 (by decide) (by decide) (by decide) (i := x1.toInt) (by omega); have fp := rw_p_fr TH hF hm0 hk0 (by decide) (by decide) (by decide) (i := x1.toInt) (by omega); have fq := rw_q_fr TH hF hm0 hk0 (by decide) (by decide) (by decide) (i := x1.toInt) (by omega); rcases hpoxc16_0 with q | q; exact Or.inl q; (by_cases hz : xc16.toInt = -1; exact Or.inl hz; (rw [fh] at q; exact Or.inr ⟨by omega, by omega, q.1⟩))) (by  exact Or.inr (hin8_1.resolve_left (by omega))) (by  have fh := rw_h_fr TH hF hm0 hk0 (by decide) (by decide) (by decide) (i := x1.toInt) (by omega); have fp := rw_p_fr TH hF hm0 hk0 (by decide) (by decide) (by decide) (i := x1.toInt) (by omega); have fq := rw_q_fr TH hF hm0 hk0 (by decide) (by decide) (by decide) (i := x1.toInt) (by omega); have hn3 := hin8_0.resolve_left (by omega); have hfall := rt_mz_fall (h := rw_h E a0 (x1.toInt)) (p := rw_p E a0 (x1.toInt)) (q := rw_q E a0 (x1.toInt)) (n := y8_3.toInt) (c := xc16.toInt) hn3.1 (by rcases hpoxc16_0 with q | q; exact Or.inl q; (by_cases hz : xc16.toInt = -1; exact Or.inl hz; (rw [fh, fp, fq] at q; exact Or.inr ⟨by omega, by omega, q.1, q.2⟩)));  omega) hG8 hg0 hg1 TH hS (lv_sub hl [0, 1, 2, 3] rfl)
            · have hf17 : ¬ (xc12.toInt = 0) := fun q => hc13 ((fa_eq _ _).mpr (by have : ((0 : Int32).toInt) = 0 := (by decide); omega))
              refine lv_iload_n hx hb dX12_firstBreak_45 rfl (lv_at hl 0 rfl) ?_
              exact tw_iret hx hb hr hlocks TH hS hex ⟨⟨_, rfl, (show (-1) ≤ Int32.toInt y8_3 from by  omega), (show Int32.toInt y8_3 ≤ 149 from by  omega)⟩, rfl, rfl, hF⟩ (Nat.le_of_ble_eq_true rfl) (Nat.le_of_ble_eq_true rfl) dX12_firstBreak_46
        refine lv_icmp_ne (tgt := 27) hx hb dX12_firstBreak_15 (by decide) (fun hc18 => ?_) (fun hc18 => ?_)
        · have hf19 : ¬ (y8_3.toInt = xc2.toInt) := fun q => hc18 ((fa_eq _ _).mpr (by  omega))
          exact hJ27  _ _ ls  TH hS (lv_sub hl [0, 1, 2, 3] rfl)
        · have hf20 : y8_3.toInt = xc2.toInt := by have z := (fa_eq _ _).mp hc18;  omega
          refine lv_aload_n hx hb dX12_firstBreak_18 rfl (lv_at hl 2 rfl) ?_
          refine lv_iload_n hx hb dX12_firstBreak_19 rfl (lv_at hl 3 rfl) ?_
          refine lv_iload_n hx hb dX12_firstBreak_20 rfl (lv_at hl 0 rfl) ?_
          refine tw_Vc (o := a0) (ci := 12) (n := 2) (post := (fun v kq Lq Eq => (∃ x : Int32, v = some (.int x) ∧ 0 ≤ x.toInt ∧ x.toInt ≤ 9) ∧ kp = kq ∧ L = Lq ∧ Eg8 = Eq)) (As := [.int x1, .int y8_3]) (rest := []) ⟨hx, hb, hml, hown, hB⟩ (fun sz => tX12_kindOf l D cs a0 x1 y8_3 hm0 hk0 (by omega) (by omega) (by omega) (by omega) (by  have fh := rw_h_fr TH hF hm0 hk0 (by decide) (by decide) (by decide) (i := x1.toInt) (by omega); have fp := rw_p_fr TH hF hm0 hk0 (by decide) (by decide) (by decide) (i := x1.toInt) (by omega); have fq := rw_q_fr TH hF hm0 hk0 (by decide) (by decide) (by decide) (i := x1.toInt) (by omega); intro q15; have hn3 := hin8_0.resolve_left (by omega); exact ht_le hg0 hn3.1 hn3.2.1 (by rw [fh]; exact hn3.2.2) q15) sz) cg_12_301_X12_kindOf rfl rfl (by decide +kernel) ⟨Nat.le_of_ble_eq_true rfl, Nat.le_of_ble_eq_true rfl⟩ hK hN TH hS hA rfl hm0 hk0 (by decide) rfl hl.1 rfl (Nat.le_of_ble_eq_true rfl) dX12_firstBreak_21 ⟨Nat.le_of_ble_eq_true rfl, Nat.le_of_ble_eq_true rfl⟩ (fun v21 kp21 L21 E21 H locs hq21 hx21 TH hS => ?_)
          obtain ⟨⟨xc22, rfl, hxc22a, hxc22b⟩, rfl, rfl, rfl⟩ := hq21
          refine W.eq (g2 := F0 m 24 ls [.int xc22]) rfl ?_
          refine lv_if_ne (tgt := 45) hx hb dX12_firstBreak_24 (by decide) (fun hc23 => ?_) (fun hc23 => ?_)
          · have hf24 : ¬ (xc22.toInt = 0) := fun q => hc23 ((fa_eq _ _).mpr (by have : ((0 : Int32).toInt) = 0 := (by decide); omega))
            refine lv_iload_n hx hb dX12_firstBreak_45 rfl (lv_at hl 0 rfl) ?_
            exact tw_iret hx hb hr hlocks TH hS hex ⟨⟨_, rfl, (show (-1) ≤ Int32.toInt y8_3 from by  omega), (show Int32.toInt y8_3 ≤ 149 from by  omega)⟩, rfl, rfl, hF⟩ (Nat.le_of_ble_eq_true rfl) (Nat.le_of_ble_eq_true rfl) dX12_firstBreak_46
          · have hf25 : xc22.toInt = 0 := by have z := (fa_eq _ _).mp hc23; have : ((0 : Int32).toInt) = 0 := (by decide); omega
            exact hJ27  _ _ ls  TH hS (lv_sub hl [0, 1, 2, 3] rfl)
  exact hJ8 152 xc2 _ _ _ ls (by omega) (by omega) (by  rcases hpoxc2_0 with q | q; exact Or.inl q.1; exact Or.inr ⟨q.1, q.2.1, q.2.2.1⟩) (by  rcases hpoxc2_0 with q | q; exact Or.inl q.1; exact Or.inr q) (by  have := rt_mz_le (h := rw_h E a0 (x1.toInt)) (p := rw_p E a0 (x1.toInt)) (q := rw_q E a0 (x1.toInt)) (n := xc2.toInt); omega) tw_fr.rf hg0 hg1 TH hS (lv_sub hl [0, 1, 2, 3] rfl)
set_option maxHeartbeats 4000000 in
set_option maxRecDepth 100000 in
theorem tX12_isTouched (l : Launch) (D : va_G) (cs : Nat → ClassId) {kp : Nat → Nat} {L : List Nat} {E : Nat → va_E} (a0 : Nat) (x1 : Int32) (x2 : Int32) (x3 : Int32) (hm0 : a0 ∈ L) (hk0 : kp a0 = 12) (hp1a : 0 ≤ x1.toInt) (hp1b : x1.toInt ≤ 15) (hp3a : 0 ≤ x3.toInt) (hp3b : x3.toInt ≤ 15) (hg0 : rw_ok E a0 (x1.toInt)) (sz : Nat) : Met l yX12_isTouched (.code yX12_isTouched cX12_isTouched 5 (some .boolean) :: cx_big) { frames := 1, cells := 0, slots := 0, locals := 24 } (tw_P D cs kp L E [.ref a0, .int x1, .int x2, .int x3] sz) (tw_Q D cs kp L (fun v kq Lq Eq => (∃ x : Int32, v = some (.int x) ∧ 0 ≤ x.toInt ∧ x.toInt ≤ 1) ∧ kp = kq ∧ L = Lq ∧ E = Eq) (va_A (va_pl L E) sz)) 0 0 (va_A (va_pl L E) sz) := by
  refine tw_ofW (by decide) (Nat.le_of_ble_eq_true rfl) ?_
  intro p e s m below meth c A ls hx hb hr hml hB hown hlocks hK hN hA TH hS hl
  have hown : s.vm.findClass "TreeMergeModel" = some m.cls := hown
  have hl : lv_has ls 5 [(0, .ref a0), (1, .int x1), (2, .int x2), (3, .int x3)] := hl
  obtain ⟨kp0, ekp⟩ : ∃ z, z = kp := ⟨_, rfl⟩
  obtain ⟨L0, eL⟩ : ∃ z, z = L := ⟨_, rfl⟩
  rw [show tw_Q D cs kp L = tw_Q D cs kp0 L0 by rw [ekp, eL]]
  have hex : ∀ a : Nat, a ∈ L0 → a ∈ L ∧ kp a = kp0 a := fun a h => ⟨by rw [← eL]; exact h, by rw [ekp]⟩
  refine lv_iconst (v := 0) hx hb dX12_isTouched_0 (by decide) ?_
  refine lv_istore (lv' := [(4, .int 0), (0, .ref a0), (1, .int x1), (2, .int x2), (3, .int x3)]) hx hb dX12_isTouched_1 hl (by decide) rfl (fun ls hl => ?_)
  have hJ3 : ∀ (n3 : Nat) (y3_4 : Int32) (H : Heap) (locs : List Loc) (ls : Array Slot), 0 ≤ y3_4.toInt → y3_4.toInt ≤ 150 → 150 - y3_4.toInt ≤ (n3 : Int) → tw_H D cs kp L E A H → va_S A s.heap H locs → lv_has ls 5 [(4, .int y3_4), (0, .ref a0), (1, .int x1), (2, .int x2), (3, .int x3)] → W p l e { frames := 1, cells := 0, slots := 0, locals := 24 } s m [.ref a0, .int x1, .int x2, .int x3].toArray below meth c H locs 0 0 (MQ below (tw_Q D cs kp0 L0 (fun v kq Lq Eq => (∃ x : Int32, v = some (.int x) ∧ 0 ≤ x.toInt ∧ x.toInt ≤ 1) ∧ kp = kq ∧ L = Lq ∧ E = Eq) A) [.ref a0, .int x1, .int x2, .int x3].toArray s 0 0 A) (F0 m 3 ls []) := by
    intro n3
    induction n3 using Nat.strongRecOn with
    | _ n3 ih3 =>
      intro y3_4 H locs ls hy3_4a hy3_4b hmeas3 TH hS hl
      refine lv_iload hx hb dX12_isTouched_3 (lv_at hl 0 rfl) ?_
      refine lv_sipush (v := 150) hx hb dX12_isTouched_5 (by decide) ?_
      refine lv_icmp_ge (tgt := 53) hx hb dX12_isTouched_8 (by decide) (fun hc1 => ?_) (fun hc1 => ?_)
      · have hf2 : 150 ≤ y3_4.toInt := by have z := (fa_le _ _).mp hc1; have : ((150 : Int32).toInt) = 150 := (by decide); omega
        refine lv_iconst (v := 0) hx hb dX12_isTouched_53 (by decide) ?_
        exact tw_zret hx hb hr hlocks (by decide) TH hS hex ⟨⟨_, rfl, (show 0 ≤ Int32.toInt 0 from by have : ((0 : Int32).toInt) = 0 := (by decide); omega), (show Int32.toInt 0 ≤ 1 from by have : ((0 : Int32).toInt) = 0 := (by decide); omega)⟩, rfl, rfl, rfl⟩ (Nat.le_of_ble_eq_true rfl) (Nat.le_of_ble_eq_true rfl) dX12_isTouched_54
      · have hf3 : ¬ (150 ≤ y3_4.toInt) := fun q => hc1 ((fa_le _ _).mpr (by have : ((150 : Int32).toInt) = 150 := (by decide); omega))
        refine lv_aload_n hx hb dX12_isTouched_11 rfl (lv_at hl 1 rfl) ?_
        refine tw_get (ci := 12) (C := RX12) (T := TX12) (N := 64) hx hb hB cx_inX12 hown hK TH hm0 hk0 rfl ⟨by decide, rfl⟩ 16 (by decide) cw_1209 (fun _ h9 => h9) dX12_isTouched_12 (fun hv => ?_)
        obtain ⟨xr4, hxr4, hmxr4, hkxr4⟩ : ∃ a : Nat, tw_fv E a0 16 = .ref a ∧ a ∈ L ∧ kp a = 316 := hv
        rw [hxr4]
        refine lv_iload_n hx hb dX12_isTouched_15 rfl (lv_at hl 2 rfl) ?_
        refine tw_aald (k := 316) (t0 := 5) (n := 16) (lo := 326) (hi := 0) (ty := .boolean) hx hb hK TH hmxr4 hkxr4 (by decide) rfl rfl (i := x1) (vp_in_iff.mpr ⟨by  omega, by  omega⟩) dX12_isTouched_16 (fun xr5 exr5 hmxr5 hkxr5 => ?_)
        have hkxr5 : kp xr5 = 326 := hkxr5
        refine lv_iload hx hb dX12_isTouched_17 (lv_at hl 0 rfl) ?_
        refine tw_zald (k := 326) (t0 := 3) (n := 150) (lo := 0) (hi := 1) hx hb hK TH hmxr5 hkxr5 (by decide) rfl rfl (i := y3_4) (vp_in_iff.mpr ⟨by  omega, by  omega⟩) dX12_isTouched_19 (fun hxe6a hxe6b => ?_)
        obtain ⟨xe6, exe6⟩ : ∃ z : Int32, tw_iv E xr5 (Int32.toNatClampNeg y3_4) = z := ⟨_, rfl⟩
        rw [exe6] at hxe6a hxe6b ⊢
        have hJ47 : ∀  (H : Heap) (locs : List Loc) (ls : Array Slot), tw_H D cs kp L E A H → va_S A s.heap H locs → lv_has ls 5 [(4, .int y3_4), (0, .ref a0), (1, .int x1), (2, .int x2), (3, .int x3)] → W p l e { frames := 1, cells := 0, slots := 0, locals := 24 } s m [.ref a0, .int x1, .int x2, .int x3].toArray below meth c H locs 0 0 (MQ below (tw_Q D cs kp0 L0 (fun v kq Lq Eq => (∃ x : Int32, v = some (.int x) ∧ 0 ≤ x.toInt ∧ x.toInt ≤ 1) ∧ kp = kq ∧ L = Lq ∧ E = Eq) A) [.ref a0, .int x1, .int x2, .int x3].toArray s 0 0 A) (F0 m 47 ls []) := by
          intro H locs ls TH hS hl
          obtain ⟨zi7, ezi7⟩ : ∃ z : Int32, z = y3_4 + Int32.ofInt 1 := ⟨_, rfl⟩
          have hzi7 : zi7.toInt = y3_4.toInt + 1 := by rw [ezi7]; have : ((Int32.ofInt 1).toInt) = 1 := (by decide);  exact (ia_add (by omega) (by omega)).trans (by omega)
          refine lv_iinc (v := zi7) (lv' := [(4, .int zi7), (0, .ref a0), (1, .int x1), (2, .int x2), (3, .int x3)]) hx hb dX12_isTouched_47 hl (k := 0) rfl ezi7.symm (by decide) rfl (fun ls hl => ?_)
          refine lv_goto (tgt := 3) hx hb dX12_isTouched_50 (by decide) ?_
          exact ih3 (n3 - 1) (by   omega) zi7 _ _ ls (by omega) (by omega) (by   omega) TH hS (lv_sub hl [0, 1, 2, 3, 4] rfl)
        refine lv_if_eq (tgt := 47) hx hb dX12_isTouched_20 (by decide) (fun hc8 => ?_) (fun hc8 => ?_)
        · have hf9 : xe6.toInt = 0 := by have z := (fa_eq _ _).mp hc8; have : ((0 : Int32).toInt) = 0 := (by decide); omega
          exact hJ47  _ _ ls  TH hS (lv_sub hl [0, 1, 2, 3, 4] rfl)
        · have hf10 : ¬ (xe6.toInt = 0) := fun q => hc8 ((fa_eq _ _).mpr (by have : ((0 : Int32).toInt) = 0 := (by decide); omega))
          refine lv_aload_n hx hb dX12_isTouched_23 rfl (lv_at hl 1 rfl) ?_
          refine lv_iload_n hx hb dX12_isTouched_24 rfl (lv_at hl 2 rfl) ?_
          refine lv_iload hx hb dX12_isTouched_25 (lv_at hl 0 rfl) ?_
          refine lv_iload_n hx hb dX12_isTouched_27 rfl (lv_at hl 4 rfl) ?_
          refine tw_Vc (o := a0) (ci := 12) (n := 3) (post := (fun v kq Lq Eq => (∃ x : Int32, v = some (.int x) ∧ 0 ≤ x.toInt ∧ x.toInt ≤ 1) ∧ kp = kq ∧ L = Lq ∧ E = Eq)) (As := [.int x1, .int y3_4, .int x3]) (rest := []) ⟨hx, hb, hml, hown, hB⟩ (fun sz => tX12_isOther l D cs a0 x1 y3_4 x3 hm0 hk0 (by omega) (by omega) (by omega) (by omega) (by omega) (by omega) sz) cg_12_458_X12_isOther rfl rfl (by decide +kernel) ⟨Nat.le_of_ble_eq_true rfl, Nat.le_of_ble_eq_true rfl⟩ hK hN TH hS hA rfl hm0 hk0 (by decide) rfl hl.1 rfl (Nat.le_of_ble_eq_true rfl) dX12_isTouched_28 ⟨Nat.le_of_ble_eq_true rfl, Nat.le_of_ble_eq_true rfl⟩ (fun v11 kp11 L11 E11 H locs hq11 hx11 TH hS => ?_)
          obtain ⟨⟨xc12, rfl, hxc12a, hxc12b⟩, rfl, rfl, rfl⟩ := hq11
          refine W.eq (g2 := F0 m 31 ls [.int xc12]) rfl ?_
          refine lv_if_eq (tgt := 47) hx hb dX12_isTouched_31 (by decide) (fun hc13 => ?_) (fun hc13 => ?_)
          · have hf14 : xc12.toInt = 0 := by have z := (fa_eq _ _).mp hc13; have : ((0 : Int32).toInt) = 0 := (by decide); omega
            exact hJ47  _ _ ls  TH hS (lv_sub hl [0, 1, 2, 3, 4] rfl)
          · have hf15 : ¬ (xc12.toInt = 0) := fun q => hc13 ((fa_eq _ _).mpr (by have : ((0 : Int32).toInt) = 0 := (by decide); omega))
            refine lv_aload_n hx hb dX12_isTouched_34 rfl (lv_at hl 1 rfl) ?_
            refine lv_iload_n hx hb dX12_isTouched_35 rfl (lv_at hl 2 rfl) ?_
            refine lv_iload hx hb dX12_isTouched_36 (lv_at hl 0 rfl) ?_
            refine lv_iload_n hx hb dX12_isTouched_38 rfl (lv_at hl 3 rfl) ?_
            refine tw_Vc (o := a0) (ci := 12) (n := 3) (post := (fun v kq Lq Eq => (∃ x : Int32, v = some (.int x) ∧ 0 ≤ x.toInt ∧ x.toInt ≤ 1 ∧ (x.toInt = 0 → 0 ≤ x2.toInt → ∀ k : Nat, rt_up (rw_p E a0 x1.toInt) k y3_4.toInt ≠ x2.toInt)) ∧ kp = kq ∧ L = Lq ∧ E = Eq)) (As := [.int x1, .int y3_4, .int x2]) (rest := []) ⟨hx, hb, hml, hown, hB⟩ (fun sz => tX12_isUnder l D cs a0 x1 y3_4 x2 hm0 hk0 (by omega) (by omega) (by omega) (by omega) (by  have rf_xe6 : rw_h E a0 (x1.toInt) (y3_4.toInt).toNat = xe6.toInt := rw_h_of (m := a0) (i := x1) (c := y3_4) hxr4 exr5 exe6; rw [rf_xe6]; omega) hg0 sz) cg_12_442_X12_isUnder rfl rfl (by decide +kernel) ⟨Nat.le_of_ble_eq_true rfl, Nat.le_of_ble_eq_true rfl⟩ hK hN TH hS hA rfl hm0 hk0 (by decide) rfl hl.1 rfl (Nat.le_of_ble_eq_true rfl) dX12_isTouched_39 ⟨Nat.le_of_ble_eq_true rfl, Nat.le_of_ble_eq_true rfl⟩ (fun v16 kp16 L16 E16 H locs hq16 hx16 TH hS => ?_)
            obtain ⟨⟨xc17, rfl, hxc17a, hxc17b, hpoxc17_0⟩, rfl, rfl, rfl⟩ := hq16
            refine W.eq (g2 := F0 m 42 ls [.int xc17]) rfl ?_
            refine lv_if_eq (tgt := 47) hx hb dX12_isTouched_42 (by decide) (fun hc18 => ?_) (fun hc18 => ?_)
            · have hf19 : xc17.toInt = 0 := by have z := (fa_eq _ _).mp hc18; have : ((0 : Int32).toInt) = 0 := (by decide); omega
              exact hJ47  _ _ ls  TH hS (lv_sub hl [0, 1, 2, 3, 4] rfl)
            · have hf20 : ¬ (xc17.toInt = 0) := fun q => hc18 ((fa_eq _ _).mpr (by have : ((0 : Int32).toInt) = 0 := (by decide); omega))
              refine lv_iconst (v := 1) hx hb dX12_isTouched_45 (by decide) ?_
              exact tw_zret hx hb hr hlocks (by decide) TH hS hex ⟨⟨_, rfl, (show 0 ≤ Int32.toInt 1 from by have : ((1 : Int32).toInt) = 1 := (by decide); omega), (show Int32.toInt 1 ≤ 1 from by have : ((1 : Int32).toInt) = 1 := (by decide); omega)⟩, rfl, rfl, rfl⟩ (Nat.le_of_ble_eq_true rfl) (Nat.le_of_ble_eq_true rfl) dX12_isTouched_46
  exact hJ3 151 (0 : Int32) _ _ ls (by have : ((0 : Int32).toInt) = 0 := (by decide); omega) (by have : ((0 : Int32).toInt) = 0 := (by decide); omega) (by have : ((0 : Int32).toInt) = 0 := (by decide);  omega) TH hS (lv_sub hl [0, 1, 2, 3, 4] rfl)
set_option maxHeartbeats 4000000 in
set_option maxRecDepth 100000 in
theorem tX12_sideOf (l : Launch) (D : va_G) (cs : Nat → ClassId) {kp : Nat → Nat} {L : List Nat} {E : Nat → va_E} (a0 : Nat) (x1 : Int32) (x2 : Int32) (x3 : Int32) (x4 : Int32) (x5 : Int32) (hm0 : a0 ∈ L) (hk0 : kp a0 = 12) (hp1a : 0 ≤ x1.toInt) (hp1b : x1.toInt ≤ 149) (hp2a : 0 ≤ x2.toInt) (hp2b : x2.toInt ≤ 15) (hp3a : 0 ≤ x3.toInt) (hp3b : x3.toInt ≤ 15) (hp4a : 0 ≤ x4.toInt) (hp4b : x4.toInt ≤ 15) (hp5a : 0 ≤ x5.toInt) (hp5b : x5.toInt ≤ 1) (sz : Nat) : Met l yX12_sideOf (.code yX12_sideOf cX12_sideOf 8 (some .int) :: cx_big) { frames := 1, cells := 0, slots := 0, locals := 25 } (tw_P D cs kp L E [.ref a0, .int x1, .int x2, .int x3, .int x4, .int x5] sz) (tw_Q D cs kp L (fun v kq Lq Eq => (∃ x : Int32, v = some (.int x) ∧ (-2) ≤ x.toInt ∧ x.toInt ≤ 15) ∧ kp = kq ∧ L = Lq ∧ E = Eq) (va_A (va_pl L E) sz)) 0 0 (va_A (va_pl L E) sz) := by
  refine tw_ofW (by decide) (Nat.le_of_ble_eq_true rfl) ?_
  intro p e s m below meth c A ls hx hb hr hml hB hown hlocks hK hN hA TH hS hl
  have hown : s.vm.findClass "TreeMergeModel" = some m.cls := hown
  have hl : lv_has ls 8 [(0, .ref a0), (1, .int x1), (2, .int x2), (3, .int x3), (4, .int x4), (5, .int x5)] := hl
  obtain ⟨kp0, ekp⟩ : ∃ z, z = kp := ⟨_, rfl⟩
  obtain ⟨L0, eL⟩ : ∃ z, z = L := ⟨_, rfl⟩
  rw [show tw_Q D cs kp L = tw_Q D cs kp0 L0 by rw [ekp, eL]]
  have hex : ∀ a : Nat, a ∈ L0 → a ∈ L ∧ kp a = kp0 a := fun a h => ⟨by rw [← eL]; exact h, by rw [ekp]⟩
  refine lv_aload_n hx hb dX12_sideOf_0 rfl (lv_at hl 0 rfl) ?_
  refine tw_get (ci := 12) (C := RX12) (T := TX12) (N := 64) hx hb hB cx_inX12 hown hK TH hm0 hk0 rfl ⟨by decide, rfl⟩ 16 (by decide) cw_1209 (fun _ h9 => h9) dX12_sideOf_1 (fun hv => ?_)
  obtain ⟨xr1, hxr1, hmxr1, hkxr1⟩ : ∃ a : Nat, tw_fv E a0 16 = .ref a ∧ a ∈ L ∧ kp a = 316 := hv
  rw [hxr1]
  refine lv_iload_n hx hb dX12_sideOf_4 rfl (lv_at hl 2 rfl) ?_
  refine tw_aald (k := 316) (t0 := 5) (n := 16) (lo := 326) (hi := 0) (ty := .boolean) hx hb hK TH hmxr1 hkxr1 (by decide) rfl rfl (i := x2) (vp_in_iff.mpr ⟨by  omega, by  omega⟩) dX12_sideOf_5 (fun xr2 exr2 hmxr2 hkxr2 => ?_)
  have hkxr2 : kp xr2 = 326 := hkxr2
  refine lv_iload_n hx hb dX12_sideOf_6 rfl (lv_at hl 1 rfl) ?_
  refine tw_zald (k := 326) (t0 := 3) (n := 150) (lo := 0) (hi := 1) hx hb hK TH hmxr2 hkxr2 (by decide) rfl rfl (i := x1) (vp_in_iff.mpr ⟨by  omega, by  omega⟩) dX12_sideOf_7 (fun hxe3a hxe3b => ?_)
  obtain ⟨xe3, exe3⟩ : ∃ z : Int32, tw_iv E xr2 (Int32.toNatClampNeg x1) = z := ⟨_, rfl⟩
  rw [exe3] at hxe3a hxe3b ⊢
  refine lv_if_ne (tgt := 13) hx hb dX12_sideOf_8 (by decide) (fun hc4 => ?_) (fun hc4 => ?_)
  · have hf5 : ¬ (xe3.toInt = 0) := fun q => hc4 ((fa_eq _ _).mpr (by have : ((0 : Int32).toInt) = 0 := (by decide); omega))
    refine lv_aload_n hx hb dX12_sideOf_13 rfl (lv_at hl 0 rfl) ?_
    refine tw_get (ci := 12) (C := RX12) (T := TX12) (N := 64) hx hb hB cx_inX12 hown hK TH hm0 hk0 rfl ⟨by decide, rfl⟩ 16 (by decide) cw_1209 (fun _ h9 => h9) dX12_sideOf_14 (fun hv => ?_)
    rw [hxr1]
    refine lv_iload_n hx hb dX12_sideOf_17 rfl (lv_at hl 3 rfl) ?_
    refine tw_aald (k := 316) (t0 := 5) (n := 16) (lo := 326) (hi := 0) (ty := .boolean) hx hb hK TH hmxr1 hkxr1 (by decide) rfl rfl (i := x3) (vp_in_iff.mpr ⟨by  omega, by  omega⟩) dX12_sideOf_18 (fun xr6 exr6 hmxr6 hkxr6 => ?_)
    have hkxr6 : kp xr6 = 326 := hkxr6
    refine lv_iload_n hx hb dX12_sideOf_19 rfl (lv_at hl 1 rfl) ?_
    refine tw_zald (k := 326) (t0 := 3) (n := 150) (lo := 0) (hi := 1) hx hb hK TH hmxr6 hkxr6 (by decide) rfl rfl (i := x1) (vp_in_iff.mpr ⟨by  omega, by  omega⟩) dX12_sideOf_20 (fun hxe7a hxe7b => ?_)
    obtain ⟨xe7, exe7⟩ : ∃ z : Int32, tw_iv E xr6 (Int32.toNatClampNeg x1) = z := ⟨_, rfl⟩
    rw [exe7] at hxe7a hxe7b ⊢
    refine lv_if_ne (tgt := 26) hx hb dX12_sideOf_21 (by decide) (fun hc8 => ?_) (fun hc8 => ?_)
    · have hf9 : ¬ (xe7.toInt = 0) := fun q => hc8 ((fa_eq _ _).mpr (by have : ((0 : Int32).toInt) = 0 := (by decide); omega))
      refine lv_iload hx hb dX12_sideOf_26 (lv_at hl 5 rfl) ?_
      refine lv_if_eq (tgt := 59) hx hb dX12_sideOf_28 (by decide) (fun hc10 => ?_) (fun hc10 => ?_)
      · have hf11 : x5.toInt = 0 := by have z := (fa_eq _ _).mp hc10; have : ((0 : Int32).toInt) = 0 := (by decide); omega
        refine lv_aload_n hx hb dX12_sideOf_59 rfl (lv_at hl 0 rfl) ?_
        refine tw_get (ci := 12) (C := RX12) (T := TX12) (N := 64) hx hb hB cx_inX12 hown hK TH hm0 hk0 rfl ⟨by decide, rfl⟩ 18 (by decide) cw_1211 (fun _ h9 => h9) dX12_sideOf_60 (fun hv => ?_)
        obtain ⟨xr12, hxr12, hmxr12, hkxr12⟩ : ∃ a : Nat, tw_fv E a0 18 = .ref a ∧ a ∈ L ∧ kp a = 318 := hv
        rw [hxr12]
        refine lv_iload_n hx hb dX12_sideOf_63 rfl (lv_at hl 2 rfl) ?_
        refine tw_aald (k := 318) (t0 := 4) (n := 16) (lo := 328) (hi := 0) (ty := .int) hx hb hK TH hmxr12 hkxr12 (by decide) rfl rfl (i := x2) (vp_in_iff.mpr ⟨by  omega, by  omega⟩) dX12_sideOf_64 (fun xr13 exr13 hmxr13 hkxr13 => ?_)
        have hkxr13 : kp xr13 = 328 := hkxr13
        refine lv_iload_n hx hb dX12_sideOf_65 rfl (lv_at hl 1 rfl) ?_
        refine tw_iald (k := 328) (t0 := 0) (n := 150) (lo := (-1)) (hi := 149) hx hb hK TH hmxr13 hkxr13 (by decide) rfl rfl (i := x1) (vp_in_iff.mpr ⟨by  omega, by  omega⟩) dX12_sideOf_66 (fun hxe14a hxe14b => ?_)
        obtain ⟨xe14, exe14⟩ : ∃ z : Int32, tw_iv E xr13 (Int32.toNatClampNeg x1) = z := ⟨_, rfl⟩
        rw [exe14] at hxe14a hxe14b ⊢
        refine lv_aload_n hx hb dX12_sideOf_67 rfl (lv_at hl 0 rfl) ?_
        refine tw_get (ci := 12) (C := RX12) (T := TX12) (N := 64) hx hb hB cx_inX12 hown hK TH hm0 hk0 rfl ⟨by decide, rfl⟩ 18 (by decide) cw_1211 (fun _ h9 => h9) dX12_sideOf_68 (fun hv => ?_)
        rw [hxr12]
        refine lv_iload_n hx hb dX12_sideOf_71 rfl (lv_at hl 3 rfl) ?_
        refine tw_aald (k := 318) (t0 := 4) (n := 16) (lo := 328) (hi := 0) (ty := .int) hx hb hK TH hmxr12 hkxr12 (by decide) rfl rfl (i := x3) (vp_in_iff.mpr ⟨by  omega, by  omega⟩) dX12_sideOf_72 (fun xr15 exr15 hmxr15 hkxr15 => ?_)
        have hkxr15 : kp xr15 = 328 := hkxr15
        refine lv_iload_n hx hb dX12_sideOf_73 rfl (lv_at hl 1 rfl) ?_
        refine tw_iald (k := 328) (t0 := 0) (n := 150) (lo := (-1)) (hi := 149) hx hb hK TH hmxr15 hkxr15 (by decide) rfl rfl (i := x1) (vp_in_iff.mpr ⟨by  omega, by  omega⟩) dX12_sideOf_74 (fun hxe16a hxe16b => ?_)
        obtain ⟨xe16, exe16⟩ : ∃ z : Int32, tw_iv E xr15 (Int32.toNatClampNeg x1) = z := ⟨_, rfl⟩
        rw [exe16] at hxe16a hxe16b ⊢
        refine lv_icmp_ne (tgt := 82) hx hb dX12_sideOf_75 (by decide) (fun hc17 => ?_) (fun hc17 => ?_)
        · have hf18 : ¬ (xe14.toInt = xe16.toInt) := fun q => hc17 ((fa_eq _ _).mpr (by  omega))
          refine lv_iconst (v := 0) hx hb dX12_sideOf_82 (by decide) ?_
          refine lv_istore (lv' := [(6, .int 0), (0, .ref a0), (1, .int x1), (2, .int x2), (3, .int x3), (4, .int x4), (5, .int x5)]) hx hb dX12_sideOf_83 hl (by decide) rfl (fun ls hl => ?_)
          refine lv_iload hx hb dX12_sideOf_85 (lv_at hl 0 rfl) ?_
          refine lv_if_eq (tgt := 92) hx hb dX12_sideOf_87 (by decide) (fun hc19 => ?_) (fun hc19 => ?_)
          · have hf20 : 0 = 0 := by have z := (fa_eq _ _).mp hc19; have : ((0 : Int32).toInt) = 0 := (by decide); omega
            refine lv_aload_n hx hb dX12_sideOf_92 rfl (lv_at hl 1 rfl) ?_
            refine tw_get (ci := 12) (C := RX12) (T := TX12) (N := 64) hx hb hB cx_inX12 hown hK TH hm0 hk0 rfl ⟨by decide, rfl⟩ 16 (by decide) cw_1209 (fun _ h9 => h9) dX12_sideOf_93 (fun hv => ?_)
            rw [hxr1]
            refine lv_iload hx hb dX12_sideOf_96 (lv_at hl 5 rfl) ?_
            refine tw_aald (k := 316) (t0 := 5) (n := 16) (lo := 326) (hi := 0) (ty := .boolean) hx hb hK TH hmxr1 hkxr1 (by decide) rfl rfl (i := x4) (vp_in_iff.mpr ⟨by  omega, by  omega⟩) dX12_sideOf_98 (fun xr21 exr21 hmxr21 hkxr21 => ?_)
            have hkxr21 : kp xr21 = 326 := hkxr21
            refine lv_iload_n hx hb dX12_sideOf_99 rfl (lv_at hl 2 rfl) ?_
            refine tw_zald (k := 326) (t0 := 3) (n := 150) (lo := 0) (hi := 1) hx hb hK TH hmxr21 hkxr21 (by decide) rfl rfl (i := x1) (vp_in_iff.mpr ⟨by  omega, by  omega⟩) dX12_sideOf_100 (fun hxe22a hxe22b => ?_)
            obtain ⟨xe22, exe22⟩ : ∃ z : Int32, tw_iv E xr21 (Int32.toNatClampNeg x1) = z := ⟨_, rfl⟩
            rw [exe22] at hxe22a hxe22b ⊢
            refine lv_if_eq (tgt := 206) hx hb dX12_sideOf_101 (by decide) (fun hc23 => ?_) (fun hc23 => ?_)
            · have hf24 : xe22.toInt = 0 := by have z := (fa_eq _ _).mp hc23; have : ((0 : Int32).toInt) = 0 := (by decide); omega
              refine lv_aload_n hx hb dX12_sideOf_206 rfl (lv_at hl 1 rfl) ?_
              refine lv_iload_n hx hb dX12_sideOf_207 rfl (lv_at hl 2 rfl) ?_
              refine lv_iload hx hb dX12_sideOf_208 (lv_at hl 6 rfl) ?_
              refine lv_if_eq (tgt := 217) hx hb dX12_sideOf_210 (by decide) (fun hc25 => ?_) (fun hc25 => ?_)
              · have hf26 : x5.toInt = 0 := by have z := (fa_eq _ _).mp hc25; have : ((0 : Int32).toInt) = 0 := (by decide); omega
                refine lv_iconst (v := 3) hx hb dX12_sideOf_217 (by decide) ?_
                refine lv_iload_n hx hb dX12_sideOf_218 rfl (lv_at hl 3 rfl) ?_
                refine lv_iload_n hx hb dX12_sideOf_219 rfl (lv_at hl 4 rfl) ?_
                refine tw_Vc (o := a0) (ci := 12) (n := 4) (post := (fun v kq Lq Eq => (∃ x : Int32, v = some (.int x) ∧ (-1) ≤ x.toInt ∧ x.toInt ≤ 11) ∧ kp = kq ∧ L = Lq ∧ E = Eq)) (As := [.int x1, .int 3, .int x2, .int x3]) (rest := []) ⟨hx, hb, hml, hown, hB⟩ (fun sz => tX12_settledFor l D cs a0 x1 (3 : Int32) x2 x3 hm0 hk0 sz) cg_12_461_X12_settledFor rfl rfl (by decide +kernel) ⟨Nat.le_of_ble_eq_true rfl, Nat.le_of_ble_eq_true rfl⟩ hK hN TH hS hA rfl hm0 hk0 (by decide) rfl hl.1 rfl (Nat.le_of_ble_eq_true rfl) dX12_sideOf_220 ⟨Nat.le_of_ble_eq_true rfl, Nat.le_of_ble_eq_true rfl⟩ (fun v27 kp27 L27 E27 H locs hq27 hx27 TH hS => ?_)
                obtain ⟨⟨xc28, rfl, hxc28a, hxc28b⟩, rfl, rfl, rfl⟩ := hq27
                refine W.eq (g2 := F0 m 223 ls [.int xc28]) rfl ?_
                refine lv_istore (lv' := [(7, .int xc28), (6, .int 0), (0, .ref a0), (1, .int x1), (2, .int x2), (3, .int x3), (4, .int x4), (5, .int x5)]) hx hb dX12_sideOf_223 hl (by decide) rfl (fun ls hl => ?_)
                refine lv_iload hx hb dX12_sideOf_225 (lv_at hl 0 rfl) ?_
                refine lv_iconst (v := (-1)) hx hb dX12_sideOf_227 (by decide) ?_
                refine lv_icmp_ne (tgt := 236) hx hb dX12_sideOf_228 (by decide) (fun hc29 => ?_) (fun hc29 => ?_)
                · have hf30 : ¬ (xc28.toInt = (-1)) := fun q => hc29 ((fa_eq _ _).mpr (by have : (((-1) : Int32).toInt) = (-1) := (by decide); omega))
                  refine lv_iload hx hb dX12_sideOf_236 (lv_at hl 0 rfl) ?_
                  exact tw_iret hx hb hr hlocks TH hS hex ⟨⟨_, rfl, (show (-2) ≤ Int32.toInt xc28 from by  omega), (show Int32.toInt xc28 ≤ 15 from by  omega)⟩, rfl, rfl, rfl⟩ (Nat.le_of_ble_eq_true rfl) (Nat.le_of_ble_eq_true rfl) dX12_sideOf_238
                · have hf31 : xc28.toInt = (-1) := by have z := (fa_eq _ _).mp hc29; have : (((-1) : Int32).toInt) = (-1) := (by decide); omega
                  refine lv_bipush (v := (-2)) hx hb dX12_sideOf_231 (by decide) ?_
                  refine lv_goto (tgt := 238) hx hb dX12_sideOf_233 (by decide) ?_
                  exact tw_iret hx hb hr hlocks TH hS hex ⟨⟨_, rfl, (show (-2) ≤ Int32.toInt (-2) from by have : (((-2) : Int32).toInt) = (-2) := (by decide); omega), (show Int32.toInt (-2) ≤ 15 from by have : (((-2) : Int32).toInt) = (-2) := (by decide); omega)⟩, rfl, rfl, rfl⟩ (Nat.le_of_ble_eq_true rfl) (Nat.le_of_ble_eq_true rfl) dX12_sideOf_238
              · have hf32 : ¬ (x5.toInt = 0) := fun q => hc25 ((fa_eq _ _).mpr (by have : ((0 : Int32).toInt) = 0 := (by decide); omega))
                exfalso; omega
            · have hf33 : ¬ (xe22.toInt = 0) := fun q => hc23 ((fa_eq _ _).mpr (by have : ((0 : Int32).toInt) = 0 := (by decide); omega))
              refine lv_iload hx hb dX12_sideOf_104 (lv_at hl 6 rfl) ?_
              refine lv_if_eq (tgt := 133) hx hb dX12_sideOf_106 (by decide) (fun hc34 => ?_) (fun hc34 => ?_)
              · have hf35 : x5.toInt = 0 := by have z := (fa_eq _ _).mp hc34; have : ((0 : Int32).toInt) = 0 := (by decide); omega
                refine lv_aload_n hx hb dX12_sideOf_133 rfl (lv_at hl 1 rfl) ?_
                refine tw_get (ci := 12) (C := RX12) (T := TX12) (N := 64) hx hb hB cx_inX12 hown hK TH hm0 hk0 rfl ⟨by decide, rfl⟩ 18 (by decide) cw_1211 (fun _ h9 => h9) dX12_sideOf_134 (fun hv => ?_)
                rw [hxr12]
                refine lv_iload_n hx hb dX12_sideOf_137 rfl (lv_at hl 3 rfl) ?_
                refine tw_aald (k := 318) (t0 := 4) (n := 16) (lo := 328) (hi := 0) (ty := .int) hx hb hK TH hmxr12 hkxr12 (by decide) rfl rfl (i := x2) (vp_in_iff.mpr ⟨by  omega, by  omega⟩) dX12_sideOf_138 (fun xr36 exr36 hmxr36 hkxr36 => ?_)
                have ezxr36 : xr13 = xr36 := exr13.symm.trans exr36
                subst ezxr36
                refine lv_iload_n hx hb dX12_sideOf_139 rfl (lv_at hl 2 rfl) ?_
                refine tw_iald (k := 328) (t0 := 0) (n := 150) (lo := (-1)) (hi := 149) hx hb hK TH hmxr13 hkxr13 (by decide) rfl rfl (i := x1) (vp_in_iff.mpr ⟨by  omega, by  omega⟩) dX12_sideOf_140 (fun hxe37a hxe37b => ?_)
                rw [exe14]
                refine lv_aload_n hx hb dX12_sideOf_141 rfl (lv_at hl 1 rfl) ?_
                refine tw_get (ci := 12) (C := RX12) (T := TX12) (N := 64) hx hb hB cx_inX12 hown hK TH hm0 hk0 rfl ⟨by decide, rfl⟩ 18 (by decide) cw_1211 (fun _ h9 => h9) dX12_sideOf_142 (fun hv => ?_)
                rw [hxr12]
                refine lv_iload hx hb dX12_sideOf_145 (lv_at hl 5 rfl) ?_
                refine tw_aald (k := 318) (t0 := 4) (n := 16) (lo := 328) (hi := 0) (ty := .int) hx hb hK TH hmxr12 hkxr12 (by decide) rfl rfl (i := x4) (vp_in_iff.mpr ⟨by  omega, by  omega⟩) dX12_sideOf_147 (fun xr38 exr38 hmxr38 hkxr38 => ?_)
                have hkxr38 : kp xr38 = 328 := hkxr38
                refine lv_iload_n hx hb dX12_sideOf_148 rfl (lv_at hl 2 rfl) ?_
                refine tw_iald (k := 328) (t0 := 0) (n := 150) (lo := (-1)) (hi := 149) hx hb hK TH hmxr38 hkxr38 (by decide) rfl rfl (i := x1) (vp_in_iff.mpr ⟨by  omega, by  omega⟩) dX12_sideOf_149 (fun hxe39a hxe39b => ?_)
                obtain ⟨xe39, exe39⟩ : ∃ z : Int32, tw_iv E xr38 (Int32.toNatClampNeg x1) = z := ⟨_, rfl⟩
                rw [exe39] at hxe39a hxe39b ⊢
                refine lv_icmp_ne (tgt := 155) hx hb dX12_sideOf_150 (by decide) (fun hc40 => ?_) (fun hc40 => ?_)
                · have hf41 : ¬ (xe14.toInt = xe39.toInt) := fun q => hc40 ((fa_eq _ _).mpr (by  omega))
                  refine lv_iload hx hb dX12_sideOf_155 (lv_at hl 6 rfl) ?_
                  refine lv_if_eq (tgt := 184) hx hb dX12_sideOf_157 (by decide) (fun hc42 => ?_) (fun hc42 => ?_)
                  · have hf43 : x5.toInt = 0 := by have z := (fa_eq _ _).mp hc42; have : ((0 : Int32).toInt) = 0 := (by decide); omega
                    refine lv_aload_n hx hb dX12_sideOf_184 rfl (lv_at hl 1 rfl) ?_
                    refine tw_get (ci := 12) (C := RX12) (T := TX12) (N := 64) hx hb hB cx_inX12 hown hK TH hm0 hk0 rfl ⟨by decide, rfl⟩ 18 (by decide) cw_1211 (fun _ h9 => h9) dX12_sideOf_185 (fun hv => ?_)
                    rw [hxr12]
                    refine lv_iload_n hx hb dX12_sideOf_188 rfl (lv_at hl 4 rfl) ?_
                    refine tw_aald (k := 318) (t0 := 4) (n := 16) (lo := 328) (hi := 0) (ty := .int) hx hb hK TH hmxr12 hkxr12 (by decide) rfl rfl (i := x3) (vp_in_iff.mpr ⟨by  omega, by  omega⟩) dX12_sideOf_189 (fun xr44 exr44 hmxr44 hkxr44 => ?_)
                    have ezxr44 : xr15 = xr44 := exr15.symm.trans exr44
                    subst ezxr44
                    refine lv_iload_n hx hb dX12_sideOf_190 rfl (lv_at hl 2 rfl) ?_
                    refine tw_iald (k := 328) (t0 := 0) (n := 150) (lo := (-1)) (hi := 149) hx hb hK TH hmxr15 hkxr15 (by decide) rfl rfl (i := x1) (vp_in_iff.mpr ⟨by  omega, by  omega⟩) dX12_sideOf_191 (fun hxe45a hxe45b => ?_)
                    rw [exe16]
                    refine lv_aload_n hx hb dX12_sideOf_192 rfl (lv_at hl 1 rfl) ?_
                    refine tw_get (ci := 12) (C := RX12) (T := TX12) (N := 64) hx hb hB cx_inX12 hown hK TH hm0 hk0 rfl ⟨by decide, rfl⟩ 18 (by decide) cw_1211 (fun _ h9 => h9) dX12_sideOf_193 (fun hv => ?_)
                    rw [hxr12]
                    refine lv_iload hx hb dX12_sideOf_196 (lv_at hl 5 rfl) ?_
                    refine tw_aald (k := 318) (t0 := 4) (n := 16) (lo := 328) (hi := 0) (ty := .int) hx hb hK TH hmxr12 hkxr12 (by decide) rfl rfl (i := x4) (vp_in_iff.mpr ⟨by  omega, by  omega⟩) dX12_sideOf_198 (fun xr46 exr46 hmxr46 hkxr46 => ?_)
                    have ezxr46 : xr38 = xr46 := exr38.symm.trans exr46
                    subst ezxr46
                    refine lv_iload_n hx hb dX12_sideOf_199 rfl (lv_at hl 2 rfl) ?_
                    refine tw_iald (k := 328) (t0 := 0) (n := 150) (lo := (-1)) (hi := 149) hx hb hK TH hmxr38 hkxr38 (by decide) rfl rfl (i := x1) (vp_in_iff.mpr ⟨by  omega, by  omega⟩) dX12_sideOf_200 (fun hxe47a hxe47b => ?_)
                    rw [exe39]
                    refine lv_icmp_ne (tgt := 206) hx hb dX12_sideOf_201 (by decide) (fun hc48 => ?_) (fun hc48 => ?_)
                    · have hf49 : ¬ (xe16.toInt = xe39.toInt) := fun q => hc48 ((fa_eq _ _).mpr (by  omega))
                      refine lv_aload_n hx hb dX12_sideOf_206 rfl (lv_at hl 1 rfl) ?_
                      refine lv_iload_n hx hb dX12_sideOf_207 rfl (lv_at hl 2 rfl) ?_
                      refine lv_iload hx hb dX12_sideOf_208 (lv_at hl 6 rfl) ?_
                      refine lv_if_eq (tgt := 217) hx hb dX12_sideOf_210 (by decide) (fun hc50 => ?_) (fun hc50 => ?_)
                      · have hf51 : x5.toInt = 0 := by have z := (fa_eq _ _).mp hc50; have : ((0 : Int32).toInt) = 0 := (by decide); omega
                        refine lv_iconst (v := 3) hx hb dX12_sideOf_217 (by decide) ?_
                        refine lv_iload_n hx hb dX12_sideOf_218 rfl (lv_at hl 3 rfl) ?_
                        refine lv_iload_n hx hb dX12_sideOf_219 rfl (lv_at hl 4 rfl) ?_
                        refine tw_Vc (o := a0) (ci := 12) (n := 4) (post := (fun v kq Lq Eq => (∃ x : Int32, v = some (.int x) ∧ (-1) ≤ x.toInt ∧ x.toInt ≤ 11) ∧ kp = kq ∧ L = Lq ∧ E = Eq)) (As := [.int x1, .int 3, .int x2, .int x3]) (rest := []) ⟨hx, hb, hml, hown, hB⟩ (fun sz => tX12_settledFor l D cs a0 x1 (3 : Int32) x2 x3 hm0 hk0 sz) cg_12_461_X12_settledFor rfl rfl (by decide +kernel) ⟨Nat.le_of_ble_eq_true rfl, Nat.le_of_ble_eq_true rfl⟩ hK hN TH hS hA rfl hm0 hk0 (by decide) rfl hl.1 rfl (Nat.le_of_ble_eq_true rfl) dX12_sideOf_220 ⟨Nat.le_of_ble_eq_true rfl, Nat.le_of_ble_eq_true rfl⟩ (fun v52 kp52 L52 E52 H locs hq52 hx52 TH hS => ?_)
                        obtain ⟨⟨xc53, rfl, hxc53a, hxc53b⟩, rfl, rfl, rfl⟩ := hq52
                        refine W.eq (g2 := F0 m 223 ls [.int xc53]) rfl ?_
                        refine lv_istore (lv' := [(7, .int xc53), (6, .int 0), (0, .ref a0), (1, .int x1), (2, .int x2), (3, .int x3), (4, .int x4), (5, .int x5)]) hx hb dX12_sideOf_223 hl (by decide) rfl (fun ls hl => ?_)
                        refine lv_iload hx hb dX12_sideOf_225 (lv_at hl 0 rfl) ?_
                        refine lv_iconst (v := (-1)) hx hb dX12_sideOf_227 (by decide) ?_
                        refine lv_icmp_ne (tgt := 236) hx hb dX12_sideOf_228 (by decide) (fun hc54 => ?_) (fun hc54 => ?_)
                        · have hf55 : ¬ (xc53.toInt = (-1)) := fun q => hc54 ((fa_eq _ _).mpr (by have : (((-1) : Int32).toInt) = (-1) := (by decide); omega))
                          refine lv_iload hx hb dX12_sideOf_236 (lv_at hl 0 rfl) ?_
                          exact tw_iret hx hb hr hlocks TH hS hex ⟨⟨_, rfl, (show (-2) ≤ Int32.toInt xc53 from by  omega), (show Int32.toInt xc53 ≤ 15 from by  omega)⟩, rfl, rfl, rfl⟩ (Nat.le_of_ble_eq_true rfl) (Nat.le_of_ble_eq_true rfl) dX12_sideOf_238
                        · have hf56 : xc53.toInt = (-1) := by have z := (fa_eq _ _).mp hc54; have : (((-1) : Int32).toInt) = (-1) := (by decide); omega
                          refine lv_bipush (v := (-2)) hx hb dX12_sideOf_231 (by decide) ?_
                          refine lv_goto (tgt := 238) hx hb dX12_sideOf_233 (by decide) ?_
                          exact tw_iret hx hb hr hlocks TH hS hex ⟨⟨_, rfl, (show (-2) ≤ Int32.toInt (-2) from by have : (((-2) : Int32).toInt) = (-2) := (by decide); omega), (show Int32.toInt (-2) ≤ 15 from by have : (((-2) : Int32).toInt) = (-2) := (by decide); omega)⟩, rfl, rfl, rfl⟩ (Nat.le_of_ble_eq_true rfl) (Nat.le_of_ble_eq_true rfl) dX12_sideOf_238
                      · have hf57 : ¬ (x5.toInt = 0) := fun q => hc50 ((fa_eq _ _).mpr (by have : ((0 : Int32).toInt) = 0 := (by decide); omega))
                        exfalso; omega
                    · have hf58 : xe16.toInt = xe39.toInt := by have z := (fa_eq _ _).mp hc48;  omega
                      refine lv_iload_n hx hb dX12_sideOf_204 rfl (lv_at hl 3 rfl) ?_
                      exact tw_iret hx hb hr hlocks TH hS hex ⟨⟨_, rfl, (show (-2) ≤ Int32.toInt x2 from by  omega), (show Int32.toInt x2 ≤ 15 from by  omega)⟩, rfl, rfl, rfl⟩ (Nat.le_of_ble_eq_true rfl) (Nat.le_of_ble_eq_true rfl) dX12_sideOf_205
                  · have hf59 : ¬ (x5.toInt = 0) := fun q => hc42 ((fa_eq _ _).mpr (by have : ((0 : Int32).toInt) = 0 := (by decide); omega))
                    exfalso; omega
                · have hf60 : xe14.toInt = xe39.toInt := by have z := (fa_eq _ _).mp hc40;  omega
                  refine lv_iload_n hx hb dX12_sideOf_153 rfl (lv_at hl 4 rfl) ?_
                  exact tw_iret hx hb hr hlocks TH hS hex ⟨⟨_, rfl, (show (-2) ≤ Int32.toInt x3 from by  omega), (show Int32.toInt x3 ≤ 15 from by  omega)⟩, rfl, rfl, rfl⟩ (Nat.le_of_ble_eq_true rfl) (Nat.le_of_ble_eq_true rfl) dX12_sideOf_154
              · have hf61 : ¬ (x5.toInt = 0) := fun q => hc34 ((fa_eq _ _).mpr (by have : ((0 : Int32).toInt) = 0 := (by decide); omega))
                exfalso; omega
          · have hf62 : ¬ (0 = 0) := fun q => hc19 ((fa_eq _ _).mpr (by have : ((0 : Int32).toInt) = 0 := (by decide); omega))
            exfalso; omega
        · have hf63 : xe14.toInt = xe16.toInt := by have z := (fa_eq _ _).mp hc17;  omega
          refine lv_iconst (v := 1) hx hb dX12_sideOf_78 (by decide) ?_
          refine lv_goto (tgt := 83) hx hb dX12_sideOf_79 (by decide) ?_
          refine lv_istore (lv' := [(6, .int 1), (0, .ref a0), (1, .int x1), (2, .int x2), (3, .int x3), (4, .int x4), (5, .int x5)]) hx hb dX12_sideOf_83 hl (by decide) rfl (fun ls hl => ?_)
          refine lv_iload hx hb dX12_sideOf_85 (lv_at hl 0 rfl) ?_
          refine lv_if_eq (tgt := 92) hx hb dX12_sideOf_87 (by decide) (fun hc64 => ?_) (fun hc64 => ?_)
          · have hf65 : 1 = 0 := by have z := (fa_eq _ _).mp hc64; have : ((0 : Int32).toInt) = 0 := (by decide); have : ((1 : Int32).toInt) = 1 := (by decide); omega
            exfalso; omega
          · have hf66 : ¬ (1 = 0) := fun q => hc64 ((fa_eq _ _).mpr (by have : ((0 : Int32).toInt) = 0 := (by decide); have : ((1 : Int32).toInt) = 1 := (by decide); omega))
            refine lv_iload_n hx hb dX12_sideOf_90 rfl (lv_at hl 3 rfl) ?_
            exact tw_iret hx hb hr hlocks TH hS hex ⟨⟨_, rfl, (show (-2) ≤ Int32.toInt x2 from by  omega), (show Int32.toInt x2 ≤ 15 from by  omega)⟩, rfl, rfl, rfl⟩ (Nat.le_of_ble_eq_true rfl) (Nat.le_of_ble_eq_true rfl) dX12_sideOf_91
      · have hf67 : ¬ (x5.toInt = 0) := fun q => hc10 ((fa_eq _ _).mpr (by have : ((0 : Int32).toInt) = 0 := (by decide); omega))
        refine lv_aload_n hx hb dX12_sideOf_31 rfl (lv_at hl 0 rfl) ?_
        refine tw_get (ci := 12) (C := RX12) (T := TX12) (N := 64) hx hb hB cx_inX12 hown hK TH hm0 hk0 rfl ⟨by decide, rfl⟩ 17 (by decide) cw_1210 (fun _ h9 => h9) dX12_sideOf_32 (fun hv => ?_)
        obtain ⟨xr68, hxr68, hmxr68, hkxr68⟩ : ∃ a : Nat, tw_fv E a0 17 = .ref a ∧ a ∈ L ∧ kp a = 317 := hv
        rw [hxr68]
        refine lv_iload_n hx hb dX12_sideOf_35 rfl (lv_at hl 2 rfl) ?_
        refine tw_aald (k := 317) (t0 := 6) (n := 16) (lo := 327) (hi := 0) (ty := .long) hx hb hK TH hmxr68 hkxr68 (by decide) rfl rfl (i := x2) (vp_in_iff.mpr ⟨by  omega, by  omega⟩) dX12_sideOf_36 (fun xr69 exr69 hmxr69 hkxr69 => ?_)
        have hkxr69 : kp xr69 = 327 := hkxr69
        refine lv_iload_n hx hb dX12_sideOf_37 rfl (lv_at hl 1 rfl) ?_
        refine tw_lald (k := 327) (n := 150) (lo := 0) (hi := 0) hx hb hK TH hmxr69 hkxr69 (by decide) rfl (i := x1) (vp_in_iff.mpr ⟨by  omega, by  omega⟩) dX12_sideOf_38 (fun xl70 => ?_)
        refine lv_aload_n hx hb dX12_sideOf_39 rfl (lv_at hl 0 rfl) ?_
        refine tw_get (ci := 12) (C := RX12) (T := TX12) (N := 64) hx hb hB cx_inX12 hown hK TH hm0 hk0 rfl ⟨by decide, rfl⟩ 17 (by decide) cw_1210 (fun _ h9 => h9) dX12_sideOf_40 (fun hv => ?_)
        rw [hxr68]
        refine lv_iload_n hx hb dX12_sideOf_43 rfl (lv_at hl 3 rfl) ?_
        refine tw_aald (k := 317) (t0 := 6) (n := 16) (lo := 327) (hi := 0) (ty := .long) hx hb hK TH hmxr68 hkxr68 (by decide) rfl rfl (i := x3) (vp_in_iff.mpr ⟨by  omega, by  omega⟩) dX12_sideOf_44 (fun xr71 exr71 hmxr71 hkxr71 => ?_)
        have hkxr71 : kp xr71 = 327 := hkxr71
        refine lv_iload_n hx hb dX12_sideOf_45 rfl (lv_at hl 1 rfl) ?_
        refine tw_lald (k := 327) (n := 150) (lo := 0) (hi := 0) hx hb hK TH hmxr71 hkxr71 (by decide) rfl (i := x1) (vp_in_iff.mpr ⟨by  omega, by  omega⟩) dX12_sideOf_46 (fun xl72 => ?_)
        refine W.lcmp hx hb dX12_sideOf_47 ?_
        have hzi73 := ia_lc xl70 xl72
        generalize lg_cmp xl70 xl72 = zi73 at hzi73 ⊢
        refine lv_if_ne (tgt := 55) hx hb dX12_sideOf_48 (by decide) (fun hc74 => ?_) (fun hc74 => ?_)
        · have hf75 : ¬ (zi73.toInt = 0) := fun q => hc74 ((fa_eq _ _).mpr (by have : ((0 : Int32).toInt) = 0 := (by decide); omega))
          refine lv_iconst (v := 0) hx hb dX12_sideOf_55 (by decide) ?_
          refine lv_goto (tgt := 83) hx hb dX12_sideOf_56 (by decide) ?_
          refine lv_istore (lv' := [(6, .int 0), (0, .ref a0), (1, .int x1), (2, .int x2), (3, .int x3), (4, .int x4), (5, .int x5)]) hx hb dX12_sideOf_83 hl (by decide) rfl (fun ls hl => ?_)
          refine lv_iload hx hb dX12_sideOf_85 (lv_at hl 0 rfl) ?_
          refine lv_if_eq (tgt := 92) hx hb dX12_sideOf_87 (by decide) (fun hc76 => ?_) (fun hc76 => ?_)
          · have hf77 : 0 = 0 := by have z := (fa_eq _ _).mp hc76; have : ((0 : Int32).toInt) = 0 := (by decide); omega
            refine lv_aload_n hx hb dX12_sideOf_92 rfl (lv_at hl 1 rfl) ?_
            refine tw_get (ci := 12) (C := RX12) (T := TX12) (N := 64) hx hb hB cx_inX12 hown hK TH hm0 hk0 rfl ⟨by decide, rfl⟩ 16 (by decide) cw_1209 (fun _ h9 => h9) dX12_sideOf_93 (fun hv => ?_)
            rw [hxr1]
            refine lv_iload hx hb dX12_sideOf_96 (lv_at hl 5 rfl) ?_
            refine tw_aald (k := 316) (t0 := 5) (n := 16) (lo := 326) (hi := 0) (ty := .boolean) hx hb hK TH hmxr1 hkxr1 (by decide) rfl rfl (i := x4) (vp_in_iff.mpr ⟨by  omega, by  omega⟩) dX12_sideOf_98 (fun xr78 exr78 hmxr78 hkxr78 => ?_)
            have hkxr78 : kp xr78 = 326 := hkxr78
            refine lv_iload_n hx hb dX12_sideOf_99 rfl (lv_at hl 2 rfl) ?_
            refine tw_zald (k := 326) (t0 := 3) (n := 150) (lo := 0) (hi := 1) hx hb hK TH hmxr78 hkxr78 (by decide) rfl rfl (i := x1) (vp_in_iff.mpr ⟨by  omega, by  omega⟩) dX12_sideOf_100 (fun hxe79a hxe79b => ?_)
            obtain ⟨xe79, exe79⟩ : ∃ z : Int32, tw_iv E xr78 (Int32.toNatClampNeg x1) = z := ⟨_, rfl⟩
            rw [exe79] at hxe79a hxe79b ⊢
            refine lv_if_eq (tgt := 206) hx hb dX12_sideOf_101 (by decide) (fun hc80 => ?_) (fun hc80 => ?_)
            · have hf81 : xe79.toInt = 0 := by have z := (fa_eq _ _).mp hc80; have : ((0 : Int32).toInt) = 0 := (by decide); omega
              refine lv_aload_n hx hb dX12_sideOf_206 rfl (lv_at hl 1 rfl) ?_
              refine lv_iload_n hx hb dX12_sideOf_207 rfl (lv_at hl 2 rfl) ?_
              refine lv_iload hx hb dX12_sideOf_208 (lv_at hl 6 rfl) ?_
              refine lv_if_eq (tgt := 217) hx hb dX12_sideOf_210 (by decide) (fun hc82 => ?_) (fun hc82 => ?_)
              · have hf83 : x5.toInt = 0 := by have z := (fa_eq _ _).mp hc82; have : ((0 : Int32).toInt) = 0 := (by decide); omega
                exfalso; omega
              · have hf84 : ¬ (x5.toInt = 0) := fun q => hc82 ((fa_eq _ _).mpr (by have : ((0 : Int32).toInt) = 0 := (by decide); omega))
                refine lv_iconst (v := 2) hx hb dX12_sideOf_213 (by decide) ?_
                refine lv_goto (tgt := 218) hx hb dX12_sideOf_214 (by decide) ?_
                refine lv_iload_n hx hb dX12_sideOf_218 rfl (lv_at hl 3 rfl) ?_
                refine lv_iload_n hx hb dX12_sideOf_219 rfl (lv_at hl 4 rfl) ?_
                refine tw_Vc (o := a0) (ci := 12) (n := 4) (post := (fun v kq Lq Eq => (∃ x : Int32, v = some (.int x) ∧ (-1) ≤ x.toInt ∧ x.toInt ≤ 11) ∧ kp = kq ∧ L = Lq ∧ E = Eq)) (As := [.int x1, .int 2, .int x2, .int x3]) (rest := []) ⟨hx, hb, hml, hown, hB⟩ (fun sz => tX12_settledFor l D cs a0 x1 (2 : Int32) x2 x3 hm0 hk0 sz) cg_12_461_X12_settledFor rfl rfl (by decide +kernel) ⟨Nat.le_of_ble_eq_true rfl, Nat.le_of_ble_eq_true rfl⟩ hK hN TH hS hA rfl hm0 hk0 (by decide) rfl hl.1 rfl (Nat.le_of_ble_eq_true rfl) dX12_sideOf_220 ⟨Nat.le_of_ble_eq_true rfl, Nat.le_of_ble_eq_true rfl⟩ (fun v85 kp85 L85 E85 H locs hq85 hx85 TH hS => ?_)
                obtain ⟨⟨xc86, rfl, hxc86a, hxc86b⟩, rfl, rfl, rfl⟩ := hq85
                refine W.eq (g2 := F0 m 223 ls [.int xc86]) rfl ?_
                refine lv_istore (lv' := [(7, .int xc86), (6, .int 0), (0, .ref a0), (1, .int x1), (2, .int x2), (3, .int x3), (4, .int x4), (5, .int x5)]) hx hb dX12_sideOf_223 hl (by decide) rfl (fun ls hl => ?_)
                refine lv_iload hx hb dX12_sideOf_225 (lv_at hl 0 rfl) ?_
                refine lv_iconst (v := (-1)) hx hb dX12_sideOf_227 (by decide) ?_
                refine lv_icmp_ne (tgt := 236) hx hb dX12_sideOf_228 (by decide) (fun hc87 => ?_) (fun hc87 => ?_)
                · have hf88 : ¬ (xc86.toInt = (-1)) := fun q => hc87 ((fa_eq _ _).mpr (by have : (((-1) : Int32).toInt) = (-1) := (by decide); omega))
                  refine lv_iload hx hb dX12_sideOf_236 (lv_at hl 0 rfl) ?_
                  exact tw_iret hx hb hr hlocks TH hS hex ⟨⟨_, rfl, (show (-2) ≤ Int32.toInt xc86 from by  omega), (show Int32.toInt xc86 ≤ 15 from by  omega)⟩, rfl, rfl, rfl⟩ (Nat.le_of_ble_eq_true rfl) (Nat.le_of_ble_eq_true rfl) dX12_sideOf_238
                · have hf89 : xc86.toInt = (-1) := by have z := (fa_eq _ _).mp hc87; have : (((-1) : Int32).toInt) = (-1) := (by decide); omega
                  refine lv_bipush (v := (-2)) hx hb dX12_sideOf_231 (by decide) ?_
                  refine lv_goto (tgt := 238) hx hb dX12_sideOf_233 (by decide) ?_
                  exact tw_iret hx hb hr hlocks TH hS hex ⟨⟨_, rfl, (show (-2) ≤ Int32.toInt (-2) from by have : (((-2) : Int32).toInt) = (-2) := (by decide); omega), (show Int32.toInt (-2) ≤ 15 from by have : (((-2) : Int32).toInt) = (-2) := (by decide); omega)⟩, rfl, rfl, rfl⟩ (Nat.le_of_ble_eq_true rfl) (Nat.le_of_ble_eq_true rfl) dX12_sideOf_238
            · have hf90 : ¬ (xe79.toInt = 0) := fun q => hc80 ((fa_eq _ _).mpr (by have : ((0 : Int32).toInt) = 0 := (by decide); omega))
              refine lv_iload hx hb dX12_sideOf_104 (lv_at hl 6 rfl) ?_
              refine lv_if_eq (tgt := 133) hx hb dX12_sideOf_106 (by decide) (fun hc91 => ?_) (fun hc91 => ?_)
              · have hf92 : x5.toInt = 0 := by have z := (fa_eq _ _).mp hc91; have : ((0 : Int32).toInt) = 0 := (by decide); omega
                exfalso; omega
              · have hf93 : ¬ (x5.toInt = 0) := fun q => hc91 ((fa_eq _ _).mpr (by have : ((0 : Int32).toInt) = 0 := (by decide); omega))
                refine lv_aload_n hx hb dX12_sideOf_109 rfl (lv_at hl 1 rfl) ?_
                refine tw_get (ci := 12) (C := RX12) (T := TX12) (N := 64) hx hb hB cx_inX12 hown hK TH hm0 hk0 rfl ⟨by decide, rfl⟩ 17 (by decide) cw_1210 (fun _ h9 => h9) dX12_sideOf_110 (fun hv => ?_)
                rw [hxr68]
                refine lv_iload_n hx hb dX12_sideOf_113 rfl (lv_at hl 3 rfl) ?_
                refine tw_aald (k := 317) (t0 := 6) (n := 16) (lo := 327) (hi := 0) (ty := .long) hx hb hK TH hmxr68 hkxr68 (by decide) rfl rfl (i := x2) (vp_in_iff.mpr ⟨by  omega, by  omega⟩) dX12_sideOf_114 (fun xr94 exr94 hmxr94 hkxr94 => ?_)
                have ezxr94 : xr69 = xr94 := exr69.symm.trans exr94
                subst ezxr94
                refine lv_iload_n hx hb dX12_sideOf_115 rfl (lv_at hl 2 rfl) ?_
                refine tw_lald (k := 327) (n := 150) (lo := 0) (hi := 0) hx hb hK TH hmxr69 hkxr69 (by decide) rfl (i := x1) (vp_in_iff.mpr ⟨by  omega, by  omega⟩) dX12_sideOf_116 (fun xl95 => ?_)
                refine lv_aload_n hx hb dX12_sideOf_117 rfl (lv_at hl 1 rfl) ?_
                refine tw_get (ci := 12) (C := RX12) (T := TX12) (N := 64) hx hb hB cx_inX12 hown hK TH hm0 hk0 rfl ⟨by decide, rfl⟩ 17 (by decide) cw_1210 (fun _ h9 => h9) dX12_sideOf_118 (fun hv => ?_)
                rw [hxr68]
                refine lv_iload hx hb dX12_sideOf_121 (lv_at hl 5 rfl) ?_
                refine tw_aald (k := 317) (t0 := 6) (n := 16) (lo := 327) (hi := 0) (ty := .long) hx hb hK TH hmxr68 hkxr68 (by decide) rfl rfl (i := x4) (vp_in_iff.mpr ⟨by  omega, by  omega⟩) dX12_sideOf_123 (fun xr96 exr96 hmxr96 hkxr96 => ?_)
                have hkxr96 : kp xr96 = 327 := hkxr96
                refine lv_iload_n hx hb dX12_sideOf_124 rfl (lv_at hl 2 rfl) ?_
                refine tw_lald (k := 327) (n := 150) (lo := 0) (hi := 0) hx hb hK TH hmxr96 hkxr96 (by decide) rfl (i := x1) (vp_in_iff.mpr ⟨by  omega, by  omega⟩) dX12_sideOf_125 (fun xl97 => ?_)
                refine W.lcmp hx hb dX12_sideOf_126 ?_
                have hzi98 := ia_lc xl95 xl97
                generalize lg_cmp xl95 xl97 = zi98 at hzi98 ⊢
                refine lv_if_ne (tgt := 155) hx hb dX12_sideOf_127 (by decide) (fun hc99 => ?_) (fun hc99 => ?_)
                · have hf100 : ¬ (zi98.toInt = 0) := fun q => hc99 ((fa_eq _ _).mpr (by have : ((0 : Int32).toInt) = 0 := (by decide); omega))
                  refine lv_iload hx hb dX12_sideOf_155 (lv_at hl 6 rfl) ?_
                  refine lv_if_eq (tgt := 184) hx hb dX12_sideOf_157 (by decide) (fun hc101 => ?_) (fun hc101 => ?_)
                  · have hf102 : x5.toInt = 0 := by have z := (fa_eq _ _).mp hc101; have : ((0 : Int32).toInt) = 0 := (by decide); omega
                    exfalso; omega
                  · have hf103 : ¬ (x5.toInt = 0) := fun q => hc101 ((fa_eq _ _).mpr (by have : ((0 : Int32).toInt) = 0 := (by decide); omega))
                    refine lv_aload_n hx hb dX12_sideOf_160 rfl (lv_at hl 1 rfl) ?_
                    refine tw_get (ci := 12) (C := RX12) (T := TX12) (N := 64) hx hb hB cx_inX12 hown hK TH hm0 hk0 rfl ⟨by decide, rfl⟩ 17 (by decide) cw_1210 (fun _ h9 => h9) dX12_sideOf_161 (fun hv => ?_)
                    rw [hxr68]
                    refine lv_iload_n hx hb dX12_sideOf_164 rfl (lv_at hl 4 rfl) ?_
                    refine tw_aald (k := 317) (t0 := 6) (n := 16) (lo := 327) (hi := 0) (ty := .long) hx hb hK TH hmxr68 hkxr68 (by decide) rfl rfl (i := x3) (vp_in_iff.mpr ⟨by  omega, by  omega⟩) dX12_sideOf_165 (fun xr104 exr104 hmxr104 hkxr104 => ?_)
                    have ezxr104 : xr71 = xr104 := exr71.symm.trans exr104
                    subst ezxr104
                    refine lv_iload_n hx hb dX12_sideOf_166 rfl (lv_at hl 2 rfl) ?_
                    refine tw_lald (k := 327) (n := 150) (lo := 0) (hi := 0) hx hb hK TH hmxr71 hkxr71 (by decide) rfl (i := x1) (vp_in_iff.mpr ⟨by  omega, by  omega⟩) dX12_sideOf_167 (fun xl105 => ?_)
                    refine lv_aload_n hx hb dX12_sideOf_168 rfl (lv_at hl 1 rfl) ?_
                    refine tw_get (ci := 12) (C := RX12) (T := TX12) (N := 64) hx hb hB cx_inX12 hown hK TH hm0 hk0 rfl ⟨by decide, rfl⟩ 17 (by decide) cw_1210 (fun _ h9 => h9) dX12_sideOf_169 (fun hv => ?_)
                    rw [hxr68]
                    refine lv_iload hx hb dX12_sideOf_172 (lv_at hl 5 rfl) ?_
                    refine tw_aald (k := 317) (t0 := 6) (n := 16) (lo := 327) (hi := 0) (ty := .long) hx hb hK TH hmxr68 hkxr68 (by decide) rfl rfl (i := x4) (vp_in_iff.mpr ⟨by  omega, by  omega⟩) dX12_sideOf_174 (fun xr106 exr106 hmxr106 hkxr106 => ?_)
                    have ezxr106 : xr96 = xr106 := exr96.symm.trans exr106
                    subst ezxr106
                    refine lv_iload_n hx hb dX12_sideOf_175 rfl (lv_at hl 2 rfl) ?_
                    refine tw_lald (k := 327) (n := 150) (lo := 0) (hi := 0) hx hb hK TH hmxr96 hkxr96 (by decide) rfl (i := x1) (vp_in_iff.mpr ⟨by  omega, by  omega⟩) dX12_sideOf_176 (fun xl107 => ?_)
                    refine W.lcmp hx hb dX12_sideOf_177 ?_
                    have hzi108 := ia_lc xl105 xl107
                    generalize lg_cmp xl105 xl107 = zi108 at hzi108 ⊢
                    refine lv_if_ne (tgt := 206) hx hb dX12_sideOf_178 (by decide) (fun hc109 => ?_) (fun hc109 => ?_)
                    · have hf110 : ¬ (zi108.toInt = 0) := fun q => hc109 ((fa_eq _ _).mpr (by have : ((0 : Int32).toInt) = 0 := (by decide); omega))
                      refine lv_aload_n hx hb dX12_sideOf_206 rfl (lv_at hl 1 rfl) ?_
                      refine lv_iload_n hx hb dX12_sideOf_207 rfl (lv_at hl 2 rfl) ?_
                      refine lv_iload hx hb dX12_sideOf_208 (lv_at hl 6 rfl) ?_
                      refine lv_if_eq (tgt := 217) hx hb dX12_sideOf_210 (by decide) (fun hc111 => ?_) (fun hc111 => ?_)
                      · have hf112 : x5.toInt = 0 := by have z := (fa_eq _ _).mp hc111; have : ((0 : Int32).toInt) = 0 := (by decide); omega
                        exfalso; omega
                      · have hf113 : ¬ (x5.toInt = 0) := fun q => hc111 ((fa_eq _ _).mpr (by have : ((0 : Int32).toInt) = 0 := (by decide); omega))
                        refine lv_iconst (v := 2) hx hb dX12_sideOf_213 (by decide) ?_
                        refine lv_goto (tgt := 218) hx hb dX12_sideOf_214 (by decide) ?_
                        refine lv_iload_n hx hb dX12_sideOf_218 rfl (lv_at hl 3 rfl) ?_
                        refine lv_iload_n hx hb dX12_sideOf_219 rfl (lv_at hl 4 rfl) ?_
                        refine tw_Vc (o := a0) (ci := 12) (n := 4) (post := (fun v kq Lq Eq => (∃ x : Int32, v = some (.int x) ∧ (-1) ≤ x.toInt ∧ x.toInt ≤ 11) ∧ kp = kq ∧ L = Lq ∧ E = Eq)) (As := [.int x1, .int 2, .int x2, .int x3]) (rest := []) ⟨hx, hb, hml, hown, hB⟩ (fun sz => tX12_settledFor l D cs a0 x1 (2 : Int32) x2 x3 hm0 hk0 sz) cg_12_461_X12_settledFor rfl rfl (by decide +kernel) ⟨Nat.le_of_ble_eq_true rfl, Nat.le_of_ble_eq_true rfl⟩ hK hN TH hS hA rfl hm0 hk0 (by decide) rfl hl.1 rfl (Nat.le_of_ble_eq_true rfl) dX12_sideOf_220 ⟨Nat.le_of_ble_eq_true rfl, Nat.le_of_ble_eq_true rfl⟩ (fun v114 kp114 L114 E114 H locs hq114 hx114 TH hS => ?_)
                        obtain ⟨⟨xc115, rfl, hxc115a, hxc115b⟩, rfl, rfl, rfl⟩ := hq114
                        refine W.eq (g2 := F0 m 223 ls [.int xc115]) rfl ?_
                        refine lv_istore (lv' := [(7, .int xc115), (6, .int 0), (0, .ref a0), (1, .int x1), (2, .int x2), (3, .int x3), (4, .int x4), (5, .int x5)]) hx hb dX12_sideOf_223 hl (by decide) rfl (fun ls hl => ?_)
                        refine lv_iload hx hb dX12_sideOf_225 (lv_at hl 0 rfl) ?_
                        refine lv_iconst (v := (-1)) hx hb dX12_sideOf_227 (by decide) ?_
                        refine lv_icmp_ne (tgt := 236) hx hb dX12_sideOf_228 (by decide) (fun hc116 => ?_) (fun hc116 => ?_)
                        · have hf117 : ¬ (xc115.toInt = (-1)) := fun q => hc116 ((fa_eq _ _).mpr (by have : (((-1) : Int32).toInt) = (-1) := (by decide); omega))
                          refine lv_iload hx hb dX12_sideOf_236 (lv_at hl 0 rfl) ?_
                          exact tw_iret hx hb hr hlocks TH hS hex ⟨⟨_, rfl, (show (-2) ≤ Int32.toInt xc115 from by  omega), (show Int32.toInt xc115 ≤ 15 from by  omega)⟩, rfl, rfl, rfl⟩ (Nat.le_of_ble_eq_true rfl) (Nat.le_of_ble_eq_true rfl) dX12_sideOf_238
                        · have hf118 : xc115.toInt = (-1) := by have z := (fa_eq _ _).mp hc116; have : (((-1) : Int32).toInt) = (-1) := (by decide); omega
                          refine lv_bipush (v := (-2)) hx hb dX12_sideOf_231 (by decide) ?_
                          refine lv_goto (tgt := 238) hx hb dX12_sideOf_233 (by decide) ?_
                          exact tw_iret hx hb hr hlocks TH hS hex ⟨⟨_, rfl, (show (-2) ≤ Int32.toInt (-2) from by have : (((-2) : Int32).toInt) = (-2) := (by decide); omega), (show Int32.toInt (-2) ≤ 15 from by have : (((-2) : Int32).toInt) = (-2) := (by decide); omega)⟩, rfl, rfl, rfl⟩ (Nat.le_of_ble_eq_true rfl) (Nat.le_of_ble_eq_true rfl) dX12_sideOf_238
                    · have hf119 : zi108.toInt = 0 := by have z := (fa_eq _ _).mp hc109; have : ((0 : Int32).toInt) = 0 := (by decide); omega
                      refine lv_goto (tgt := 204) hx hb dX12_sideOf_181 (by decide) ?_
                      refine lv_iload_n hx hb dX12_sideOf_204 rfl (lv_at hl 3 rfl) ?_
                      exact tw_iret hx hb hr hlocks TH hS hex ⟨⟨_, rfl, (show (-2) ≤ Int32.toInt x2 from by  omega), (show Int32.toInt x2 ≤ 15 from by  omega)⟩, rfl, rfl, rfl⟩ (Nat.le_of_ble_eq_true rfl) (Nat.le_of_ble_eq_true rfl) dX12_sideOf_205
                · have hf120 : zi98.toInt = 0 := by have z := (fa_eq _ _).mp hc99; have : ((0 : Int32).toInt) = 0 := (by decide); omega
                  refine lv_goto (tgt := 153) hx hb dX12_sideOf_130 (by decide) ?_
                  refine lv_iload_n hx hb dX12_sideOf_153 rfl (lv_at hl 4 rfl) ?_
                  exact tw_iret hx hb hr hlocks TH hS hex ⟨⟨_, rfl, (show (-2) ≤ Int32.toInt x3 from by  omega), (show Int32.toInt x3 ≤ 15 from by  omega)⟩, rfl, rfl, rfl⟩ (Nat.le_of_ble_eq_true rfl) (Nat.le_of_ble_eq_true rfl) dX12_sideOf_154
          · have hf121 : ¬ (0 = 0) := fun q => hc76 ((fa_eq _ _).mpr (by have : ((0 : Int32).toInt) = 0 := (by decide); omega))
            exfalso; omega
        · have hf122 : zi73.toInt = 0 := by have z := (fa_eq _ _).mp hc74; have : ((0 : Int32).toInt) = 0 := (by decide); omega
          refine lv_iconst (v := 1) hx hb dX12_sideOf_51 (by decide) ?_
          refine lv_goto (tgt := 83) hx hb dX12_sideOf_52 (by decide) ?_
          refine lv_istore (lv' := [(6, .int 1), (0, .ref a0), (1, .int x1), (2, .int x2), (3, .int x3), (4, .int x4), (5, .int x5)]) hx hb dX12_sideOf_83 hl (by decide) rfl (fun ls hl => ?_)
          refine lv_iload hx hb dX12_sideOf_85 (lv_at hl 0 rfl) ?_
          refine lv_if_eq (tgt := 92) hx hb dX12_sideOf_87 (by decide) (fun hc123 => ?_) (fun hc123 => ?_)
          · have hf124 : 1 = 0 := by have z := (fa_eq _ _).mp hc123; have : ((0 : Int32).toInt) = 0 := (by decide); have : ((1 : Int32).toInt) = 1 := (by decide); omega
            exfalso; omega
          · have hf125 : ¬ (1 = 0) := fun q => hc123 ((fa_eq _ _).mpr (by have : ((0 : Int32).toInt) = 0 := (by decide); have : ((1 : Int32).toInt) = 1 := (by decide); omega))
            refine lv_iload_n hx hb dX12_sideOf_90 rfl (lv_at hl 3 rfl) ?_
            exact tw_iret hx hb hr hlocks TH hS hex ⟨⟨_, rfl, (show (-2) ≤ Int32.toInt x2 from by  omega), (show Int32.toInt x2 ≤ 15 from by  omega)⟩, rfl, rfl, rfl⟩ (Nat.le_of_ble_eq_true rfl) (Nat.le_of_ble_eq_true rfl) dX12_sideOf_91
    · have hf126 : xe7.toInt = 0 := by have z := (fa_eq _ _).mp hc8; have : ((0 : Int32).toInt) = 0 := (by decide); omega
      refine lv_iload_n hx hb dX12_sideOf_24 rfl (lv_at hl 2 rfl) ?_
      exact tw_iret hx hb hr hlocks TH hS hex ⟨⟨_, rfl, (show (-2) ≤ Int32.toInt x2 from by  omega), (show Int32.toInt x2 ≤ 15 from by  omega)⟩, rfl, rfl, rfl⟩ (Nat.le_of_ble_eq_true rfl) (Nat.le_of_ble_eq_true rfl) dX12_sideOf_25
  · have hf127 : xe3.toInt = 0 := by have z := (fa_eq _ _).mp hc4; have : ((0 : Int32).toInt) = 0 := (by decide); omega
    refine lv_iload_n hx hb dX12_sideOf_11 rfl (lv_at hl 3 rfl) ?_
    exact tw_iret hx hb hr hlocks TH hS hex ⟨⟨_, rfl, (show (-2) ≤ Int32.toInt x3 from by  omega), (show Int32.toInt x3 ≤ 15 from by  omega)⟩, rfl, rfl, rfl⟩ (Nat.le_of_ble_eq_true rfl) (Nat.le_of_ble_eq_true rfl) dX12_sideOf_12
set_option maxHeartbeats 4000000 in
set_option maxRecDepth 100000 in
theorem tX12_stands (l : Launch) (D : va_G) (cs : Nat → ClassId) {kp : Nat → Nat} {L : List Nat} {E : Nat → va_E} (a0 : Nat) (x1 : Int32) (x2 : Int32) (x3 : Int32) (x4 : Int32) (hm0 : a0 ∈ L) (hk0 : kp a0 = 12) (hp1a : 0 ≤ x1.toInt) (hp1b : x1.toInt ≤ 149) (hp2a : 0 ≤ x2.toInt) (hp2b : x2.toInt ≤ 15) (hp3a : 0 ≤ x3.toInt) (hp3b : x3.toInt ≤ 15) (hp4a : 0 ≤ x4.toInt) (hp4b : x4.toInt ≤ 15) (hg0 : rw_ok E a0 (x2.toInt)) (hg1 : rw_ok E a0 (x3.toInt)) (sz : Nat) : Met l yX12_stands (.code yX12_stands cX12_stands 6 (some .boolean) :: cx_big) { frames := 2, cells := 0, slots := 0, locals := 48 } (tw_P D cs kp L E [.ref a0, .int x1, .int x2, .int x3, .int x4] sz) (tw_Q D cs kp L (fun v kq Lq Eq => (∃ x : Int32, v = some (.int x) ∧ 0 ≤ x.toInt ∧ x.toInt ≤ 1) ∧ kp = kq ∧ L = Lq ∧ E = Eq) (va_A (va_pl L E) sz)) 0 0 (va_A (va_pl L E) sz) := by
  refine tw_ofW (by decide) (Nat.le_of_ble_eq_true rfl) ?_
  intro p e s m below meth c A ls hx hb hr hml hB hown hlocks hK hN hA TH hS hl
  have hown : s.vm.findClass "TreeMergeModel" = some m.cls := hown
  have hl : lv_has ls 6 [(0, .ref a0), (1, .int x1), (2, .int x2), (3, .int x3), (4, .int x4)] := hl
  obtain ⟨kp0, ekp⟩ : ∃ z, z = kp := ⟨_, rfl⟩
  obtain ⟨L0, eL⟩ : ∃ z, z = L := ⟨_, rfl⟩
  rw [show tw_Q D cs kp L = tw_Q D cs kp0 L0 by rw [ekp, eL]]
  have hex : ∀ a : Nat, a ∈ L0 → a ∈ L ∧ kp a = kp0 a := fun a h => ⟨by rw [← eL]; exact h, by rw [ekp]⟩
  refine lv_aload_n hx hb dX12_stands_0 rfl (lv_at hl 0 rfl) ?_
  refine tw_get (ci := 12) (C := RX12) (T := TX12) (N := 64) hx hb hB cx_inX12 hown hK TH hm0 hk0 rfl ⟨by decide, rfl⟩ 16 (by decide) cw_1209 (fun _ h9 => h9) dX12_stands_1 (fun hv => ?_)
  obtain ⟨xr1, hxr1, hmxr1, hkxr1⟩ : ∃ a : Nat, tw_fv E a0 16 = .ref a ∧ a ∈ L ∧ kp a = 316 := hv
  rw [hxr1]
  refine lv_iload_n hx hb dX12_stands_4 rfl (lv_at hl 2 rfl) ?_
  refine tw_aald (k := 316) (t0 := 5) (n := 16) (lo := 326) (hi := 0) (ty := .boolean) hx hb hK TH hmxr1 hkxr1 (by decide) rfl rfl (i := x2) (vp_in_iff.mpr ⟨by  omega, by  omega⟩) dX12_stands_5 (fun xr2 exr2 hmxr2 hkxr2 => ?_)
  have hkxr2 : kp xr2 = 326 := hkxr2
  refine lv_iload_n hx hb dX12_stands_6 rfl (lv_at hl 1 rfl) ?_
  refine tw_zald (k := 326) (t0 := 3) (n := 150) (lo := 0) (hi := 1) hx hb hK TH hmxr2 hkxr2 (by decide) rfl rfl (i := x1) (vp_in_iff.mpr ⟨by  omega, by  omega⟩) dX12_stands_7 (fun hxe3a hxe3b => ?_)
  obtain ⟨xe3, exe3⟩ : ∃ z : Int32, tw_iv E xr2 (Int32.toNatClampNeg x1) = z := ⟨_, rfl⟩
  rw [exe3] at hxe3a hxe3b ⊢
  refine lv_if_eq (tgt := 24) hx hb dX12_stands_8 (by decide) (fun hc4 => ?_) (fun hc4 => ?_)
  · have hf5 : xe3.toInt = 0 := by have z := (fa_eq _ _).mp hc4; have : ((0 : Int32).toInt) = 0 := (by decide); omega
    refine lv_aload_n hx hb dX12_stands_24 rfl (lv_at hl 0 rfl) ?_
    refine tw_get (ci := 12) (C := RX12) (T := TX12) (N := 64) hx hb hB cx_inX12 hown hK TH hm0 hk0 rfl ⟨by decide, rfl⟩ 16 (by decide) cw_1209 (fun _ h9 => h9) dX12_stands_25 (fun hv => ?_)
    rw [hxr1]
    refine lv_iload_n hx hb dX12_stands_28 rfl (lv_at hl 2 rfl) ?_
    refine tw_aald (k := 316) (t0 := 5) (n := 16) (lo := 326) (hi := 0) (ty := .boolean) hx hb hK TH hmxr1 hkxr1 (by decide) rfl rfl (i := x2) (vp_in_iff.mpr ⟨by  omega, by  omega⟩) dX12_stands_29 (fun xr6 exr6 hmxr6 hkxr6 => ?_)
    have ezxr6 : xr2 = xr6 := exr2.symm.trans exr6
    subst ezxr6
    refine lv_iload_n hx hb dX12_stands_30 rfl (lv_at hl 1 rfl) ?_
    refine tw_zald (k := 326) (t0 := 3) (n := 150) (lo := 0) (hi := 1) hx hb hK TH hmxr2 hkxr2 (by decide) rfl rfl (i := x1) (vp_in_iff.mpr ⟨by  omega, by  omega⟩) dX12_stands_31 (fun hxe7a hxe7b => ?_)
    rw [exe3]
    refine lv_if_ne (tgt := 48) hx hb dX12_stands_32 (by decide) (fun hc8 => ?_) (fun hc8 => ?_)
    · have hf9 : ¬ (xe3.toInt = 0) := fun q => hc8 ((fa_eq _ _).mpr (by have : ((0 : Int32).toInt) = 0 := (by decide); omega))
      exfalso; omega
    · have hf10 : xe3.toInt = 0 := by have z := (fa_eq _ _).mp hc8; have : ((0 : Int32).toInt) = 0 := (by decide); omega
      refine lv_aload_n hx hb dX12_stands_35 rfl (lv_at hl 0 rfl) ?_
      refine tw_get (ci := 12) (C := RX12) (T := TX12) (N := 64) hx hb hB cx_inX12 hown hK TH hm0 hk0 rfl ⟨by decide, rfl⟩ 16 (by decide) cw_1209 (fun _ h9 => h9) dX12_stands_36 (fun hv => ?_)
      rw [hxr1]
      refine lv_iload_n hx hb dX12_stands_39 rfl (lv_at hl 3 rfl) ?_
      refine tw_aald (k := 316) (t0 := 5) (n := 16) (lo := 326) (hi := 0) (ty := .boolean) hx hb hK TH hmxr1 hkxr1 (by decide) rfl rfl (i := x3) (vp_in_iff.mpr ⟨by  omega, by  omega⟩) dX12_stands_40 (fun xr11 exr11 hmxr11 hkxr11 => ?_)
      have hkxr11 : kp xr11 = 326 := hkxr11
      refine lv_iload_n hx hb dX12_stands_41 rfl (lv_at hl 1 rfl) ?_
      refine tw_zald (k := 326) (t0 := 3) (n := 150) (lo := 0) (hi := 1) hx hb hK TH hmxr11 hkxr11 (by decide) rfl rfl (i := x1) (vp_in_iff.mpr ⟨by  omega, by  omega⟩) dX12_stands_42 (fun hxe12a hxe12b => ?_)
      obtain ⟨xe12, exe12⟩ : ∃ z : Int32, tw_iv E xr11 (Int32.toNatClampNeg x1) = z := ⟨_, rfl⟩
      rw [exe12] at hxe12a hxe12b ⊢
      refine lv_if_ne (tgt := 48) hx hb dX12_stands_43 (by decide) (fun hc13 => ?_) (fun hc13 => ?_)
      · have hf14 : ¬ (xe12.toInt = 0) := fun q => hc13 ((fa_eq _ _).mpr (by have : ((0 : Int32).toInt) = 0 := (by decide); omega))
        refine lv_aload_n hx hb dX12_stands_48 rfl (lv_at hl 0 rfl) ?_
        refine tw_get (ci := 12) (C := RX12) (T := TX12) (N := 64) hx hb hB cx_inX12 hown hK TH hm0 hk0 rfl ⟨by decide, rfl⟩ 16 (by decide) cw_1209 (fun _ h9 => h9) dX12_stands_49 (fun hv => ?_)
        rw [hxr1]
        refine lv_iload hx hb dX12_stands_52 (lv_at hl 4 rfl) ?_
        refine tw_aald (k := 316) (t0 := 5) (n := 16) (lo := 326) (hi := 0) (ty := .boolean) hx hb hK TH hmxr1 hkxr1 (by decide) rfl rfl (i := x4) (vp_in_iff.mpr ⟨by  omega, by  omega⟩) dX12_stands_54 (fun xr15 exr15 hmxr15 hkxr15 => ?_)
        have hkxr15 : kp xr15 = 326 := hkxr15
        refine lv_iload_n hx hb dX12_stands_55 rfl (lv_at hl 1 rfl) ?_
        refine tw_zald (k := 326) (t0 := 3) (n := 150) (lo := 0) (hi := 1) hx hb hK TH hmxr15 hkxr15 (by decide) rfl rfl (i := x1) (vp_in_iff.mpr ⟨by  omega, by  omega⟩) dX12_stands_56 (fun hxe16a hxe16b => ?_)
        obtain ⟨xe16, exe16⟩ : ∃ z : Int32, tw_iv E xr15 (Int32.toNatClampNeg x1) = z := ⟨_, rfl⟩
        rw [exe16] at hxe16a hxe16b ⊢
        refine lv_if_ne (tgt := 62) hx hb dX12_stands_57 (by decide) (fun hc17 => ?_) (fun hc17 => ?_)
        · have hf18 : ¬ (xe16.toInt = 0) := fun q => hc17 ((fa_eq _ _).mpr (by have : ((0 : Int32).toInt) = 0 := (by decide); omega))
          refine lv_aload_n hx hb dX12_stands_62 rfl (lv_at hl 0 rfl) ?_
          refine tw_get (ci := 12) (C := RX12) (T := TX12) (N := 64) hx hb hB cx_inX12 hown hK TH hm0 hk0 rfl ⟨by decide, rfl⟩ 16 (by decide) cw_1209 (fun _ h9 => h9) dX12_stands_63 (fun hv => ?_)
          rw [hxr1]
          refine lv_iload_n hx hb dX12_stands_66 rfl (lv_at hl 2 rfl) ?_
          refine tw_aald (k := 316) (t0 := 5) (n := 16) (lo := 326) (hi := 0) (ty := .boolean) hx hb hK TH hmxr1 hkxr1 (by decide) rfl rfl (i := x2) (vp_in_iff.mpr ⟨by  omega, by  omega⟩) dX12_stands_67 (fun xr19 exr19 hmxr19 hkxr19 => ?_)
          have ezxr19 : xr2 = xr19 := exr2.symm.trans exr19
          subst ezxr19
          refine lv_iload_n hx hb dX12_stands_68 rfl (lv_at hl 1 rfl) ?_
          refine tw_zald (k := 326) (t0 := 3) (n := 150) (lo := 0) (hi := 1) hx hb hK TH hmxr2 hkxr2 (by decide) rfl rfl (i := x1) (vp_in_iff.mpr ⟨by  omega, by  omega⟩) dX12_stands_69 (fun hxe20a hxe20b => ?_)
          rw [exe3]
          refine lv_if_eq (tgt := 77) hx hb dX12_stands_70 (by decide) (fun hc21 => ?_) (fun hc21 => ?_)
          · have hf22 : xe3.toInt = 0 := by have z := (fa_eq _ _).mp hc21; have : ((0 : Int32).toInt) = 0 := (by decide); omega
            refine lv_iload_n hx hb dX12_stands_77 rfl (lv_at hl 3 rfl) ?_
            refine lv_istore (lv' := [(5, .int x3), (0, .ref a0), (1, .int x1), (2, .int x2), (3, .int x3), (4, .int x4)]) hx hb dX12_stands_78 hl (by decide) rfl (fun ls hl => ?_)
            refine lv_aload_n hx hb dX12_stands_80 rfl (lv_at hl 1 rfl) ?_
            refine lv_iload hx hb dX12_stands_81 (lv_at hl 0 rfl) ?_
            refine lv_iload_n hx hb dX12_stands_83 rfl (lv_at hl 2 rfl) ?_
            refine lv_iload hx hb dX12_stands_84 (lv_at hl 5 rfl) ?_
            refine tw_Vc (o := a0) (ci := 12) (n := 3) (post := (fun v kq Lq Eq => (∃ x : Int32, v = some (.int x) ∧ 0 ≤ x.toInt ∧ x.toInt ≤ 1) ∧ kp = kq ∧ L = Lq ∧ E = Eq)) (As := [.int x3, .int x1, .int x4]) (rest := []) ⟨hx, hb, hml, hown, hB⟩ (fun sz => tX12_isTouched l D cs a0 x3 x1 x4 hm0 hk0 (by omega) (by omega) (by omega) (by omega) hg1 sz) cg_12_465_X12_isTouched rfl rfl (by decide +kernel) ⟨Nat.le_of_ble_eq_true rfl, Nat.le_of_ble_eq_true rfl⟩ hK hN TH hS hA rfl hm0 hk0 (by decide) rfl hl.1 rfl (Nat.le_of_ble_eq_true rfl) dX12_stands_86 ⟨Nat.le_of_ble_eq_true rfl, Nat.le_of_ble_eq_true rfl⟩ (fun v23 kp23 L23 E23 H locs hq23 hx23 TH hS => ?_)
            obtain ⟨⟨xc24, rfl, hxc24a, hxc24b⟩, rfl, rfl, rfl⟩ := hq23
            refine W.eq (g2 := F0 m 89 ls [.int xc24]) rfl ?_
            refine lv_if_ne (tgt := 94) hx hb dX12_stands_89 (by decide) (fun hc25 => ?_) (fun hc25 => ?_)
            · have hf26 : ¬ (xc24.toInt = 0) := fun q => hc25 ((fa_eq _ _).mpr (by have : ((0 : Int32).toInt) = 0 := (by decide); omega))
              refine lv_aload_n hx hb dX12_stands_94 rfl (lv_at hl 1 rfl) ?_
              refine lv_iload_n hx hb dX12_stands_95 rfl (lv_at hl 2 rfl) ?_
              refine lv_iconst (v := 1) hx hb dX12_stands_96 (by decide) ?_
              refine lv_iload_n hx hb dX12_stands_97 rfl (lv_at hl 3 rfl) ?_
              refine lv_iload_n hx hb dX12_stands_98 rfl (lv_at hl 4 rfl) ?_
              refine tw_Vc (o := a0) (ci := 12) (n := 4) (post := (fun v kq Lq Eq => (∃ x : Int32, v = some (.int x) ∧ (-1) ≤ x.toInt ∧ x.toInt ≤ 11) ∧ kp = kq ∧ L = Lq ∧ E = Eq)) (As := [.int x1, .int 1, .int x2, .int x3]) (rest := []) ⟨hx, hb, hml, hown, hB⟩ (fun sz => tX12_settledFor l D cs a0 x1 (1 : Int32) x2 x3 hm0 hk0 sz) cg_12_461_X12_settledFor rfl rfl (by decide +kernel) ⟨Nat.le_of_ble_eq_true rfl, Nat.le_of_ble_eq_true rfl⟩ hK hN TH hS hA rfl hm0 hk0 (by decide) rfl hl.1 rfl (Nat.le_of_ble_eq_true rfl) dX12_stands_99 ⟨Nat.le_of_ble_eq_true rfl, Nat.le_of_ble_eq_true rfl⟩ (fun v27 kp27 L27 E27 H locs hq27 hx27 TH hS => ?_)
              obtain ⟨⟨xc28, rfl, hxc28a, hxc28b⟩, rfl, rfl, rfl⟩ := hq27
              refine W.eq (g2 := F0 m 102 ls [.int xc28]) rfl ?_
              refine lv_iload hx hb dX12_stands_102 (lv_at hl 0 rfl) ?_
              refine lv_icmp_ne (tgt := 111) hx hb dX12_stands_104 (by decide) (fun hc29 => ?_) (fun hc29 => ?_)
              · have hf30 : ¬ (xc28.toInt = x3.toInt) := fun q => hc29 ((fa_eq _ _).mpr (by  omega))
                refine lv_iconst (v := 0) hx hb dX12_stands_111 (by decide) ?_
                exact tw_zret hx hb hr hlocks (by decide) TH hS hex ⟨⟨_, rfl, (show 0 ≤ Int32.toInt 0 from by have : ((0 : Int32).toInt) = 0 := (by decide); omega), (show Int32.toInt 0 ≤ 1 from by have : ((0 : Int32).toInt) = 0 := (by decide); omega)⟩, rfl, rfl, rfl⟩ (Nat.le_of_ble_eq_true rfl) (Nat.le_of_ble_eq_true rfl) dX12_stands_112
              · have hf31 : xc28.toInt = x3.toInt := by have z := (fa_eq _ _).mp hc29;  omega
                refine lv_iconst (v := 1) hx hb dX12_stands_107 (by decide) ?_
                refine lv_goto (tgt := 112) hx hb dX12_stands_108 (by decide) ?_
                exact tw_zret hx hb hr hlocks (by decide) TH hS hex ⟨⟨_, rfl, (show 0 ≤ Int32.toInt 1 from by have : ((1 : Int32).toInt) = 1 := (by decide); omega), (show Int32.toInt 1 ≤ 1 from by have : ((1 : Int32).toInt) = 1 := (by decide); omega)⟩, rfl, rfl, rfl⟩ (Nat.le_of_ble_eq_true rfl) (Nat.le_of_ble_eq_true rfl) dX12_stands_112
            · have hf32 : xc24.toInt = 0 := by have z := (fa_eq _ _).mp hc25; have : ((0 : Int32).toInt) = 0 := (by decide); omega
              refine lv_iconst (v := 0) hx hb dX12_stands_92 (by decide) ?_
              exact tw_zret hx hb hr hlocks (by decide) TH hS hex ⟨⟨_, rfl, (show 0 ≤ Int32.toInt 0 from by have : ((0 : Int32).toInt) = 0 := (by decide); omega), (show Int32.toInt 0 ≤ 1 from by have : ((0 : Int32).toInt) = 0 := (by decide); omega)⟩, rfl, rfl, rfl⟩ (Nat.le_of_ble_eq_true rfl) (Nat.le_of_ble_eq_true rfl) dX12_stands_93
          · have hf33 : ¬ (xe3.toInt = 0) := fun q => hc21 ((fa_eq _ _).mpr (by have : ((0 : Int32).toInt) = 0 := (by decide); omega))
            exfalso; omega
        · have hf34 : xe16.toInt = 0 := by have z := (fa_eq _ _).mp hc17; have : ((0 : Int32).toInt) = 0 := (by decide); omega
          refine lv_iconst (v := 1) hx hb dX12_stands_60 (by decide) ?_
          exact tw_zret hx hb hr hlocks (by decide) TH hS hex ⟨⟨_, rfl, (show 0 ≤ Int32.toInt 1 from by have : ((1 : Int32).toInt) = 1 := (by decide); omega), (show Int32.toInt 1 ≤ 1 from by have : ((1 : Int32).toInt) = 1 := (by decide); omega)⟩, rfl, rfl, rfl⟩ (Nat.le_of_ble_eq_true rfl) (Nat.le_of_ble_eq_true rfl) dX12_stands_61
      · have hf35 : xe12.toInt = 0 := by have z := (fa_eq _ _).mp hc13; have : ((0 : Int32).toInt) = 0 := (by decide); omega
        refine lv_iconst (v := 0) hx hb dX12_stands_46 (by decide) ?_
        exact tw_zret hx hb hr hlocks (by decide) TH hS hex ⟨⟨_, rfl, (show 0 ≤ Int32.toInt 0 from by have : ((0 : Int32).toInt) = 0 := (by decide); omega), (show Int32.toInt 0 ≤ 1 from by have : ((0 : Int32).toInt) = 0 := (by decide); omega)⟩, rfl, rfl, rfl⟩ (Nat.le_of_ble_eq_true rfl) (Nat.le_of_ble_eq_true rfl) dX12_stands_47
  · have hf36 : ¬ (xe3.toInt = 0) := fun q => hc4 ((fa_eq _ _).mpr (by have : ((0 : Int32).toInt) = 0 := (by decide); omega))
    refine lv_aload_n hx hb dX12_stands_11 rfl (lv_at hl 0 rfl) ?_
    refine tw_get (ci := 12) (C := RX12) (T := TX12) (N := 64) hx hb hB cx_inX12 hown hK TH hm0 hk0 rfl ⟨by decide, rfl⟩ 16 (by decide) cw_1209 (fun _ h9 => h9) dX12_stands_12 (fun hv => ?_)
    rw [hxr1]
    refine lv_iload_n hx hb dX12_stands_15 rfl (lv_at hl 3 rfl) ?_
    refine tw_aald (k := 316) (t0 := 5) (n := 16) (lo := 326) (hi := 0) (ty := .boolean) hx hb hK TH hmxr1 hkxr1 (by decide) rfl rfl (i := x3) (vp_in_iff.mpr ⟨by  omega, by  omega⟩) dX12_stands_16 (fun xr37 exr37 hmxr37 hkxr37 => ?_)
    have hkxr37 : kp xr37 = 326 := hkxr37
    refine lv_iload_n hx hb dX12_stands_17 rfl (lv_at hl 1 rfl) ?_
    refine tw_zald (k := 326) (t0 := 3) (n := 150) (lo := 0) (hi := 1) hx hb hK TH hmxr37 hkxr37 (by decide) rfl rfl (i := x1) (vp_in_iff.mpr ⟨by  omega, by  omega⟩) dX12_stands_18 (fun hxe38a hxe38b => ?_)
    obtain ⟨xe38, exe38⟩ : ∃ z : Int32, tw_iv E xr37 (Int32.toNatClampNeg x1) = z := ⟨_, rfl⟩
    rw [exe38] at hxe38a hxe38b ⊢
    refine lv_if_eq (tgt := 24) hx hb dX12_stands_19 (by decide) (fun hc39 => ?_) (fun hc39 => ?_)
    · have hf40 : xe38.toInt = 0 := by have z := (fa_eq _ _).mp hc39; have : ((0 : Int32).toInt) = 0 := (by decide); omega
      refine lv_aload_n hx hb dX12_stands_24 rfl (lv_at hl 0 rfl) ?_
      refine tw_get (ci := 12) (C := RX12) (T := TX12) (N := 64) hx hb hB cx_inX12 hown hK TH hm0 hk0 rfl ⟨by decide, rfl⟩ 16 (by decide) cw_1209 (fun _ h9 => h9) dX12_stands_25 (fun hv => ?_)
      rw [hxr1]
      refine lv_iload_n hx hb dX12_stands_28 rfl (lv_at hl 2 rfl) ?_
      refine tw_aald (k := 316) (t0 := 5) (n := 16) (lo := 326) (hi := 0) (ty := .boolean) hx hb hK TH hmxr1 hkxr1 (by decide) rfl rfl (i := x2) (vp_in_iff.mpr ⟨by  omega, by  omega⟩) dX12_stands_29 (fun xr41 exr41 hmxr41 hkxr41 => ?_)
      have ezxr41 : xr2 = xr41 := exr2.symm.trans exr41
      subst ezxr41
      refine lv_iload_n hx hb dX12_stands_30 rfl (lv_at hl 1 rfl) ?_
      refine tw_zald (k := 326) (t0 := 3) (n := 150) (lo := 0) (hi := 1) hx hb hK TH hmxr2 hkxr2 (by decide) rfl rfl (i := x1) (vp_in_iff.mpr ⟨by  omega, by  omega⟩) dX12_stands_31 (fun hxe42a hxe42b => ?_)
      rw [exe3]
      refine lv_if_ne (tgt := 48) hx hb dX12_stands_32 (by decide) (fun hc43 => ?_) (fun hc43 => ?_)
      · have hf44 : ¬ (xe3.toInt = 0) := fun q => hc43 ((fa_eq _ _).mpr (by have : ((0 : Int32).toInt) = 0 := (by decide); omega))
        refine lv_aload_n hx hb dX12_stands_48 rfl (lv_at hl 0 rfl) ?_
        refine tw_get (ci := 12) (C := RX12) (T := TX12) (N := 64) hx hb hB cx_inX12 hown hK TH hm0 hk0 rfl ⟨by decide, rfl⟩ 16 (by decide) cw_1209 (fun _ h9 => h9) dX12_stands_49 (fun hv => ?_)
        rw [hxr1]
        refine lv_iload hx hb dX12_stands_52 (lv_at hl 4 rfl) ?_
        refine tw_aald (k := 316) (t0 := 5) (n := 16) (lo := 326) (hi := 0) (ty := .boolean) hx hb hK TH hmxr1 hkxr1 (by decide) rfl rfl (i := x4) (vp_in_iff.mpr ⟨by  omega, by  omega⟩) dX12_stands_54 (fun xr45 exr45 hmxr45 hkxr45 => ?_)
        have hkxr45 : kp xr45 = 326 := hkxr45
        refine lv_iload_n hx hb dX12_stands_55 rfl (lv_at hl 1 rfl) ?_
        refine tw_zald (k := 326) (t0 := 3) (n := 150) (lo := 0) (hi := 1) hx hb hK TH hmxr45 hkxr45 (by decide) rfl rfl (i := x1) (vp_in_iff.mpr ⟨by  omega, by  omega⟩) dX12_stands_56 (fun hxe46a hxe46b => ?_)
        obtain ⟨xe46, exe46⟩ : ∃ z : Int32, tw_iv E xr45 (Int32.toNatClampNeg x1) = z := ⟨_, rfl⟩
        rw [exe46] at hxe46a hxe46b ⊢
        refine lv_if_ne (tgt := 62) hx hb dX12_stands_57 (by decide) (fun hc47 => ?_) (fun hc47 => ?_)
        · have hf48 : ¬ (xe46.toInt = 0) := fun q => hc47 ((fa_eq _ _).mpr (by have : ((0 : Int32).toInt) = 0 := (by decide); omega))
          refine lv_aload_n hx hb dX12_stands_62 rfl (lv_at hl 0 rfl) ?_
          refine tw_get (ci := 12) (C := RX12) (T := TX12) (N := 64) hx hb hB cx_inX12 hown hK TH hm0 hk0 rfl ⟨by decide, rfl⟩ 16 (by decide) cw_1209 (fun _ h9 => h9) dX12_stands_63 (fun hv => ?_)
          rw [hxr1]
          refine lv_iload_n hx hb dX12_stands_66 rfl (lv_at hl 2 rfl) ?_
          refine tw_aald (k := 316) (t0 := 5) (n := 16) (lo := 326) (hi := 0) (ty := .boolean) hx hb hK TH hmxr1 hkxr1 (by decide) rfl rfl (i := x2) (vp_in_iff.mpr ⟨by  omega, by  omega⟩) dX12_stands_67 (fun xr49 exr49 hmxr49 hkxr49 => ?_)
          have ezxr49 : xr2 = xr49 := exr2.symm.trans exr49
          subst ezxr49
          refine lv_iload_n hx hb dX12_stands_68 rfl (lv_at hl 1 rfl) ?_
          refine tw_zald (k := 326) (t0 := 3) (n := 150) (lo := 0) (hi := 1) hx hb hK TH hmxr2 hkxr2 (by decide) rfl rfl (i := x1) (vp_in_iff.mpr ⟨by  omega, by  omega⟩) dX12_stands_69 (fun hxe50a hxe50b => ?_)
          rw [exe3]
          refine lv_if_eq (tgt := 77) hx hb dX12_stands_70 (by decide) (fun hc51 => ?_) (fun hc51 => ?_)
          · have hf52 : xe3.toInt = 0 := by have z := (fa_eq _ _).mp hc51; have : ((0 : Int32).toInt) = 0 := (by decide); omega
            exfalso; omega
          · have hf53 : ¬ (xe3.toInt = 0) := fun q => hc51 ((fa_eq _ _).mpr (by have : ((0 : Int32).toInt) = 0 := (by decide); omega))
            refine lv_iload_n hx hb dX12_stands_73 rfl (lv_at hl 2 rfl) ?_
            refine lv_goto (tgt := 78) hx hb dX12_stands_74 (by decide) ?_
            refine lv_istore (lv' := [(5, .int x2), (0, .ref a0), (1, .int x1), (2, .int x2), (3, .int x3), (4, .int x4)]) hx hb dX12_stands_78 hl (by decide) rfl (fun ls hl => ?_)
            refine lv_aload_n hx hb dX12_stands_80 rfl (lv_at hl 1 rfl) ?_
            refine lv_iload hx hb dX12_stands_81 (lv_at hl 0 rfl) ?_
            refine lv_iload_n hx hb dX12_stands_83 rfl (lv_at hl 2 rfl) ?_
            refine lv_iload hx hb dX12_stands_84 (lv_at hl 5 rfl) ?_
            refine tw_Vc (o := a0) (ci := 12) (n := 3) (post := (fun v kq Lq Eq => (∃ x : Int32, v = some (.int x) ∧ 0 ≤ x.toInt ∧ x.toInt ≤ 1) ∧ kp = kq ∧ L = Lq ∧ E = Eq)) (As := [.int x2, .int x1, .int x4]) (rest := []) ⟨hx, hb, hml, hown, hB⟩ (fun sz => tX12_isTouched l D cs a0 x2 x1 x4 hm0 hk0 (by omega) (by omega) (by omega) (by omega) hg0 sz) cg_12_465_X12_isTouched rfl rfl (by decide +kernel) ⟨Nat.le_of_ble_eq_true rfl, Nat.le_of_ble_eq_true rfl⟩ hK hN TH hS hA rfl hm0 hk0 (by decide) rfl hl.1 rfl (Nat.le_of_ble_eq_true rfl) dX12_stands_86 ⟨Nat.le_of_ble_eq_true rfl, Nat.le_of_ble_eq_true rfl⟩ (fun v54 kp54 L54 E54 H locs hq54 hx54 TH hS => ?_)
            obtain ⟨⟨xc55, rfl, hxc55a, hxc55b⟩, rfl, rfl, rfl⟩ := hq54
            refine W.eq (g2 := F0 m 89 ls [.int xc55]) rfl ?_
            refine lv_if_ne (tgt := 94) hx hb dX12_stands_89 (by decide) (fun hc56 => ?_) (fun hc56 => ?_)
            · have hf57 : ¬ (xc55.toInt = 0) := fun q => hc56 ((fa_eq _ _).mpr (by have : ((0 : Int32).toInt) = 0 := (by decide); omega))
              refine lv_aload_n hx hb dX12_stands_94 rfl (lv_at hl 1 rfl) ?_
              refine lv_iload_n hx hb dX12_stands_95 rfl (lv_at hl 2 rfl) ?_
              refine lv_iconst (v := 1) hx hb dX12_stands_96 (by decide) ?_
              refine lv_iload_n hx hb dX12_stands_97 rfl (lv_at hl 3 rfl) ?_
              refine lv_iload_n hx hb dX12_stands_98 rfl (lv_at hl 4 rfl) ?_
              refine tw_Vc (o := a0) (ci := 12) (n := 4) (post := (fun v kq Lq Eq => (∃ x : Int32, v = some (.int x) ∧ (-1) ≤ x.toInt ∧ x.toInt ≤ 11) ∧ kp = kq ∧ L = Lq ∧ E = Eq)) (As := [.int x1, .int 1, .int x2, .int x3]) (rest := []) ⟨hx, hb, hml, hown, hB⟩ (fun sz => tX12_settledFor l D cs a0 x1 (1 : Int32) x2 x3 hm0 hk0 sz) cg_12_461_X12_settledFor rfl rfl (by decide +kernel) ⟨Nat.le_of_ble_eq_true rfl, Nat.le_of_ble_eq_true rfl⟩ hK hN TH hS hA rfl hm0 hk0 (by decide) rfl hl.1 rfl (Nat.le_of_ble_eq_true rfl) dX12_stands_99 ⟨Nat.le_of_ble_eq_true rfl, Nat.le_of_ble_eq_true rfl⟩ (fun v58 kp58 L58 E58 H locs hq58 hx58 TH hS => ?_)
              obtain ⟨⟨xc59, rfl, hxc59a, hxc59b⟩, rfl, rfl, rfl⟩ := hq58
              refine W.eq (g2 := F0 m 102 ls [.int xc59]) rfl ?_
              refine lv_iload hx hb dX12_stands_102 (lv_at hl 0 rfl) ?_
              refine lv_icmp_ne (tgt := 111) hx hb dX12_stands_104 (by decide) (fun hc60 => ?_) (fun hc60 => ?_)
              · have hf61 : ¬ (xc59.toInt = x2.toInt) := fun q => hc60 ((fa_eq _ _).mpr (by  omega))
                refine lv_iconst (v := 0) hx hb dX12_stands_111 (by decide) ?_
                exact tw_zret hx hb hr hlocks (by decide) TH hS hex ⟨⟨_, rfl, (show 0 ≤ Int32.toInt 0 from by have : ((0 : Int32).toInt) = 0 := (by decide); omega), (show Int32.toInt 0 ≤ 1 from by have : ((0 : Int32).toInt) = 0 := (by decide); omega)⟩, rfl, rfl, rfl⟩ (Nat.le_of_ble_eq_true rfl) (Nat.le_of_ble_eq_true rfl) dX12_stands_112
              · have hf62 : xc59.toInt = x2.toInt := by have z := (fa_eq _ _).mp hc60;  omega
                refine lv_iconst (v := 1) hx hb dX12_stands_107 (by decide) ?_
                refine lv_goto (tgt := 112) hx hb dX12_stands_108 (by decide) ?_
                exact tw_zret hx hb hr hlocks (by decide) TH hS hex ⟨⟨_, rfl, (show 0 ≤ Int32.toInt 1 from by have : ((1 : Int32).toInt) = 1 := (by decide); omega), (show Int32.toInt 1 ≤ 1 from by have : ((1 : Int32).toInt) = 1 := (by decide); omega)⟩, rfl, rfl, rfl⟩ (Nat.le_of_ble_eq_true rfl) (Nat.le_of_ble_eq_true rfl) dX12_stands_112
            · have hf63 : xc55.toInt = 0 := by have z := (fa_eq _ _).mp hc56; have : ((0 : Int32).toInt) = 0 := (by decide); omega
              refine lv_iconst (v := 0) hx hb dX12_stands_92 (by decide) ?_
              exact tw_zret hx hb hr hlocks (by decide) TH hS hex ⟨⟨_, rfl, (show 0 ≤ Int32.toInt 0 from by have : ((0 : Int32).toInt) = 0 := (by decide); omega), (show Int32.toInt 0 ≤ 1 from by have : ((0 : Int32).toInt) = 0 := (by decide); omega)⟩, rfl, rfl, rfl⟩ (Nat.le_of_ble_eq_true rfl) (Nat.le_of_ble_eq_true rfl) dX12_stands_93
        · have hf64 : xe46.toInt = 0 := by have z := (fa_eq _ _).mp hc47; have : ((0 : Int32).toInt) = 0 := (by decide); omega
          refine lv_iconst (v := 1) hx hb dX12_stands_60 (by decide) ?_
          exact tw_zret hx hb hr hlocks (by decide) TH hS hex ⟨⟨_, rfl, (show 0 ≤ Int32.toInt 1 from by have : ((1 : Int32).toInt) = 1 := (by decide); omega), (show Int32.toInt 1 ≤ 1 from by have : ((1 : Int32).toInt) = 1 := (by decide); omega)⟩, rfl, rfl, rfl⟩ (Nat.le_of_ble_eq_true rfl) (Nat.le_of_ble_eq_true rfl) dX12_stands_61
      · have hf65 : xe3.toInt = 0 := by have z := (fa_eq _ _).mp hc43; have : ((0 : Int32).toInt) = 0 := (by decide); omega
        exfalso; omega
    · have hf66 : ¬ (xe38.toInt = 0) := fun q => hc39 ((fa_eq _ _).mpr (by have : ((0 : Int32).toInt) = 0 := (by decide); omega))
      refine lv_iconst (v := 1) hx hb dX12_stands_22 (by decide) ?_
      exact tw_zret hx hb hr hlocks (by decide) TH hS hex ⟨⟨_, rfl, (show 0 ≤ Int32.toInt 1 from by have : ((1 : Int32).toInt) = 1 := (by decide); omega), (show Int32.toInt 1 ≤ 1 from by have : ((1 : Int32).toInt) = 1 := (by decide); omega)⟩, rfl, rfl, rfl⟩ (Nat.le_of_ble_eq_true rfl) (Nat.le_of_ble_eq_true rfl) dX12_stands_23
set_option maxHeartbeats 4000000 in
set_option maxRecDepth 100000 in
theorem tX12_lays (l : Launch) (D : va_G) (cs : Nat → ClassId) {kp : Nat → Nat} {L : List Nat} {E : Nat → va_E} (a0 : Nat) (x1 : Int32) (x2 : Int32) (x3 : Int32) (hm0 : a0 ∈ L) (hk0 : kp a0 = 12) (hp1a : 0 ≤ x1.toInt) (hp1b : x1.toInt ≤ 149) (hp2a : 0 ≤ x2.toInt) (hp2b : x2.toInt ≤ 149) (hg0 : lyw_ok E a0 (x1.toInt) (x2.toInt)) (hg1 : rd_ok E a0) (hg2 : eo_ok E a0) (hg3 : ht_ok E a0) (sz : Nat) : Met l yX12_lays (.code yX12_lays cX12_lays 5 none :: cx_big) { frames := 4, cells := 0, slots := 0, locals := 98 } (tw_P D cs kp L E [.ref a0, .int x1, .int x2, .int x3] sz) (tw_Q D cs kp L (fun v kq Lq Eq => v = none ∧ kp = kq ∧ L = Lq ∧ tw_fr kp L [] [326, 328, 329] E Eq ∧ (∀ c : Nat, rw_h Eq a0 12 c = if c = (x1.toInt).toNat then 1 else rw_h E a0 12 c) ∧ (∀ c : Nat, rw_p Eq a0 12 c = if c = (x1.toInt).toNat then x2.toInt else rw_p E a0 12 c) ∧ rw_ok Eq a0 (12) ∧ rd_ok Eq a0 ∧ eo_ok Eq a0 ∧ ht_ok Eq a0) (va_A (va_pl L E) sz)) 0 0 (va_A (va_pl L E) sz) := by
  refine tw_ofW (by decide) (Nat.le_of_ble_eq_true rfl) ?_
  intro p e s m below meth c A ls hx hb hr hml hB hown hlocks hK hN hA TH hS hl
  have hown : s.vm.findClass "TreeMergeModel" = some m.cls := hown
  have hl : lv_has ls 5 [(0, .ref a0), (1, .int x1), (2, .int x2), (3, .int x3)] := hl
  obtain ⟨kp0, ekp⟩ : ∃ z, z = kp := ⟨_, rfl⟩
  obtain ⟨L0, eL⟩ : ∃ z, z = L := ⟨_, rfl⟩
  rw [show tw_Q D cs kp L = tw_Q D cs kp0 L0 by rw [ekp, eL]]
  have hex : ∀ a : Nat, a ∈ L0 → a ∈ L ∧ kp a = kp0 a := fun a h => ⟨by rw [← eL]; exact h, by rw [ekp]⟩
  have hF : tw_fr kp L [] [326, 328, 329] E E := tw_fr.rf
  have hh12 : h12_ok E a0 (rw_h E a0 12) := rfl
  have hp12 : p12_ok E a0 (rw_p E a0 12) := rfl
  refine lv_aload_n hx hb dX12_lays_0 rfl (lv_at hl 0 rfl) ?_
  refine lv_iload_n hx hb dX12_lays_1 rfl (lv_at hl 2 rfl) ?_
  refine tw_Vc (o := a0) (ci := 12) (n := 1) (post := (fun v kq Lq Eq => v = none ∧ kp = kq ∧ L = Lq ∧ tw_fr kp L [] [329] E Eq)) (As := [.int x2]) (rest := []) ⟨hx, hb, hml, hown, hB⟩ (fun sz => tX12_shrinks l D cs a0 x2 hm0 hk0 sz) cg_12_422_X12_shrinks rfl rfl (by decide +kernel) ⟨Nat.le_of_ble_eq_true rfl, Nat.le_of_ble_eq_true rfl⟩ hK hN TH hS hA rfl hm0 hk0 (by decide) rfl hl.1 rfl (Nat.le_of_ble_eq_true rfl) dX12_lays_2 ⟨Nat.le_of_ble_eq_true rfl, Nat.le_of_ble_eq_true rfl⟩ (fun v1 kp1 L1 E1 H locs hq1 hx1 TH hS => ?_)
  obtain ⟨rfl, rfl, rfl, hst1⟩ := hq1
  have hF := hF.tr hst1 (fun _ h => ⟨h, rfl⟩) (by decide) (by decide)
  have hg0 : lyw_ok E1 a0 (x1.toInt) (x2.toInt) := lyw_ok_fr TH hst1 hm0 hk0 (by decide) (by decide) hg0
  have hg1 : rd_ok E1 a0 := rd_ok_fr TH hst1 hm0 hk0 (by decide) (by decide) hg1
  have hg2 : eo_ok E1 a0 := eo_ok_fr TH hst1 hm0 hk0 (by decide) (by decide) hg2
  have hg3 : ht_ok E1 a0 := ht_ok_fr TH hst1 hm0 hk0 (by decide) (by decide) hg3
  have hh12 : h12_ok E1 a0 (rw_h E a0 12) := h12_ok_fr TH hst1 hm0 hk0 (by decide) (by decide) hh12
  have hp12 : p12_ok E1 a0 (rw_p E a0 12) := p12_ok_fr TH hst1 hm0 hk0 (by decide) (by decide) hp12
  refine W.eq (g2 := F0 m 5 ls []) rfl ?_
  refine lv_iconst (v := 0) hx hb dX12_lays_5 (by decide) ?_
  refine lv_istore (lv' := [(4, .int 0), (0, .ref a0), (1, .int x1), (2, .int x2), (3, .int x3)]) hx hb dX12_lays_6 hl (by decide) rfl (fun ls hl => ?_)
  have hJ8 : ∀ (n8 : Nat) (y8_4 : Int32) (Eg8 : Nat → va_E) (H : Heap) (locs : List Loc) (ls : Array Slot), 0 ≤ y8_4.toInt → y8_4.toInt ≤ 150 → 150 - y8_4.toInt ≤ (n8 : Int) → tw_fr kp L [] [329] E1 Eg8 → lyw_ok Eg8 a0 (x1.toInt) (x2.toInt) → rd_ok Eg8 a0 → eo_ok Eg8 a0 → ht_ok Eg8 a0 → h12_ok Eg8 a0 (rw_h E a0 12) → p12_ok Eg8 a0 (rw_p E a0 12) → tw_H D cs kp L Eg8 A H → va_S A s.heap H locs → lv_has ls 5 [(4, .int y8_4), (0, .ref a0), (1, .int x1), (2, .int x2), (3, .int x3)] → W p l e { frames := 4, cells := 0, slots := 0, locals := 98 } s m [.ref a0, .int x1, .int x2, .int x3].toArray below meth c H locs 0 0 (MQ below (tw_Q D cs kp0 L0 (fun v kq Lq Eq => v = none ∧ kp = kq ∧ L = Lq ∧ tw_fr kp L [] [326, 328, 329] E Eq ∧ (∀ c : Nat, rw_h Eq a0 12 c = if c = (x1.toInt).toNat then 1 else rw_h E a0 12 c) ∧ (∀ c : Nat, rw_p Eq a0 12 c = if c = (x1.toInt).toNat then x2.toInt else rw_p E a0 12 c) ∧ rw_ok Eq a0 (12) ∧ rd_ok Eq a0 ∧ eo_ok Eq a0 ∧ ht_ok Eq a0) A) [.ref a0, .int x1, .int x2, .int x3].toArray s 0 0 A) (F0 m 8 ls []) := by
    intro n8
    induction n8 using Nat.strongRecOn with
    | _ n8 ih8 =>
      intro y8_4 Eg8 H locs ls hy8_4a hy8_4b hmeas8 hG8 hg0 hg1 hg2 hg3 hh12 hp12 TH hS hl
      have hF := hF.tr hG8 (fun _ h => ⟨h, rfl⟩) (by decide) (by decide)
      refine lv_iload hx hb dX12_lays_8 (lv_at hl 0 rfl) ?_
      refine lv_sipush (v := 150) hx hb dX12_lays_10 (by decide) ?_
      refine lv_icmp_ge (tgt := 77) hx hb dX12_lays_13 (by decide) (fun hc3 => ?_) (fun hc3 => ?_)
      · have hf4 : 150 ≤ y8_4.toInt := by have z := (fa_le _ _).mp hc3; have : ((150 : Int32).toInt) = 150 := (by decide); omega
        refine lv_aload_n hx hb dX12_lays_77 rfl (lv_at hl 1 rfl) ?_
        refine tw_get (ci := 12) (C := RX12) (T := TX12) (N := 64) hx hb hB cx_inX12 hown hK TH hm0 hk0 rfl ⟨by decide, rfl⟩ 16 (by decide) cw_1209 (fun _ h9 => h9) dX12_lays_78 (fun hv => ?_)
        obtain ⟨xr5, hxr5, hmxr5, hkxr5⟩ : ∃ a : Nat, tw_fv Eg8 a0 16 = .ref a ∧ a ∈ L ∧ kp a = 316 := hv
        rw [hxr5]
        refine lv_bipush (v := 12) hx hb dX12_lays_81 (by decide) ?_
        refine tw_aald (k := 316) (t0 := 5) (n := 16) (lo := 326) (hi := 0) (ty := .boolean) hx hb hK TH hmxr5 hkxr5 (by decide) rfl rfl (i := 12) (vp_in_iff.mpr ⟨by have : ((12 : Int32).toInt) = 12 := (by decide); omega, by have : ((12 : Int32).toInt) = 12 := (by decide); omega⟩) dX12_lays_83 (fun xr6 exr6 hmxr6 hkxr6 => ?_)
        have hkxr6 : kp xr6 = 326 := hkxr6
        refine lv_iload_n hx hb dX12_lays_84 rfl (lv_at hl 2 rfl) ?_
        refine lv_iconst (v := 1) hx hb dX12_lays_85 (by decide) ?_
        have hlyo := hg0
        refine tw_zast (k := 326) (n := 150) (lo := 0) (hi := 1) hx hb hK TH hS hmxr6 hkxr6 (by decide) rfl (i := x1) (x := 1) (vp_in_iff.mpr ⟨by  omega, by  omega⟩) (by have : ((1 : Int32).toInt) = 1 := (by decide); omega) (by have : ((1 : Int32).toInt) = 1 := (by decide); omega) (by have : ((1 : Int32).toInt) = 1 := (by decide); omega) (by have : ((1 : Int32).toInt) = 1 := (by decide); omega) dX12_lays_86 (fun H locs E7 TH hS hp8 hp9 hp10 => ?_)
        have hst11 : tw_fr kp L [] [326] Eg8 E7 := tw_fr.ast tw_fr.rf (fun _ => hkxr6) hp8 hp9 (by decide)
        have hF := hF.tr hst11 (fun _ h => ⟨h, rfl⟩) (by decide) (by decide)
        have hmf12 : tw_fv E7 a0 16 = .ref xr5 := (hst11.1 a0 16 hm0 (by rw [hk0]; decide)).trans hxr5
        have hg0_o := hg0
        have hg1_o := hg1
        have hg2_o := hg2
        have hg3_o := hg3
        have hh12_o := hh12
        have hp12_o := hp12
        have hg1 : rd_ok E7 a0 := rd_ok_fr TH hst11 hm0 hk0 (by decide) (by decide) hg1
        have hg2 : eo_ok E7 a0 := eo_ok_h (i := 12) TH hm0 hk0 hg1_o hxr5 exr6 hkxr5 hkxr6 hp8 hp9 (by have e : ((12 : Int32).toInt) = 12 := (by decide); omega) (by have e : ((12 : Int32).toInt) = 12 := (by decide); omega) (by have := tw_fi_ed TH hm0 hk0; have e : ((12 : Int32).toInt) = 12 := (by decide); omega) hg2_o
        have hg3 : ht_ok E7 a0 := ht_ok_h (i := 12) hg1_o hxr5 exr6 hkxr5 hkxr6 hp8 hp9 (by have e : ((12 : Int32).toInt) = 12 := (by decide); omega) (by have e : ((12 : Int32).toInt) = 12 := (by decide); omega) hg3_o
        have hh12 : h12_ok E7 a0 (fun c => if c = (x1.toInt).toNat then 1 else (rw_h E a0 12) c) := (by have e12 : ((12 : Int32).toInt) = 12 := (by decide); have ev : ((1 : Int32).toInt) = 1 := (by decide); have q := rw_h_st (m := a0) (i := 12) (c := x1) hxr5 exr6 hkxr5 hkxr6 hp8 hp9 hp10; rw [e12, ev] at q; exact h12_st hh12_o q)
        have hp12 : p12_ok E7 a0 (rw_p E a0 12) := p12_ok_fr TH hst11 hm0 hk0 (by decide) (by decide) hp12
        have hgn13 : lyx_ok E7 a0 (x1.toInt) (x2.toInt) := (by have e12 : ((12 : Int32).toInt) = 12 := (by decide); have e1 : ((1 : Int32).toInt) = 1 := (by decide); have q := rw_h_st (m := a0) (i := 12) (c := x1) hxr5 exr6 hkxr5 hkxr6 hp8 hp9 hp10; rw [e12, e1] at q; exact lyx_of hlyo q (rw_p_hst TH hm0 hk0 hkxr6 hp8 hp9 (i := 12) (by decide)))
        refine lv_aload_n hx hb dX12_lays_87 rfl (lv_at hl 1 rfl) ?_
        refine tw_get (ci := 12) (C := RX12) (T := TX12) (N := 64) hx hb hB cx_inX12 hown hK TH hm0 hk0 rfl ⟨by decide, rfl⟩ 18 (by decide) cw_1211 (fun _ h9 => h9) dX12_lays_88 (fun hv => ?_)
        obtain ⟨xr14, hxr14, hmxr14, hkxr14⟩ : ∃ a : Nat, tw_fv E7 a0 18 = .ref a ∧ a ∈ L ∧ kp a = 318 := hv
        rw [hxr14]
        refine lv_bipush (v := 12) hx hb dX12_lays_91 (by decide) ?_
        refine tw_aald (k := 318) (t0 := 4) (n := 16) (lo := 328) (hi := 0) (ty := .int) hx hb hK TH hmxr14 hkxr14 (by decide) rfl rfl (i := 12) (vp_in_iff.mpr ⟨by have : ((12 : Int32).toInt) = 12 := (by decide); omega, by have : ((12 : Int32).toInt) = 12 := (by decide); omega⟩) dX12_lays_93 (fun xr15 exr15 hmxr15 hkxr15 => ?_)
        have hkxr15 : kp xr15 = 328 := hkxr15
        refine lv_iload_n hx hb dX12_lays_94 rfl (lv_at hl 2 rfl) ?_
        refine lv_iload_n hx hb dX12_lays_95 rfl (lv_at hl 3 rfl) ?_
        have hlxo := hgn13
        refine tw_iast (k := 328) (n := 150) (lo := (-1)) (hi := 149) hx hb hK TH hS hmxr15 hkxr15 (by decide) rfl (i := x1) (x := x2) (vp_in_iff.mpr ⟨by  omega, by  omega⟩) (by omega) (by omega) dX12_lays_96 (fun H locs E16 TH hS hp17 hp18 hp19 => ?_)
        have hst20 : tw_fr kp L [] [328] E7 E16 := tw_fr.ast tw_fr.rf (fun _ => hkxr15) hp17 hp18 (by decide)
        have hF := hF.tr hst20 (fun _ h => ⟨h, rfl⟩) (by decide) (by decide)
        have hmf21 : tw_fv E16 a0 16 = .ref xr5 := (hst20.1 a0 16 hm0 (by rw [hk0]; decide)).trans hmf12
        have hmf22 : tw_fv E16 a0 18 = .ref xr14 := (hst20.1 a0 18 hm0 (by rw [hk0]; decide)).trans hxr14
        have hg1_o := hg1
        have hg2_o := hg2
        have hg3_o := hg3
        have hh12_o := hh12
        have hp12_o := hp12
        have hgn13_o := hgn13
        have hg1 : rd_ok E16 a0 := rd_ok_fr TH hst20 hm0 hk0 (by decide) (by decide) hg1
        have hg2 : eo_ok E16 a0 := eo_ok_p (i := 12) TH hm0 hk0 hg1_o hxr14 exr15 hkxr14 hkxr15 hp17 hp18 (by have e : ((12 : Int32).toInt) = 12 := (by decide); omega) (by have e : ((12 : Int32).toInt) = 12 := (by decide); omega) (by have := tw_fi_ed TH hm0 hk0; have e : ((12 : Int32).toInt) = 12 := (by decide); omega) hg2_o
        have hg3 : ht_ok E16 a0 := ht_ok_fr TH hst20 hm0 hk0 (by decide) (by decide) hg3
        have hh12 : h12_ok E16 a0 (fun c => if c = (x1.toInt).toNat then 1 else (rw_h E a0 12) c) := h12_ok_fr TH hst20 hm0 hk0 (by decide) (by decide) hh12
        have hp12 : p12_ok E16 a0 (fun c => if c = (x1.toInt).toNat then x2.toInt else (rw_p E a0 12) c) := (by have e12 : ((12 : Int32).toInt) = 12 := (by decide); have q := rw_p_st (m := a0) (i := 12) (c := x1) hxr14 exr15 hkxr14 hkxr15 hp17 hp18 hp19; rw [e12] at q; exact p12_st hp12_o q)
        have hgn23 : rw_ok E16 a0 (12) := (by have e12 : ((12 : Int32).toInt) = 12 := (by decide); have q := rw_p_st (m := a0) (i := 12) (c := x1) hxr14 exr15 hkxr14 hkxr15 hp17 hp18 hp19; rw [e12] at q; exact rw_of_lyx hlxo (rw_h_pst TH hm0 hk0 hkxr15 hp17 hp18 (i := 12) (by decide)) q)
        refine lv_aload_n hx hb dX12_lays_97 rfl (lv_at hl 1 rfl) ?_
        refine tw_get (ci := 12) (C := RX12) (T := TX12) (N := 64) hx hb hB cx_inX12 hown hK TH hm0 hk0 rfl ⟨by decide, rfl⟩ 19 (by decide) cw_1212 (fun _ h9 => h9) dX12_lays_98 (fun hv => ?_)
        obtain ⟨xr24, hxr24, hmxr24, hkxr24⟩ : ∃ a : Nat, tw_fv E16 a0 19 = .ref a ∧ a ∈ L ∧ kp a = 319 := hv
        rw [hxr24]
        refine lv_bipush (v := 12) hx hb dX12_lays_101 (by decide) ?_
        refine tw_aald (k := 319) (t0 := 4) (n := 16) (lo := 329) (hi := 0) (ty := .int) hx hb hK TH hmxr24 hkxr24 (by decide) rfl rfl (i := 12) (vp_in_iff.mpr ⟨by have : ((12 : Int32).toInt) = 12 := (by decide); omega, by have : ((12 : Int32).toInt) = 12 := (by decide); omega⟩) dX12_lays_103 (fun xr25 exr25 hmxr25 hkxr25 => ?_)
        have hkxr25 : kp xr25 = 329 := hkxr25
        refine lv_iload_n hx hb dX12_lays_104 rfl (lv_at hl 2 rfl) ?_
        refine lv_iload_n hx hb dX12_lays_105 rfl (lv_at hl 4 rfl) ?_
        refine tw_iast (k := 329) (n := 150) (lo := (-2147483648)) (hi := 2147483647) hx hb hK TH hS hmxr25 hkxr25 (by decide) rfl (i := x1) (x := x3) (vp_in_iff.mpr ⟨by  omega, by  omega⟩) (ia_lo _) (ia_hi _) dX12_lays_106 (fun H locs E26 TH hS hp27 hp28 hp29 => ?_)
        have hst30 : tw_fr kp L [] [329] E16 E26 := tw_fr.ast tw_fr.rf (fun _ => hkxr25) hp27 hp28 (by decide)
        have hF := hF.tr hst30 (fun _ h => ⟨h, rfl⟩) (by decide) (by decide)
        have hmf31 : tw_fv E26 a0 16 = .ref xr5 := (hst30.1 a0 16 hm0 (by rw [hk0]; decide)).trans hmf21
        have hmf32 : tw_fv E26 a0 18 = .ref xr14 := (hst30.1 a0 18 hm0 (by rw [hk0]; decide)).trans hmf22
        have hmf33 : tw_fv E26 a0 19 = .ref xr24 := (hst30.1 a0 19 hm0 (by rw [hk0]; decide)).trans hxr24
        have hg1 : rd_ok E26 a0 := rd_ok_fr TH hst30 hm0 hk0 (by decide) (by decide) hg1
        have hg2 : eo_ok E26 a0 := eo_ok_fr TH hst30 hm0 hk0 (by decide) (by decide) hg2
        have hg3 : ht_ok E26 a0 := ht_ok_fr TH hst30 hm0 hk0 (by decide) (by decide) hg3
        have hh12 : h12_ok E26 a0 (fun c => if c = (x1.toInt).toNat then 1 else (rw_h E a0 12) c) := h12_ok_fr TH hst30 hm0 hk0 (by decide) (by decide) hh12
        have hp12 : p12_ok E26 a0 (fun c => if c = (x1.toInt).toNat then x2.toInt else (rw_p E a0 12) c) := p12_ok_fr TH hst30 hm0 hk0 (by decide) (by decide) hp12
        have hgn23 : rw_ok E26 a0 (12) := rw_ok_fr TH hst30 hm0 hk0 (by decide) (by decide) (by omega) hgn23
        refine lv_aload_n hx hb dX12_lays_107 rfl (lv_at hl 1 rfl) ?_
        refine lv_bipush (v := 12) hx hb dX12_lays_108 (by decide) ?_
        refine tw_Vc (o := a0) (ci := 12) (n := 1) (post := (fun v kq Lq Eq => v = none ∧ kp = kq ∧ L = Lq ∧ tw_fr kp L [] [329] E26 Eq ∧ ht_ok Eq a0 ∧ t1_ok Eq a0 ((12 : Int32).toInt))) (As := [.int 12]) (rest := []) ⟨hx, hb, hml, hown, hB⟩ (fun sz => tX12_orders l D cs a0 (12 : Int32) hm0 hk0 (by have : ((12 : Int32).toInt) = 12 := (by decide); omega) (by have : ((12 : Int32).toInt) = 12 := (by decide); omega) hg3 (t1_ok_cast (i := 12) (by decide) (hgn23).1) sz) cg_12_275_X12_orders rfl rfl (by decide +kernel) ⟨Nat.le_of_ble_eq_true rfl, Nat.le_of_ble_eq_true rfl⟩ hK hN TH hS hA rfl hm0 hk0 (by decide) rfl hl.1 rfl (Nat.le_of_ble_eq_true rfl) dX12_lays_110 ⟨Nat.le_of_ble_eq_true rfl, Nat.le_of_ble_eq_true rfl⟩ (fun v34 kp34 L34 E34 H locs hq34 hx34 TH hS => ?_)
        obtain ⟨rfl, rfl, rfl, hst34, hgpxc35_0, hgpxc35_1⟩ := hq34
        have hF := hF.tr hst34 (fun _ h => ⟨h, rfl⟩) (by decide) (by decide)
        have hmf36 : tw_fv E34 a0 16 = .ref xr5 := (hst34.1 a0 16 hm0 (by rw [hk0]; decide)).trans hmf31
        have hmf37 : tw_fv E34 a0 18 = .ref xr14 := (hst34.1 a0 18 hm0 (by rw [hk0]; decide)).trans hmf32
        have hmf38 : tw_fv E34 a0 19 = .ref xr24 := (hst34.1 a0 19 hm0 (by rw [hk0]; decide)).trans hmf33
        have hg1 : rd_ok E34 a0 := rd_ok_fr TH hst34 hm0 hk0 (by decide) (by decide) hg1
        have hg2 : eo_ok E34 a0 := eo_ok_fr TH hst34 hm0 hk0 (by decide) (by decide) hg2
        have hh12 : h12_ok E34 a0 (fun c => if c = (x1.toInt).toNat then 1 else (rw_h E a0 12) c) := h12_ok_fr TH hst34 hm0 hk0 (by decide) (by decide) hh12
        have hp12 : p12_ok E34 a0 (fun c => if c = (x1.toInt).toNat then x2.toInt else (rw_p E a0 12) c) := p12_ok_fr TH hst34 hm0 hk0 (by decide) (by decide) hp12
        have hgn23 : rw_ok E34 a0 (12) := rw_ok_fr TH hst34 hm0 hk0 (by decide) (by decide) (by omega) hgn23
        refine W.eq (g2 := F0 m 113 ls []) rfl ?_
        exact tw_vret hx hb hr hlocks TH hS hex ⟨rfl, rfl, rfl, hF, (by  intro c; exact congrFun hh12 c), (by  intro c; exact congrFun hp12 c), hgn23, hg1, hg2, hgpxc35_0⟩ (Nat.le_of_ble_eq_true rfl) (Nat.le_of_ble_eq_true rfl) dX12_lays_113
      · have hf39 : ¬ (150 ≤ y8_4.toInt) := fun q => hc3 ((fa_le _ _).mpr (by have : ((150 : Int32).toInt) = 150 := (by decide); omega))
        refine lv_aload_n hx hb dX12_lays_16 rfl (lv_at hl 1 rfl) ?_
        refine tw_get (ci := 12) (C := RX12) (T := TX12) (N := 64) hx hb hB cx_inX12 hown hK TH hm0 hk0 rfl ⟨by decide, rfl⟩ 16 (by decide) cw_1209 (fun _ h9 => h9) dX12_lays_17 (fun hv => ?_)
        obtain ⟨xr40, hxr40, hmxr40, hkxr40⟩ : ∃ a : Nat, tw_fv Eg8 a0 16 = .ref a ∧ a ∈ L ∧ kp a = 316 := hv
        rw [hxr40]
        refine lv_bipush (v := 12) hx hb dX12_lays_20 (by decide) ?_
        refine tw_aald (k := 316) (t0 := 5) (n := 16) (lo := 326) (hi := 0) (ty := .boolean) hx hb hK TH hmxr40 hkxr40 (by decide) rfl rfl (i := 12) (vp_in_iff.mpr ⟨by have : ((12 : Int32).toInt) = 12 := (by decide); omega, by have : ((12 : Int32).toInt) = 12 := (by decide); omega⟩) dX12_lays_22 (fun xr41 exr41 hmxr41 hkxr41 => ?_)
        have hkxr41 : kp xr41 = 326 := hkxr41
        refine lv_iload hx hb dX12_lays_23 (lv_at hl 0 rfl) ?_
        refine tw_zald (k := 326) (t0 := 3) (n := 150) (lo := 0) (hi := 1) hx hb hK TH hmxr41 hkxr41 (by decide) rfl rfl (i := y8_4) (vp_in_iff.mpr ⟨by  omega, by  omega⟩) dX12_lays_25 (fun hxe42a hxe42b => ?_)
        obtain ⟨xe42, exe42⟩ : ∃ z : Int32, tw_iv Eg8 xr41 (Int32.toNatClampNeg y8_4) = z := ⟨_, rfl⟩
        rw [exe42] at hxe42a hxe42b ⊢
        have hJ71 : ∀  (Eg71 : Nat → va_E) (H : Heap) (locs : List Loc) (ls : Array Slot), tw_fr kp L [] [329] Eg8 Eg71 → lyw_ok Eg71 a0 (x1.toInt) (x2.toInt) → rd_ok Eg71 a0 → eo_ok Eg71 a0 → ht_ok Eg71 a0 → h12_ok Eg71 a0 (rw_h E a0 12) → p12_ok Eg71 a0 (rw_p E a0 12) → tw_H D cs kp L Eg71 A H → va_S A s.heap H locs → lv_has ls 5 [(4, .int y8_4), (0, .ref a0), (1, .int x1), (2, .int x2), (3, .int x3)] → W p l e { frames := 4, cells := 0, slots := 0, locals := 98 } s m [.ref a0, .int x1, .int x2, .int x3].toArray below meth c H locs 0 0 (MQ below (tw_Q D cs kp0 L0 (fun v kq Lq Eq => v = none ∧ kp = kq ∧ L = Lq ∧ tw_fr kp L [] [326, 328, 329] E Eq ∧ (∀ c : Nat, rw_h Eq a0 12 c = if c = (x1.toInt).toNat then 1 else rw_h E a0 12 c) ∧ (∀ c : Nat, rw_p Eq a0 12 c = if c = (x1.toInt).toNat then x2.toInt else rw_p E a0 12 c) ∧ rw_ok Eq a0 (12) ∧ rd_ok Eq a0 ∧ eo_ok Eq a0 ∧ ht_ok Eq a0) A) [.ref a0, .int x1, .int x2, .int x3].toArray s 0 0 A) (F0 m 71 ls []) := by
          intro Eg71 H locs ls hG71 hg0 hg1 hg2 hg3 hh12 hp12 TH hS hl
          have hF := hF.tr hG71 (fun _ h => ⟨h, rfl⟩) (by decide) (by decide)
          have hG8 := hG8.tr hG71 (fun _ h => ⟨h, rfl⟩) (by decide) (by decide)
          have hmf43 : tw_fv Eg71 a0 16 = .ref xr40 := (hG71.1 a0 16 hm0 (by rw [hk0]; decide)).trans hxr40
          obtain ⟨zi44, ezi44⟩ : ∃ z : Int32, z = y8_4 + Int32.ofInt 1 := ⟨_, rfl⟩
          have hzi44 : zi44.toInt = y8_4.toInt + 1 := by rw [ezi44]; have : ((Int32.ofInt 1).toInt) = 1 := (by decide);  exact (ia_add (by omega) (by omega)).trans (by omega)
          refine lv_iinc (v := zi44) (lv' := [(4, .int zi44), (0, .ref a0), (1, .int x1), (2, .int x2), (3, .int x3)]) hx hb dX12_lays_71 hl (k := 0) rfl ezi44.symm (by decide) rfl (fun ls hl => ?_)
          refine lv_goto (tgt := 8) hx hb dX12_lays_74 (by decide) ?_
          exact ih8 (n8 - 1) (by   omega) zi44 _ _ _ ls (by omega) (by omega) (by   omega) hG8 hg0 hg1 hg2 hg3 hh12 hp12 TH hS (lv_sub hl [0, 1, 2, 3, 4] rfl)
        have hG71 : tw_fr kp L [] [329] Eg8 Eg8 := tw_fr.rf
        refine lv_if_eq (tgt := 71) hx hb dX12_lays_26 (by decide) (fun hc45 => ?_) (fun hc45 => ?_)
        · have hf46 : xe42.toInt = 0 := by have z := (fa_eq _ _).mp hc45; have : ((0 : Int32).toInt) = 0 := (by decide); omega
          exact hJ71  _ _ _ ls hG71 hg0 hg1 hg2 hg3 hh12 hp12 TH hS (lv_sub hl [0, 1, 2, 3, 4] rfl)
        · have hf47 : ¬ (xe42.toInt = 0) := fun q => hc45 ((fa_eq _ _).mpr (by have : ((0 : Int32).toInt) = 0 := (by decide); omega))
          refine lv_aload_n hx hb dX12_lays_29 rfl (lv_at hl 1 rfl) ?_
          refine tw_get (ci := 12) (C := RX12) (T := TX12) (N := 64) hx hb hB cx_inX12 hown hK TH hm0 hk0 rfl ⟨by decide, rfl⟩ 18 (by decide) cw_1211 (fun _ h9 => h9) dX12_lays_30 (fun hv => ?_)
          obtain ⟨xr48, hxr48, hmxr48, hkxr48⟩ : ∃ a : Nat, tw_fv Eg8 a0 18 = .ref a ∧ a ∈ L ∧ kp a = 318 := hv
          rw [hxr48]
          refine lv_bipush (v := 12) hx hb dX12_lays_33 (by decide) ?_
          refine tw_aald (k := 318) (t0 := 4) (n := 16) (lo := 328) (hi := 0) (ty := .int) hx hb hK TH hmxr48 hkxr48 (by decide) rfl rfl (i := 12) (vp_in_iff.mpr ⟨by have : ((12 : Int32).toInt) = 12 := (by decide); omega, by have : ((12 : Int32).toInt) = 12 := (by decide); omega⟩) dX12_lays_35 (fun xr49 exr49 hmxr49 hkxr49 => ?_)
          have hkxr49 : kp xr49 = 328 := hkxr49
          refine lv_iload hx hb dX12_lays_36 (lv_at hl 0 rfl) ?_
          refine tw_iald (k := 328) (t0 := 0) (n := 150) (lo := (-1)) (hi := 149) hx hb hK TH hmxr49 hkxr49 (by decide) rfl rfl (i := y8_4) (vp_in_iff.mpr ⟨by  omega, by  omega⟩) dX12_lays_38 (fun hxe50a hxe50b => ?_)
          obtain ⟨xe50, exe50⟩ : ∃ z : Int32, tw_iv Eg8 xr49 (Int32.toNatClampNeg y8_4) = z := ⟨_, rfl⟩
          rw [exe50] at hxe50a hxe50b ⊢
          refine lv_iload_n hx hb dX12_lays_39 rfl (lv_at hl 3 rfl) ?_
          refine lv_icmp_ne (tgt := 71) hx hb dX12_lays_40 (by decide) (fun hc51 => ?_) (fun hc51 => ?_)
          · have hf52 : ¬ (xe50.toInt = x2.toInt) := fun q => hc51 ((fa_eq _ _).mpr (by  omega))
            exact hJ71  _ _ _ ls hG71 hg0 hg1 hg2 hg3 hh12 hp12 TH hS (lv_sub hl [0, 1, 2, 3, 4] rfl)
          · have hf53 : xe50.toInt = x2.toInt := by have z := (fa_eq _ _).mp hc51;  omega
            refine lv_aload_n hx hb dX12_lays_43 rfl (lv_at hl 1 rfl) ?_
            refine tw_get (ci := 12) (C := RX12) (T := TX12) (N := 64) hx hb hB cx_inX12 hown hK TH hm0 hk0 rfl ⟨by decide, rfl⟩ 19 (by decide) cw_1212 (fun _ h9 => h9) dX12_lays_44 (fun hv => ?_)
            obtain ⟨xr54, hxr54, hmxr54, hkxr54⟩ : ∃ a : Nat, tw_fv Eg8 a0 19 = .ref a ∧ a ∈ L ∧ kp a = 319 := hv
            rw [hxr54]
            refine lv_bipush (v := 12) hx hb dX12_lays_47 (by decide) ?_
            refine tw_aald (k := 319) (t0 := 4) (n := 16) (lo := 329) (hi := 0) (ty := .int) hx hb hK TH hmxr54 hkxr54 (by decide) rfl rfl (i := 12) (vp_in_iff.mpr ⟨by have : ((12 : Int32).toInt) = 12 := (by decide); omega, by have : ((12 : Int32).toInt) = 12 := (by decide); omega⟩) dX12_lays_49 (fun xr55 exr55 hmxr55 hkxr55 => ?_)
            have hkxr55 : kp xr55 = 329 := hkxr55
            refine lv_iload hx hb dX12_lays_50 (lv_at hl 0 rfl) ?_
            refine tw_iald (k := 329) (t0 := 0) (n := 150) (lo := (-2147483648)) (hi := 2147483647) hx hb hK TH hmxr55 hkxr55 (by decide) rfl rfl (i := y8_4) (vp_in_iff.mpr ⟨by  omega, by  omega⟩) dX12_lays_52 (fun hxe56a hxe56b => ?_)
            obtain ⟨xe56, exe56⟩ : ∃ z : Int32, tw_iv Eg8 xr55 (Int32.toNatClampNeg y8_4) = z := ⟨_, rfl⟩
            rw [exe56] at hxe56a hxe56b ⊢
            refine lv_iload_n hx hb dX12_lays_53 rfl (lv_at hl 4 rfl) ?_
            refine lv_icmp_lt (tgt := 71) hx hb dX12_lays_54 (by decide) (fun hc57 => ?_) (fun hc57 => ?_)
            · have hf58 : xe56.toInt < x3.toInt := by have z := (fa_lt _ _).mp hc57;  omega
              exact hJ71  _ _ _ ls hG71 hg0 hg1 hg2 hg3 hh12 hp12 TH hS (lv_sub hl [0, 1, 2, 3, 4] rfl)
            · have hf59 : ¬ (xe56.toInt < x3.toInt) := fun q => hc57 ((fa_lt _ _).mpr (by  omega))
              refine lv_aload_n hx hb dX12_lays_57 rfl (lv_at hl 1 rfl) ?_
              refine tw_get (ci := 12) (C := RX12) (T := TX12) (N := 64) hx hb hB cx_inX12 hown hK TH hm0 hk0 rfl ⟨by decide, rfl⟩ 19 (by decide) cw_1212 (fun _ h9 => h9) dX12_lays_58 (fun hv => ?_)
              rw [hxr54]
              refine lv_bipush (v := 12) hx hb dX12_lays_61 (by decide) ?_
              refine tw_aald (k := 319) (t0 := 4) (n := 16) (lo := 329) (hi := 0) (ty := .int) hx hb hK TH hmxr54 hkxr54 (by decide) rfl rfl (i := 12) (vp_in_iff.mpr ⟨by have : ((12 : Int32).toInt) = 12 := (by decide); omega, by have : ((12 : Int32).toInt) = 12 := (by decide); omega⟩) dX12_lays_63 (fun xr60 exr60 hmxr60 hkxr60 => ?_)
              have ezxr60 : xr55 = xr60 := exr55.symm.trans exr60
              subst ezxr60
              refine lv_iload hx hb dX12_lays_64 (lv_at hl 0 rfl) ?_
              refine lv_dup2_11 hx hb dX12_lays_66 rfl rfl ?_
              refine tw_iald (k := 329) (t0 := 0) (n := 150) (lo := (-2147483648)) (hi := 2147483647) hx hb hK TH hmxr55 hkxr55 (by decide) rfl rfl (i := y8_4) (vp_in_iff.mpr ⟨by  omega, by  omega⟩) dX12_lays_67 (fun hxe61a hxe61b => ?_)
              rw [exe56]
              refine lv_iconst (v := 1) hx hb dX12_lays_68 (by decide) ?_
              refine lv_iadd hx hb dX12_lays_69 ?_
              refine lv_topi (fun zi62 ezi62 => ?_)
              refine tw_iast (k := 329) (n := 150) (lo := (-2147483648)) (hi := 2147483647) hx hb hK TH hS hmxr55 hkxr55 (by decide) rfl (i := y8_4) (x := zi62) (vp_in_iff.mpr ⟨by  omega, by  omega⟩) (ia_lo _) (ia_hi _) dX12_lays_70 (fun H locs E63 TH hS hp64 hp65 hp66 => ?_)
              have hst67 : tw_fr kp L [] [329] Eg8 E63 := tw_fr.ast tw_fr.rf (fun _ => hkxr55) hp64 hp65 (by decide)
              have hF := hF.tr hst67 (fun _ h => ⟨h, rfl⟩) (by decide) (by decide)
              have hG8 := hG8.tr hst67 (fun _ h => ⟨h, rfl⟩) (by decide) (by decide)
              have hG71 := hG71.tr hst67 (fun _ h => ⟨h, rfl⟩) (by decide) (by decide)
              have hmf68 : tw_fv E63 a0 16 = .ref xr40 := (hst67.1 a0 16 hm0 (by rw [hk0]; decide)).trans hxr40
              have hmf69 : tw_fv E63 a0 18 = .ref xr48 := (hst67.1 a0 18 hm0 (by rw [hk0]; decide)).trans hxr48
              have hmf70 : tw_fv E63 a0 19 = .ref xr54 := (hst67.1 a0 19 hm0 (by rw [hk0]; decide)).trans hxr54
              have hg0 : lyw_ok E63 a0 (x1.toInt) (x2.toInt) := lyw_ok_fr TH hst67 hm0 hk0 (by decide) (by decide) hg0
              have hg1 : rd_ok E63 a0 := rd_ok_fr TH hst67 hm0 hk0 (by decide) (by decide) hg1
              have hg2 : eo_ok E63 a0 := eo_ok_fr TH hst67 hm0 hk0 (by decide) (by decide) hg2
              have hg3 : ht_ok E63 a0 := ht_ok_fr TH hst67 hm0 hk0 (by decide) (by decide) hg3
              have hh12 : h12_ok E63 a0 (rw_h E a0 12) := h12_ok_fr TH hst67 hm0 hk0 (by decide) (by decide) hh12
              have hp12 : p12_ok E63 a0 (rw_p E a0 12) := p12_ok_fr TH hst67 hm0 hk0 (by decide) (by decide) hp12
              exact hJ71  _ _ _ ls hG71 hg0 hg1 hg2 hg3 hh12 hp12 TH hS (lv_sub hl [0, 1, 2, 3, 4] rfl)
  exact hJ8 151 (0 : Int32) _ _ _ ls (by have : ((0 : Int32).toInt) = 0 := (by decide); omega) (by have : ((0 : Int32).toInt) = 0 := (by decide); omega) (by have : ((0 : Int32).toInt) = 0 := (by decide);  omega) tw_fr.rf hg0 hg1 hg2 hg3 hh12 hp12 TH hS (lv_sub hl [0, 1, 2, 3, 4] rfl)
set_option maxHeartbeats 4000000 in
set_option maxRecDepth 100000 in
theorem tX12_put (l : Launch) (D : va_G) (cs : Nat → ClassId) {kp : Nat → Nat} {L : List Nat} {E : Nat → va_E} (a0 : Nat) (x1 : Int32) (x2 : Int32) (x3 : Int32) (x4 : Int64) (hm0 : a0 ∈ L) (hk0 : kp a0 = 12) (hg0 : rd_ok E a0) (hg1 : eo_ok E a0) (hg2 : ht_ok E a0) (hg3 : dr_ok E a0) (sz : Nat) : Met l yX12_put (.code yX12_put cX12_put 7 (some .int) :: cx_big) { frames := 5, cells := 0, slots := 0, locals := 122 } (tw_P D cs kp L E [.ref a0, .int x1, .int x2, .int x3, .long x4] sz) (tw_Q D cs kp L (fun v kq Lq Eq => (∃ x : Int32, v = some (.int x) ∧ rd_ok Eq a0 ∧ eo_ok Eq a0 ∧ ht_ok Eq a0 ∧ dr_ok Eq a0) ∧ kp = kq ∧ L = Lq ∧ tw_fr kp L [(12, 26)] [326, 327, 328, 329, 330, 331, 333] E Eq) (va_A (va_pl L E) sz)) 0 0 (va_A (va_pl L E) sz) := by
  refine tw_ofW (by decide) (Nat.le_of_ble_eq_true rfl) ?_
  intro p e s m below meth c A ls hx hb hr hml hB hown hlocks hK hN hA TH hS hl
  have hown : s.vm.findClass "TreeMergeModel" = some m.cls := hown
  have hl : lv_has ls 7 [(0, .ref a0), (1, .int x1), (2, .int x2), (3, .int x3), (4, .long x4)] := hl
  obtain ⟨kp0, ekp⟩ : ∃ z, z = kp := ⟨_, rfl⟩
  obtain ⟨L0, eL⟩ : ∃ z, z = L := ⟨_, rfl⟩
  rw [show tw_Q D cs kp L = tw_Q D cs kp0 L0 by rw [ekp, eL]]
  have hex : ∀ a : Nat, a ∈ L0 → a ∈ L ∧ kp a = kp0 a := fun a h => ⟨by rw [← eL]; exact h, by rw [ekp]⟩
  have hF : tw_fr kp L [(12, 26)] [326, 327, 328, 329, 330, 331, 333] E E := tw_fr.rf
  have hh12 : h12_ok E a0 (rw_h E a0 12) := rfl
  have hp12 : p12_ok E a0 (rw_p E a0 12) := rfl
  refine lv_aload_n hx hb dX12_put_0 rfl (lv_at hl 0 rfl) ?_
  refine lv_iload_n hx hb dX12_put_1 rfl (lv_at hl 1 rfl) ?_
  obtain ⟨xi1, hxi1, hxi1a, hxi1b⟩ := tw_rd TH hm0 hk0 (by decide) (by decide) (k := 26) rfl
  obtain ⟨xi2, hxi2, hxi2a, hxi2b⟩ := tw_rd TH hm0 hk0 (by decide) (by decide) (k := 29) rfl
  refine tw_Vc (o := a0) (ci := 12) (n := 1) (post := (fun v kq Lq Eq => (∃ x : Int32, v = some (.int x) ∧ 0 ≤ x.toInt ∧ x.toInt ≤ 1 ∧ (x.toInt ≠ 0 → 0 ≤ x1.toInt ∧ x1.toInt < xi1.toInt ∧ xi2.toInt = 1) ∧ (x.toInt ≠ 0 → rw_h E a0 12 (x1.toInt).toNat ≠ 0)) ∧ kp = kq ∧ L = Lq ∧ E = Eq)) (As := [.int x1]) (rest := []) ⟨hx, hb, hml, hown, hB⟩ (fun sz => tX12_inDraft l D cs a0 x1 xi1 xi2 hm0 hk0 hxi1 hxi2 sz) cg_12_425_X12_inDraft rfl rfl (by decide +kernel) ⟨Nat.le_of_ble_eq_true rfl, Nat.le_of_ble_eq_true rfl⟩ hK hN TH hS hA rfl hm0 hk0 (by decide) rfl hl.1 rfl (Nat.le_of_ble_eq_true rfl) dX12_put_2 ⟨Nat.le_of_ble_eq_true rfl, Nat.le_of_ble_eq_true rfl⟩ (fun v3 kp3 L3 E3 H locs hq3 hx3 TH hS => ?_)
  obtain ⟨⟨xc4, rfl, hxc4a, hxc4b, hpoxc4_0, hpoxc4_1⟩, rfl, rfl, rfl⟩ := hq3
  refine W.eq (g2 := F0 m 5 ls [.int xc4]) rfl ?_
  refine lv_if_eq (tgt := 70) hx hb dX12_put_5 (by decide) (fun hc5 => ?_) (fun hc5 => ?_)
  · have hf6 : xc4.toInt = 0 := by have z := (fa_eq _ _).mp hc5; have : ((0 : Int32).toInt) = 0 := (by decide); omega
    refine lv_iconst (v := (-1)) hx hb dX12_put_70 (by decide) ?_
    exact tw_iret hx hb hr hlocks TH hS hex ⟨⟨_, rfl, hg0, hg1, hg2, hg3⟩, rfl, rfl, hF⟩ (Nat.le_of_ble_eq_true rfl) (Nat.le_of_ble_eq_true rfl) dX12_put_71
  · have hf7 : ¬ (xc4.toInt = 0) := fun q => hc5 ((fa_eq _ _).mpr (by have : ((0 : Int32).toInt) = 0 := (by decide); omega))
    refine lv_iload_n hx hb dX12_put_8 rfl (lv_at hl 3 rfl) ?_
    refine lv_i2l (v := (x3).toInt64) hx hb dX12_put_9 rfl ?_
    refine tw_topl (fun zl8 ezl8 => ?_)
    have hzl8 : zl8.toInt = x3.toInt := by rw [ezl8];  exact (Int32.toInt_toInt64 _)
    refine lv_lconst (v := 0) hx hb dX12_put_10 (by decide) ?_
    refine tw_topl (fun zl9 ezl9 => ?_)
    have hzl9 : zl9.toInt = 0 := by rw [ezl9]; decide
    refine lv_aload_n hx hb dX12_put_11 rfl (lv_at hl 0 rfl) ?_
    refine tw_get (ci := 12) (C := RX12) (T := TX12) (N := 64) hx hb hB cx_inX12 hown hK TH hm0 hk0 rfl ⟨by decide, rfl⟩ 14 (by decide) cw_1207 (fun _ h9 => h9) dX12_put_12 (fun hv => ?_)
    obtain ⟨xi10, hxi10, hxi10a, hxi10b⟩ : ∃ x : Int32, tw_fv E a0 14 = .int x ∧ 0 ≤ x.toInt ∧ x.toInt ≤ 10 := hv
    rw [hxi10]
    refine lv_iconst (v := 1) hx hb dX12_put_15 (by decide) ?_
    refine lv_isub hx hb dX12_put_16 ?_
    refine lv_topi (fun zi11 ezi11 => ?_)
    have hzi11 : zi11.toInt = xi10.toInt - 1 := by rw [ezi11]; have : ((1 : Int32).toInt) = 1 := (by decide); have := ia_lo xi10; have := ia_hi xi10; exact (ia_sub (by omega) (by omega)).trans (by omega)
    refine lv_i2l (v := (zi11).toInt64) hx hb dX12_put_17 rfl ?_
    refine tw_topl (fun zl12 ezl12 => ?_)
    have hzl12 : zl12.toInt = zi11.toInt := by rw [ezl12];  exact (Int32.toInt_toInt64 _)
    refine tw_Sc (n := 3) (post := (fun v kq Lq Eq => (∃ x : Int32, v = some (.int x) ∧ 0 ≤ x.toInt ∧ x.toInt ≤ 1 ∧ (x.toInt ≠ 0 → zl9.toInt ≤ zl8.toInt ∧ zl8.toInt ≤ zl12.toInt)) ∧ kp = kq ∧ L = Lq ∧ E = Eq)) (As := [.long zl8, .long zl9, .long zl12]) (rest := []) ⟨hx, hb, hml, hown, hB⟩ (fun sz => tX12_in l D cs zl8 zl9 zl12  sz) cg_12_171_X12_in rfl rfl (by decide +kernel) ⟨Nat.le_of_ble_eq_true rfl, Nat.le_of_ble_eq_true rfl⟩ hK hN TH hS hA rfl hl.1 rfl (Nat.le_of_ble_eq_true rfl) dX12_put_18 ⟨Nat.le_of_ble_eq_true rfl, Nat.le_of_ble_eq_true rfl⟩ (fun v13 kp13 L13 E13 H locs hq13 hx13 TH hS => ?_)
    obtain ⟨⟨xc14, rfl, hxc14a, hxc14b, hpoxc14_0⟩, rfl, rfl, rfl⟩ := hq13
    refine W.eq (g2 := F0 m 21 ls [.int xc14]) rfl ?_
    refine lv_if_eq (tgt := 70) hx hb dX12_put_21 (by decide) (fun hc15 => ?_) (fun hc15 => ?_)
    · have hf16 : xc14.toInt = 0 := by have z := (fa_eq _ _).mp hc15; have : ((0 : Int32).toInt) = 0 := (by decide); omega
      refine lv_iconst (v := (-1)) hx hb dX12_put_70 (by decide) ?_
      exact tw_iret hx hb hr hlocks TH hS hex ⟨⟨_, rfl, hg0, hg1, hg2, hg3⟩, rfl, rfl, hF⟩ (Nat.le_of_ble_eq_true rfl) (Nat.le_of_ble_eq_true rfl) dX12_put_71
    · have hf17 : ¬ (xc14.toInt = 0) := fun q => hc15 ((fa_eq _ _).mpr (by have : ((0 : Int32).toInt) = 0 := (by decide); omega))
      refine lv_iload_n hx hb dX12_put_24 rfl (lv_at hl 2 rfl) ?_
      refine lv_i2l (v := (x2).toInt64) hx hb dX12_put_25 rfl ?_
      refine tw_topl (fun zl18 ezl18 => ?_)
      have hzl18 : zl18.toInt = x2.toInt := by rw [ezl18];  exact (Int32.toInt_toInt64 _)
      refine lv_lconst (v := 0) hx hb dX12_put_26 (by decide) ?_
      refine tw_topl (fun zl19 ezl19 => ?_)
      have hzl19 : zl19.toInt = 0 := by rw [ezl19]; decide
      refine lv_aload_n hx hb dX12_put_27 rfl (lv_at hl 0 rfl) ?_
      refine lv_bipush (v := 12) hx hb dX12_put_28 (by decide) ?_
      refine lv_iload_n hx hb dX12_put_30 rfl (lv_at hl 1 rfl) ?_
      refine tw_Vc (o := a0) (ci := 12) (n := 2) (post := (fun v kq Lq Eq => (∃ x : Int32, v = some (.int x) ∧ 0 ≤ x.toInt ∧ x.toInt ≤ 150 ∧ (x.toInt = 0 → nk_inv (rw_h E a0 (12 : Int32).toInt) (rw_p E a0 (12 : Int32).toInt) x1.toInt 150)) ∧ kp = kq ∧ L = Lq ∧ E = Eq)) (As := [.int 12, .int x1]) (rest := [.long zl19, .long zl18]) ⟨hx, hb, hml, hown, hB⟩ (fun sz => tX12_kidsOf l D cs a0 (12 : Int32) x1 hm0 hk0 (by have : ((12 : Int32).toInt) = 12 := (by decide); omega) (by have : ((12 : Int32).toInt) = 12 := (by decide); omega) sz) cg_12_315_X12_kidsOf rfl rfl (by decide +kernel) ⟨Nat.le_of_ble_eq_true rfl, Nat.le_of_ble_eq_true rfl⟩ hK hN TH hS hA rfl hm0 hk0 (by decide) rfl hl.1 rfl (Nat.le_of_ble_eq_true rfl) dX12_put_31 ⟨Nat.le_of_ble_eq_true rfl, Nat.le_of_ble_eq_true rfl⟩ (fun v20 kp20 L20 E20 H locs hq20 hx20 TH hS => ?_)
      obtain ⟨⟨xc21, rfl, hxc21a, hxc21b, hpoxc21_0⟩, rfl, rfl, rfl⟩ := hq20
      refine W.eq (g2 := F0 m 34 ls [.int xc21, .long zl19, .long zl18]) rfl ?_
      refine lv_i2l (v := (xc21).toInt64) hx hb dX12_put_34 rfl ?_
      refine tw_topl (fun zl22 ezl22 => ?_)
      have hzl22 : zl22.toInt = xc21.toInt := by rw [ezl22];  exact (Int32.toInt_toInt64 _)
      refine tw_Sc (n := 3) (post := (fun v kq Lq Eq => (∃ x : Int32, v = some (.int x) ∧ 0 ≤ x.toInt ∧ x.toInt ≤ 1 ∧ (x.toInt ≠ 0 → zl19.toInt ≤ zl18.toInt ∧ zl18.toInt ≤ zl22.toInt)) ∧ kp = kq ∧ L = Lq ∧ E = Eq)) (As := [.long zl18, .long zl19, .long zl22]) (rest := []) ⟨hx, hb, hml, hown, hB⟩ (fun sz => tX12_in l D cs zl18 zl19 zl22  sz) cg_12_171_X12_in rfl rfl (by decide +kernel) ⟨Nat.le_of_ble_eq_true rfl, Nat.le_of_ble_eq_true rfl⟩ hK hN TH hS hA rfl hl.1 rfl (Nat.le_of_ble_eq_true rfl) dX12_put_35 ⟨Nat.le_of_ble_eq_true rfl, Nat.le_of_ble_eq_true rfl⟩ (fun v23 kp23 L23 E23 H locs hq23 hx23 TH hS => ?_)
      obtain ⟨⟨xc24, rfl, hxc24a, hxc24b, hpoxc24_0⟩, rfl, rfl, rfl⟩ := hq23
      refine W.eq (g2 := F0 m 38 ls [.int xc24]) rfl ?_
      refine lv_if_eq (tgt := 70) hx hb dX12_put_38 (by decide) (fun hc25 => ?_) (fun hc25 => ?_)
      · have hf26 : xc24.toInt = 0 := by have z := (fa_eq _ _).mp hc25; have : ((0 : Int32).toInt) = 0 := (by decide); omega
        refine lv_iconst (v := (-1)) hx hb dX12_put_70 (by decide) ?_
        exact tw_iret hx hb hr hlocks TH hS hex ⟨⟨_, rfl, hg0, hg1, hg2, hg3⟩, rfl, rfl, hF⟩ (Nat.le_of_ble_eq_true rfl) (Nat.le_of_ble_eq_true rfl) dX12_put_71
      · have hf27 : ¬ (xc24.toInt = 0) := fun q => hc25 ((fa_eq _ _).mpr (by have : ((0 : Int32).toInt) = 0 := (by decide); omega))
        refine lv_lload hx hb dX12_put_41 (lv_at hl 4 rfl) ?_
        refine tw_Sc (n := 1) (post := (fun v kq Lq Eq => (∃ x : Int32, v = some (.int x) ∧ 0 ≤ x.toInt ∧ x.toInt ≤ 1) ∧ kp = kq ∧ L = Lq ∧ E = Eq)) (As := [.long x4]) (rest := []) ⟨hx, hb, hml, hown, hB⟩ (fun sz => tX12_isGood l D cs x4  sz) cg_12_428_X12_isGood rfl rfl (by decide +kernel) ⟨Nat.le_of_ble_eq_true rfl, Nat.le_of_ble_eq_true rfl⟩ hK hN TH hS hA rfl hl.1 rfl (Nat.le_of_ble_eq_true rfl) dX12_put_43 ⟨Nat.le_of_ble_eq_true rfl, Nat.le_of_ble_eq_true rfl⟩ (fun v28 kp28 L28 E28 H locs hq28 hx28 TH hS => ?_)
        obtain ⟨⟨xc29, rfl, hxc29a, hxc29b⟩, rfl, rfl, rfl⟩ := hq28
        refine W.eq (g2 := F0 m 46 ls [.int xc29]) rfl ?_
        refine lv_if_eq (tgt := 70) hx hb dX12_put_46 (by decide) (fun hc30 => ?_) (fun hc30 => ?_)
        · have hf31 : xc29.toInt = 0 := by have z := (fa_eq _ _).mp hc30; have : ((0 : Int32).toInt) = 0 := (by decide); omega
          refine lv_iconst (v := (-1)) hx hb dX12_put_70 (by decide) ?_
          exact tw_iret hx hb hr hlocks TH hS hex ⟨⟨_, rfl, hg0, hg1, hg2, hg3⟩, rfl, rfl, hF⟩ (Nat.le_of_ble_eq_true rfl) (Nat.le_of_ble_eq_true rfl) dX12_put_71
        · have hf32 : ¬ (xc29.toInt = 0) := fun q => hc30 ((fa_eq _ _).mpr (by have : ((0 : Int32).toInt) = 0 := (by decide); omega))
          refine lv_aload_n hx hb dX12_put_49 rfl (lv_at hl 0 rfl) ?_
          refine lv_bipush (v := 12) hx hb dX12_put_50 (by decide) ?_
          refine tw_Vc (o := a0) (ci := 12) (n := 1) (post := (fun v kq Lq Eq => (∃ x : Int32, v = some (.int x) ∧ 0 ≤ x.toInt ∧ x.toInt ≤ 150 ∧ (x.toInt = (rt_size (rw_h E a0 (12 : Int32).toInt) : Int))) ∧ kp = kq ∧ L = Lq ∧ E = Eq)) (As := [.int 12]) (rest := []) ⟨hx, hb, hml, hown, hB⟩ (fun sz => tX12_size l D cs a0 (12 : Int32) hm0 hk0 (by have : ((12 : Int32).toInt) = 12 := (by decide); omega) (by have : ((12 : Int32).toInt) = 12 := (by decide); omega) sz) cg_12_432_X12_size rfl rfl (by decide +kernel) ⟨Nat.le_of_ble_eq_true rfl, Nat.le_of_ble_eq_true rfl⟩ hK hN TH hS hA rfl hm0 hk0 (by decide) rfl hl.1 rfl (Nat.le_of_ble_eq_true rfl) dX12_put_52 ⟨Nat.le_of_ble_eq_true rfl, Nat.le_of_ble_eq_true rfl⟩ (fun v33 kp33 L33 E33 H locs hq33 hx33 TH hS => ?_)
          obtain ⟨⟨xc34, rfl, hxc34a, hxc34b, hpoxc34_0⟩, rfl, rfl, rfl⟩ := hq33
          refine W.eq (g2 := F0 m 55 ls [.int xc34]) rfl ?_
          refine lv_bipush (v := 24) hx hb dX12_put_55 (by decide) ?_
          refine lv_icmp_ge (tgt := 70) hx hb dX12_put_57 (by decide) (fun hc35 => ?_) (fun hc35 => ?_)
          · have hf36 : 24 ≤ xc34.toInt := by have z := (fa_le _ _).mp hc35; have : ((24 : Int32).toInt) = 24 := (by decide); omega
            refine lv_iconst (v := (-1)) hx hb dX12_put_70 (by decide) ?_
            exact tw_iret hx hb hr hlocks TH hS hex ⟨⟨_, rfl, hg0, hg1, hg2, hg3⟩, rfl, rfl, hF⟩ (Nat.le_of_ble_eq_true rfl) (Nat.le_of_ble_eq_true rfl) dX12_put_71
          · have hf37 : ¬ (24 ≤ xc34.toInt) := fun q => hc35 ((fa_le _ _).mpr (by have : ((24 : Int32).toInt) = 24 := (by decide); omega))
            refine lv_aload_n hx hb dX12_put_60 rfl (lv_at hl 0 rfl) ?_
            refine tw_get (ci := 12) (C := RX12) (T := TX12) (N := 64) hx hb hB cx_inX12 hown hK TH hm0 hk0 rfl ⟨by decide, rfl⟩ 26 (by decide) cw_1219 (fun _ h9 => h9) dX12_put_61 (fun hv => ?_)
            rw [hxi1]
            refine lv_sipush (v := 150) hx hb dX12_put_64 (by decide) ?_
            refine lv_icmp_ne (tgt := 72) hx hb dX12_put_67 (by decide) (fun hc38 => ?_) (fun hc38 => ?_)
            · have hf39 : ¬ (xi1.toInt = 150) := fun q => hc38 ((fa_eq _ _).mpr (by have : ((150 : Int32).toInt) = 150 := (by decide); omega))
              refine lv_aload_n hx hb dX12_put_72 rfl (lv_at hl 0 rfl) ?_
              refine lv_iload_n hx hb dX12_put_73 rfl (lv_at hl 3 rfl) ?_
              refine lv_iconst (v := (-1)) hx hb dX12_put_74 (by decide) ?_
              have hrow := (hg3 (by rw [tw_fi_of hxi2]; omega))
              have hn0 : rw_h E a0 12 (xi1.toInt).toNat = 0 := Decidable.byContradiction (fun z => (by have q := hrow.2.2.2 (xi1.toInt).toNat (by omega) z; rw [tw_fi_of hxi1] at q; omega))
              refine tw_Vc (o := a0) (ci := 12) (n := 2) (post := (fun v kq Lq Eq => (∃ x : Int32, v = some (.int x) ∧ 0 ≤ x.toInt ∧ x.toInt ≤ 149 ∧ (x.toInt = xi1.toInt) ∧ (∃ z0 : Int32, tw_fv Eq a0 26 = .int z0 ∧ (z0.toInt = xi1.toInt + 1))) ∧ kp = kq ∧ L = Lq ∧ tw_fr kp L [(12, 26)] [330, 331] E Eq)) (As := [.int x3, .int (-1)]) (rest := []) ⟨hx, hb, hml, hown, hB⟩ (fun sz => tX12_newNode l D cs a0 x3 ((-1) : Int32) xi1 hm0 hk0 (by omega) (by omega) (by have : (((-1) : Int32).toInt) = (-1) := (by decide); omega) (by have : (((-1) : Int32).toInt) = (-1) := (by decide); omega) hxi1 (by have : (((-1) : Int32).toInt) = (-1) := (by decide); omega) sz) cg_12_342_X12_newNode rfl rfl (by decide +kernel) ⟨Nat.le_of_ble_eq_true rfl, Nat.le_of_ble_eq_true rfl⟩ hK hN TH hS hA rfl hm0 hk0 (by decide) rfl hl.1 rfl (Nat.le_of_ble_eq_true rfl) dX12_put_75 ⟨Nat.le_of_ble_eq_true rfl, Nat.le_of_ble_eq_true rfl⟩ (fun v40 kp40 L40 E40 H locs hq40 hx40 TH hS => ?_)
              obtain ⟨⟨xc41, rfl, hxc41a, hxc41b, hpoxc41_0, ⟨zfxc41_0_0, hzfxc41_0_0, hzpxc41_0⟩⟩, rfl, rfl, hst40⟩ := hq40
              have hF := hF.tr hst40 (fun _ h => ⟨h, rfl⟩) (by decide) (by decide)
              have hmf42 : tw_fv E40 a0 29 = .int xi2 := (hst40.1 a0 29 hm0 (by rw [hk0]; decide)).trans hxi2
              have hmf43 : tw_fv E40 a0 14 = .int xi10 := (hst40.1 a0 14 hm0 (by rw [hk0]; decide)).trans hxi10
              have hg0_o := hg0
              have hg1_o := hg1
              have hg2_o := hg2
              have hg3_o := hg3
              have hh12_o := hh12
              have hp12_o := hp12
              have hg0 : rd_ok E40 a0 := rd_ok_fr TH hst40 hm0 hk0 (by decide) (by decide) hg0
              have hg1 : eo_ok E40 a0 := eo_ok_more TH hst40 hm0 hk0 (by decide) (by decide) (by rw [tw_fi_of hxi1, tw_fi_of hzfxc41_0_0]; omega) hg1_o
              have hg2 : ht_ok E40 a0 := ht_ok_fr TH hst40 hm0 hk0 (by decide) (by decide) hg2
              have hg3 : dr_ok E40 a0 := dr_ok_more TH hst40 hm0 hk0 (by decide) (by decide) (by rw [tw_fi_of hxi1, tw_fi_of hzfxc41_0_0]; omega) hg3_o
              have hh12 : h12_ok E40 a0 (rw_h E a0 12) := h12_ok_fr TH hst40 hm0 hk0 (by decide) (by decide) hh12
              have hp12 : p12_ok E40 a0 (rw_p E a0 12) := p12_ok_fr TH hst40 hm0 hk0 (by decide) (by decide) hp12
              obtain ⟨qzfxc41_0_0, hqzfxc41_0_0, hqzfxc41_0_0a, hqzfxc41_0_0b⟩ := tw_rd TH hm0 hk0 (by decide) (by decide) (k := 26) rfl
              have eqzfxc41_0_0 : qzfxc41_0_0 = zfxc41_0_0 := by have q := hqzfxc41_0_0.symm.trans hzfxc41_0_0; injection q
              rw [eqzfxc41_0_0] at hqzfxc41_0_0a hqzfxc41_0_0b
              refine W.eq (g2 := F0 m 78 ls [.int xc41]) rfl ?_
              refine lv_istore (lv' := [(6, .int xc41), (0, .ref a0), (1, .int x1), (2, .int x2), (3, .int x3), (4, .long x4)]) hx hb dX12_put_78 hl (by decide) rfl (fun ls hl => ?_)
              refine lv_aload_n hx hb dX12_put_80 rfl (lv_at hl 1 rfl) ?_
              refine tw_get (ci := 12) (C := RX12) (T := TX12) (N := 64) hx hb hB cx_inX12 hown hK TH hm0 hk0 rfl ⟨by decide, rfl⟩ 23 (by decide) cw_1216 (fun _ h9 => h9) dX12_put_81 (fun hv => ?_)
              obtain ⟨xr44, hxr44, hmxr44, hkxr44⟩ : ∃ a : Nat, tw_fv E40 a0 23 = .ref a ∧ a ∈ L ∧ kp a = 333 := hv
              rw [hxr44]
              refine lv_iload hx hb dX12_put_84 (lv_at hl 0 rfl) ?_
              refine lv_iconst (v := 1) hx hb dX12_put_86 (by decide) ?_
              refine tw_zast (k := 333) (n := 150) (lo := 0) (hi := 1) hx hb hK TH hS hmxr44 hkxr44 (by decide) rfl (i := xc41) (x := 1) (vp_in_iff.mpr ⟨by  omega, by  omega⟩) (by have : ((1 : Int32).toInt) = 1 := (by decide); omega) (by have : ((1 : Int32).toInt) = 1 := (by decide); omega) (by have : ((1 : Int32).toInt) = 1 := (by decide); omega) (by have : ((1 : Int32).toInt) = 1 := (by decide); omega) dX12_put_87 (fun H locs E45 TH hS hp46 hp47 hp48 => ?_)
              have hst49 : tw_fr kp L [] [333] E40 E45 := tw_fr.ast tw_fr.rf (fun _ => hkxr44) hp46 hp47 (by decide)
              have hF := hF.tr hst49 (fun _ h => ⟨h, rfl⟩) (by decide) (by decide)
              have hmf50 : tw_fv E45 a0 29 = .int xi2 := (hst49.1 a0 29 hm0 (by rw [hk0]; decide)).trans hmf42
              have hmf51 : tw_fv E45 a0 14 = .int xi10 := (hst49.1 a0 14 hm0 (by rw [hk0]; decide)).trans hmf43
              have hmf52 : tw_fv E45 a0 26 = .int zfxc41_0_0 := (hst49.1 a0 26 hm0 (by rw [hk0]; decide)).trans hzfxc41_0_0
              have hmf53 : tw_fv E45 a0 23 = .ref xr44 := (hst49.1 a0 23 hm0 (by rw [hk0]; decide)).trans hxr44
              have hg0 : rd_ok E45 a0 := rd_ok_fr TH hst49 hm0 hk0 (by decide) (by decide) hg0
              have hg1 : eo_ok E45 a0 := eo_ok_fr TH hst49 hm0 hk0 (by decide) (by decide) hg1
              have hg2 : ht_ok E45 a0 := ht_ok_fr TH hst49 hm0 hk0 (by decide) (by decide) hg2
              have hg3 : dr_ok E45 a0 := dr_ok_fr TH hst49 hm0 hk0 (by decide) (by decide) hg3
              have hh12 : h12_ok E45 a0 (rw_h E a0 12) := h12_ok_fr TH hst49 hm0 hk0 (by decide) (by decide) hh12
              have hp12 : p12_ok E45 a0 (rw_p E a0 12) := p12_ok_fr TH hst49 hm0 hk0 (by decide) (by decide) hp12
              refine lv_aload_n hx hb dX12_put_88 rfl (lv_at hl 1 rfl) ?_
              refine tw_get (ci := 12) (C := RX12) (T := TX12) (N := 64) hx hb hB cx_inX12 hown hK TH hm0 hk0 rfl ⟨by decide, rfl⟩ 17 (by decide) cw_1210 (fun _ h9 => h9) dX12_put_89 (fun hv => ?_)
              obtain ⟨xr54, hxr54, hmxr54, hkxr54⟩ : ∃ a : Nat, tw_fv E45 a0 17 = .ref a ∧ a ∈ L ∧ kp a = 317 := hv
              rw [hxr54]
              refine lv_bipush (v := 12) hx hb dX12_put_92 (by decide) ?_
              refine tw_aald (k := 317) (t0 := 6) (n := 16) (lo := 327) (hi := 0) (ty := .long) hx hb hK TH hmxr54 hkxr54 (by decide) rfl rfl (i := 12) (vp_in_iff.mpr ⟨by have : ((12 : Int32).toInt) = 12 := (by decide); omega, by have : ((12 : Int32).toInt) = 12 := (by decide); omega⟩) dX12_put_94 (fun xr55 exr55 hmxr55 hkxr55 => ?_)
              have hkxr55 : kp xr55 = 327 := hkxr55
              refine lv_iload hx hb dX12_put_95 (lv_at hl 0 rfl) ?_
              refine lv_lload hx hb dX12_put_97 (lv_at hl 5 rfl) ?_
              refine tw_Sc (n := 1) (post := (fun v kq Lq Eq => (∃ x : Int64, v = some (.long x)) ∧ kp = kq ∧ L = Lq ∧ E45 = Eq)) (As := [.long x4]) (rest := [.int xc41, .ref xr55]) ⟨hx, hb, hml, hown, hB⟩ (fun sz => tX12_packed l D cs x4  sz) cg_12_435_X12_packed rfl rfl (by decide +kernel) ⟨Nat.le_of_ble_eq_true rfl, Nat.le_of_ble_eq_true rfl⟩ hK hN TH hS hA rfl hl.1 rfl (Nat.le_of_ble_eq_true rfl) dX12_put_99 ⟨Nat.le_of_ble_eq_true rfl, Nat.le_of_ble_eq_true rfl⟩ (fun v56 kp56 L56 E56 H locs hq56 hx56 TH hS => ?_)
              obtain ⟨⟨xc57, rfl⟩, rfl, rfl, rfl⟩ := hq56
              refine W.eq (g2 := F0 m 102 ls [.long xc57, .int xc41, .ref xr55]) rfl ?_
              refine tw_last (k := 327) (n := 150) (lo := 0) (hi := 0) hx hb hK TH hS hmxr55 hkxr55 (by decide) rfl (i := xc41) (x := xc57) (vp_in_iff.mpr ⟨by  omega, by  omega⟩) dX12_put_102 (fun H locs E58 TH hS hp59 hp60 => ?_)
              have hst61 : tw_fr kp L [] [327] E45 E58 := tw_fr.ast tw_fr.rf (fun _ => hkxr55) hp59 hp60 (by decide)
              have hF := hF.tr hst61 (fun _ h => ⟨h, rfl⟩) (by decide) (by decide)
              have hmf62 : tw_fv E58 a0 29 = .int xi2 := (hst61.1 a0 29 hm0 (by rw [hk0]; decide)).trans hmf50
              have hmf63 : tw_fv E58 a0 14 = .int xi10 := (hst61.1 a0 14 hm0 (by rw [hk0]; decide)).trans hmf51
              have hmf64 : tw_fv E58 a0 26 = .int zfxc41_0_0 := (hst61.1 a0 26 hm0 (by rw [hk0]; decide)).trans hmf52
              have hmf65 : tw_fv E58 a0 23 = .ref xr44 := (hst61.1 a0 23 hm0 (by rw [hk0]; decide)).trans hmf53
              have hmf66 : tw_fv E58 a0 17 = .ref xr54 := (hst61.1 a0 17 hm0 (by rw [hk0]; decide)).trans hxr54
              have hg0 : rd_ok E58 a0 := rd_ok_fr TH hst61 hm0 hk0 (by decide) (by decide) hg0
              have hg1 : eo_ok E58 a0 := eo_ok_fr TH hst61 hm0 hk0 (by decide) (by decide) hg1
              have hg2 : ht_ok E58 a0 := ht_ok_fr TH hst61 hm0 hk0 (by decide) (by decide) hg2
              have hg3 : dr_ok E58 a0 := dr_ok_fr TH hst61 hm0 hk0 (by decide) (by decide) hg3
              have hh12 : h12_ok E58 a0 (rw_h E a0 12) := h12_ok_fr TH hst61 hm0 hk0 (by decide) (by decide) hh12
              have hp12 : p12_ok E58 a0 (rw_p E a0 12) := p12_ok_fr TH hst61 hm0 hk0 (by decide) (by decide) hp12
              refine lv_aload_n hx hb dX12_put_103 rfl (lv_at hl 1 rfl) ?_
              refine lv_iload hx hb dX12_put_104 (lv_at hl 0 rfl) ?_
              refine lv_iload_n hx hb dX12_put_106 rfl (lv_at hl 2 rfl) ?_
              refine lv_iload_n hx hb dX12_put_107 rfl (lv_at hl 3 rfl) ?_
              refine tw_Vc (o := a0) (ci := 12) (n := 3) (post := (fun v kq Lq Eq => v = none ∧ kp = kq ∧ L = Lq ∧ tw_fr kp L [] [326, 328, 329] E58 Eq ∧ (∀ c : Nat, rw_h Eq a0 12 c = if c = (xc41.toInt).toNat then 1 else rw_h E58 a0 12 c) ∧ (∀ c : Nat, rw_p Eq a0 12 c = if c = (xc41.toInt).toNat then x1.toInt else rw_p E58 a0 12 c) ∧ rw_ok Eq a0 (12) ∧ rd_ok Eq a0 ∧ eo_ok Eq a0 ∧ ht_ok Eq a0)) (As := [.int xc41, .int x1, .int x2]) (rest := []) ⟨hx, hb, hml, hown, hB⟩ (fun sz => tX12_lays l D cs a0 xc41 x1 x2 hm0 hk0 (by omega) (by omega) (by omega) (by omega) (by unfold lyw_ok; have fh : rw_h E58 a0 12 = rw_h E a0 12 := hh12; have fp : rw_p E58 a0 12 = rw_p E a0 12 := hp12; rw [fh, fp]; refine ly_new hrow.1.1 hrow.1.2.1 hrow.1.2.2 (by omega) (by omega) ?_ (by omega) (by omega) (hpoxc4_1 (by omega)); (rw [show (Int32.toInt xc41).toNat = (xi1.toInt).toNat by omega]; exact hn0)) hg0 hg1 hg2 sz) cg_12_439_X12_lays rfl rfl (by decide +kernel) ⟨Nat.le_of_ble_eq_true rfl, Nat.le_of_ble_eq_true rfl⟩ hK hN TH hS hA rfl hm0 hk0 (by decide) rfl hl.1 rfl (Nat.le_of_ble_eq_true rfl) dX12_put_108 ⟨Nat.le_of_ble_eq_true rfl, Nat.le_of_ble_eq_true rfl⟩ (fun v67 kp67 L67 E67 H locs hq67 hx67 TH hS => ?_)
              obtain ⟨rfl, rfl, rfl, hst67, hpoxc68_0, hpoxc68_1, hgpxc68_0, hgpxc68_1, hgpxc68_2, hgpxc68_3⟩ := hq67
              have hF := hF.tr hst67 (fun _ h => ⟨h, rfl⟩) (by decide) (by decide)
              have hmf69 : tw_fv E67 a0 29 = .int xi2 := (hst67.1 a0 29 hm0 (by rw [hk0]; decide)).trans hmf62
              have hmf70 : tw_fv E67 a0 14 = .int xi10 := (hst67.1 a0 14 hm0 (by rw [hk0]; decide)).trans hmf63
              have hmf71 : tw_fv E67 a0 26 = .int zfxc41_0_0 := (hst67.1 a0 26 hm0 (by rw [hk0]; decide)).trans hmf64
              have hmf72 : tw_fv E67 a0 23 = .ref xr44 := (hst67.1 a0 23 hm0 (by rw [hk0]; decide)).trans hmf65
              have hmf73 : tw_fv E67 a0 17 = .ref xr54 := (hst67.1 a0 17 hm0 (by rw [hk0]; decide)).trans hmf66
              have hg3_o := hg3
              have hh12_o := hh12
              have hp12_o := hp12
              have hg3 : dr_ok E67 a0 := (fun _ => (by have fh : rw_h E58 a0 12 = rw_h E a0 12 := hh12_o; have fp : rw_p E58 a0 12 = rw_p E a0 12 := hp12_o; have e12 : ((12 : Int32).toInt) = 12 := (by decide); have hs := hpoxc34_0; rw [e12] at hs; refine row_put (h := rw_h E a0 12) (p := rw_p E a0 12) (n := xc41.toInt) (u := x1.toInt) (N := zfxc41_0_0.toInt) (by omega) (by omega) (by omega) ?_ (Or.inl (by omega)) (fun c hc hx => (by have z := hrow.2.2.2 c hc hx; rw [tw_fi_of hxi1] at z; omega)) (by omega) (tw_fi_of ((hst67.1 a0 26 hm0 (by rw [hk0]; decide)).trans hmf64)) (fun c => (hpoxc68_0 c).trans (by rw [fh])) (fun c => (hpoxc68_1 c).trans (by rw [fp])) hgpxc68_0; (obtain ⟨r, r0, r1, r2, r3⟩ := hrow.2.1; exact ⟨r, r0, r1, (fun z => r2 (by rw [z, show (Int32.toInt xc41).toNat = (xi1.toInt).toNat by omega]; exact hn0)), r2, r3⟩)))
              refine W.eq (g2 := F0 m 111 ls []) rfl ?_
              refine lv_iload hx hb dX12_put_111 (lv_at hl 0 rfl) ?_
              exact tw_iret hx hb hr hlocks TH hS hex ⟨⟨_, rfl, hgpxc68_1, hgpxc68_2, hgpxc68_3, hg3⟩, rfl, rfl, hF⟩ (Nat.le_of_ble_eq_true rfl) (Nat.le_of_ble_eq_true rfl) dX12_put_113
            · have hf74 : xi1.toInt = 150 := by have z := (fa_eq _ _).mp hc38; have : ((150 : Int32).toInt) = 150 := (by decide); omega
              refine lv_iconst (v := (-1)) hx hb dX12_put_70 (by decide) ?_
              exact tw_iret hx hb hr hlocks TH hS hex ⟨⟨_, rfl, hg0, hg1, hg2, hg3⟩, rfl, rfl, hF⟩ (Nat.le_of_ble_eq_true rfl) (Nat.le_of_ble_eq_true rfl) dX12_put_71
