set_option maxHeartbeats 4000000 in
set_option maxRecDepth 100000 in
theorem tX12_drop (l : Launch) (D : va_G) (cs : Nat → ClassId) {kp : Nat → Nat} {L : List Nat} {E : Nat → va_E} (a0 : Nat) (hm0 : a0 ∈ L) (hk0 : kp a0 = 12) (hg0 : rd_ok E a0) (hg1 : eo_ok E a0) (hg2 : ht_ok E a0) (hg3 : dr_ok E a0) (hg4 : ln_ok E a0) (hg5 : dl_ok E a0) (hg6 : fw_ok E a0) (sz : Nat) : Met l yX12_drop (.code yX12_drop cX12_drop 1 (some .boolean) :: cx_big) { frames := 1, cells := 0, slots := 0, locals := 22 } (tw_P D cs kp L E [.ref a0] sz) (tw_Q D cs kp L (fun v kq Lq Eq => (∃ x : Int32, v = some (.int x) ∧ 0 ≤ x.toInt ∧ x.toInt ≤ 1 ∧ rd_ok Eq a0 ∧ eo_ok Eq a0 ∧ ht_ok Eq a0 ∧ dr_ok Eq a0 ∧ ln_ok Eq a0 ∧ dl_ok Eq a0 ∧ fw_ok Eq a0) ∧ kp = kq ∧ L = Lq ∧ tw_fr kp L [(12, 29)] [331, 333] E Eq) (va_A (va_pl L E) sz)) 0 0 (va_A (va_pl L E) sz) := by
  refine tw_ofW (by decide) (Nat.le_of_ble_eq_true rfl) ?_
  intro p e s m below meth c A ls hx hb hr hml hB hown hlocks hK hN hA TH hS hl
  have hown : s.vm.findClass "TreeMergeModel" = some m.cls := hown
  have hl : lv_has ls 1 [(0, .ref a0)] := hl
  obtain ⟨kp0, ekp⟩ : ∃ z, z = kp := ⟨_, rfl⟩
  obtain ⟨L0, eL⟩ : ∃ z, z = L := ⟨_, rfl⟩
  rw [show tw_Q D cs kp L = tw_Q D cs kp0 L0 by rw [ekp, eL]]
  have hex : ∀ a : Nat, a ∈ L0 → a ∈ L ∧ kp a = kp0 a := fun a h => ⟨by rw [← eL]; exact h, by rw [ekp]⟩
  have hF : tw_fr kp L [(12, 29)] [331, 333] E E := tw_fr.rf
  refine lv_aload_n hx hb dX12_drop_0 rfl (lv_at hl 0 rfl) ?_
  refine tw_get (ci := 12) (C := RX12) (T := TX12) (N := 64) hx hb hB cx_inX12 hown hK TH hm0 hk0 rfl ⟨by decide, rfl⟩ 29 (by decide) cw_1222 (fun _ h9 => h9) dX12_drop_1 (fun hv => ?_)
  obtain ⟨xi1, hxi1, hxi1a, hxi1b⟩ : ∃ x : Int32, tw_fv E a0 29 = .int x ∧ 0 ≤ x.toInt ∧ x.toInt ≤ 1 := hv
  rw [hxi1]
  refine lv_if_ne (tgt := 9) hx hb dX12_drop_4 (by decide) (fun hc2 => ?_) (fun hc2 => ?_)
  · have hf3 : ¬ (xi1.toInt = 0) := fun q => hc2 ((fa_eq _ _).mpr (by have : ((0 : Int32).toInt) = 0 := (by decide); omega))
    refine lv_aload_n hx hb dX12_drop_9 rfl (lv_at hl 0 rfl) ?_
    refine lv_iconst (v := 0) hx hb dX12_drop_10 (by decide) ?_
    refine tw_put (ci := 12) (v := .int 0) (ty := .boolean) (C := RX12) (T := TX12) (N := 64) hx hb hB cx_inX12 tyX12 tyX12_ok nmX12 hown hK TH hS hm0 hk0 rfl ⟨by decide, rfl⟩ 29 (by decide) cw_1222 (fun _ h9 => h9) rfl (by decide +kernel) (by decide) (by decide) ⟨_, rfl, (show 0 ≤ Int32.toInt 0 from by have : ((0 : Int32).toInt) = 0 := (by decide); omega), (show Int32.toInt 0 ≤ 1 from by have : ((0 : Int32).toInt) = 0 := (by decide); omega)⟩ dX12_drop_11 (fun H locs E4 TH hS hmf8 hp5 hp6 => ?_)
    have hst7 : tw_fr kp L [(12, 29)] [] E E4 := tw_fr.put tw_fr.rf (fun _ => hk0) (by decide) hp5 hp6 (by decide)
    have hF := hF.tr hst7 (fun _ h => ⟨h, rfl⟩) (by decide) (by decide)
    have hg0 : rd_ok E4 a0 := rd_ok_fr TH hst7 hm0 hk0 (by decide) (by decide) hg0
    have hg1 : eo_ok E4 a0 := eo_ok_fr TH hst7 hm0 hk0 (by decide) (by decide) hg1
    have hg2 : ht_ok E4 a0 := ht_ok_fr TH hst7 hm0 hk0 (by decide) (by decide) hg2
    have hg4 : ln_ok E4 a0 := ln_ok_fr TH hst7 hm0 hk0 (by decide) (by decide) hg4
    have hg6 : fw_ok E4 a0 := fw_ok_fr TH hst7 hm0 hk0 (by decide) (by decide) hg6
    have hgn9 : dr_ok E4 a0 := (fun hd => absurd hd (by rw [tw_fi_of hmf8]; decide))
    have hgn10 : dl_ok E4 a0 := (fun hd => absurd hd (by rw [tw_fi_of hmf8]; decide))
    refine lv_aload_n hx hb dX12_drop_14 rfl (lv_at hl 0 rfl) ?_
    refine lv_iconst (v := (-1)) hx hb dX12_drop_15 (by decide) ?_
    refine tw_Vc (o := a0) (ci := 12) (n := 1) (post := (fun v kq Lq Eq => v = none ∧ kp = kq ∧ L = Lq ∧ tw_fr kp L [] [331, 333] E4 Eq)) (As := [.int (-1)]) (rest := []) ⟨hx, hb, hml, hown, hB⟩ (fun sz => tX12_noPending l D cs a0 ((-1) : Int32) hm0 hk0 (by have : (((-1) : Int32).toInt) = (-1) := (by decide); omega) (by have : (((-1) : Int32).toInt) = (-1) := (by decide); omega) sz) cg_12_417_X12_noPending rfl rfl (by decide +kernel) ⟨Nat.le_of_ble_eq_true rfl, Nat.le_of_ble_eq_true rfl⟩ hK hN TH hS hA rfl hm0 hk0 (by decide) rfl hl.1 rfl (Nat.le_of_ble_eq_true rfl) dX12_drop_16 ⟨Nat.le_of_ble_eq_true rfl, Nat.le_of_ble_eq_true rfl⟩ (fun v11 kp11 L11 E11 H locs hq11 hx11 TH hS => ?_)
    obtain ⟨rfl, rfl, rfl, hst11⟩ := hq11
    have hF := hF.tr hst11 (fun _ h => ⟨h, rfl⟩) (by decide) (by decide)
    have hmf13 : tw_fv E11 a0 29 = .int 0 := (hst11.1 a0 29 hm0 (by rw [hk0]; decide)).trans hmf8
    have hg0 : rd_ok E11 a0 := rd_ok_fr TH hst11 hm0 hk0 (by decide) (by decide) hg0
    have hg1 : eo_ok E11 a0 := eo_ok_fr TH hst11 hm0 hk0 (by decide) (by decide) hg1
    have hg2 : ht_ok E11 a0 := ht_ok_fr TH hst11 hm0 hk0 (by decide) (by decide) hg2
    have hg4 : ln_ok E11 a0 := ln_ok_fr TH hst11 hm0 hk0 (by decide) (by decide) hg4
    have hg6 : fw_ok E11 a0 := fw_ok_fr TH hst11 hm0 hk0 (by decide) (by decide) hg6
    have hgn9 : dr_ok E11 a0 := dr_ok_fr TH hst11 hm0 hk0 (by decide) (by decide) hgn9
    have hgn10 : dl_ok E11 a0 := dl_ok_fr TH hst11 hm0 hk0 (by decide) (by decide) hgn10
    refine W.eq (g2 := F0 m 19 ls []) rfl ?_
    refine lv_iconst (v := 1) hx hb dX12_drop_19 (by decide) ?_
    exact tw_zret hx hb hr hlocks (by decide) TH hS hex ⟨⟨_, rfl, (show 0 ≤ Int32.toInt 1 from by have : ((1 : Int32).toInt) = 1 := (by decide); omega), (show Int32.toInt 1 ≤ 1 from by have : ((1 : Int32).toInt) = 1 := (by decide); omega), hg0, hg1, hg2, hgn9, hg4, hgn10, hg6⟩, rfl, rfl, hF⟩ (Nat.le_of_ble_eq_true rfl) (Nat.le_of_ble_eq_true rfl) dX12_drop_20
  · have hf14 : xi1.toInt = 0 := by have z := (fa_eq _ _).mp hc2; have : ((0 : Int32).toInt) = 0 := (by decide); omega
    refine lv_iconst (v := 0) hx hb dX12_drop_7 (by decide) ?_
    exact tw_zret hx hb hr hlocks (by decide) TH hS hex ⟨⟨_, rfl, (show 0 ≤ Int32.toInt 0 from by have : ((0 : Int32).toInt) = 0 := (by decide); omega), (show Int32.toInt 0 ≤ 1 from by have : ((0 : Int32).toInt) = 0 := (by decide); omega), hg0, hg1, hg2, hg3, hg4, hg5, hg6⟩, rfl, rfl, hF⟩ (Nat.le_of_ble_eq_true rfl) (Nat.le_of_ble_eq_true rfl) dX12_drop_8
set_option maxHeartbeats 4000000 in
set_option maxRecDepth 100000 in
theorem tX12_begin (l : Launch) (D : va_G) (cs : Nat → ClassId) {kp : Nat → Nat} {L : List Nat} {E : Nat → va_E} (a0 : Nat) (x1 : Int32) (hm0 : a0 ∈ L) (hk0 : kp a0 = 12) (hg0 : rd_ok E a0) (hg1 : eo_ok E a0) (hg2 : ht_ok E a0) (hg3 : dr_ok E a0) (hg4 : ln_ok E a0) (hg5 : dl_ok E a0) (hg6 : fw_ok E a0) (sz : Nat) : Met l yX12_begin (.code yX12_begin cX12_begin 2 (some .boolean) :: cx_big) { frames := 2, cells := 0, slots := 0, locals := 46 } (tw_P D cs kp L E [.ref a0, .int x1] sz) (tw_Q D cs kp L (fun v kq Lq Eq => (∃ x : Int32, v = some (.int x) ∧ 0 ≤ x.toInt ∧ x.toInt ≤ 1 ∧ rd_ok Eq a0 ∧ eo_ok Eq a0 ∧ ht_ok Eq a0 ∧ dr_ok Eq a0 ∧ ln_ok Eq a0 ∧ dl_ok Eq a0 ∧ fw_ok Eq a0) ∧ kp = kq ∧ L = Lq ∧ tw_fr kp L [(12, 29), (12, 52)] [326, 327, 328, 329] E Eq) (va_A (va_pl L E) sz)) 0 0 (va_A (va_pl L E) sz) := by
  refine tw_ofW (by decide) (Nat.le_of_ble_eq_true rfl) ?_
  intro p e s m below meth c A ls hx hb hr hml hB hown hlocks hK hN hA TH hS hl
  have hown : s.vm.findClass "TreeMergeModel" = some m.cls := hown
  have hl : lv_has ls 2 [(0, .ref a0), (1, .int x1)] := hl
  obtain ⟨kp0, ekp⟩ : ∃ z, z = kp := ⟨_, rfl⟩
  obtain ⟨L0, eL⟩ : ∃ z, z = L := ⟨_, rfl⟩
  rw [show tw_Q D cs kp L = tw_Q D cs kp0 L0 by rw [ekp, eL]]
  have hex : ∀ a : Nat, a ∈ L0 → a ∈ L ∧ kp a = kp0 a := fun a h => ⟨by rw [← eL]; exact h, by rw [ekp]⟩
  have hF : tw_fr kp L [(12, 29), (12, 52)] [326, 327, 328, 329] E E := tw_fr.rf
  refine lv_aload_n hx hb dX12_begin_0 rfl (lv_at hl 0 rfl) ?_
  refine tw_get (ci := 12) (C := RX12) (T := TX12) (N := 64) hx hb hB cx_inX12 hown hK TH hm0 hk0 rfl ⟨by decide, rfl⟩ 29 (by decide) cw_1222 (fun _ h9 => h9) dX12_begin_1 (fun hv => ?_)
  obtain ⟨xi1, hxi1, hxi1a, hxi1b⟩ : ∃ x : Int32, tw_fv E a0 29 = .int x ∧ 0 ≤ x.toInt ∧ x.toInt ≤ 1 := hv
  rw [hxi1]
  refine lv_if_ne (tgt := 15) hx hb dX12_begin_4 (by decide) (fun hc2 => ?_) (fun hc2 => ?_)
  · have hf3 : ¬ (xi1.toInt = 0) := fun q => hc2 ((fa_eq _ _).mpr (by have : ((0 : Int32).toInt) = 0 := (by decide); omega))
    refine lv_iconst (v := 0) hx hb dX12_begin_15 (by decide) ?_
    exact tw_zret hx hb hr hlocks (by decide) TH hS hex ⟨⟨_, rfl, (show 0 ≤ Int32.toInt 0 from by have : ((0 : Int32).toInt) = 0 := (by decide); omega), (show Int32.toInt 0 ≤ 1 from by have : ((0 : Int32).toInt) = 0 := (by decide); omega), hg0, hg1, hg2, hg3, hg4, hg5, hg6⟩, rfl, rfl, hF⟩ (Nat.le_of_ble_eq_true rfl) (Nat.le_of_ble_eq_true rfl) dX12_begin_16
  · have hf4 : xi1.toInt = 0 := by have z := (fa_eq _ _).mp hc2; have : ((0 : Int32).toInt) = 0 := (by decide); omega
    refine lv_aload_n hx hb dX12_begin_7 rfl (lv_at hl 0 rfl) ?_
    refine lv_iload_n hx hb dX12_begin_8 rfl (lv_at hl 1 rfl) ?_
    obtain ⟨xi5, hxi5, hxi5a, hxi5b⟩ := tw_rd TH hm0 hk0 (by decide) (by decide) (k := 27) rfl
    refine tw_Vc (o := a0) (ci := 12) (n := 1) (post := (fun v kq Lq Eq => (∃ x : Int32, v = some (.int x) ∧ 0 ≤ x.toInt ∧ x.toInt ≤ 1 ∧ (x.toInt ≠ 0 → 0 ≤ x1.toInt ∧ x1.toInt < xi5.toInt)) ∧ kp = kq ∧ L = Lq ∧ E = Eq)) (As := [.int x1]) (rest := []) ⟨hx, hb, hml, hown, hB⟩ (fun sz => tX12_isEdition l D cs a0 x1 xi5 hm0 hk0 hxi5 sz) cg_12_396_X12_isEdition rfl rfl (by decide +kernel) ⟨Nat.le_of_ble_eq_true rfl, Nat.le_of_ble_eq_true rfl⟩ hK hN TH hS hA rfl hm0 hk0 (by decide) rfl hl.1 rfl (Nat.le_of_ble_eq_true rfl) dX12_begin_9 ⟨Nat.le_of_ble_eq_true rfl, Nat.le_of_ble_eq_true rfl⟩ (fun v6 kp6 L6 E6 H locs hq6 hx6 TH hS => ?_)
    obtain ⟨⟨xc7, rfl, hxc7a, hxc7b, hpoxc7_0⟩, rfl, rfl, rfl⟩ := hq6
    refine W.eq (g2 := F0 m 12 ls [.int xc7]) rfl ?_
    refine lv_if_ne (tgt := 17) hx hb dX12_begin_12 (by decide) (fun hc8 => ?_) (fun hc8 => ?_)
    · have hf9 : ¬ (xc7.toInt = 0) := fun q => hc8 ((fa_eq _ _).mpr (by have : ((0 : Int32).toInt) = 0 := (by decide); omega))
      refine lv_aload_n hx hb dX12_begin_17 rfl (lv_at hl 0 rfl) ?_
      refine lv_iload_n hx hb dX12_begin_18 rfl (lv_at hl 1 rfl) ?_
      refine lv_bipush (v := 12) hx hb dX12_begin_19 (by decide) ?_
      have hrow := hg1 (x1.toInt) (by omega) (by rw [tw_fi_of hxi5]; omega)
      refine tw_Vc (o := a0) (ci := 12) (n := 2) (post := (fun v kq Lq Eq => v = none ∧ kp = kq ∧ L = Lq ∧ tw_fr kp L [] [326, 327, 328, 329] E Eq ∧ (∀ c : Nat, c < 150 → rw_h Eq a0 (12 : Int32).toInt c = rw_h E a0 x1.toInt c ∧ rw_p Eq a0 (12 : Int32).toInt c = rw_p E a0 x1.toInt c) ∧ (ot_ok Eq a0 (12 : Int32).toInt E) ∧ rd_ok Eq a0)) (As := [.int x1, .int 12]) (rest := []) ⟨hx, hb, hml, hown, hB⟩ (fun sz => tX12_copies l D cs a0 x1 (12 : Int32) hm0 hk0 (by omega) (by omega) (by have : ((12 : Int32).toInt) = 12 := (by decide); omega) (by have : ((12 : Int32).toInt) = 12 := (by decide); omega) (by have : ((12 : Int32).toInt) = 12 := (by decide); omega) hg0 sz) cg_12_411_X12_copies rfl rfl (by decide +kernel) ⟨Nat.le_of_ble_eq_true rfl, Nat.le_of_ble_eq_true rfl⟩ hK hN TH hS hA rfl hm0 hk0 (by decide) rfl hl.1 rfl (Nat.le_of_ble_eq_true rfl) dX12_begin_21 ⟨Nat.le_of_ble_eq_true rfl, Nat.le_of_ble_eq_true rfl⟩ (fun v10 kp10 L10 E10 H locs hq10 hx10 TH hS => ?_)
      obtain ⟨rfl, rfl, rfl, hst10, hpoxc11_0, hpoxc11_1, hgpxc11_0⟩ := hq10
      have hF := hF.tr hst10 (fun _ h => ⟨h, rfl⟩) (by decide) (by decide)
      have hmf12 : tw_fv E10 a0 29 = .int xi1 := (hst10.1 a0 29 hm0 (by rw [hk0]; decide)).trans hxi1
      have hmf13 : tw_fv E10 a0 27 = .int xi5 := (hst10.1 a0 27 hm0 (by rw [hk0]; decide)).trans hxi5
      have hg1_o := hg1
      have hg2_o := hg2
      have hg3_o := hg3
      have hg4_o := hg4
      have hg5_o := hg5
      have hg6_o := hg6
      have hg1 : eo_ok E10 a0 := eo_ok_ot TH hst10 hm0 hk0 (by decide) hpoxc11_1 (by rw [tw_fi_of hxi5]; have e12 : ((12 : Int32).toInt) = 12 := (by decide); omega) hg1_o
      have hg2 : ht_ok E10 a0 := ht_ok_ot hpoxc11_1 (by have e12 : ((12 : Int32).toInt) = 12 := (by decide); omega) hg2_o
      have hg3 : dr_ok E10 a0 := (fun hd => absurd hd (by rw [tw_fi_fr hst10 hm0 hk0 (k := 29) (by decide), tw_fi_of hxi1]; omega))
      have hg4 : ln_ok E10 a0 := ln_ok_ot (r := 12) TH hst10 hm0 hk0 (by decide) (by decide) (by have e12 : ((12 : Int32).toInt) = 12 := (by decide); have q := hpoxc11_1; rw [e12] at q; exact q) (by rw [tw_fi_of hxi5]; omega) hg4_o
      have hg5 : dl_ok E10 a0 := (fun hd => absurd hd (by rw [tw_fi_fr hst10 hm0 hk0 (k := 29) (by decide), tw_fi_of hxi1]; omega))
      have hg6 : fw_ok E10 a0 := fw_ok_ot (r := 12) TH hst10 hm0 hk0 (by decide) (by have e12 : ((12 : Int32).toInt) = 12 := (by decide); have q := hpoxc11_1; rw [e12] at q; exact q) (by decide) hg6_o
      have hgn14 : row_ok E10 a0 (12) := (by have e12 : ((12 : Int32).toInt) = 12 := (by decide); have hc := hpoxc11_0; rw [e12] at hc; exact row_copy hrow hc (Int.le_of_eq (tw_fi_fr hst10 hm0 hk0 (k := 26) (by decide)).symm))
      have hgn15 : r2_ok E10 a0 (12) (x1.toInt) := (by have e12 : ((12 : Int32).toInt) = 12 := (by decide); have hc := hpoxc11_0; rw [e12] at hc; exact r2_copy hc (hpoxc11_1 (x1.toInt) (by omega) (by omega) (by omega)) (r2_rf hrow))
      refine W.eq (g2 := F0 m 24 ls []) rfl ?_
      refine lv_aload_n hx hb dX12_begin_24 rfl (lv_at hl 0 rfl) ?_
      refine lv_iload_n hx hb dX12_begin_25 rfl (lv_at hl 1 rfl) ?_
      refine tw_put (ci := 12) (v := .int x1) (ty := .int) (C := RX12) (T := TX12) (N := 64) hx hb hB cx_inX12 tyX12 tyX12_ok nmX12 hown hK TH hS hm0 hk0 rfl ⟨by decide, rfl⟩ 52 (by decide) cw_1245 (fun _ h9 => h9) rfl (by decide +kernel) rfl rfl ⟨_, rfl, (show 0 ≤ Int32.toInt x1 from by  omega), (show Int32.toInt x1 ≤ 11 from by  omega)⟩ dX12_begin_26 (fun H locs E16 TH hS hmf20 hp17 hp18 => ?_)
      have hst19 : tw_fr kp L [(12, 52)] [] E10 E16 := tw_fr.put tw_fr.rf (fun _ => hk0) (by decide) hp17 hp18 (by decide)
      have hF := hF.tr hst19 (fun _ h => ⟨h, rfl⟩) (by decide) (by decide)
      have hmf21 : tw_fv E16 a0 29 = .int xi1 := (hst19.1 a0 29 hm0 (by rw [hk0]; decide)).trans hmf12
      have hmf22 : tw_fv E16 a0 27 = .int xi5 := (hst19.1 a0 27 hm0 (by rw [hk0]; decide)).trans hmf13
      have hg1_o := hg1
      have hg2_o := hg2
      have hg3_o := hg3
      have hg4_o := hg4
      have hg5_o := hg5
      have hg6_o := hg6
      have hgn14_o := hgn14
      have hgn15_o := hgn15
      have hgpxc11_0_o := hgpxc11_0
      have hg1 : eo_ok E16 a0 := eo_ok_fr TH hst19 hm0 hk0 (by decide) (by decide) hg1
      have hg2 : ht_ok E16 a0 := ht_ok_fr TH hst19 hm0 hk0 (by decide) (by decide) hg2
      have hg3 : dr_ok E16 a0 := dr_ok_fr TH hst19 hm0 hk0 (by decide) (by decide) hg3
      have hg4 : ln_ok E16 a0 := ln_ok_fr TH hst19 hm0 hk0 (by decide) (by decide) hg4
      have hg5 : dl_ok E16 a0 := (fun hd => absurd hd (by rw [tw_fi_fr hst19 hm0 hk0 (k := 29) (by decide), tw_fi_of hmf12]; omega))
      have hg6 : fw_ok E16 a0 := fw_ok_fr TH hst19 hm0 hk0 (by decide) (by decide) hg6
      have hgn14 : row_ok E16 a0 (12) := row_ok_fr TH hst19 hm0 hk0 (by decide) (by decide) (by omega) hgn14
      have hgn15 : r2_ok E16 a0 (12) (x1.toInt) := r2_ok_fr TH hst19 hm0 hk0 (by decide) (by decide) (by omega) hgn15
      have hgpxc11_0 : rd_ok E16 a0 := rd_ok_fr TH hst19 hm0 hk0 (by decide) (by decide) hgpxc11_0
      refine lv_aload_n hx hb dX12_begin_29 rfl (lv_at hl 0 rfl) ?_
      refine lv_iconst (v := 1) hx hb dX12_begin_30 (by decide) ?_
      refine tw_put (ci := 12) (v := .int 1) (ty := .boolean) (C := RX12) (T := TX12) (N := 64) hx hb hB cx_inX12 tyX12 tyX12_ok nmX12 hown hK TH hS hm0 hk0 rfl ⟨by decide, rfl⟩ 29 (by decide) cw_1222 (fun _ h9 => h9) rfl (by decide +kernel) (by decide) (by decide) ⟨_, rfl, (show 0 ≤ Int32.toInt 1 from by have : ((1 : Int32).toInt) = 1 := (by decide); omega), (show Int32.toInt 1 ≤ 1 from by have : ((1 : Int32).toInt) = 1 := (by decide); omega)⟩ dX12_begin_31 (fun H locs E23 TH hS hmf27 hp24 hp25 => ?_)
      have hst26 : tw_fr kp L [(12, 29)] [] E16 E23 := tw_fr.put tw_fr.rf (fun _ => hk0) (by decide) hp24 hp25 (by decide)
      have hF := hF.tr hst26 (fun _ h => ⟨h, rfl⟩) (by decide) (by decide)
      have hmf28 : tw_fv E23 a0 27 = .int xi5 := (hst26.1 a0 27 hm0 (by rw [hk0]; decide)).trans hmf22
      have hmf29 : tw_fv E23 a0 52 = .int x1 := (hst26.1 a0 52 hm0 (by rw [hk0]; decide)).trans hmf20
      have hg1 : eo_ok E23 a0 := eo_ok_fr TH hst26 hm0 hk0 (by decide) (by decide) hg1
      have hg2 : ht_ok E23 a0 := ht_ok_fr TH hst26 hm0 hk0 (by decide) (by decide) hg2
      have hg4 : ln_ok E23 a0 := ln_ok_fr TH hst26 hm0 hk0 (by decide) (by decide) hg4
      have hg6 : fw_ok E23 a0 := fw_ok_fr TH hst26 hm0 hk0 (by decide) (by decide) hg6
      have hgn14 : row_ok E23 a0 (12) := row_ok_fr TH hst26 hm0 hk0 (by decide) (by decide) (by omega) hgn14
      have hgn15 : r2_ok E23 a0 (12) (x1.toInt) := r2_ok_fr TH hst26 hm0 hk0 (by decide) (by decide) (by omega) hgn15
      have hgpxc11_0 : rd_ok E23 a0 := rd_ok_fr TH hst26 hm0 hk0 (by decide) (by decide) hgpxc11_0
      have hgn30 : dr_ok E23 a0 := (fun _ => hgn14)
      have hgn31 : dl_ok E23 a0 := dl_ok_beg (e := x1.toInt) (tw_fi_of ((hst26.1 a0 52 hm0 (by rw [hk0]; decide)).trans hmf20)) (by omega) (by rw [tw_fi_of ((hst26.1 a0 27 hm0 (by rw [hk0]; decide)).trans hmf22)]; omega) hgn15
      refine lv_iconst (v := 1) hx hb dX12_begin_34 (by decide) ?_
      exact tw_zret hx hb hr hlocks (by decide) TH hS hex ⟨⟨_, rfl, (show 0 ≤ Int32.toInt 1 from by have : ((1 : Int32).toInt) = 1 := (by decide); omega), (show Int32.toInt 1 ≤ 1 from by have : ((1 : Int32).toInt) = 1 := (by decide); omega), hgpxc11_0, hg1, hg2, hgn30, hg4, hgn31, hg6⟩, rfl, rfl, hF⟩ (Nat.le_of_ble_eq_true rfl) (Nat.le_of_ble_eq_true rfl) dX12_begin_35
    · have hf32 : xc7.toInt = 0 := by have z := (fa_eq _ _).mp hc8; have : ((0 : Int32).toInt) = 0 := (by decide); omega
      refine lv_iconst (v := 0) hx hb dX12_begin_15 (by decide) ?_
      exact tw_zret hx hb hr hlocks (by decide) TH hS hex ⟨⟨_, rfl, (show 0 ≤ Int32.toInt 0 from by have : ((0 : Int32).toInt) = 0 := (by decide); omega), (show Int32.toInt 0 ≤ 1 from by have : ((0 : Int32).toInt) = 0 := (by decide); omega), hg0, hg1, hg2, hg3, hg4, hg5, hg6⟩, rfl, rfl, hF⟩ (Nat.le_of_ble_eq_true rfl) (Nat.le_of_ble_eq_true rfl) dX12_begin_16
set_option maxHeartbeats 4000000 in
set_option maxRecDepth 100000 in
theorem tX12_take (l : Launch) (D : va_G) (cs : Nat → ClassId) {kp : Nat → Nat} {L : List Nat} {E : Nat → va_E} (a0 : Nat) (x1 : Int32) (hm0 : a0 ∈ L) (hk0 : kp a0 = 12) (hg0 : rd_ok E a0) (hg1 : eo_ok E a0) (hg2 : ht_ok E a0) (hg3 : dr_ok E a0) (hg4 : ln_ok E a0) (hg5 : dl_ok E a0) (hg6 : fw_ok E a0) (sz : Nat) : Met l yX12_take (.code yX12_take cX12_take 3 (some .boolean) :: cx_big) { frames := 3, cells := 0, slots := 0, locals := 70 } (tw_P D cs kp L E [.ref a0, .int x1] sz) (tw_Q D cs kp L (fun v kq Lq Eq => (∃ x : Int32, v = some (.int x) ∧ 0 ≤ x.toInt ∧ x.toInt ≤ 1 ∧ rd_ok Eq a0 ∧ eo_ok Eq a0 ∧ ht_ok Eq a0 ∧ dr_ok Eq a0 ∧ ln_ok Eq a0 ∧ dl_ok Eq a0 ∧ fw_ok Eq a0) ∧ kp = kq ∧ L = Lq ∧ tw_fr kp L [] [326, 329] E Eq) (va_A (va_pl L E) sz)) 0 0 (va_A (va_pl L E) sz) := by
  refine tw_ofW (by decide) (Nat.le_of_ble_eq_true rfl) ?_
  intro p e s m below meth c A ls hx hb hr hml hB hown hlocks hK hN hA TH hS hl
  have hown : s.vm.findClass "TreeMergeModel" = some m.cls := hown
  have hl : lv_has ls 3 [(0, .ref a0), (1, .int x1)] := hl
  obtain ⟨kp0, ekp⟩ : ∃ z, z = kp := ⟨_, rfl⟩
  obtain ⟨L0, eL⟩ : ∃ z, z = L := ⟨_, rfl⟩
  rw [show tw_Q D cs kp L = tw_Q D cs kp0 L0 by rw [ekp, eL]]
  have hex : ∀ a : Nat, a ∈ L0 → a ∈ L ∧ kp a = kp0 a := fun a h => ⟨by rw [← eL]; exact h, by rw [ekp]⟩
  have hF : tw_fr kp L [] [326, 329] E E := tw_fr.rf
  refine lv_aload_n hx hb dX12_take_0 rfl (lv_at hl 0 rfl) ?_
  refine lv_iload_n hx hb dX12_take_1 rfl (lv_at hl 1 rfl) ?_
  obtain ⟨xi1, hxi1, hxi1a, hxi1b⟩ := tw_rd TH hm0 hk0 (by decide) (by decide) (k := 26) rfl
  obtain ⟨xi2, hxi2, hxi2a, hxi2b⟩ := tw_rd TH hm0 hk0 (by decide) (by decide) (k := 29) rfl
  refine tw_Vc (o := a0) (ci := 12) (n := 1) (post := (fun v kq Lq Eq => (∃ x : Int32, v = some (.int x) ∧ 0 ≤ x.toInt ∧ x.toInt ≤ 1 ∧ (x.toInt ≠ 0 → 0 ≤ x1.toInt ∧ x1.toInt < xi1.toInt ∧ xi2.toInt = 1) ∧ (x.toInt ≠ 0 → rw_h E a0 12 (x1.toInt).toNat ≠ 0)) ∧ kp = kq ∧ L = Lq ∧ E = Eq)) (As := [.int x1]) (rest := []) ⟨hx, hb, hml, hown, hB⟩ (fun sz => tX12_inDraft l D cs a0 x1 xi1 xi2 hm0 hk0 hxi1 hxi2 sz) cg_12_425_X12_inDraft rfl rfl (by decide +kernel) ⟨Nat.le_of_ble_eq_true rfl, Nat.le_of_ble_eq_true rfl⟩ hK hN TH hS hA rfl hm0 hk0 (by decide) rfl hl.1 rfl (Nat.le_of_ble_eq_true rfl) dX12_take_2 ⟨Nat.le_of_ble_eq_true rfl, Nat.le_of_ble_eq_true rfl⟩ (fun v3 kp3 L3 E3 H locs hq3 hx3 TH hS => ?_)
  obtain ⟨⟨xc4, rfl, hxc4a, hxc4b, hpoxc4_0, hpoxc4_1⟩, rfl, rfl, rfl⟩ := hq3
  refine W.eq (g2 := F0 m 5 ls [.int xc4]) rfl ?_
  refine lv_if_eq (tgt := 31) hx hb dX12_take_5 (by decide) (fun hc5 => ?_) (fun hc5 => ?_)
  · have hf6 : xc4.toInt = 0 := by have z := (fa_eq _ _).mp hc5; have : ((0 : Int32).toInt) = 0 := (by decide); omega
    refine lv_iconst (v := 0) hx hb dX12_take_31 (by decide) ?_
    exact tw_zret hx hb hr hlocks (by decide) TH hS hex ⟨⟨_, rfl, (show 0 ≤ Int32.toInt 0 from by have : ((0 : Int32).toInt) = 0 := (by decide); omega), (show Int32.toInt 0 ≤ 1 from by have : ((0 : Int32).toInt) = 0 := (by decide); omega), hg0, hg1, hg2, hg3, hg4, hg5, hg6⟩, rfl, rfl, hF⟩ (Nat.le_of_ble_eq_true rfl) (Nat.le_of_ble_eq_true rfl) dX12_take_32
  · have hf7 : ¬ (xc4.toInt = 0) := fun q => hc5 ((fa_eq _ _).mpr (by have : ((0 : Int32).toInt) = 0 := (by decide); omega))
    refine lv_aload_n hx hb dX12_take_8 rfl (lv_at hl 0 rfl) ?_
    refine lv_bipush (v := 12) hx hb dX12_take_9 (by decide) ?_
    refine lv_iload_n hx hb dX12_take_11 rfl (lv_at hl 1 rfl) ?_
    refine tw_Vc (o := a0) (ci := 12) (n := 2) (post := (fun v kq Lq Eq => (∃ x : Int32, v = some (.int x) ∧ 0 ≤ x.toInt ∧ x.toInt ≤ 150 ∧ (x.toInt = 0 → nk_inv (rw_h E a0 (12 : Int32).toInt) (rw_p E a0 (12 : Int32).toInt) x1.toInt 150)) ∧ kp = kq ∧ L = Lq ∧ E = Eq)) (As := [.int 12, .int x1]) (rest := []) ⟨hx, hb, hml, hown, hB⟩ (fun sz => tX12_kidsOf l D cs a0 (12 : Int32) x1 hm0 hk0 (by have : ((12 : Int32).toInt) = 12 := (by decide); omega) (by have : ((12 : Int32).toInt) = 12 := (by decide); omega) sz) cg_12_315_X12_kidsOf rfl rfl (by decide +kernel) ⟨Nat.le_of_ble_eq_true rfl, Nat.le_of_ble_eq_true rfl⟩ hK hN TH hS hA rfl hm0 hk0 (by decide) rfl hl.1 rfl (Nat.le_of_ble_eq_true rfl) dX12_take_12 ⟨Nat.le_of_ble_eq_true rfl, Nat.le_of_ble_eq_true rfl⟩ (fun v8 kp8 L8 E8 H locs hq8 hx8 TH hS => ?_)
    obtain ⟨⟨xc9, rfl, hxc9a, hxc9b, hpoxc9_0⟩, rfl, rfl, rfl⟩ := hq8
    refine W.eq (g2 := F0 m 15 ls [.int xc9]) rfl ?_
    refine lv_if_gt (tgt := 31) hx hb dX12_take_15 (by decide) (fun hc10 => ?_) (fun hc10 => ?_)
    · have hf11 : 0 < xc9.toInt := by have z := (fa_lt _ _).mp hc10; have : ((0 : Int32).toInt) = 0 := (by decide); omega
      refine lv_iconst (v := 0) hx hb dX12_take_31 (by decide) ?_
      exact tw_zret hx hb hr hlocks (by decide) TH hS hex ⟨⟨_, rfl, (show 0 ≤ Int32.toInt 0 from by have : ((0 : Int32).toInt) = 0 := (by decide); omega), (show Int32.toInt 0 ≤ 1 from by have : ((0 : Int32).toInt) = 0 := (by decide); omega), hg0, hg1, hg2, hg3, hg4, hg5, hg6⟩, rfl, rfl, hF⟩ (Nat.le_of_ble_eq_true rfl) (Nat.le_of_ble_eq_true rfl) dX12_take_32
    · have hf12 : ¬ (0 < xc9.toInt) := fun q => hc10 ((fa_lt _ _).mpr (by have : ((0 : Int32).toInt) = 0 := (by decide); omega))
      refine lv_aload_n hx hb dX12_take_18 rfl (lv_at hl 0 rfl) ?_
      refine tw_get (ci := 12) (C := RX12) (T := TX12) (N := 64) hx hb hB cx_inX12 hown hK TH hm0 hk0 rfl ⟨by decide, rfl⟩ 18 (by decide) cw_1211 (fun _ h9 => h9) dX12_take_19 (fun hv => ?_)
      obtain ⟨xr13, hxr13, hmxr13, hkxr13⟩ : ∃ a : Nat, tw_fv E a0 18 = .ref a ∧ a ∈ L ∧ kp a = 318 := hv
      rw [hxr13]
      refine lv_bipush (v := 12) hx hb dX12_take_22 (by decide) ?_
      refine tw_aald (k := 318) (t0 := 4) (n := 16) (lo := 328) (hi := 0) (ty := .int) hx hb hK TH hmxr13 hkxr13 (by decide) rfl rfl (i := 12) (vp_in_iff.mpr ⟨by have : ((12 : Int32).toInt) = 12 := (by decide); omega, by have : ((12 : Int32).toInt) = 12 := (by decide); omega⟩) dX12_take_24 (fun xr14 exr14 hmxr14 hkxr14 => ?_)
      have hkxr14 : kp xr14 = 328 := hkxr14
      refine lv_iload_n hx hb dX12_take_25 rfl (lv_at hl 1 rfl) ?_
      refine tw_iald (k := 328) (t0 := 0) (n := 150) (lo := (-1)) (hi := 149) hx hb hK TH hmxr14 hkxr14 (by decide) rfl rfl (i := x1) (vp_in_iff.mpr ⟨by  omega, by  omega⟩) dX12_take_26 (fun hxe15a hxe15b => ?_)
      obtain ⟨xe15, exe15⟩ : ∃ z : Int32, tw_iv E xr14 (Int32.toNatClampNeg x1) = z := ⟨_, rfl⟩
      rw [exe15] at hxe15a hxe15b ⊢
      refine lv_iconst (v := (-1)) hx hb dX12_take_27 (by decide) ?_
      refine lv_icmp_ne (tgt := 33) hx hb dX12_take_28 (by decide) (fun hc16 => ?_) (fun hc16 => ?_)
      · have hf17 : ¬ (xe15.toInt = (-1)) := fun q => hc16 ((fa_eq _ _).mpr (by have : (((-1) : Int32).toInt) = (-1) := (by decide); omega))
        refine lv_aload_n hx hb dX12_take_33 rfl (lv_at hl 0 rfl) ?_
        refine tw_get (ci := 12) (C := RX12) (T := TX12) (N := 64) hx hb hB cx_inX12 hown hK TH hm0 hk0 rfl ⟨by decide, rfl⟩ 18 (by decide) cw_1211 (fun _ h9 => h9) dX12_take_34 (fun hv => ?_)
        rw [hxr13]
        refine lv_bipush (v := 12) hx hb dX12_take_37 (by decide) ?_
        refine tw_aald (k := 318) (t0 := 4) (n := 16) (lo := 328) (hi := 0) (ty := .int) hx hb hK TH hmxr13 hkxr13 (by decide) rfl rfl (i := 12) (vp_in_iff.mpr ⟨by have : ((12 : Int32).toInt) = 12 := (by decide); omega, by have : ((12 : Int32).toInt) = 12 := (by decide); omega⟩) dX12_take_39 (fun xr18 exr18 hmxr18 hkxr18 => ?_)
        have ezxr18 : xr14 = xr18 := exr14.symm.trans exr18
        subst ezxr18
        refine lv_iload_n hx hb dX12_take_40 rfl (lv_at hl 1 rfl) ?_
        refine tw_iald (k := 328) (t0 := 0) (n := 150) (lo := (-1)) (hi := 149) hx hb hK TH hmxr14 hkxr14 (by decide) rfl rfl (i := x1) (vp_in_iff.mpr ⟨by  omega, by  omega⟩) dX12_take_41 (fun hxe19a hxe19b => ?_)
        rw [exe15]
        refine lv_istore_n (lv' := [(2, .int xe15), (0, .ref a0), (1, .int x1)]) hx hb dX12_take_42 rfl hl (by decide) rfl (fun ls hl => ?_)
        refine lv_aload_n hx hb dX12_take_43 rfl (lv_at hl 1 rfl) ?_
        refine tw_get (ci := 12) (C := RX12) (T := TX12) (N := 64) hx hb hB cx_inX12 hown hK TH hm0 hk0 rfl ⟨by decide, rfl⟩ 16 (by decide) cw_1209 (fun _ h9 => h9) dX12_take_44 (fun hv => ?_)
        obtain ⟨xr20, hxr20, hmxr20, hkxr20⟩ : ∃ a : Nat, tw_fv E a0 16 = .ref a ∧ a ∈ L ∧ kp a = 316 := hv
        rw [hxr20]
        refine lv_bipush (v := 12) hx hb dX12_take_47 (by decide) ?_
        refine tw_aald (k := 316) (t0 := 5) (n := 16) (lo := 326) (hi := 0) (ty := .boolean) hx hb hK TH hmxr20 hkxr20 (by decide) rfl rfl (i := 12) (vp_in_iff.mpr ⟨by have : ((12 : Int32).toInt) = 12 := (by decide); omega, by have : ((12 : Int32).toInt) = 12 := (by decide); omega⟩) dX12_take_49 (fun xr21 exr21 hmxr21 hkxr21 => ?_)
        have hkxr21 : kp xr21 = 326 := hkxr21
        refine lv_iload_n hx hb dX12_take_50 rfl (lv_at hl 2 rfl) ?_
        refine lv_iconst (v := 0) hx hb dX12_take_51 (by decide) ?_
        refine tw_zast (k := 326) (n := 150) (lo := 0) (hi := 1) hx hb hK TH hS hmxr21 hkxr21 (by decide) rfl (i := x1) (x := 0) (vp_in_iff.mpr ⟨by  omega, by  omega⟩) (by have : ((0 : Int32).toInt) = 0 := (by decide); omega) (by have : ((0 : Int32).toInt) = 0 := (by decide); omega) (by have : ((0 : Int32).toInt) = 0 := (by decide); omega) (by have : ((0 : Int32).toInt) = 0 := (by decide); omega) dX12_take_52 (fun H locs E22 TH hS hp23 hp24 hp25 => ?_)
        have hst26 : tw_fr kp L [] [326] E E22 := tw_fr.ast tw_fr.rf (fun _ => hkxr21) hp23 hp24 (by decide)
        have hF := hF.tr hst26 (fun _ h => ⟨h, rfl⟩) (by decide) (by decide)
        have hmf27 : tw_fv E22 a0 26 = .int xi1 := (hst26.1 a0 26 hm0 (by rw [hk0]; decide)).trans hxi1
        have hmf28 : tw_fv E22 a0 29 = .int xi2 := (hst26.1 a0 29 hm0 (by rw [hk0]; decide)).trans hxi2
        have hmf29 : tw_fv E22 a0 18 = .ref xr13 := (hst26.1 a0 18 hm0 (by rw [hk0]; decide)).trans hxr13
        have hmf30 : tw_fv E22 a0 16 = .ref xr20 := (hst26.1 a0 16 hm0 (by rw [hk0]; decide)).trans hxr20
        have hg0_o := hg0
        have hg1_o := hg1
        have hg2_o := hg2
        have hg3_o := hg3
        have hg4_o := hg4
        have hg5_o := hg5
        have hg6_o := hg6
        have hg0 : rd_ok E22 a0 := rd_ok_fr TH hst26 hm0 hk0 (by decide) (by decide) hg0
        have hg1 : eo_ok E22 a0 := eo_ok_h (i := 12) TH hm0 hk0 hg0_o hxr20 exr21 hkxr20 hkxr21 hp23 hp24 (by have e : ((12 : Int32).toInt) = 12 := (by decide); omega) (by have e : ((12 : Int32).toInt) = 12 := (by decide); omega) (by have := tw_fi_ed TH hm0 hk0; have e : ((12 : Int32).toInt) = 12 := (by decide); omega) hg1_o
        have hg2 : ht_ok E22 a0 := ht_ok_h (i := 12) hg0_o hxr20 exr21 hkxr20 hkxr21 hp23 hp24 (by have e : ((12 : Int32).toInt) = 12 := (by decide); omega) (by have e : ((12 : Int32).toInt) = 12 := (by decide); omega) hg2_o
        have hg3 : dr_ok E22 a0 := (fun _ => (by have rf_xe15 : rw_p E a0 (12) (x1.toInt).toNat = xe15.toInt := (by have q := rw_p_of (m := a0) (i := (12 : Int32)) (c := x1) hxr13 exr14 exe15; rw [show ((12 : Int32).toInt) = 12 from (by decide)] at q; exact q); have e12 : ((12 : Int32).toInt) = 12 := (by decide); have e0 : ((0 : Int32).toInt) = 0 := (by decide); have q := rw_h_st (m := a0) (i := 12) (c := x1) hxr20 exr21 hkxr20 hkxr21 hp23 hp24 hp25; rw [e12, e0] at q; have nk := hpoxc9_0 (by omega); rw [e12] at nk; exact row_take (n := x1.toInt) (by omega) (hg3_o (by rw [tw_fi_of hxi2]; omega)) q (rw_p_hst TH hm0 hk0 hkxr21 hp23 hp24 (i := 12) (by decide)) (by unfold tw_fi; rw [hp23]) nk (by rw [rf_xe15]; omega)))
        have hg4 : ln_ok E22 a0 := ln_ok_h (i := 12) TH hm0 hk0 hg0_o hxr20 exr21 hkxr20 hkxr21 hp23 hp24 (by have e : ((12 : Int32).toInt) = 12 := (by decide); omega) (by have e : ((12 : Int32).toInt) = 12 := (by decide); omega) (by have := tw_fi_ed TH hm0 hk0; have e : ((12 : Int32).toInt) = 12 := (by decide); omega) hg4_o
        have hg5 : dl_ok E22 a0 := dl_ok_12 TH hst26 hm0 hk0 (by decide) (by have e12 : ((12 : Int32).toInt) = 12 := (by decide); have q := ot_ok_h (i := 12) TH hm0 hk0 hg0_o hxr20 exr21 hkxr20 hkxr21 hp23 hp24 (by omega) (by omega) ot_ok_rf; rw [e12] at q; exact q) (fun r hr x y => (by have e12 : ((12 : Int32).toInt) = 12 := (by decide); have rf_xe15 : rw_p E a0 (12) (x1.toInt).toNat = xe15.toInt := (by have q := rw_p_of (m := a0) (i := (12 : Int32)) (c := x1) hxr13 exr14 exe15; rw [show ((12 : Int32).toInt) = 12 from (by decide)] at q; exact q); have q := rw_h_st (m := a0) (i := 12) (c := x1) hxr20 exr21 hkxr20 hkxr21 hp23 hp24 hp25 r; rw [e12] at q; rw [rw_p_hst TH hm0 hk0 hkxr21 hp23 hp24 (i := 12) (by decide), q, if_neg (fun z => (by rw [z, rf_xe15] at y; omega))]; exact ⟨x, y⟩)) hg5_o
        have hg6 : fw_ok E22 a0 := fw_ok_h (i := 12) TH hm0 hk0 hg0_o hxr20 exr21 hkxr20 hkxr21 hp23 hp24 (by have e : ((12 : Int32).toInt) = 12 := (by decide); omega) (by have e : ((12 : Int32).toInt) = 12 := (by decide); omega) hg6_o
        refine lv_aload_n hx hb dX12_take_53 rfl (lv_at hl 1 rfl) ?_
        refine lv_iload_n hx hb dX12_take_54 rfl (lv_at hl 0 rfl) ?_
        refine tw_Vc (o := a0) (ci := 12) (n := 1) (post := (fun v kq Lq Eq => v = none ∧ kp = kq ∧ L = Lq ∧ tw_fr kp L [] [329] E22 Eq)) (As := [.int xe15]) (rest := []) ⟨hx, hb, hml, hown, hB⟩ (fun sz => tX12_shrinks l D cs a0 xe15 hm0 hk0 sz) cg_12_422_X12_shrinks rfl rfl (by decide +kernel) ⟨Nat.le_of_ble_eq_true rfl, Nat.le_of_ble_eq_true rfl⟩ hK hN TH hS hA rfl hm0 hk0 (by decide) rfl hl.1 rfl (Nat.le_of_ble_eq_true rfl) dX12_take_55 ⟨Nat.le_of_ble_eq_true rfl, Nat.le_of_ble_eq_true rfl⟩ (fun v31 kp31 L31 E31 H locs hq31 hx31 TH hS => ?_)
        obtain ⟨rfl, rfl, rfl, hst31⟩ := hq31
        have hF := hF.tr hst31 (fun _ h => ⟨h, rfl⟩) (by decide) (by decide)
        have hmf33 : tw_fv E31 a0 26 = .int xi1 := (hst31.1 a0 26 hm0 (by rw [hk0]; decide)).trans hmf27
        have hmf34 : tw_fv E31 a0 29 = .int xi2 := (hst31.1 a0 29 hm0 (by rw [hk0]; decide)).trans hmf28
        have hmf35 : tw_fv E31 a0 18 = .ref xr13 := (hst31.1 a0 18 hm0 (by rw [hk0]; decide)).trans hmf29
        have hmf36 : tw_fv E31 a0 16 = .ref xr20 := (hst31.1 a0 16 hm0 (by rw [hk0]; decide)).trans hmf30
        have hg0 : rd_ok E31 a0 := rd_ok_fr TH hst31 hm0 hk0 (by decide) (by decide) hg0
        have hg1 : eo_ok E31 a0 := eo_ok_fr TH hst31 hm0 hk0 (by decide) (by decide) hg1
        have hg2 : ht_ok E31 a0 := ht_ok_fr TH hst31 hm0 hk0 (by decide) (by decide) hg2
        have hg3 : dr_ok E31 a0 := dr_ok_fr TH hst31 hm0 hk0 (by decide) (by decide) hg3
        have hg4 : ln_ok E31 a0 := ln_ok_fr TH hst31 hm0 hk0 (by decide) (by decide) hg4
        have hg5 : dl_ok E31 a0 := dl_ok_fr TH hst31 hm0 hk0 (by decide) (by decide) hg5
        have hg6 : fw_ok E31 a0 := fw_ok_fr TH hst31 hm0 hk0 (by decide) (by decide) hg6
        refine W.eq (g2 := F0 m 58 ls []) rfl ?_
        refine lv_iconst (v := 1) hx hb dX12_take_58 (by decide) ?_
        exact tw_zret hx hb hr hlocks (by decide) TH hS hex ⟨⟨_, rfl, (show 0 ≤ Int32.toInt 1 from by have : ((1 : Int32).toInt) = 1 := (by decide); omega), (show Int32.toInt 1 ≤ 1 from by have : ((1 : Int32).toInt) = 1 := (by decide); omega), hg0, hg1, hg2, hg3, hg4, hg5, hg6⟩, rfl, rfl, hF⟩ (Nat.le_of_ble_eq_true rfl) (Nat.le_of_ble_eq_true rfl) dX12_take_59
      · have hf37 : xe15.toInt = (-1) := by have z := (fa_eq _ _).mp hc16; have : (((-1) : Int32).toInt) = (-1) := (by decide); omega
        refine lv_iconst (v := 0) hx hb dX12_take_31 (by decide) ?_
        exact tw_zret hx hb hr hlocks (by decide) TH hS hex ⟨⟨_, rfl, (show 0 ≤ Int32.toInt 0 from by have : ((0 : Int32).toInt) = 0 := (by decide); omega), (show Int32.toInt 0 ≤ 1 from by have : ((0 : Int32).toInt) = 0 := (by decide); omega), hg0, hg1, hg2, hg3, hg4, hg5, hg6⟩, rfl, rfl, hF⟩ (Nat.le_of_ble_eq_true rfl) (Nat.le_of_ble_eq_true rfl) dX12_take_32
set_option maxHeartbeats 4000000 in
set_option maxRecDepth 100000 in
theorem tX12_rename (l : Launch) (D : va_G) (cs : Nat → ClassId) {kp : Nat → Nat} {L : List Nat} {E : Nat → va_E} (a0 : Nat) (x1 : Int32) (x2 : Int64) (hm0 : a0 ∈ L) (hk0 : kp a0 = 12) (hg0 : rd_ok E a0) (hg1 : eo_ok E a0) (hg2 : ht_ok E a0) (hg3 : dr_ok E a0) (hg4 : ln_ok E a0) (hg5 : dl_ok E a0) (hg6 : fw_ok E a0) (sz : Nat) : Met l yX12_rename (.code yX12_rename cX12_rename 4 (some .boolean) :: cx_big) { frames := 4, cells := 0, slots := 0, locals := 98 } (tw_P D cs kp L E [.ref a0, .int x1, .long x2] sz) (tw_Q D cs kp L (fun v kq Lq Eq => (∃ x : Int32, v = some (.int x) ∧ 0 ≤ x.toInt ∧ x.toInt ≤ 1 ∧ rd_ok Eq a0 ∧ eo_ok Eq a0 ∧ ht_ok Eq a0 ∧ dr_ok Eq a0 ∧ ln_ok Eq a0 ∧ dl_ok Eq a0 ∧ fw_ok Eq a0) ∧ kp = kq ∧ L = Lq ∧ tw_fr kp L [] [327, 329] E Eq) (va_A (va_pl L E) sz)) 0 0 (va_A (va_pl L E) sz) := by
  refine tw_ofW (by decide) (Nat.le_of_ble_eq_true rfl) ?_
  intro p e s m below meth c A ls hx hb hr hml hB hown hlocks hK hN hA TH hS hl
  have hown : s.vm.findClass "TreeMergeModel" = some m.cls := hown
  have hl : lv_has ls 4 [(0, .ref a0), (1, .int x1), (2, .long x2)] := hl
  obtain ⟨kp0, ekp⟩ : ∃ z, z = kp := ⟨_, rfl⟩
  obtain ⟨L0, eL⟩ : ∃ z, z = L := ⟨_, rfl⟩
  rw [show tw_Q D cs kp L = tw_Q D cs kp0 L0 by rw [ekp, eL]]
  have hex : ∀ a : Nat, a ∈ L0 → a ∈ L ∧ kp a = kp0 a := fun a h => ⟨by rw [← eL]; exact h, by rw [ekp]⟩
  have hF : tw_fr kp L [] [327, 329] E E := tw_fr.rf
  refine lv_aload_n hx hb dX12_rename_0 rfl (lv_at hl 0 rfl) ?_
  refine lv_iload_n hx hb dX12_rename_1 rfl (lv_at hl 1 rfl) ?_
  obtain ⟨xi1, hxi1, hxi1a, hxi1b⟩ := tw_rd TH hm0 hk0 (by decide) (by decide) (k := 26) rfl
  obtain ⟨xi2, hxi2, hxi2a, hxi2b⟩ := tw_rd TH hm0 hk0 (by decide) (by decide) (k := 29) rfl
  refine tw_Vc (o := a0) (ci := 12) (n := 1) (post := (fun v kq Lq Eq => (∃ x : Int32, v = some (.int x) ∧ 0 ≤ x.toInt ∧ x.toInt ≤ 1 ∧ (x.toInt ≠ 0 → 0 ≤ x1.toInt ∧ x1.toInt < xi1.toInt ∧ xi2.toInt = 1) ∧ (x.toInt ≠ 0 → rw_h E a0 12 (x1.toInt).toNat ≠ 0)) ∧ kp = kq ∧ L = Lq ∧ E = Eq)) (As := [.int x1]) (rest := []) ⟨hx, hb, hml, hown, hB⟩ (fun sz => tX12_inDraft l D cs a0 x1 xi1 xi2 hm0 hk0 hxi1 hxi2 sz) cg_12_425_X12_inDraft rfl rfl (by decide +kernel) ⟨Nat.le_of_ble_eq_true rfl, Nat.le_of_ble_eq_true rfl⟩ hK hN TH hS hA rfl hm0 hk0 (by decide) rfl hl.1 rfl (Nat.le_of_ble_eq_true rfl) dX12_rename_2 ⟨Nat.le_of_ble_eq_true rfl, Nat.le_of_ble_eq_true rfl⟩ (fun v3 kp3 L3 E3 H locs hq3 hx3 TH hS => ?_)
  obtain ⟨⟨xc4, rfl, hxc4a, hxc4b, hpoxc4_0, hpoxc4_1⟩, rfl, rfl, rfl⟩ := hq3
  refine W.eq (g2 := F0 m 5 ls [.int xc4]) rfl ?_
  refine lv_if_eq (tgt := 32) hx hb dX12_rename_5 (by decide) (fun hc5 => ?_) (fun hc5 => ?_)
  · have hf6 : xc4.toInt = 0 := by have z := (fa_eq _ _).mp hc5; have : ((0 : Int32).toInt) = 0 := (by decide); omega
    refine lv_iconst (v := 0) hx hb dX12_rename_32 (by decide) ?_
    exact tw_zret hx hb hr hlocks (by decide) TH hS hex ⟨⟨_, rfl, (show 0 ≤ Int32.toInt 0 from by have : ((0 : Int32).toInt) = 0 := (by decide); omega), (show Int32.toInt 0 ≤ 1 from by have : ((0 : Int32).toInt) = 0 := (by decide); omega), hg0, hg1, hg2, hg3, hg4, hg5, hg6⟩, rfl, rfl, hF⟩ (Nat.le_of_ble_eq_true rfl) (Nat.le_of_ble_eq_true rfl) dX12_rename_33
  · have hf7 : ¬ (xc4.toInt = 0) := fun q => hc5 ((fa_eq _ _).mpr (by have : ((0 : Int32).toInt) = 0 := (by decide); omega))
    refine lv_lload_n hx hb dX12_rename_8 rfl (lv_at hl 2 rfl) ?_
    refine tw_Sc (n := 1) (post := (fun v kq Lq Eq => (∃ x : Int32, v = some (.int x) ∧ 0 ≤ x.toInt ∧ x.toInt ≤ 1) ∧ kp = kq ∧ L = Lq ∧ E = Eq)) (As := [.long x2]) (rest := []) ⟨hx, hb, hml, hown, hB⟩ (fun sz => tX12_isGood l D cs x2  sz) cg_12_428_X12_isGood rfl rfl (by decide +kernel) ⟨Nat.le_of_ble_eq_true rfl, Nat.le_of_ble_eq_true rfl⟩ hK hN TH hS hA rfl hl.1 rfl (Nat.le_of_ble_eq_true rfl) dX12_rename_9 ⟨Nat.le_of_ble_eq_true rfl, Nat.le_of_ble_eq_true rfl⟩ (fun v8 kp8 L8 E8 H locs hq8 hx8 TH hS => ?_)
    obtain ⟨⟨xc9, rfl, hxc9a, hxc9b⟩, rfl, rfl, rfl⟩ := hq8
    refine W.eq (g2 := F0 m 12 ls [.int xc9]) rfl ?_
    refine lv_if_eq (tgt := 32) hx hb dX12_rename_12 (by decide) (fun hc10 => ?_) (fun hc10 => ?_)
    · have hf11 : xc9.toInt = 0 := by have z := (fa_eq _ _).mp hc10; have : ((0 : Int32).toInt) = 0 := (by decide); omega
      refine lv_iconst (v := 0) hx hb dX12_rename_32 (by decide) ?_
      exact tw_zret hx hb hr hlocks (by decide) TH hS hex ⟨⟨_, rfl, (show 0 ≤ Int32.toInt 0 from by have : ((0 : Int32).toInt) = 0 := (by decide); omega), (show Int32.toInt 0 ≤ 1 from by have : ((0 : Int32).toInt) = 0 := (by decide); omega), hg0, hg1, hg2, hg3, hg4, hg5, hg6⟩, rfl, rfl, hF⟩ (Nat.le_of_ble_eq_true rfl) (Nat.le_of_ble_eq_true rfl) dX12_rename_33
    · have hf12 : ¬ (xc9.toInt = 0) := fun q => hc10 ((fa_eq _ _).mpr (by have : ((0 : Int32).toInt) = 0 := (by decide); omega))
      refine lv_lload_n hx hb dX12_rename_15 rfl (lv_at hl 2 rfl) ?_
      refine tw_Sc (n := 1) (post := (fun v kq Lq Eq => (∃ x : Int64, v = some (.long x)) ∧ kp = kq ∧ L = Lq ∧ E = Eq)) (As := [.long x2]) (rest := []) ⟨hx, hb, hml, hown, hB⟩ (fun sz => tX12_packed l D cs x2  sz) cg_12_435_X12_packed rfl rfl (by decide +kernel) ⟨Nat.le_of_ble_eq_true rfl, Nat.le_of_ble_eq_true rfl⟩ hK hN TH hS hA rfl hl.1 rfl (Nat.le_of_ble_eq_true rfl) dX12_rename_16 ⟨Nat.le_of_ble_eq_true rfl, Nat.le_of_ble_eq_true rfl⟩ (fun v13 kp13 L13 E13 H locs hq13 hx13 TH hS => ?_)
      obtain ⟨⟨xc14, rfl⟩, rfl, rfl, rfl⟩ := hq13
      refine W.eq (g2 := F0 m 19 ls [.long xc14]) rfl ?_
      refine lv_aload_n hx hb dX12_rename_19 rfl (lv_at hl 0 rfl) ?_
      refine tw_get (ci := 12) (C := RX12) (T := TX12) (N := 64) hx hb hB cx_inX12 hown hK TH hm0 hk0 rfl ⟨by decide, rfl⟩ 17 (by decide) cw_1210 (fun _ h9 => h9) dX12_rename_20 (fun hv => ?_)
      obtain ⟨xr15, hxr15, hmxr15, hkxr15⟩ : ∃ a : Nat, tw_fv E a0 17 = .ref a ∧ a ∈ L ∧ kp a = 317 := hv
      rw [hxr15]
      refine lv_bipush (v := 12) hx hb dX12_rename_23 (by decide) ?_
      refine tw_aald (k := 317) (t0 := 6) (n := 16) (lo := 327) (hi := 0) (ty := .long) hx hb hK TH hmxr15 hkxr15 (by decide) rfl rfl (i := 12) (vp_in_iff.mpr ⟨by have : ((12 : Int32).toInt) = 12 := (by decide); omega, by have : ((12 : Int32).toInt) = 12 := (by decide); omega⟩) dX12_rename_25 (fun xr16 exr16 hmxr16 hkxr16 => ?_)
      have hkxr16 : kp xr16 = 327 := hkxr16
      refine lv_iload_n hx hb dX12_rename_26 rfl (lv_at hl 1 rfl) ?_
      refine tw_lald2 (k := 327) (n := 150) (lo := 0) (hi := 0) hx hb hK TH hmxr16 hkxr16 (by decide) rfl (i := x1) (vp_in_iff.mpr ⟨by  omega, by  omega⟩) dX12_rename_27 (fun xl17 exl17 => ?_)
      refine W.lcmp hx hb dX12_rename_28 ?_
      have hzi18 := ia_lc xc14 xl17
      generalize lg_cmp xc14 xl17 = zi18 at hzi18 ⊢
      refine lv_if_ne (tgt := 34) hx hb dX12_rename_29 (by decide) (fun hc19 => ?_) (fun hc19 => ?_)
      · have hf20 : ¬ (zi18.toInt = 0) := fun q => hc19 ((fa_eq _ _).mpr (by have : ((0 : Int32).toInt) = 0 := (by decide); omega))
        refine lv_aload_n hx hb dX12_rename_34 rfl (lv_at hl 0 rfl) ?_
        refine tw_get (ci := 12) (C := RX12) (T := TX12) (N := 64) hx hb hB cx_inX12 hown hK TH hm0 hk0 rfl ⟨by decide, rfl⟩ 17 (by decide) cw_1210 (fun _ h9 => h9) dX12_rename_35 (fun hv => ?_)
        rw [hxr15]
        refine lv_bipush (v := 12) hx hb dX12_rename_38 (by decide) ?_
        refine tw_aald (k := 317) (t0 := 6) (n := 16) (lo := 327) (hi := 0) (ty := .long) hx hb hK TH hmxr15 hkxr15 (by decide) rfl rfl (i := 12) (vp_in_iff.mpr ⟨by have : ((12 : Int32).toInt) = 12 := (by decide); omega, by have : ((12 : Int32).toInt) = 12 := (by decide); omega⟩) dX12_rename_40 (fun xr21 exr21 hmxr21 hkxr21 => ?_)
        have ezxr21 : xr16 = xr21 := exr16.symm.trans exr21
        subst ezxr21
        refine lv_iload_n hx hb dX12_rename_41 rfl (lv_at hl 1 rfl) ?_
        refine lv_lload_n hx hb dX12_rename_42 rfl (lv_at hl 2 rfl) ?_
        refine tw_Sc (n := 1) (post := (fun v kq Lq Eq => (∃ x : Int64, v = some (.long x)) ∧ kp = kq ∧ L = Lq ∧ E = Eq)) (As := [.long x2]) (rest := [.int x1, .ref xr16]) ⟨hx, hb, hml, hown, hB⟩ (fun sz => tX12_packed l D cs x2  sz) cg_12_435_X12_packed rfl rfl (by decide +kernel) ⟨Nat.le_of_ble_eq_true rfl, Nat.le_of_ble_eq_true rfl⟩ hK hN TH hS hA rfl hl.1 rfl (Nat.le_of_ble_eq_true rfl) dX12_rename_43 ⟨Nat.le_of_ble_eq_true rfl, Nat.le_of_ble_eq_true rfl⟩ (fun v22 kp22 L22 E22 H locs hq22 hx22 TH hS => ?_)
        obtain ⟨⟨xc23, rfl⟩, rfl, rfl, rfl⟩ := hq22
        refine W.eq (g2 := F0 m 46 ls [.long xc23, .int x1, .ref xr16]) rfl ?_
        refine tw_last2 (k := 327) (n := 150) (lo := 0) (hi := 0) hx hb hK TH hS hmxr16 hkxr16 (by decide) rfl (i := x1) (x := xc23) (vp_in_iff.mpr ⟨by  omega, by  omega⟩) dX12_rename_46 (fun H locs E24 TH hS hp25 hp26 hp28 => ?_)
        have hst27 : tw_fr kp L [] [327] E E24 := tw_fr.ast tw_fr.rf (fun _ => hkxr16) hp25 hp26 (by decide)
        have hF := hF.tr hst27 (fun _ h => ⟨h, rfl⟩) (by decide) (by decide)
        have hmf29 : tw_fv E24 a0 26 = .int xi1 := (hst27.1 a0 26 hm0 (by rw [hk0]; decide)).trans hxi1
        have hmf30 : tw_fv E24 a0 29 = .int xi2 := (hst27.1 a0 29 hm0 (by rw [hk0]; decide)).trans hxi2
        have hmf31 : tw_fv E24 a0 17 = .ref xr15 := (hst27.1 a0 17 hm0 (by rw [hk0]; decide)).trans hxr15
        have hg0 : rd_ok E24 a0 := rd_ok_fr TH hst27 hm0 hk0 (by decide) (by decide) hg0
        have hg1 : eo_ok E24 a0 := eo_ok_fr TH hst27 hm0 hk0 (by decide) (by decide) hg1
        have hg2 : ht_ok E24 a0 := ht_ok_fr TH hst27 hm0 hk0 (by decide) (by decide) hg2
        have hg3 : dr_ok E24 a0 := dr_ok_fr TH hst27 hm0 hk0 (by decide) (by decide) hg3
        have hg4 : ln_ok E24 a0 := ln_ok_fr TH hst27 hm0 hk0 (by decide) (by decide) hg4
        have hg5 : dl_ok E24 a0 := dl_ok_fr TH hst27 hm0 hk0 (by decide) (by decide) hg5
        have hg6 : fw_ok E24 a0 := fw_ok_fr TH hst27 hm0 hk0 (by decide) (by decide) hg6
        refine lv_aload_n hx hb dX12_rename_47 rfl (lv_at hl 0 rfl) ?_
        refine lv_bipush (v := 12) hx hb dX12_rename_48 (by decide) ?_
        refine tw_Vc (o := a0) (ci := 12) (n := 1) (post := (fun v kq Lq Eq => v = none ∧ kp = kq ∧ L = Lq ∧ tw_fr kp L [] [329] E24 Eq ∧ ht_ok Eq a0 ∧ t1_ok Eq a0 ((12 : Int32).toInt))) (As := [.int 12]) (rest := []) ⟨hx, hb, hml, hown, hB⟩ (fun sz => tX12_orders l D cs a0 (12 : Int32) hm0 hk0 (by have : ((12 : Int32).toInt) = 12 := (by decide); omega) (by have : ((12 : Int32).toInt) = 12 := (by decide); omega) hg2 (t1_ok_cast (i := 12) (by decide) (hg3 (by rw [tw_fi_of hmf30]; omega)).1.1) sz) cg_12_275_X12_orders rfl rfl (by decide +kernel) ⟨Nat.le_of_ble_eq_true rfl, Nat.le_of_ble_eq_true rfl⟩ hK hN TH hS hA rfl hm0 hk0 (by decide) rfl hl.1 rfl (Nat.le_of_ble_eq_true rfl) dX12_rename_50 ⟨Nat.le_of_ble_eq_true rfl, Nat.le_of_ble_eq_true rfl⟩ (fun v32 kp32 L32 E32 H locs hq32 hx32 TH hS => ?_)
        obtain ⟨rfl, rfl, rfl, hst32, hgpxc33_0, hgpxc33_1⟩ := hq32
        have hF := hF.tr hst32 (fun _ h => ⟨h, rfl⟩) (by decide) (by decide)
        have hmf34 : tw_fv E32 a0 26 = .int xi1 := (hst32.1 a0 26 hm0 (by rw [hk0]; decide)).trans hmf29
        have hmf35 : tw_fv E32 a0 29 = .int xi2 := (hst32.1 a0 29 hm0 (by rw [hk0]; decide)).trans hmf30
        have hmf36 : tw_fv E32 a0 17 = .ref xr15 := (hst32.1 a0 17 hm0 (by rw [hk0]; decide)).trans hmf31
        have hg0 : rd_ok E32 a0 := rd_ok_fr TH hst32 hm0 hk0 (by decide) (by decide) hg0
        have hg1 : eo_ok E32 a0 := eo_ok_fr TH hst32 hm0 hk0 (by decide) (by decide) hg1
        have hg3 : dr_ok E32 a0 := dr_ok_fr TH hst32 hm0 hk0 (by decide) (by decide) hg3
        have hg4 : ln_ok E32 a0 := ln_ok_fr TH hst32 hm0 hk0 (by decide) (by decide) hg4
        have hg5 : dl_ok E32 a0 := dl_ok_fr TH hst32 hm0 hk0 (by decide) (by decide) hg5
        have hg6 : fw_ok E32 a0 := fw_ok_fr TH hst32 hm0 hk0 (by decide) (by decide) hg6
        refine W.eq (g2 := F0 m 53 ls []) rfl ?_
        refine lv_iconst (v := 1) hx hb dX12_rename_53 (by decide) ?_
        exact tw_zret hx hb hr hlocks (by decide) TH hS hex ⟨⟨_, rfl, (show 0 ≤ Int32.toInt 1 from by have : ((1 : Int32).toInt) = 1 := (by decide); omega), (show Int32.toInt 1 ≤ 1 from by have : ((1 : Int32).toInt) = 1 := (by decide); omega), hg0, hg1, hgpxc33_0, hg3, hg4, hg5, hg6⟩, rfl, rfl, hF⟩ (Nat.le_of_ble_eq_true rfl) (Nat.le_of_ble_eq_true rfl) dX12_rename_54
      · have hf37 : zi18.toInt = 0 := by have z := (fa_eq _ _).mp hc19; have : ((0 : Int32).toInt) = 0 := (by decide); omega
        refine lv_iconst (v := 0) hx hb dX12_rename_32 (by decide) ?_
        exact tw_zret hx hb hr hlocks (by decide) TH hS hex ⟨⟨_, rfl, (show 0 ≤ Int32.toInt 0 from by have : ((0 : Int32).toInt) = 0 := (by decide); omega), (show Int32.toInt 0 ≤ 1 from by have : ((0 : Int32).toInt) = 0 := (by decide); omega), hg0, hg1, hg2, hg3, hg4, hg5, hg6⟩, rfl, rfl, hF⟩ (Nat.le_of_ble_eq_true rfl) (Nat.le_of_ble_eq_true rfl) dX12_rename_33
set_option maxHeartbeats 4000000 in
set_option maxRecDepth 100000 in
theorem tX12_put (l : Launch) (D : va_G) (cs : Nat → ClassId) {kp : Nat → Nat} {L : List Nat} {E : Nat → va_E} (a0 : Nat) (x1 : Int32) (x2 : Int32) (x3 : Int32) (x4 : Int64) (hm0 : a0 ∈ L) (hk0 : kp a0 = 12) (hg0 : rd_ok E a0) (hg1 : eo_ok E a0) (hg2 : ht_ok E a0) (hg3 : dr_ok E a0) (hg4 : ln_ok E a0) (hg5 : dl_ok E a0) (hg6 : fw_ok E a0) (sz : Nat) : Met l yX12_put (.code yX12_put cX12_put 7 (some .int) :: cx_big) { frames := 5, cells := 0, slots := 0, locals := 122 } (tw_P D cs kp L E [.ref a0, .int x1, .int x2, .int x3, .long x4] sz) (tw_Q D cs kp L (fun v kq Lq Eq => (∃ x : Int32, v = some (.int x) ∧ rd_ok Eq a0 ∧ eo_ok Eq a0 ∧ ht_ok Eq a0 ∧ dr_ok Eq a0 ∧ ln_ok Eq a0 ∧ dl_ok Eq a0 ∧ fw_ok Eq a0) ∧ kp = kq ∧ L = Lq ∧ tw_fr kp L [(12, 26)] [326, 327, 328, 329, 330, 331, 333] E Eq) (va_A (va_pl L E) sz)) 0 0 (va_A (va_pl L E) sz) := by
  refine tw_ofW (by decide) (Nat.le_of_ble_eq_true rfl) ?_
  intro p e s m below meth c A ls hx hb hr hml hB hown hlocks hK hN hA TH hS hl
  have hown : s.vm.findClass "TreeMergeModel" = some m.cls := hown
  have hl : lv_has ls 7 [(0, .ref a0), (1, .int x1), (2, .int x2), (3, .int x3), (4, .long x4)] := hl
  obtain ⟨kp0, ekp⟩ : ∃ z, z = kp := ⟨_, rfl⟩
  obtain ⟨L0, eL⟩ : ∃ z, z = L := ⟨_, rfl⟩
  rw [show tw_Q D cs kp L = tw_Q D cs kp0 L0 by rw [ekp, eL]]
  have hex : ∀ a : Nat, a ∈ L0 → a ∈ L ∧ kp a = kp0 a := fun a h => ⟨by rw [← eL]; exact h, by rw [ekp]⟩
  have hF : tw_fr kp L [(12, 26)] [326, 327, 328, 329, 330, 331, 333] E E := tw_fr.rf
  have hh12 : h12_ok E a0 (rw_h E a0 12) := rfl
  have hp12 : p12_ok E a0 (rw_p E a0 12) := rfl
  refine lv_aload_n hx hb dX12_put_0 rfl (lv_at hl 0 rfl) ?_
  refine lv_iload_n hx hb dX12_put_1 rfl (lv_at hl 1 rfl) ?_
  obtain ⟨xi1, hxi1, hxi1a, hxi1b⟩ := tw_rd TH hm0 hk0 (by decide) (by decide) (k := 26) rfl
  obtain ⟨xi2, hxi2, hxi2a, hxi2b⟩ := tw_rd TH hm0 hk0 (by decide) (by decide) (k := 29) rfl
  refine tw_Vc (o := a0) (ci := 12) (n := 1) (post := (fun v kq Lq Eq => (∃ x : Int32, v = some (.int x) ∧ 0 ≤ x.toInt ∧ x.toInt ≤ 1 ∧ (x.toInt ≠ 0 → 0 ≤ x1.toInt ∧ x1.toInt < xi1.toInt ∧ xi2.toInt = 1) ∧ (x.toInt ≠ 0 → rw_h E a0 12 (x1.toInt).toNat ≠ 0)) ∧ kp = kq ∧ L = Lq ∧ E = Eq)) (As := [.int x1]) (rest := []) ⟨hx, hb, hml, hown, hB⟩ (fun sz => tX12_inDraft l D cs a0 x1 xi1 xi2 hm0 hk0 hxi1 hxi2 sz) cg_12_425_X12_inDraft rfl rfl (by decide +kernel) ⟨Nat.le_of_ble_eq_true rfl, Nat.le_of_ble_eq_true rfl⟩ hK hN TH hS hA rfl hm0 hk0 (by decide) rfl hl.1 rfl (Nat.le_of_ble_eq_true rfl) dX12_put_2 ⟨Nat.le_of_ble_eq_true rfl, Nat.le_of_ble_eq_true rfl⟩ (fun v3 kp3 L3 E3 H locs hq3 hx3 TH hS => ?_)
  obtain ⟨⟨xc4, rfl, hxc4a, hxc4b, hpoxc4_0, hpoxc4_1⟩, rfl, rfl, rfl⟩ := hq3
  refine W.eq (g2 := F0 m 5 ls [.int xc4]) rfl ?_
  refine lv_if_eq (tgt := 70) hx hb dX12_put_5 (by decide) (fun hc5 => ?_) (fun hc5 => ?_)
  · have hf6 : xc4.toInt = 0 := by have z := (fa_eq _ _).mp hc5; have : ((0 : Int32).toInt) = 0 := (by decide); omega
    refine lv_iconst (v := (-1)) hx hb dX12_put_70 (by decide) ?_
    exact tw_iret hx hb hr hlocks TH hS hex ⟨⟨_, rfl, hg0, hg1, hg2, hg3, hg4, hg5, hg6⟩, rfl, rfl, hF⟩ (Nat.le_of_ble_eq_true rfl) (Nat.le_of_ble_eq_true rfl) dX12_put_71
  · have hf7 : ¬ (xc4.toInt = 0) := fun q => hc5 ((fa_eq _ _).mpr (by have : ((0 : Int32).toInt) = 0 := (by decide); omega))
    refine lv_iload_n hx hb dX12_put_8 rfl (lv_at hl 3 rfl) ?_
    refine lv_i2l (v := (x3).toInt64) hx hb dX12_put_9 rfl ?_
    refine tw_topl (fun zl8 ezl8 => ?_)
    have hzl8 : zl8.toInt = x3.toInt := by rw [ezl8];  exact (Int32.toInt_toInt64 _)
    refine lv_lconst (v := 0) hx hb dX12_put_10 (by decide) ?_
    refine tw_topl (fun zl9 ezl9 => ?_)
    have hzl9 : zl9.toInt = 0 := by rw [ezl9]; decide
    refine lv_aload_n hx hb dX12_put_11 rfl (lv_at hl 0 rfl) ?_
    refine tw_get (ci := 12) (C := RX12) (T := TX12) (N := 64) hx hb hB cx_inX12 hown hK TH hm0 hk0 rfl ⟨by decide, rfl⟩ 14 (by decide) cw_1207 (fun _ h9 => h9) dX12_put_12 (fun hv => ?_)
    obtain ⟨xi10, hxi10, hxi10a, hxi10b⟩ : ∃ x : Int32, tw_fv E a0 14 = .int x ∧ 0 ≤ x.toInt ∧ x.toInt ≤ 10 := hv
    rw [hxi10]
    refine lv_iconst (v := 1) hx hb dX12_put_15 (by decide) ?_
    refine lv_isub hx hb dX12_put_16 ?_
    refine lv_topi (fun zi11 ezi11 => ?_)
    have hzi11 : zi11.toInt = xi10.toInt - 1 := by rw [ezi11]; have : ((1 : Int32).toInt) = 1 := (by decide); have := ia_lo xi10; have := ia_hi xi10; exact (ia_sub (by omega) (by omega)).trans (by omega)
    refine lv_i2l (v := (zi11).toInt64) hx hb dX12_put_17 rfl ?_
    refine tw_topl (fun zl12 ezl12 => ?_)
    have hzl12 : zl12.toInt = zi11.toInt := by rw [ezl12];  exact (Int32.toInt_toInt64 _)
    refine tw_Sc (n := 3) (post := (fun v kq Lq Eq => (∃ x : Int32, v = some (.int x) ∧ 0 ≤ x.toInt ∧ x.toInt ≤ 1 ∧ (x.toInt ≠ 0 → zl9.toInt ≤ zl8.toInt ∧ zl8.toInt ≤ zl12.toInt)) ∧ kp = kq ∧ L = Lq ∧ E = Eq)) (As := [.long zl8, .long zl9, .long zl12]) (rest := []) ⟨hx, hb, hml, hown, hB⟩ (fun sz => tX12_in l D cs zl8 zl9 zl12  sz) cg_12_171_X12_in rfl rfl (by decide +kernel) ⟨Nat.le_of_ble_eq_true rfl, Nat.le_of_ble_eq_true rfl⟩ hK hN TH hS hA rfl hl.1 rfl (Nat.le_of_ble_eq_true rfl) dX12_put_18 ⟨Nat.le_of_ble_eq_true rfl, Nat.le_of_ble_eq_true rfl⟩ (fun v13 kp13 L13 E13 H locs hq13 hx13 TH hS => ?_)
    obtain ⟨⟨xc14, rfl, hxc14a, hxc14b, hpoxc14_0⟩, rfl, rfl, rfl⟩ := hq13
    refine W.eq (g2 := F0 m 21 ls [.int xc14]) rfl ?_
    refine lv_if_eq (tgt := 70) hx hb dX12_put_21 (by decide) (fun hc15 => ?_) (fun hc15 => ?_)
    · have hf16 : xc14.toInt = 0 := by have z := (fa_eq _ _).mp hc15; have : ((0 : Int32).toInt) = 0 := (by decide); omega
      refine lv_iconst (v := (-1)) hx hb dX12_put_70 (by decide) ?_
      exact tw_iret hx hb hr hlocks TH hS hex ⟨⟨_, rfl, hg0, hg1, hg2, hg3, hg4, hg5, hg6⟩, rfl, rfl, hF⟩ (Nat.le_of_ble_eq_true rfl) (Nat.le_of_ble_eq_true rfl) dX12_put_71
    · have hf17 : ¬ (xc14.toInt = 0) := fun q => hc15 ((fa_eq _ _).mpr (by have : ((0 : Int32).toInt) = 0 := (by decide); omega))
      refine lv_iload_n hx hb dX12_put_24 rfl (lv_at hl 2 rfl) ?_
      refine lv_i2l (v := (x2).toInt64) hx hb dX12_put_25 rfl ?_
      refine tw_topl (fun zl18 ezl18 => ?_)
      have hzl18 : zl18.toInt = x2.toInt := by rw [ezl18];  exact (Int32.toInt_toInt64 _)
      refine lv_lconst (v := 0) hx hb dX12_put_26 (by decide) ?_
      refine tw_topl (fun zl19 ezl19 => ?_)
      have hzl19 : zl19.toInt = 0 := by rw [ezl19]; decide
      refine lv_aload_n hx hb dX12_put_27 rfl (lv_at hl 0 rfl) ?_
      refine lv_bipush (v := 12) hx hb dX12_put_28 (by decide) ?_
      refine lv_iload_n hx hb dX12_put_30 rfl (lv_at hl 1 rfl) ?_
      refine tw_Vc (o := a0) (ci := 12) (n := 2) (post := (fun v kq Lq Eq => (∃ x : Int32, v = some (.int x) ∧ 0 ≤ x.toInt ∧ x.toInt ≤ 150 ∧ (x.toInt = 0 → nk_inv (rw_h E a0 (12 : Int32).toInt) (rw_p E a0 (12 : Int32).toInt) x1.toInt 150)) ∧ kp = kq ∧ L = Lq ∧ E = Eq)) (As := [.int 12, .int x1]) (rest := [.long zl19, .long zl18]) ⟨hx, hb, hml, hown, hB⟩ (fun sz => tX12_kidsOf l D cs a0 (12 : Int32) x1 hm0 hk0 (by have : ((12 : Int32).toInt) = 12 := (by decide); omega) (by have : ((12 : Int32).toInt) = 12 := (by decide); omega) sz) cg_12_315_X12_kidsOf rfl rfl (by decide +kernel) ⟨Nat.le_of_ble_eq_true rfl, Nat.le_of_ble_eq_true rfl⟩ hK hN TH hS hA rfl hm0 hk0 (by decide) rfl hl.1 rfl (Nat.le_of_ble_eq_true rfl) dX12_put_31 ⟨Nat.le_of_ble_eq_true rfl, Nat.le_of_ble_eq_true rfl⟩ (fun v20 kp20 L20 E20 H locs hq20 hx20 TH hS => ?_)
      obtain ⟨⟨xc21, rfl, hxc21a, hxc21b, hpoxc21_0⟩, rfl, rfl, rfl⟩ := hq20
      refine W.eq (g2 := F0 m 34 ls [.int xc21, .long zl19, .long zl18]) rfl ?_
      refine lv_i2l (v := (xc21).toInt64) hx hb dX12_put_34 rfl ?_
      refine tw_topl (fun zl22 ezl22 => ?_)
      have hzl22 : zl22.toInt = xc21.toInt := by rw [ezl22];  exact (Int32.toInt_toInt64 _)
      refine tw_Sc (n := 3) (post := (fun v kq Lq Eq => (∃ x : Int32, v = some (.int x) ∧ 0 ≤ x.toInt ∧ x.toInt ≤ 1 ∧ (x.toInt ≠ 0 → zl19.toInt ≤ zl18.toInt ∧ zl18.toInt ≤ zl22.toInt)) ∧ kp = kq ∧ L = Lq ∧ E = Eq)) (As := [.long zl18, .long zl19, .long zl22]) (rest := []) ⟨hx, hb, hml, hown, hB⟩ (fun sz => tX12_in l D cs zl18 zl19 zl22  sz) cg_12_171_X12_in rfl rfl (by decide +kernel) ⟨Nat.le_of_ble_eq_true rfl, Nat.le_of_ble_eq_true rfl⟩ hK hN TH hS hA rfl hl.1 rfl (Nat.le_of_ble_eq_true rfl) dX12_put_35 ⟨Nat.le_of_ble_eq_true rfl, Nat.le_of_ble_eq_true rfl⟩ (fun v23 kp23 L23 E23 H locs hq23 hx23 TH hS => ?_)
      obtain ⟨⟨xc24, rfl, hxc24a, hxc24b, hpoxc24_0⟩, rfl, rfl, rfl⟩ := hq23
      refine W.eq (g2 := F0 m 38 ls [.int xc24]) rfl ?_
      refine lv_if_eq (tgt := 70) hx hb dX12_put_38 (by decide) (fun hc25 => ?_) (fun hc25 => ?_)
      · have hf26 : xc24.toInt = 0 := by have z := (fa_eq _ _).mp hc25; have : ((0 : Int32).toInt) = 0 := (by decide); omega
        refine lv_iconst (v := (-1)) hx hb dX12_put_70 (by decide) ?_
        exact tw_iret hx hb hr hlocks TH hS hex ⟨⟨_, rfl, hg0, hg1, hg2, hg3, hg4, hg5, hg6⟩, rfl, rfl, hF⟩ (Nat.le_of_ble_eq_true rfl) (Nat.le_of_ble_eq_true rfl) dX12_put_71
      · have hf27 : ¬ (xc24.toInt = 0) := fun q => hc25 ((fa_eq _ _).mpr (by have : ((0 : Int32).toInt) = 0 := (by decide); omega))
        refine lv_lload hx hb dX12_put_41 (lv_at hl 4 rfl) ?_
        refine tw_Sc (n := 1) (post := (fun v kq Lq Eq => (∃ x : Int32, v = some (.int x) ∧ 0 ≤ x.toInt ∧ x.toInt ≤ 1) ∧ kp = kq ∧ L = Lq ∧ E = Eq)) (As := [.long x4]) (rest := []) ⟨hx, hb, hml, hown, hB⟩ (fun sz => tX12_isGood l D cs x4  sz) cg_12_428_X12_isGood rfl rfl (by decide +kernel) ⟨Nat.le_of_ble_eq_true rfl, Nat.le_of_ble_eq_true rfl⟩ hK hN TH hS hA rfl hl.1 rfl (Nat.le_of_ble_eq_true rfl) dX12_put_43 ⟨Nat.le_of_ble_eq_true rfl, Nat.le_of_ble_eq_true rfl⟩ (fun v28 kp28 L28 E28 H locs hq28 hx28 TH hS => ?_)
        obtain ⟨⟨xc29, rfl, hxc29a, hxc29b⟩, rfl, rfl, rfl⟩ := hq28
        refine W.eq (g2 := F0 m 46 ls [.int xc29]) rfl ?_
        refine lv_if_eq (tgt := 70) hx hb dX12_put_46 (by decide) (fun hc30 => ?_) (fun hc30 => ?_)
        · have hf31 : xc29.toInt = 0 := by have z := (fa_eq _ _).mp hc30; have : ((0 : Int32).toInt) = 0 := (by decide); omega
          refine lv_iconst (v := (-1)) hx hb dX12_put_70 (by decide) ?_
          exact tw_iret hx hb hr hlocks TH hS hex ⟨⟨_, rfl, hg0, hg1, hg2, hg3, hg4, hg5, hg6⟩, rfl, rfl, hF⟩ (Nat.le_of_ble_eq_true rfl) (Nat.le_of_ble_eq_true rfl) dX12_put_71
        · have hf32 : ¬ (xc29.toInt = 0) := fun q => hc30 ((fa_eq _ _).mpr (by have : ((0 : Int32).toInt) = 0 := (by decide); omega))
          refine lv_aload_n hx hb dX12_put_49 rfl (lv_at hl 0 rfl) ?_
          refine lv_bipush (v := 12) hx hb dX12_put_50 (by decide) ?_
          refine tw_Vc (o := a0) (ci := 12) (n := 1) (post := (fun v kq Lq Eq => (∃ x : Int32, v = some (.int x) ∧ 0 ≤ x.toInt ∧ x.toInt ≤ 150 ∧ (x.toInt = (rt_size (rw_h E a0 (12 : Int32).toInt) : Int))) ∧ kp = kq ∧ L = Lq ∧ E = Eq)) (As := [.int 12]) (rest := []) ⟨hx, hb, hml, hown, hB⟩ (fun sz => tX12_size l D cs a0 (12 : Int32) hm0 hk0 (by have : ((12 : Int32).toInt) = 12 := (by decide); omega) (by have : ((12 : Int32).toInt) = 12 := (by decide); omega) sz) cg_12_432_X12_size rfl rfl (by decide +kernel) ⟨Nat.le_of_ble_eq_true rfl, Nat.le_of_ble_eq_true rfl⟩ hK hN TH hS hA rfl hm0 hk0 (by decide) rfl hl.1 rfl (Nat.le_of_ble_eq_true rfl) dX12_put_52 ⟨Nat.le_of_ble_eq_true rfl, Nat.le_of_ble_eq_true rfl⟩ (fun v33 kp33 L33 E33 H locs hq33 hx33 TH hS => ?_)
          obtain ⟨⟨xc34, rfl, hxc34a, hxc34b, hpoxc34_0⟩, rfl, rfl, rfl⟩ := hq33
          refine W.eq (g2 := F0 m 55 ls [.int xc34]) rfl ?_
          refine lv_bipush (v := 24) hx hb dX12_put_55 (by decide) ?_
          refine lv_icmp_ge (tgt := 70) hx hb dX12_put_57 (by decide) (fun hc35 => ?_) (fun hc35 => ?_)
          · have hf36 : 24 ≤ xc34.toInt := by have z := (fa_le _ _).mp hc35; have : ((24 : Int32).toInt) = 24 := (by decide); omega
            refine lv_iconst (v := (-1)) hx hb dX12_put_70 (by decide) ?_
            exact tw_iret hx hb hr hlocks TH hS hex ⟨⟨_, rfl, hg0, hg1, hg2, hg3, hg4, hg5, hg6⟩, rfl, rfl, hF⟩ (Nat.le_of_ble_eq_true rfl) (Nat.le_of_ble_eq_true rfl) dX12_put_71
          · have hf37 : ¬ (24 ≤ xc34.toInt) := fun q => hc35 ((fa_le _ _).mpr (by have : ((24 : Int32).toInt) = 24 := (by decide); omega))
            refine lv_aload_n hx hb dX12_put_60 rfl (lv_at hl 0 rfl) ?_
            refine tw_get (ci := 12) (C := RX12) (T := TX12) (N := 64) hx hb hB cx_inX12 hown hK TH hm0 hk0 rfl ⟨by decide, rfl⟩ 26 (by decide) cw_1219 (fun _ h9 => h9) dX12_put_61 (fun hv => ?_)
            rw [hxi1]
            refine lv_sipush (v := 150) hx hb dX12_put_64 (by decide) ?_
            refine lv_icmp_ne (tgt := 72) hx hb dX12_put_67 (by decide) (fun hc38 => ?_) (fun hc38 => ?_)
            · have hf39 : ¬ (xi1.toInt = 150) := fun q => hc38 ((fa_eq _ _).mpr (by have : ((150 : Int32).toInt) = 150 := (by decide); omega))
              refine lv_aload_n hx hb dX12_put_72 rfl (lv_at hl 0 rfl) ?_
              refine lv_iload_n hx hb dX12_put_73 rfl (lv_at hl 3 rfl) ?_
              refine lv_iconst (v := (-1)) hx hb dX12_put_74 (by decide) ?_
              have hrow := (hg3 (by rw [tw_fi_of hxi2]; omega))
              have hn0 : rw_h E a0 12 (xi1.toInt).toNat = 0 := Decidable.byContradiction (fun z => (by have q := hrow.2.2.2 (xi1.toInt).toNat (by omega) z; rw [tw_fi_of hxi1] at q; omega))
              refine tw_Vc (o := a0) (ci := 12) (n := 2) (post := (fun v kq Lq Eq => (∃ x : Int32, v = some (.int x) ∧ 0 ≤ x.toInt ∧ x.toInt ≤ 149 ∧ (x.toInt = xi1.toInt) ∧ (∃ z0 : Int32, tw_fv Eq a0 26 = .int z0 ∧ (z0.toInt = xi1.toInt + 1))) ∧ kp = kq ∧ L = Lq ∧ tw_fr kp L [(12, 26)] [330, 331] E Eq)) (As := [.int x3, .int (-1)]) (rest := []) ⟨hx, hb, hml, hown, hB⟩ (fun sz => tX12_newNode l D cs a0 x3 ((-1) : Int32) xi1 hm0 hk0 (by omega) (by omega) (by have : (((-1) : Int32).toInt) = (-1) := (by decide); omega) (by have : (((-1) : Int32).toInt) = (-1) := (by decide); omega) hxi1 (by have : (((-1) : Int32).toInt) = (-1) := (by decide); omega) sz) cg_12_342_X12_newNode rfl rfl (by decide +kernel) ⟨Nat.le_of_ble_eq_true rfl, Nat.le_of_ble_eq_true rfl⟩ hK hN TH hS hA rfl hm0 hk0 (by decide) rfl hl.1 rfl (Nat.le_of_ble_eq_true rfl) dX12_put_75 ⟨Nat.le_of_ble_eq_true rfl, Nat.le_of_ble_eq_true rfl⟩ (fun v40 kp40 L40 E40 H locs hq40 hx40 TH hS => ?_)
              obtain ⟨⟨xc41, rfl, hxc41a, hxc41b, hpoxc41_0, ⟨zfxc41_0_0, hzfxc41_0_0, hzpxc41_0⟩⟩, rfl, rfl, hst40⟩ := hq40
              have hF := hF.tr hst40 (fun _ h => ⟨h, rfl⟩) (by decide) (by decide)
              have hmf42 : tw_fv E40 a0 29 = .int xi2 := (hst40.1 a0 29 hm0 (by rw [hk0]; decide)).trans hxi2
              have hmf43 : tw_fv E40 a0 14 = .int xi10 := (hst40.1 a0 14 hm0 (by rw [hk0]; decide)).trans hxi10
              have hg0_o := hg0
              have hg1_o := hg1
              have hg2_o := hg2
              have hg3_o := hg3
              have hg4_o := hg4
              have hg5_o := hg5
              have hg6_o := hg6
              have hh12_o := hh12
              have hp12_o := hp12
              have hg0 : rd_ok E40 a0 := rd_ok_fr TH hst40 hm0 hk0 (by decide) (by decide) hg0
              have hg1 : eo_ok E40 a0 := eo_ok_more TH hst40 hm0 hk0 (by decide) (by decide) (by rw [tw_fi_of hxi1, tw_fi_of hzfxc41_0_0]; omega) hg1_o
              have hg2 : ht_ok E40 a0 := ht_ok_fr TH hst40 hm0 hk0 (by decide) (by decide) hg2
              have hg3 : dr_ok E40 a0 := dr_ok_more TH hst40 hm0 hk0 (by decide) (by decide) (by rw [tw_fi_of hxi1, tw_fi_of hzfxc41_0_0]; omega) hg3_o
              have hg4 : ln_ok E40 a0 := ln_ok_fr TH hst40 hm0 hk0 (by decide) (by decide) hg4
              have hg5 : dl_ok E40 a0 := dl_ok_fr TH hst40 hm0 hk0 (by decide) (by decide) hg5
              have hg6 : fw_ok E40 a0 := fw_ok_fr TH hst40 hm0 hk0 (by decide) (by decide) hg6
              have hh12 : h12_ok E40 a0 (rw_h E a0 12) := h12_ok_fr TH hst40 hm0 hk0 (by decide) (by decide) hh12
              have hp12 : p12_ok E40 a0 (rw_p E a0 12) := p12_ok_fr TH hst40 hm0 hk0 (by decide) (by decide) hp12
              obtain ⟨qzfxc41_0_0, hqzfxc41_0_0, hqzfxc41_0_0a, hqzfxc41_0_0b⟩ := tw_rd TH hm0 hk0 (by decide) (by decide) (k := 26) rfl
              have eqzfxc41_0_0 : qzfxc41_0_0 = zfxc41_0_0 := by have q := hqzfxc41_0_0.symm.trans hzfxc41_0_0; injection q
              rw [eqzfxc41_0_0] at hqzfxc41_0_0a hqzfxc41_0_0b
              refine W.eq (g2 := F0 m 78 ls [.int xc41]) rfl ?_
              refine lv_istore (lv' := [(6, .int xc41), (0, .ref a0), (1, .int x1), (2, .int x2), (3, .int x3), (4, .long x4)]) hx hb dX12_put_78 hl (by decide) rfl (fun ls hl => ?_)
              refine lv_aload_n hx hb dX12_put_80 rfl (lv_at hl 1 rfl) ?_
              refine tw_get (ci := 12) (C := RX12) (T := TX12) (N := 64) hx hb hB cx_inX12 hown hK TH hm0 hk0 rfl ⟨by decide, rfl⟩ 23 (by decide) cw_1216 (fun _ h9 => h9) dX12_put_81 (fun hv => ?_)
              obtain ⟨xr44, hxr44, hmxr44, hkxr44⟩ : ∃ a : Nat, tw_fv E40 a0 23 = .ref a ∧ a ∈ L ∧ kp a = 333 := hv
              rw [hxr44]
              refine lv_iload hx hb dX12_put_84 (lv_at hl 0 rfl) ?_
              refine lv_iconst (v := 1) hx hb dX12_put_86 (by decide) ?_
              refine tw_zast (k := 333) (n := 150) (lo := 0) (hi := 1) hx hb hK TH hS hmxr44 hkxr44 (by decide) rfl (i := xc41) (x := 1) (vp_in_iff.mpr ⟨by  omega, by  omega⟩) (by have : ((1 : Int32).toInt) = 1 := (by decide); omega) (by have : ((1 : Int32).toInt) = 1 := (by decide); omega) (by have : ((1 : Int32).toInt) = 1 := (by decide); omega) (by have : ((1 : Int32).toInt) = 1 := (by decide); omega) dX12_put_87 (fun H locs E45 TH hS hp46 hp47 hp48 => ?_)
              have hst49 : tw_fr kp L [] [333] E40 E45 := tw_fr.ast tw_fr.rf (fun _ => hkxr44) hp46 hp47 (by decide)
              have hF := hF.tr hst49 (fun _ h => ⟨h, rfl⟩) (by decide) (by decide)
              have hmf50 : tw_fv E45 a0 29 = .int xi2 := (hst49.1 a0 29 hm0 (by rw [hk0]; decide)).trans hmf42
              have hmf51 : tw_fv E45 a0 14 = .int xi10 := (hst49.1 a0 14 hm0 (by rw [hk0]; decide)).trans hmf43
              have hmf52 : tw_fv E45 a0 26 = .int zfxc41_0_0 := (hst49.1 a0 26 hm0 (by rw [hk0]; decide)).trans hzfxc41_0_0
              have hmf53 : tw_fv E45 a0 23 = .ref xr44 := (hst49.1 a0 23 hm0 (by rw [hk0]; decide)).trans hxr44
              have hg0 : rd_ok E45 a0 := rd_ok_fr TH hst49 hm0 hk0 (by decide) (by decide) hg0
              have hg1 : eo_ok E45 a0 := eo_ok_fr TH hst49 hm0 hk0 (by decide) (by decide) hg1
              have hg2 : ht_ok E45 a0 := ht_ok_fr TH hst49 hm0 hk0 (by decide) (by decide) hg2
              have hg3 : dr_ok E45 a0 := dr_ok_fr TH hst49 hm0 hk0 (by decide) (by decide) hg3
              have hg4 : ln_ok E45 a0 := ln_ok_fr TH hst49 hm0 hk0 (by decide) (by decide) hg4
              have hg5 : dl_ok E45 a0 := dl_ok_fr TH hst49 hm0 hk0 (by decide) (by decide) hg5
              have hg6 : fw_ok E45 a0 := fw_ok_fr TH hst49 hm0 hk0 (by decide) (by decide) hg6
              have hh12 : h12_ok E45 a0 (rw_h E a0 12) := h12_ok_fr TH hst49 hm0 hk0 (by decide) (by decide) hh12
              have hp12 : p12_ok E45 a0 (rw_p E a0 12) := p12_ok_fr TH hst49 hm0 hk0 (by decide) (by decide) hp12
              refine lv_aload_n hx hb dX12_put_88 rfl (lv_at hl 1 rfl) ?_
              refine tw_get (ci := 12) (C := RX12) (T := TX12) (N := 64) hx hb hB cx_inX12 hown hK TH hm0 hk0 rfl ⟨by decide, rfl⟩ 17 (by decide) cw_1210 (fun _ h9 => h9) dX12_put_89 (fun hv => ?_)
              obtain ⟨xr54, hxr54, hmxr54, hkxr54⟩ : ∃ a : Nat, tw_fv E45 a0 17 = .ref a ∧ a ∈ L ∧ kp a = 317 := hv
              rw [hxr54]
              refine lv_bipush (v := 12) hx hb dX12_put_92 (by decide) ?_
              refine tw_aald (k := 317) (t0 := 6) (n := 16) (lo := 327) (hi := 0) (ty := .long) hx hb hK TH hmxr54 hkxr54 (by decide) rfl rfl (i := 12) (vp_in_iff.mpr ⟨by have : ((12 : Int32).toInt) = 12 := (by decide); omega, by have : ((12 : Int32).toInt) = 12 := (by decide); omega⟩) dX12_put_94 (fun xr55 exr55 hmxr55 hkxr55 => ?_)
              have hkxr55 : kp xr55 = 327 := hkxr55
              refine lv_iload hx hb dX12_put_95 (lv_at hl 0 rfl) ?_
              refine lv_lload hx hb dX12_put_97 (lv_at hl 5 rfl) ?_
              refine tw_Sc (n := 1) (post := (fun v kq Lq Eq => (∃ x : Int64, v = some (.long x)) ∧ kp = kq ∧ L = Lq ∧ E45 = Eq)) (As := [.long x4]) (rest := [.int xc41, .ref xr55]) ⟨hx, hb, hml, hown, hB⟩ (fun sz => tX12_packed l D cs x4  sz) cg_12_435_X12_packed rfl rfl (by decide +kernel) ⟨Nat.le_of_ble_eq_true rfl, Nat.le_of_ble_eq_true rfl⟩ hK hN TH hS hA rfl hl.1 rfl (Nat.le_of_ble_eq_true rfl) dX12_put_99 ⟨Nat.le_of_ble_eq_true rfl, Nat.le_of_ble_eq_true rfl⟩ (fun v56 kp56 L56 E56 H locs hq56 hx56 TH hS => ?_)
              obtain ⟨⟨xc57, rfl⟩, rfl, rfl, rfl⟩ := hq56
              refine W.eq (g2 := F0 m 102 ls [.long xc57, .int xc41, .ref xr55]) rfl ?_
              refine tw_last2 (k := 327) (n := 150) (lo := 0) (hi := 0) hx hb hK TH hS hmxr55 hkxr55 (by decide) rfl (i := xc41) (x := xc57) (vp_in_iff.mpr ⟨by  omega, by  omega⟩) dX12_put_102 (fun H locs E58 TH hS hp59 hp60 hp62 => ?_)
              have hst61 : tw_fr kp L [] [327] E45 E58 := tw_fr.ast tw_fr.rf (fun _ => hkxr55) hp59 hp60 (by decide)
              have hF := hF.tr hst61 (fun _ h => ⟨h, rfl⟩) (by decide) (by decide)
              have hmf63 : tw_fv E58 a0 29 = .int xi2 := (hst61.1 a0 29 hm0 (by rw [hk0]; decide)).trans hmf50
              have hmf64 : tw_fv E58 a0 14 = .int xi10 := (hst61.1 a0 14 hm0 (by rw [hk0]; decide)).trans hmf51
              have hmf65 : tw_fv E58 a0 26 = .int zfxc41_0_0 := (hst61.1 a0 26 hm0 (by rw [hk0]; decide)).trans hmf52
              have hmf66 : tw_fv E58 a0 23 = .ref xr44 := (hst61.1 a0 23 hm0 (by rw [hk0]; decide)).trans hmf53
              have hmf67 : tw_fv E58 a0 17 = .ref xr54 := (hst61.1 a0 17 hm0 (by rw [hk0]; decide)).trans hxr54
              have hg0 : rd_ok E58 a0 := rd_ok_fr TH hst61 hm0 hk0 (by decide) (by decide) hg0
              have hg1 : eo_ok E58 a0 := eo_ok_fr TH hst61 hm0 hk0 (by decide) (by decide) hg1
              have hg2 : ht_ok E58 a0 := ht_ok_fr TH hst61 hm0 hk0 (by decide) (by decide) hg2
              have hg3 : dr_ok E58 a0 := dr_ok_fr TH hst61 hm0 hk0 (by decide) (by decide) hg3
              have hg4 : ln_ok E58 a0 := ln_ok_fr TH hst61 hm0 hk0 (by decide) (by decide) hg4
              have hg5 : dl_ok E58 a0 := dl_ok_fr TH hst61 hm0 hk0 (by decide) (by decide) hg5
              have hg6 : fw_ok E58 a0 := fw_ok_fr TH hst61 hm0 hk0 (by decide) (by decide) hg6
              have hh12 : h12_ok E58 a0 (rw_h E a0 12) := h12_ok_fr TH hst61 hm0 hk0 (by decide) (by decide) hh12
              have hp12 : p12_ok E58 a0 (rw_p E a0 12) := p12_ok_fr TH hst61 hm0 hk0 (by decide) (by decide) hp12
              refine lv_aload_n hx hb dX12_put_103 rfl (lv_at hl 1 rfl) ?_
              refine lv_iload hx hb dX12_put_104 (lv_at hl 0 rfl) ?_
              refine lv_iload_n hx hb dX12_put_106 rfl (lv_at hl 2 rfl) ?_
              refine lv_iload_n hx hb dX12_put_107 rfl (lv_at hl 3 rfl) ?_
              refine tw_Vc (o := a0) (ci := 12) (n := 3) (post := (fun v kq Lq Eq => v = none ∧ kp = kq ∧ L = Lq ∧ tw_fr kp L [] [326, 328, 329] E58 Eq ∧ (∀ c : Nat, rw_h Eq a0 12 c = if c = (xc41.toInt).toNat then 1 else rw_h E58 a0 12 c) ∧ (∀ c : Nat, rw_p Eq a0 12 c = if c = (xc41.toInt).toNat then x1.toInt else rw_p E58 a0 12 c) ∧ (ot_ok Eq a0 12 E58) ∧ rw_ok Eq a0 (12) ∧ rd_ok Eq a0 ∧ eo_ok Eq a0 ∧ ht_ok Eq a0)) (As := [.int xc41, .int x1, .int x2]) (rest := []) ⟨hx, hb, hml, hown, hB⟩ (fun sz => tX12_lays l D cs a0 xc41 x1 x2 hm0 hk0 (by omega) (by omega) (by omega) (by omega) (by unfold lyw_ok; have fh : rw_h E58 a0 12 = rw_h E a0 12 := hh12; have fp : rw_p E58 a0 12 = rw_p E a0 12 := hp12; rw [fh, fp]; refine ly_new hrow.1.1 hrow.1.2.1 hrow.1.2.2 (by omega) (by omega) ?_ (by omega) (by omega) (hpoxc4_1 (by omega)); (rw [show (Int32.toInt xc41).toNat = (xi1.toInt).toNat by omega]; exact hn0)) hg0 hg1 hg2 sz) cg_12_439_X12_lays rfl rfl (by decide +kernel) ⟨Nat.le_of_ble_eq_true rfl, Nat.le_of_ble_eq_true rfl⟩ hK hN TH hS hA rfl hm0 hk0 (by decide) rfl hl.1 rfl (Nat.le_of_ble_eq_true rfl) dX12_put_108 ⟨Nat.le_of_ble_eq_true rfl, Nat.le_of_ble_eq_true rfl⟩ (fun v68 kp68 L68 E68 H locs hq68 hx68 TH hS => ?_)
              obtain ⟨rfl, rfl, rfl, hst68, hpoxc69_0, hpoxc69_1, hpoxc69_2, hgpxc69_0, hgpxc69_1, hgpxc69_2, hgpxc69_3⟩ := hq68
              have hF := hF.tr hst68 (fun _ h => ⟨h, rfl⟩) (by decide) (by decide)
              have hmf70 : tw_fv E68 a0 29 = .int xi2 := (hst68.1 a0 29 hm0 (by rw [hk0]; decide)).trans hmf63
              have hmf71 : tw_fv E68 a0 14 = .int xi10 := (hst68.1 a0 14 hm0 (by rw [hk0]; decide)).trans hmf64
              have hmf72 : tw_fv E68 a0 26 = .int zfxc41_0_0 := (hst68.1 a0 26 hm0 (by rw [hk0]; decide)).trans hmf65
              have hmf73 : tw_fv E68 a0 23 = .ref xr44 := (hst68.1 a0 23 hm0 (by rw [hk0]; decide)).trans hmf66
              have hmf74 : tw_fv E68 a0 17 = .ref xr54 := (hst68.1 a0 17 hm0 (by rw [hk0]; decide)).trans hmf67
              have hg3_o := hg3
              have hg4_o := hg4
              have hg5_o := hg5
              have hg6_o := hg6
              have hh12_o := hh12
              have hp12_o := hp12
              have hg3 : dr_ok E68 a0 := (fun _ => (by have fh : rw_h E58 a0 12 = rw_h E a0 12 := hh12_o; have fp : rw_p E58 a0 12 = rw_p E a0 12 := hp12_o; have e12 : ((12 : Int32).toInt) = 12 := (by decide); have hs := hpoxc34_0; rw [e12] at hs; refine row_put (h := rw_h E a0 12) (p := rw_p E a0 12) (n := xc41.toInt) (u := x1.toInt) (N := zfxc41_0_0.toInt) (by omega) (by omega) (by omega) ?_ (Or.inl (by omega)) (fun c hc hx => (by have z := hrow.2.2.2 c hc hx; rw [tw_fi_of hxi1] at z; omega)) (by omega) (tw_fi_of ((hst68.1 a0 26 hm0 (by rw [hk0]; decide)).trans hmf65)) (fun c => (hpoxc69_0 c).trans (by rw [fh])) (fun c => (hpoxc69_1 c).trans (by rw [fp])) hgpxc69_0; (obtain ⟨r, r0, r1, r2, r3⟩ := hrow.2.1; exact ⟨r, r0, r1, (fun z => r2 (by rw [z, show (Int32.toInt xc41).toNat = (xi1.toInt).toNat by omega]; exact hn0)), r2, r3⟩)))
              have hg4 : ln_ok E68 a0 := ln_ok_ot (r := 12) TH hst68 hm0 hk0 (by decide) (by decide) hpoxc69_2 (by have w := tw_fi_ed TH hm0 hk0; rw [tw_fi_fr hst68 hm0 hk0 (k := 27) (by decide)] at w; exact w) hg4_o
              have hg5 : dl_ok E68 a0 := dl_ok_12 TH hst68 hm0 hk0 (by decide) hpoxc69_2 (fun r hr z y => (by have fh : rw_h E58 a0 12 = rw_h E a0 12 := hh12_o; have fp : rw_p E58 a0 12 = rw_p E a0 12 := hp12_o; have hrn : r ≠ (xc41.toInt).toNat := (fun w => (by rw [fh, w, show (Int32.toInt xc41).toNat = (xi1.toInt).toNat by omega] at z; exact z hn0)); rw [hpoxc69_0 r, hpoxc69_1 r, if_neg hrn, if_neg hrn]; exact ⟨z, y⟩)) hg5_o
              have hg6 : fw_ok E68 a0 := fw_ok_ot (r := 12) TH hst68 hm0 hk0 (by decide) hpoxc69_2 (by decide) hg6_o
              refine W.eq (g2 := F0 m 111 ls []) rfl ?_
              refine lv_iload hx hb dX12_put_111 (lv_at hl 0 rfl) ?_
              exact tw_iret hx hb hr hlocks TH hS hex ⟨⟨_, rfl, hgpxc69_1, hgpxc69_2, hgpxc69_3, hg3, hg4, hg5, hg6⟩, rfl, rfl, hF⟩ (Nat.le_of_ble_eq_true rfl) (Nat.le_of_ble_eq_true rfl) dX12_put_113
            · have hf75 : xi1.toInt = 150 := by have z := (fa_eq _ _).mp hc38; have : ((150 : Int32).toInt) = 150 := (by decide); omega
              refine lv_iconst (v := (-1)) hx hb dX12_put_70 (by decide) ?_
              exact tw_iret hx hb hr hlocks TH hS hex ⟨⟨_, rfl, hg0, hg1, hg2, hg3, hg4, hg5, hg6⟩, rfl, rfl, hF⟩ (Nat.le_of_ble_eq_true rfl) (Nat.le_of_ble_eq_true rfl) dX12_put_71
set_option maxHeartbeats 4000000 in
set_option maxRecDepth 100000 in
theorem tX12_move (l : Launch) (D : va_G) (cs : Nat → ClassId) {kp : Nat → Nat} {L : List Nat} {E : Nat → va_E} (a0 : Nat) (x1 : Int32) (x2 : Int32) (x3 : Int32) (hm0 : a0 ∈ L) (hk0 : kp a0 = 12) (hg0 : rd_ok E a0) (hg1 : eo_ok E a0) (hg2 : ht_ok E a0) (hg3 : dr_ok E a0) (hg4 : ln_ok E a0) (hg5 : dl_ok E a0) (hg6 : fw_ok E a0) (sz : Nat) : Met l yX12_move (.code yX12_move cX12_move 6 (some .boolean) :: cx_big) { frames := 5, cells := 0, slots := 0, locals := 122 } (tw_P D cs kp L E [.ref a0, .int x1, .int x2, .int x3] sz) (tw_Q D cs kp L (fun v kq Lq Eq => (∃ x : Int32, v = some (.int x) ∧ 0 ≤ x.toInt ∧ x.toInt ≤ 1 ∧ rd_ok Eq a0 ∧ eo_ok Eq a0 ∧ ht_ok Eq a0 ∧ dr_ok Eq a0 ∧ ln_ok Eq a0 ∧ dl_ok Eq a0 ∧ fw_ok Eq a0) ∧ kp = kq ∧ L = Lq ∧ tw_fr kp L [] [326, 328, 329] E Eq) (va_A (va_pl L E) sz)) 0 0 (va_A (va_pl L E) sz) := by
  refine tw_ofW (by decide) (Nat.le_of_ble_eq_true rfl) ?_
  intro p e s m below meth c A ls hx hb hr hml hB hown hlocks hK hN hA TH hS hl
  have hown : s.vm.findClass "TreeMergeModel" = some m.cls := hown
  have hl : lv_has ls 6 [(0, .ref a0), (1, .int x1), (2, .int x2), (3, .int x3)] := hl
  obtain ⟨kp0, ekp⟩ : ∃ z, z = kp := ⟨_, rfl⟩
  obtain ⟨L0, eL⟩ : ∃ z, z = L := ⟨_, rfl⟩
  rw [show tw_Q D cs kp L = tw_Q D cs kp0 L0 by rw [ekp, eL]]
  have hex : ∀ a : Nat, a ∈ L0 → a ∈ L ∧ kp a = kp0 a := fun a h => ⟨by rw [← eL]; exact h, by rw [ekp]⟩
  have hF : tw_fr kp L [] [326, 328, 329] E E := tw_fr.rf
  have hh12 : h12_ok E a0 (rw_h E a0 12) := rfl
  have hp12 : p12_ok E a0 (rw_p E a0 12) := rfl
  refine lv_aload_n hx hb dX12_move_0 rfl (lv_at hl 0 rfl) ?_
  refine lv_iload_n hx hb dX12_move_1 rfl (lv_at hl 1 rfl) ?_
  obtain ⟨xi1, hxi1, hxi1a, hxi1b⟩ := tw_rd TH hm0 hk0 (by decide) (by decide) (k := 26) rfl
  obtain ⟨xi2, hxi2, hxi2a, hxi2b⟩ := tw_rd TH hm0 hk0 (by decide) (by decide) (k := 29) rfl
  refine tw_Vc (o := a0) (ci := 12) (n := 1) (post := (fun v kq Lq Eq => (∃ x : Int32, v = some (.int x) ∧ 0 ≤ x.toInt ∧ x.toInt ≤ 1 ∧ (x.toInt ≠ 0 → 0 ≤ x1.toInt ∧ x1.toInt < xi1.toInt ∧ xi2.toInt = 1) ∧ (x.toInt ≠ 0 → rw_h E a0 12 (x1.toInt).toNat ≠ 0)) ∧ kp = kq ∧ L = Lq ∧ E = Eq)) (As := [.int x1]) (rest := []) ⟨hx, hb, hml, hown, hB⟩ (fun sz => tX12_inDraft l D cs a0 x1 xi1 xi2 hm0 hk0 hxi1 hxi2 sz) cg_12_425_X12_inDraft rfl rfl (by decide +kernel) ⟨Nat.le_of_ble_eq_true rfl, Nat.le_of_ble_eq_true rfl⟩ hK hN TH hS hA rfl hm0 hk0 (by decide) rfl hl.1 rfl (Nat.le_of_ble_eq_true rfl) dX12_move_2 ⟨Nat.le_of_ble_eq_true rfl, Nat.le_of_ble_eq_true rfl⟩ (fun v3 kp3 L3 E3 H locs hq3 hx3 TH hS => ?_)
  obtain ⟨⟨xc4, rfl, hxc4a, hxc4b, hpoxc4_0, hpoxc4_1⟩, rfl, rfl, rfl⟩ := hq3
  refine W.eq (g2 := F0 m 5 ls [.int xc4]) rfl ?_
  refine lv_if_eq (tgt := 40) hx hb dX12_move_5 (by decide) (fun hc5 => ?_) (fun hc5 => ?_)
  · have hf6 : xc4.toInt = 0 := by have z := (fa_eq _ _).mp hc5; have : ((0 : Int32).toInt) = 0 := (by decide); omega
    refine lv_iconst (v := 0) hx hb dX12_move_40 (by decide) ?_
    exact tw_zret hx hb hr hlocks (by decide) TH hS hex ⟨⟨_, rfl, (show 0 ≤ Int32.toInt 0 from by have : ((0 : Int32).toInt) = 0 := (by decide); omega), (show Int32.toInt 0 ≤ 1 from by have : ((0 : Int32).toInt) = 0 := (by decide); omega), hg0, hg1, hg2, hg3, hg4, hg5, hg6⟩, rfl, rfl, hF⟩ (Nat.le_of_ble_eq_true rfl) (Nat.le_of_ble_eq_true rfl) dX12_move_41
  · have hf7 : ¬ (xc4.toInt = 0) := fun q => hc5 ((fa_eq _ _).mpr (by have : ((0 : Int32).toInt) = 0 := (by decide); omega))
    refine lv_aload_n hx hb dX12_move_8 rfl (lv_at hl 0 rfl) ?_
    refine lv_iload_n hx hb dX12_move_9 rfl (lv_at hl 2 rfl) ?_
    refine tw_Vc (o := a0) (ci := 12) (n := 1) (post := (fun v kq Lq Eq => (∃ x : Int32, v = some (.int x) ∧ 0 ≤ x.toInt ∧ x.toInt ≤ 1 ∧ (x.toInt ≠ 0 → 0 ≤ x2.toInt ∧ x2.toInt < xi1.toInt ∧ xi2.toInt = 1) ∧ (x.toInt ≠ 0 → rw_h E a0 12 (x2.toInt).toNat ≠ 0)) ∧ kp = kq ∧ L = Lq ∧ E = Eq)) (As := [.int x2]) (rest := []) ⟨hx, hb, hml, hown, hB⟩ (fun sz => tX12_inDraft l D cs a0 x2 xi1 xi2 hm0 hk0 hxi1 hxi2 sz) cg_12_425_X12_inDraft rfl rfl (by decide +kernel) ⟨Nat.le_of_ble_eq_true rfl, Nat.le_of_ble_eq_true rfl⟩ hK hN TH hS hA rfl hm0 hk0 (by decide) rfl hl.1 rfl (Nat.le_of_ble_eq_true rfl) dX12_move_10 ⟨Nat.le_of_ble_eq_true rfl, Nat.le_of_ble_eq_true rfl⟩ (fun v8 kp8 L8 E8 H locs hq8 hx8 TH hS => ?_)
    obtain ⟨⟨xc9, rfl, hxc9a, hxc9b, hpoxc9_0, hpoxc9_1⟩, rfl, rfl, rfl⟩ := hq8
    refine W.eq (g2 := F0 m 13 ls [.int xc9]) rfl ?_
    refine lv_if_eq (tgt := 40) hx hb dX12_move_13 (by decide) (fun hc10 => ?_) (fun hc10 => ?_)
    · have hf11 : xc9.toInt = 0 := by have z := (fa_eq _ _).mp hc10; have : ((0 : Int32).toInt) = 0 := (by decide); omega
      refine lv_iconst (v := 0) hx hb dX12_move_40 (by decide) ?_
      exact tw_zret hx hb hr hlocks (by decide) TH hS hex ⟨⟨_, rfl, (show 0 ≤ Int32.toInt 0 from by have : ((0 : Int32).toInt) = 0 := (by decide); omega), (show Int32.toInt 0 ≤ 1 from by have : ((0 : Int32).toInt) = 0 := (by decide); omega), hg0, hg1, hg2, hg3, hg4, hg5, hg6⟩, rfl, rfl, hF⟩ (Nat.le_of_ble_eq_true rfl) (Nat.le_of_ble_eq_true rfl) dX12_move_41
    · have hf12 : ¬ (xc9.toInt = 0) := fun q => hc10 ((fa_eq _ _).mpr (by have : ((0 : Int32).toInt) = 0 := (by decide); omega))
      refine lv_aload_n hx hb dX12_move_16 rfl (lv_at hl 0 rfl) ?_
      refine tw_get (ci := 12) (C := RX12) (T := TX12) (N := 64) hx hb hB cx_inX12 hown hK TH hm0 hk0 rfl ⟨by decide, rfl⟩ 18 (by decide) cw_1211 (fun _ h9 => h9) dX12_move_17 (fun hv => ?_)
      obtain ⟨xr13, hxr13, hmxr13, hkxr13⟩ : ∃ a : Nat, tw_fv E a0 18 = .ref a ∧ a ∈ L ∧ kp a = 318 := hv
      rw [hxr13]
      refine lv_bipush (v := 12) hx hb dX12_move_20 (by decide) ?_
      refine tw_aald (k := 318) (t0 := 4) (n := 16) (lo := 328) (hi := 0) (ty := .int) hx hb hK TH hmxr13 hkxr13 (by decide) rfl rfl (i := 12) (vp_in_iff.mpr ⟨by have : ((12 : Int32).toInt) = 12 := (by decide); omega, by have : ((12 : Int32).toInt) = 12 := (by decide); omega⟩) dX12_move_22 (fun xr14 exr14 hmxr14 hkxr14 => ?_)
      have hkxr14 : kp xr14 = 328 := hkxr14
      refine lv_iload_n hx hb dX12_move_23 rfl (lv_at hl 1 rfl) ?_
      refine tw_iald (k := 328) (t0 := 0) (n := 150) (lo := (-1)) (hi := 149) hx hb hK TH hmxr14 hkxr14 (by decide) rfl rfl (i := x1) (vp_in_iff.mpr ⟨by  omega, by  omega⟩) dX12_move_24 (fun hxe15a hxe15b => ?_)
      obtain ⟨xe15, exe15⟩ : ∃ z : Int32, tw_iv E xr14 (Int32.toNatClampNeg x1) = z := ⟨_, rfl⟩
      rw [exe15] at hxe15a hxe15b ⊢
      refine lv_iconst (v := (-1)) hx hb dX12_move_25 (by decide) ?_
      refine lv_icmp_eq (tgt := 40) hx hb dX12_move_26 (by decide) (fun hc16 => ?_) (fun hc16 => ?_)
      · have hf17 : xe15.toInt = (-1) := by have z := (fa_eq _ _).mp hc16; have : (((-1) : Int32).toInt) = (-1) := (by decide); omega
        refine lv_iconst (v := 0) hx hb dX12_move_40 (by decide) ?_
        exact tw_zret hx hb hr hlocks (by decide) TH hS hex ⟨⟨_, rfl, (show 0 ≤ Int32.toInt 0 from by have : ((0 : Int32).toInt) = 0 := (by decide); omega), (show Int32.toInt 0 ≤ 1 from by have : ((0 : Int32).toInt) = 0 := (by decide); omega), hg0, hg1, hg2, hg3, hg4, hg5, hg6⟩, rfl, rfl, hF⟩ (Nat.le_of_ble_eq_true rfl) (Nat.le_of_ble_eq_true rfl) dX12_move_41
      · have hf18 : ¬ (xe15.toInt = (-1)) := fun q => hc16 ((fa_eq _ _).mpr (by have : (((-1) : Int32).toInt) = (-1) := (by decide); omega))
        refine lv_aload_n hx hb dX12_move_29 rfl (lv_at hl 0 rfl) ?_
        refine lv_bipush (v := 12) hx hb dX12_move_30 (by decide) ?_
        refine lv_iload_n hx hb dX12_move_32 rfl (lv_at hl 2 rfl) ?_
        refine lv_iload_n hx hb dX12_move_33 rfl (lv_at hl 1 rfl) ?_
        refine tw_Vc (o := a0) (ci := 12) (n := 3) (post := (fun v kq Lq Eq => (∃ x : Int32, v = some (.int x) ∧ 0 ≤ x.toInt ∧ x.toInt ≤ 1 ∧ (x.toInt = 0 → 0 ≤ x1.toInt → ∀ k : Nat, rt_up (rw_p E a0 (12 : Int32).toInt) k x2.toInt ≠ x1.toInt)) ∧ kp = kq ∧ L = Lq ∧ E = Eq)) (As := [.int 12, .int x2, .int x1]) (rest := []) ⟨hx, hb, hml, hown, hB⟩ (fun sz => tX12_isUnder l D cs a0 (12 : Int32) x2 x1 hm0 hk0 (by have : ((12 : Int32).toInt) = 12 := (by decide); omega) (by have : ((12 : Int32).toInt) = 12 := (by decide); omega) (by omega) (by omega) (by have : ((12 : Int32).toInt) = 12 := (by decide); have e12 : ((12 : Int32).toInt) = 12 := (by decide); rw [e12]; exact hpoxc9_1 (by omega)) (rw_ok_cast (i := 12) (by decide) (hg3 (by rw [tw_fi_of hxi2]; omega)).1) sz) cg_12_442_X12_isUnder rfl rfl (by decide +kernel) ⟨Nat.le_of_ble_eq_true rfl, Nat.le_of_ble_eq_true rfl⟩ hK hN TH hS hA rfl hm0 hk0 (by decide) rfl hl.1 rfl (Nat.le_of_ble_eq_true rfl) dX12_move_34 ⟨Nat.le_of_ble_eq_true rfl, Nat.le_of_ble_eq_true rfl⟩ (fun v19 kp19 L19 E19 H locs hq19 hx19 TH hS => ?_)
        obtain ⟨⟨xc20, rfl, hxc20a, hxc20b, hpoxc20_0⟩, rfl, rfl, rfl⟩ := hq19
        refine W.eq (g2 := F0 m 37 ls [.int xc20]) rfl ?_
        refine lv_if_eq (tgt := 42) hx hb dX12_move_37 (by decide) (fun hc21 => ?_) (fun hc21 => ?_)
        · have hf22 : xc20.toInt = 0 := by have z := (fa_eq _ _).mp hc21; have : ((0 : Int32).toInt) = 0 := (by decide); omega
          refine lv_aload_n hx hb dX12_move_42 rfl (lv_at hl 0 rfl) ?_
          refine lv_bipush (v := 12) hx hb dX12_move_43 (by decide) ?_
          refine lv_iload_n hx hb dX12_move_45 rfl (lv_at hl 2 rfl) ?_
          refine tw_Vc (o := a0) (ci := 12) (n := 2) (post := (fun v kq Lq Eq => (∃ x : Int32, v = some (.int x) ∧ 0 ≤ x.toInt ∧ x.toInt ≤ 150 ∧ (x.toInt = 0 → nk_inv (rw_h E a0 (12 : Int32).toInt) (rw_p E a0 (12 : Int32).toInt) x2.toInt 150)) ∧ kp = kq ∧ L = Lq ∧ E = Eq)) (As := [.int 12, .int x2]) (rest := []) ⟨hx, hb, hml, hown, hB⟩ (fun sz => tX12_kidsOf l D cs a0 (12 : Int32) x2 hm0 hk0 (by have : ((12 : Int32).toInt) = 12 := (by decide); omega) (by have : ((12 : Int32).toInt) = 12 := (by decide); omega) sz) cg_12_315_X12_kidsOf rfl rfl (by decide +kernel) ⟨Nat.le_of_ble_eq_true rfl, Nat.le_of_ble_eq_true rfl⟩ hK hN TH hS hA rfl hm0 hk0 (by decide) rfl hl.1 rfl (Nat.le_of_ble_eq_true rfl) dX12_move_46 ⟨Nat.le_of_ble_eq_true rfl, Nat.le_of_ble_eq_true rfl⟩ (fun v23 kp23 L23 E23 H locs hq23 hx23 TH hS => ?_)
          obtain ⟨⟨xc24, rfl, hxc24a, hxc24b, hpoxc24_0⟩, rfl, rfl, rfl⟩ := hq23
          refine W.eq (g2 := F0 m 49 ls [.int xc24]) rfl ?_
          refine lv_aload_n hx hb dX12_move_49 rfl (lv_at hl 0 rfl) ?_
          refine tw_get (ci := 12) (C := RX12) (T := TX12) (N := 64) hx hb hB cx_inX12 hown hK TH hm0 hk0 rfl ⟨by decide, rfl⟩ 18 (by decide) cw_1211 (fun _ h9 => h9) dX12_move_50 (fun hv => ?_)
          rw [hxr13]
          refine lv_bipush (v := 12) hx hb dX12_move_53 (by decide) ?_
          refine tw_aald (k := 318) (t0 := 4) (n := 16) (lo := 328) (hi := 0) (ty := .int) hx hb hK TH hmxr13 hkxr13 (by decide) rfl rfl (i := 12) (vp_in_iff.mpr ⟨by have : ((12 : Int32).toInt) = 12 := (by decide); omega, by have : ((12 : Int32).toInt) = 12 := (by decide); omega⟩) dX12_move_55 (fun xr25 exr25 hmxr25 hkxr25 => ?_)
          have ezxr25 : xr14 = xr25 := exr14.symm.trans exr25
          subst ezxr25
          refine lv_iload_n hx hb dX12_move_56 rfl (lv_at hl 1 rfl) ?_
          refine tw_iald (k := 328) (t0 := 0) (n := 150) (lo := (-1)) (hi := 149) hx hb hK TH hmxr14 hkxr14 (by decide) rfl rfl (i := x1) (vp_in_iff.mpr ⟨by  omega, by  omega⟩) dX12_move_57 (fun hxe26a hxe26b => ?_)
          rw [exe15]
          refine lv_iload_n hx hb dX12_move_58 rfl (lv_at hl 2 rfl) ?_
          refine lv_icmp_ne (tgt := 66) hx hb dX12_move_59 (by decide) (fun hc27 => ?_) (fun hc27 => ?_)
          · have hf28 : ¬ (xe15.toInt = x2.toInt) := fun q => hc27 ((fa_eq _ _).mpr (by  omega))
            refine lv_iconst (v := 0) hx hb dX12_move_66 (by decide) ?_
            refine lv_isub hx hb dX12_move_67 ?_
            refine lv_topi (fun zi29 ezi29 => ?_)
            have hzi29 : zi29.toInt = xc24.toInt - 0 := by rw [ezi29]; have : ((0 : Int32).toInt) = 0 := (by decide); have := ia_lo xc24; have := ia_hi xc24; exact (ia_sub (by omega) (by omega)).trans (by omega)
            refine lv_istore (lv' := [(4, .int zi29), (0, .ref a0), (1, .int x1), (2, .int x2), (3, .int x3)]) hx hb dX12_move_68 hl (by decide) rfl (fun ls hl => ?_)
            refine lv_iload_n hx hb dX12_move_70 rfl (lv_at hl 4 rfl) ?_
            refine lv_i2l (v := (x3).toInt64) hx hb dX12_move_71 rfl ?_
            refine tw_topl (fun zl30 ezl30 => ?_)
            have hzl30 : zl30.toInt = x3.toInt := by rw [ezl30];  exact (Int32.toInt_toInt64 _)
            refine lv_lconst (v := 0) hx hb dX12_move_72 (by decide) ?_
            refine tw_topl (fun zl31 ezl31 => ?_)
            have hzl31 : zl31.toInt = 0 := by rw [ezl31]; decide
            refine lv_iload hx hb dX12_move_73 (lv_at hl 0 rfl) ?_
            refine lv_i2l (v := (zi29).toInt64) hx hb dX12_move_75 rfl ?_
            refine tw_topl (fun zl32 ezl32 => ?_)
            have hzl32 : zl32.toInt = zi29.toInt := by rw [ezl32];  exact (Int32.toInt_toInt64 _)
            refine tw_Sc (n := 3) (post := (fun v kq Lq Eq => (∃ x : Int32, v = some (.int x) ∧ 0 ≤ x.toInt ∧ x.toInt ≤ 1 ∧ (x.toInt ≠ 0 → zl31.toInt ≤ zl30.toInt ∧ zl30.toInt ≤ zl32.toInt)) ∧ kp = kq ∧ L = Lq ∧ E = Eq)) (As := [.long zl30, .long zl31, .long zl32]) (rest := []) ⟨hx, hb, hml, hown, hB⟩ (fun sz => tX12_in l D cs zl30 zl31 zl32  sz) cg_12_171_X12_in rfl rfl (by decide +kernel) ⟨Nat.le_of_ble_eq_true rfl, Nat.le_of_ble_eq_true rfl⟩ hK hN TH hS hA rfl hl.1 rfl (Nat.le_of_ble_eq_true rfl) dX12_move_76 ⟨Nat.le_of_ble_eq_true rfl, Nat.le_of_ble_eq_true rfl⟩ (fun v33 kp33 L33 E33 H locs hq33 hx33 TH hS => ?_)
            obtain ⟨⟨xc34, rfl, hxc34a, hxc34b, hpoxc34_0⟩, rfl, rfl, rfl⟩ := hq33
            refine W.eq (g2 := F0 m 79 ls [.int xc34]) rfl ?_
            refine lv_if_ne (tgt := 84) hx hb dX12_move_79 (by decide) (fun hc35 => ?_) (fun hc35 => ?_)
            · have hf36 : ¬ (xc34.toInt = 0) := fun q => hc35 ((fa_eq _ _).mpr (by have : ((0 : Int32).toInt) = 0 := (by decide); omega))
              refine lv_aload_n hx hb dX12_move_84 rfl (lv_at hl 1 rfl) ?_
              refine tw_get (ci := 12) (C := RX12) (T := TX12) (N := 64) hx hb hB cx_inX12 hown hK TH hm0 hk0 rfl ⟨by decide, rfl⟩ 18 (by decide) cw_1211 (fun _ h9 => h9) dX12_move_85 (fun hv => ?_)
              rw [hxr13]
              refine lv_bipush (v := 12) hx hb dX12_move_88 (by decide) ?_
              refine tw_aald (k := 318) (t0 := 4) (n := 16) (lo := 328) (hi := 0) (ty := .int) hx hb hK TH hmxr13 hkxr13 (by decide) rfl rfl (i := 12) (vp_in_iff.mpr ⟨by have : ((12 : Int32).toInt) = 12 := (by decide); omega, by have : ((12 : Int32).toInt) = 12 := (by decide); omega⟩) dX12_move_90 (fun xr37 exr37 hmxr37 hkxr37 => ?_)
              have ezxr37 : xr14 = xr37 := exr14.symm.trans exr37
              subst ezxr37
              refine lv_iload_n hx hb dX12_move_91 rfl (lv_at hl 2 rfl) ?_
              refine tw_iald (k := 328) (t0 := 0) (n := 150) (lo := (-1)) (hi := 149) hx hb hK TH hmxr14 hkxr14 (by decide) rfl rfl (i := x1) (vp_in_iff.mpr ⟨by  omega, by  omega⟩) dX12_move_92 (fun hxe38a hxe38b => ?_)
              rw [exe15]
              refine lv_istore (lv' := [(5, .int xe15), (4, .int zi29), (0, .ref a0), (1, .int x1), (2, .int x2), (3, .int x3)]) hx hb dX12_move_93 hl (by decide) rfl (fun ls hl => ?_)
              have rf_xe15 : rw_p E a0 (12) (x1.toInt).toNat = xe15.toInt := (by have q := rw_p_of (m := a0) (i := (12 : Int32)) (c := x1) hxr13 exr14 exe15; rw [show ((12 : Int32).toInt) = 12 from (by decide)] at q; exact q)
              have hn26 := hxi1
              have hrow := (hg3 (by rw [tw_fi_of hxi2]; omega))
              have hpn : rw_p E a0 12 (x1.toInt).toNat ≠ -1 := (by rw [rf_xe15]; omega)
              refine lv_aload_n hx hb dX12_move_95 rfl (lv_at hl 2 rfl) ?_
              refine tw_get (ci := 12) (C := RX12) (T := TX12) (N := 64) hx hb hB cx_inX12 hown hK TH hm0 hk0 rfl ⟨by decide, rfl⟩ 16 (by decide) cw_1209 (fun _ h9 => h9) dX12_move_96 (fun hv => ?_)
              obtain ⟨xr39, hxr39, hmxr39, hkxr39⟩ : ∃ a : Nat, tw_fv E a0 16 = .ref a ∧ a ∈ L ∧ kp a = 316 := hv
              rw [hxr39]
              refine lv_bipush (v := 12) hx hb dX12_move_99 (by decide) ?_
              refine tw_aald (k := 316) (t0 := 5) (n := 16) (lo := 326) (hi := 0) (ty := .boolean) hx hb hK TH hmxr39 hkxr39 (by decide) rfl rfl (i := 12) (vp_in_iff.mpr ⟨by have : ((12 : Int32).toInt) = 12 := (by decide); omega, by have : ((12 : Int32).toInt) = 12 := (by decide); omega⟩) dX12_move_101 (fun xr40 exr40 hmxr40 hkxr40 => ?_)
              have hkxr40 : kp xr40 = 326 := hkxr40
              refine lv_iload_n hx hb dX12_move_102 rfl (lv_at hl 3 rfl) ?_
              refine lv_iconst (v := 0) hx hb dX12_move_103 (by decide) ?_
              refine tw_zast (k := 326) (n := 150) (lo := 0) (hi := 1) hx hb hK TH hS hmxr40 hkxr40 (by decide) rfl (i := x1) (x := 0) (vp_in_iff.mpr ⟨by  omega, by  omega⟩) (by have : ((0 : Int32).toInt) = 0 := (by decide); omega) (by have : ((0 : Int32).toInt) = 0 := (by decide); omega) (by have : ((0 : Int32).toInt) = 0 := (by decide); omega) (by have : ((0 : Int32).toInt) = 0 := (by decide); omega) dX12_move_104 (fun H locs E41 TH hS hp42 hp43 hp44 => ?_)
              have hst45 : tw_fr kp L [] [326] E E41 := tw_fr.ast tw_fr.rf (fun _ => hkxr40) hp42 hp43 (by decide)
              have hF := hF.tr hst45 (fun _ h => ⟨h, rfl⟩) (by decide) (by decide)
              have hmf46 : tw_fv E41 a0 26 = .int xi1 := (hst45.1 a0 26 hm0 (by rw [hk0]; decide)).trans hxi1
              have hmf47 : tw_fv E41 a0 29 = .int xi2 := (hst45.1 a0 29 hm0 (by rw [hk0]; decide)).trans hxi2
              have hmf48 : tw_fv E41 a0 18 = .ref xr13 := (hst45.1 a0 18 hm0 (by rw [hk0]; decide)).trans hxr13
              have hmf49 : tw_fv E41 a0 16 = .ref xr39 := (hst45.1 a0 16 hm0 (by rw [hk0]; decide)).trans hxr39
              have hg0_o := hg0
              have hg1_o := hg1
              have hg2_o := hg2
              have hg3_o := hg3
              have hg4_o := hg4
              have hg5_o := hg5
              have hg6_o := hg6
              have hh12_o := hh12
              have hp12_o := hp12
              have hg0 : rd_ok E41 a0 := rd_ok_fr TH hst45 hm0 hk0 (by decide) (by decide) hg0
              have hg1 : eo_ok E41 a0 := eo_ok_h (i := 12) TH hm0 hk0 hg0_o hxr39 exr40 hkxr39 hkxr40 hp42 hp43 (by have e : ((12 : Int32).toInt) = 12 := (by decide); omega) (by have e : ((12 : Int32).toInt) = 12 := (by decide); omega) (by have := tw_fi_ed TH hm0 hk0; have e : ((12 : Int32).toInt) = 12 := (by decide); omega) hg1_o
              have hg2 : ht_ok E41 a0 := ht_ok_h (i := 12) hg0_o hxr39 exr40 hkxr39 hkxr40 hp42 hp43 (by have e : ((12 : Int32).toInt) = 12 := (by decide); omega) (by have e : ((12 : Int32).toInt) = 12 := (by decide); omega) hg2_o
              have hg4 : ln_ok E41 a0 := ln_ok_h (i := 12) TH hm0 hk0 hg0_o hxr39 exr40 hkxr39 hkxr40 hp42 hp43 (by have e : ((12 : Int32).toInt) = 12 := (by decide); omega) (by have e : ((12 : Int32).toInt) = 12 := (by decide); omega) (by have := tw_fi_ed TH hm0 hk0; have e : ((12 : Int32).toInt) = 12 := (by decide); omega) hg4_o
              have hg5 : dl_ok E41 a0 := dl_ok_12 TH hst45 hm0 hk0 (by decide) (by have e12 : ((12 : Int32).toInt) = 12 := (by decide); have q := ot_ok_h (i := 12) TH hm0 hk0 hg0_o hxr39 exr40 hkxr39 hkxr40 hp42 hp43 (by omega) (by omega) ot_ok_rf; rw [e12] at q; exact q) (fun r hr x y => (by have e12 : ((12 : Int32).toInt) = 12 := (by decide); have rf_xe15 : rw_p E a0 (12) (x1.toInt).toNat = xe15.toInt := (by have q := rw_p_of (m := a0) (i := (12 : Int32)) (c := x1) hxr13 exr14 exe15; rw [show ((12 : Int32).toInt) = 12 from (by decide)] at q; exact q); have q := rw_h_st (m := a0) (i := 12) (c := x1) hxr39 exr40 hkxr39 hkxr40 hp42 hp43 hp44 r; rw [e12] at q; rw [rw_p_hst TH hm0 hk0 hkxr40 hp42 hp43 (i := 12) (by decide), q, if_neg (fun z => (by rw [z, rf_xe15] at y; omega))]; exact ⟨x, y⟩)) hg5_o
              have hg6 : fw_ok E41 a0 := fw_ok_h (i := 12) TH hm0 hk0 hg0_o hxr39 exr40 hkxr39 hkxr40 hp42 hp43 (by have e : ((12 : Int32).toInt) = 12 := (by decide); omega) (by have e : ((12 : Int32).toInt) = 12 := (by decide); omega) hg6_o
              have hh12 : h12_ok E41 a0 (fun c => if c = (x1.toInt).toNat then 0 else (rw_h E a0 12) c) := (by have e12 : ((12 : Int32).toInt) = 12 := (by decide); have ev : ((0 : Int32).toInt) = 0 := (by decide); have q := rw_h_st (m := a0) (i := 12) (c := x1) hxr39 exr40 hkxr39 hkxr40 hp42 hp43 hp44; rw [e12, ev] at q; exact h12_st hh12_o q)
              have hp12 : p12_ok E41 a0 (rw_p E a0 12) := p12_ok_fr TH hst45 hm0 hk0 (by decide) (by decide) hp12
              refine lv_aload_n hx hb dX12_move_105 rfl (lv_at hl 2 rfl) ?_
              refine lv_iload hx hb dX12_move_106 (lv_at hl 0 rfl) ?_
              refine tw_Vc (o := a0) (ci := 12) (n := 1) (post := (fun v kq Lq Eq => v = none ∧ kp = kq ∧ L = Lq ∧ tw_fr kp L [] [329] E41 Eq)) (As := [.int xe15]) (rest := []) ⟨hx, hb, hml, hown, hB⟩ (fun sz => tX12_shrinks l D cs a0 xe15 hm0 hk0 sz) cg_12_422_X12_shrinks rfl rfl (by decide +kernel) ⟨Nat.le_of_ble_eq_true rfl, Nat.le_of_ble_eq_true rfl⟩ hK hN TH hS hA rfl hm0 hk0 (by decide) rfl hl.1 rfl (Nat.le_of_ble_eq_true rfl) dX12_move_108 ⟨Nat.le_of_ble_eq_true rfl, Nat.le_of_ble_eq_true rfl⟩ (fun v50 kp50 L50 E50 H locs hq50 hx50 TH hS => ?_)
              obtain ⟨rfl, rfl, rfl, hst50⟩ := hq50
              have hF := hF.tr hst50 (fun _ h => ⟨h, rfl⟩) (by decide) (by decide)
              have hmf52 : tw_fv E50 a0 26 = .int xi1 := (hst50.1 a0 26 hm0 (by rw [hk0]; decide)).trans hmf46
              have hmf53 : tw_fv E50 a0 29 = .int xi2 := (hst50.1 a0 29 hm0 (by rw [hk0]; decide)).trans hmf47
              have hmf54 : tw_fv E50 a0 18 = .ref xr13 := (hst50.1 a0 18 hm0 (by rw [hk0]; decide)).trans hmf48
              have hmf55 : tw_fv E50 a0 16 = .ref xr39 := (hst50.1 a0 16 hm0 (by rw [hk0]; decide)).trans hmf49
              have hg0 : rd_ok E50 a0 := rd_ok_fr TH hst50 hm0 hk0 (by decide) (by decide) hg0
              have hg1 : eo_ok E50 a0 := eo_ok_fr TH hst50 hm0 hk0 (by decide) (by decide) hg1
              have hg2 : ht_ok E50 a0 := ht_ok_fr TH hst50 hm0 hk0 (by decide) (by decide) hg2
              have hg4 : ln_ok E50 a0 := ln_ok_fr TH hst50 hm0 hk0 (by decide) (by decide) hg4
              have hg5 : dl_ok E50 a0 := dl_ok_fr TH hst50 hm0 hk0 (by decide) (by decide) hg5
              have hg6 : fw_ok E50 a0 := fw_ok_fr TH hst50 hm0 hk0 (by decide) (by decide) hg6
              have hh12 : h12_ok E50 a0 (fun c => if c = (x1.toInt).toNat then 0 else (rw_h E a0 12) c) := h12_ok_fr TH hst50 hm0 hk0 (by decide) (by decide) hh12
              have hp12 : p12_ok E50 a0 (rw_p E a0 12) := p12_ok_fr TH hst50 hm0 hk0 (by decide) (by decide) hp12
              refine W.eq (g2 := F0 m 111 ls []) rfl ?_
              refine lv_aload_n hx hb dX12_move_111 rfl (lv_at hl 2 rfl) ?_
              refine lv_iload_n hx hb dX12_move_112 rfl (lv_at hl 3 rfl) ?_
              refine lv_iload_n hx hb dX12_move_113 rfl (lv_at hl 4 rfl) ?_
              refine lv_iload_n hx hb dX12_move_114 rfl (lv_at hl 5 rfl) ?_
              refine tw_Vc (o := a0) (ci := 12) (n := 3) (post := (fun v kq Lq Eq => v = none ∧ kp = kq ∧ L = Lq ∧ tw_fr kp L [] [326, 328, 329] E50 Eq ∧ (∀ c : Nat, rw_h Eq a0 12 c = if c = (x1.toInt).toNat then 1 else rw_h E50 a0 12 c) ∧ (∀ c : Nat, rw_p Eq a0 12 c = if c = (x1.toInt).toNat then x2.toInt else rw_p E50 a0 12 c) ∧ (ot_ok Eq a0 12 E50) ∧ rw_ok Eq a0 (12) ∧ rd_ok Eq a0 ∧ eo_ok Eq a0 ∧ ht_ok Eq a0)) (As := [.int x1, .int x2, .int x3]) (rest := []) ⟨hx, hb, hml, hown, hB⟩ (fun sz => tX12_lays l D cs a0 x1 x2 x3 hm0 hk0 (by omega) (by omega) (by omega) (by omega) (by have e12 : ((12 : Int32).toInt) = 12 := (by decide); unfold lyw_ok; have fh : rw_h E50 a0 12 = _ := hh12; have fp : rw_p E50 a0 12 = rw_p E a0 12 := hp12; rw [fp]; have up := hpoxc20_0 (by omega) (by omega); rw [e12] at up; exact ly_move hrow.1.1 hrow.1.2.1 hrow.1.2.2 (by omega) (by omega) (hpoxc4_1 (by omega)) (by omega) (by omega) (hpoxc9_1 (by omega)) up (fun c => congrFun fh c)) hg0 hg1 hg2 sz) cg_12_439_X12_lays rfl rfl (by decide +kernel) ⟨Nat.le_of_ble_eq_true rfl, Nat.le_of_ble_eq_true rfl⟩ hK hN TH hS hA rfl hm0 hk0 (by decide) rfl hl.1 rfl (Nat.le_of_ble_eq_true rfl) dX12_move_115 ⟨Nat.le_of_ble_eq_true rfl, Nat.le_of_ble_eq_true rfl⟩ (fun v56 kp56 L56 E56 H locs hq56 hx56 TH hS => ?_)
              obtain ⟨rfl, rfl, rfl, hst56, hpoxc57_0, hpoxc57_1, hpoxc57_2, hgpxc57_0, hgpxc57_1, hgpxc57_2, hgpxc57_3⟩ := hq56
              have hF := hF.tr hst56 (fun _ h => ⟨h, rfl⟩) (by decide) (by decide)
              have hmf58 : tw_fv E56 a0 26 = .int xi1 := (hst56.1 a0 26 hm0 (by rw [hk0]; decide)).trans hmf52
              have hmf59 : tw_fv E56 a0 29 = .int xi2 := (hst56.1 a0 29 hm0 (by rw [hk0]; decide)).trans hmf53
              have hmf60 : tw_fv E56 a0 18 = .ref xr13 := (hst56.1 a0 18 hm0 (by rw [hk0]; decide)).trans hmf54
              have hmf61 : tw_fv E56 a0 16 = .ref xr39 := (hst56.1 a0 16 hm0 (by rw [hk0]; decide)).trans hmf55
              have hg4_o := hg4
              have hg5_o := hg5
              have hg6_o := hg6
              have hh12_o := hh12
              have hp12_o := hp12
              have hg4 : ln_ok E56 a0 := ln_ok_ot (r := 12) TH hst56 hm0 hk0 (by decide) (by decide) hpoxc57_2 (by have w := tw_fi_ed TH hm0 hk0; rw [tw_fi_fr hst56 hm0 hk0 (k := 27) (by decide)] at w; exact w) hg4_o
              have hg5 : dl_ok E56 a0 := dl_ok_12 TH hst56 hm0 hk0 (by decide) hpoxc57_2 (fun r hr z y => (by have fp : rw_p E50 a0 12 = rw_p E a0 12 := hp12_o; have hrn : r ≠ (x1.toInt).toNat := (fun w => (by rw [fp, w] at y; exact hpn y)); rw [hpoxc57_0 r, hpoxc57_1 r, if_neg hrn, if_neg hrn]; exact ⟨z, y⟩)) hg5_o
              have hg6 : fw_ok E56 a0 := fw_ok_ot (r := 12) TH hst56 hm0 hk0 (by decide) hpoxc57_2 (by decide) hg6_o
              have hgn62 : dr_ok E56 a0 := (fun _ => (by have fh : rw_h E50 a0 12 = _ := hh12; have fp : rw_p E50 a0 12 = rw_p E a0 12 := hp12; refine row_put (h := rw_h E a0 12) (p := rw_p E a0 12) (n := x1.toInt) (u := x2.toInt) (N := xi1.toInt) (by omega) (by omega) (by omega) ?_ (Or.inr ⟨hpoxc4_1 (by omega), hrow.2.2.1⟩) (fun c hc hx => (by have z := hrow.2.2.2 c hc hx; rw [tw_fi_of hn26] at z; omega)) (by omega) (tw_fi_of ((hst56.1 a0 26 hm0 (by rw [hk0]; decide)).trans hmf52)) (fun c => (by rw [hpoxc57_0 c, fh]; (by_cases hcn : c = (x1.toInt).toNat; (rw [if_pos hcn, if_pos hcn]); (rw [if_neg hcn, if_neg hcn]; exact if_neg hcn)))) (fun c => (hpoxc57_1 c).trans (by rw [fp])) hgpxc57_0; (obtain ⟨r, r0, r1, r2, r3⟩ := hrow.2.1; exact ⟨r, r0, r1, (fun z => hpn (by rw [← z]; exact r3)), r2, r3⟩)))
              refine W.eq (g2 := F0 m 118 ls []) rfl ?_
              refine lv_iconst (v := 1) hx hb dX12_move_118 (by decide) ?_
              exact tw_zret hx hb hr hlocks (by decide) TH hS hex ⟨⟨_, rfl, (show 0 ≤ Int32.toInt 1 from by have : ((1 : Int32).toInt) = 1 := (by decide); omega), (show Int32.toInt 1 ≤ 1 from by have : ((1 : Int32).toInt) = 1 := (by decide); omega), hgpxc57_1, hgpxc57_2, hgpxc57_3, hgn62, hg4, hg5, hg6⟩, rfl, rfl, hF⟩ (Nat.le_of_ble_eq_true rfl) (Nat.le_of_ble_eq_true rfl) dX12_move_119
            · have hf63 : xc34.toInt = 0 := by have z := (fa_eq _ _).mp hc35; have : ((0 : Int32).toInt) = 0 := (by decide); omega
              refine lv_iconst (v := 0) hx hb dX12_move_82 (by decide) ?_
              exact tw_zret hx hb hr hlocks (by decide) TH hS hex ⟨⟨_, rfl, (show 0 ≤ Int32.toInt 0 from by have : ((0 : Int32).toInt) = 0 := (by decide); omega), (show Int32.toInt 0 ≤ 1 from by have : ((0 : Int32).toInt) = 0 := (by decide); omega), hg0, hg1, hg2, hg3, hg4, hg5, hg6⟩, rfl, rfl, hF⟩ (Nat.le_of_ble_eq_true rfl) (Nat.le_of_ble_eq_true rfl) dX12_move_83
          · have hf64 : xe15.toInt = x2.toInt := by have z := (fa_eq _ _).mp hc27;  omega
            refine lv_iconst (v := 1) hx hb dX12_move_62 (by decide) ?_
            refine lv_goto (tgt := 67) hx hb dX12_move_63 (by decide) ?_
            refine lv_isub hx hb dX12_move_67 ?_
            refine lv_topi (fun zi65 ezi65 => ?_)
            have hzi65 : zi65.toInt = xc24.toInt - 1 := by rw [ezi65]; have : ((1 : Int32).toInt) = 1 := (by decide); have := ia_lo xc24; have := ia_hi xc24; exact (ia_sub (by omega) (by omega)).trans (by omega)
            refine lv_istore (lv' := [(4, .int zi65), (0, .ref a0), (1, .int x1), (2, .int x2), (3, .int x3)]) hx hb dX12_move_68 hl (by decide) rfl (fun ls hl => ?_)
            refine lv_iload_n hx hb dX12_move_70 rfl (lv_at hl 4 rfl) ?_
            refine lv_i2l (v := (x3).toInt64) hx hb dX12_move_71 rfl ?_
            refine tw_topl (fun zl66 ezl66 => ?_)
            have hzl66 : zl66.toInt = x3.toInt := by rw [ezl66];  exact (Int32.toInt_toInt64 _)
            refine lv_lconst (v := 0) hx hb dX12_move_72 (by decide) ?_
            refine tw_topl (fun zl67 ezl67 => ?_)
            have hzl67 : zl67.toInt = 0 := by rw [ezl67]; decide
            refine lv_iload hx hb dX12_move_73 (lv_at hl 0 rfl) ?_
            refine lv_i2l (v := (zi65).toInt64) hx hb dX12_move_75 rfl ?_
            refine tw_topl (fun zl68 ezl68 => ?_)
            have hzl68 : zl68.toInt = zi65.toInt := by rw [ezl68];  exact (Int32.toInt_toInt64 _)
            refine tw_Sc (n := 3) (post := (fun v kq Lq Eq => (∃ x : Int32, v = some (.int x) ∧ 0 ≤ x.toInt ∧ x.toInt ≤ 1 ∧ (x.toInt ≠ 0 → zl67.toInt ≤ zl66.toInt ∧ zl66.toInt ≤ zl68.toInt)) ∧ kp = kq ∧ L = Lq ∧ E = Eq)) (As := [.long zl66, .long zl67, .long zl68]) (rest := []) ⟨hx, hb, hml, hown, hB⟩ (fun sz => tX12_in l D cs zl66 zl67 zl68  sz) cg_12_171_X12_in rfl rfl (by decide +kernel) ⟨Nat.le_of_ble_eq_true rfl, Nat.le_of_ble_eq_true rfl⟩ hK hN TH hS hA rfl hl.1 rfl (Nat.le_of_ble_eq_true rfl) dX12_move_76 ⟨Nat.le_of_ble_eq_true rfl, Nat.le_of_ble_eq_true rfl⟩ (fun v69 kp69 L69 E69 H locs hq69 hx69 TH hS => ?_)
            obtain ⟨⟨xc70, rfl, hxc70a, hxc70b, hpoxc70_0⟩, rfl, rfl, rfl⟩ := hq69
            refine W.eq (g2 := F0 m 79 ls [.int xc70]) rfl ?_
            refine lv_if_ne (tgt := 84) hx hb dX12_move_79 (by decide) (fun hc71 => ?_) (fun hc71 => ?_)
            · have hf72 : ¬ (xc70.toInt = 0) := fun q => hc71 ((fa_eq _ _).mpr (by have : ((0 : Int32).toInt) = 0 := (by decide); omega))
              refine lv_aload_n hx hb dX12_move_84 rfl (lv_at hl 1 rfl) ?_
              refine tw_get (ci := 12) (C := RX12) (T := TX12) (N := 64) hx hb hB cx_inX12 hown hK TH hm0 hk0 rfl ⟨by decide, rfl⟩ 18 (by decide) cw_1211 (fun _ h9 => h9) dX12_move_85 (fun hv => ?_)
              rw [hxr13]
              refine lv_bipush (v := 12) hx hb dX12_move_88 (by decide) ?_
              refine tw_aald (k := 318) (t0 := 4) (n := 16) (lo := 328) (hi := 0) (ty := .int) hx hb hK TH hmxr13 hkxr13 (by decide) rfl rfl (i := 12) (vp_in_iff.mpr ⟨by have : ((12 : Int32).toInt) = 12 := (by decide); omega, by have : ((12 : Int32).toInt) = 12 := (by decide); omega⟩) dX12_move_90 (fun xr73 exr73 hmxr73 hkxr73 => ?_)
              have ezxr73 : xr14 = xr73 := exr14.symm.trans exr73
              subst ezxr73
              refine lv_iload_n hx hb dX12_move_91 rfl (lv_at hl 2 rfl) ?_
              refine tw_iald (k := 328) (t0 := 0) (n := 150) (lo := (-1)) (hi := 149) hx hb hK TH hmxr14 hkxr14 (by decide) rfl rfl (i := x1) (vp_in_iff.mpr ⟨by  omega, by  omega⟩) dX12_move_92 (fun hxe74a hxe74b => ?_)
              rw [exe15]
              refine lv_istore (lv' := [(5, .int xe15), (4, .int zi65), (0, .ref a0), (1, .int x1), (2, .int x2), (3, .int x3)]) hx hb dX12_move_93 hl (by decide) rfl (fun ls hl => ?_)
              have rf_xe15 : rw_p E a0 (12) (x1.toInt).toNat = xe15.toInt := (by have q := rw_p_of (m := a0) (i := (12 : Int32)) (c := x1) hxr13 exr14 exe15; rw [show ((12 : Int32).toInt) = 12 from (by decide)] at q; exact q)
              have hn26 := hxi1
              have hrow := (hg3 (by rw [tw_fi_of hxi2]; omega))
              have hpn : rw_p E a0 12 (x1.toInt).toNat ≠ -1 := (by rw [rf_xe15]; omega)
              refine lv_aload_n hx hb dX12_move_95 rfl (lv_at hl 2 rfl) ?_
              refine tw_get (ci := 12) (C := RX12) (T := TX12) (N := 64) hx hb hB cx_inX12 hown hK TH hm0 hk0 rfl ⟨by decide, rfl⟩ 16 (by decide) cw_1209 (fun _ h9 => h9) dX12_move_96 (fun hv => ?_)
              obtain ⟨xr75, hxr75, hmxr75, hkxr75⟩ : ∃ a : Nat, tw_fv E a0 16 = .ref a ∧ a ∈ L ∧ kp a = 316 := hv
              rw [hxr75]
              refine lv_bipush (v := 12) hx hb dX12_move_99 (by decide) ?_
              refine tw_aald (k := 316) (t0 := 5) (n := 16) (lo := 326) (hi := 0) (ty := .boolean) hx hb hK TH hmxr75 hkxr75 (by decide) rfl rfl (i := 12) (vp_in_iff.mpr ⟨by have : ((12 : Int32).toInt) = 12 := (by decide); omega, by have : ((12 : Int32).toInt) = 12 := (by decide); omega⟩) dX12_move_101 (fun xr76 exr76 hmxr76 hkxr76 => ?_)
              have hkxr76 : kp xr76 = 326 := hkxr76
              refine lv_iload_n hx hb dX12_move_102 rfl (lv_at hl 3 rfl) ?_
              refine lv_iconst (v := 0) hx hb dX12_move_103 (by decide) ?_
              refine tw_zast (k := 326) (n := 150) (lo := 0) (hi := 1) hx hb hK TH hS hmxr76 hkxr76 (by decide) rfl (i := x1) (x := 0) (vp_in_iff.mpr ⟨by  omega, by  omega⟩) (by have : ((0 : Int32).toInt) = 0 := (by decide); omega) (by have : ((0 : Int32).toInt) = 0 := (by decide); omega) (by have : ((0 : Int32).toInt) = 0 := (by decide); omega) (by have : ((0 : Int32).toInt) = 0 := (by decide); omega) dX12_move_104 (fun H locs E77 TH hS hp78 hp79 hp80 => ?_)
              have hst81 : tw_fr kp L [] [326] E E77 := tw_fr.ast tw_fr.rf (fun _ => hkxr76) hp78 hp79 (by decide)
              have hF := hF.tr hst81 (fun _ h => ⟨h, rfl⟩) (by decide) (by decide)
              have hmf82 : tw_fv E77 a0 26 = .int xi1 := (hst81.1 a0 26 hm0 (by rw [hk0]; decide)).trans hxi1
              have hmf83 : tw_fv E77 a0 29 = .int xi2 := (hst81.1 a0 29 hm0 (by rw [hk0]; decide)).trans hxi2
              have hmf84 : tw_fv E77 a0 18 = .ref xr13 := (hst81.1 a0 18 hm0 (by rw [hk0]; decide)).trans hxr13
              have hmf85 : tw_fv E77 a0 16 = .ref xr75 := (hst81.1 a0 16 hm0 (by rw [hk0]; decide)).trans hxr75
              have hg0_o := hg0
              have hg1_o := hg1
              have hg2_o := hg2
              have hg3_o := hg3
              have hg4_o := hg4
              have hg5_o := hg5
              have hg6_o := hg6
              have hh12_o := hh12
              have hp12_o := hp12
              have hg0 : rd_ok E77 a0 := rd_ok_fr TH hst81 hm0 hk0 (by decide) (by decide) hg0
              have hg1 : eo_ok E77 a0 := eo_ok_h (i := 12) TH hm0 hk0 hg0_o hxr75 exr76 hkxr75 hkxr76 hp78 hp79 (by have e : ((12 : Int32).toInt) = 12 := (by decide); omega) (by have e : ((12 : Int32).toInt) = 12 := (by decide); omega) (by have := tw_fi_ed TH hm0 hk0; have e : ((12 : Int32).toInt) = 12 := (by decide); omega) hg1_o
              have hg2 : ht_ok E77 a0 := ht_ok_h (i := 12) hg0_o hxr75 exr76 hkxr75 hkxr76 hp78 hp79 (by have e : ((12 : Int32).toInt) = 12 := (by decide); omega) (by have e : ((12 : Int32).toInt) = 12 := (by decide); omega) hg2_o
              have hg4 : ln_ok E77 a0 := ln_ok_h (i := 12) TH hm0 hk0 hg0_o hxr75 exr76 hkxr75 hkxr76 hp78 hp79 (by have e : ((12 : Int32).toInt) = 12 := (by decide); omega) (by have e : ((12 : Int32).toInt) = 12 := (by decide); omega) (by have := tw_fi_ed TH hm0 hk0; have e : ((12 : Int32).toInt) = 12 := (by decide); omega) hg4_o
              have hg5 : dl_ok E77 a0 := dl_ok_12 TH hst81 hm0 hk0 (by decide) (by have e12 : ((12 : Int32).toInt) = 12 := (by decide); have q := ot_ok_h (i := 12) TH hm0 hk0 hg0_o hxr75 exr76 hkxr75 hkxr76 hp78 hp79 (by omega) (by omega) ot_ok_rf; rw [e12] at q; exact q) (fun r hr x y => (by have e12 : ((12 : Int32).toInt) = 12 := (by decide); have rf_xe15 : rw_p E a0 (12) (x1.toInt).toNat = xe15.toInt := (by have q := rw_p_of (m := a0) (i := (12 : Int32)) (c := x1) hxr13 exr14 exe15; rw [show ((12 : Int32).toInt) = 12 from (by decide)] at q; exact q); have q := rw_h_st (m := a0) (i := 12) (c := x1) hxr75 exr76 hkxr75 hkxr76 hp78 hp79 hp80 r; rw [e12] at q; rw [rw_p_hst TH hm0 hk0 hkxr76 hp78 hp79 (i := 12) (by decide), q, if_neg (fun z => (by rw [z, rf_xe15] at y; omega))]; exact ⟨x, y⟩)) hg5_o
              have hg6 : fw_ok E77 a0 := fw_ok_h (i := 12) TH hm0 hk0 hg0_o hxr75 exr76 hkxr75 hkxr76 hp78 hp79 (by have e : ((12 : Int32).toInt) = 12 := (by decide); omega) (by have e : ((12 : Int32).toInt) = 12 := (by decide); omega) hg6_o
              have hh12 : h12_ok E77 a0 (fun c => if c = (x1.toInt).toNat then 0 else (rw_h E a0 12) c) := (by have e12 : ((12 : Int32).toInt) = 12 := (by decide); have ev : ((0 : Int32).toInt) = 0 := (by decide); have q := rw_h_st (m := a0) (i := 12) (c := x1) hxr75 exr76 hkxr75 hkxr76 hp78 hp79 hp80; rw [e12, ev] at q; exact h12_st hh12_o q)
              have hp12 : p12_ok E77 a0 (rw_p E a0 12) := p12_ok_fr TH hst81 hm0 hk0 (by decide) (by decide) hp12
              refine lv_aload_n hx hb dX12_move_105 rfl (lv_at hl 2 rfl) ?_
              refine lv_iload hx hb dX12_move_106 (lv_at hl 0 rfl) ?_
              refine tw_Vc (o := a0) (ci := 12) (n := 1) (post := (fun v kq Lq Eq => v = none ∧ kp = kq ∧ L = Lq ∧ tw_fr kp L [] [329] E77 Eq)) (As := [.int xe15]) (rest := []) ⟨hx, hb, hml, hown, hB⟩ (fun sz => tX12_shrinks l D cs a0 xe15 hm0 hk0 sz) cg_12_422_X12_shrinks rfl rfl (by decide +kernel) ⟨Nat.le_of_ble_eq_true rfl, Nat.le_of_ble_eq_true rfl⟩ hK hN TH hS hA rfl hm0 hk0 (by decide) rfl hl.1 rfl (Nat.le_of_ble_eq_true rfl) dX12_move_108 ⟨Nat.le_of_ble_eq_true rfl, Nat.le_of_ble_eq_true rfl⟩ (fun v86 kp86 L86 E86 H locs hq86 hx86 TH hS => ?_)
              obtain ⟨rfl, rfl, rfl, hst86⟩ := hq86
              have hF := hF.tr hst86 (fun _ h => ⟨h, rfl⟩) (by decide) (by decide)
              have hmf88 : tw_fv E86 a0 26 = .int xi1 := (hst86.1 a0 26 hm0 (by rw [hk0]; decide)).trans hmf82
              have hmf89 : tw_fv E86 a0 29 = .int xi2 := (hst86.1 a0 29 hm0 (by rw [hk0]; decide)).trans hmf83
              have hmf90 : tw_fv E86 a0 18 = .ref xr13 := (hst86.1 a0 18 hm0 (by rw [hk0]; decide)).trans hmf84
              have hmf91 : tw_fv E86 a0 16 = .ref xr75 := (hst86.1 a0 16 hm0 (by rw [hk0]; decide)).trans hmf85
              have hg0 : rd_ok E86 a0 := rd_ok_fr TH hst86 hm0 hk0 (by decide) (by decide) hg0
              have hg1 : eo_ok E86 a0 := eo_ok_fr TH hst86 hm0 hk0 (by decide) (by decide) hg1
              have hg2 : ht_ok E86 a0 := ht_ok_fr TH hst86 hm0 hk0 (by decide) (by decide) hg2
              have hg4 : ln_ok E86 a0 := ln_ok_fr TH hst86 hm0 hk0 (by decide) (by decide) hg4
              have hg5 : dl_ok E86 a0 := dl_ok_fr TH hst86 hm0 hk0 (by decide) (by decide) hg5
              have hg6 : fw_ok E86 a0 := fw_ok_fr TH hst86 hm0 hk0 (by decide) (by decide) hg6
              have hh12 : h12_ok E86 a0 (fun c => if c = (x1.toInt).toNat then 0 else (rw_h E a0 12) c) := h12_ok_fr TH hst86 hm0 hk0 (by decide) (by decide) hh12
              have hp12 : p12_ok E86 a0 (rw_p E a0 12) := p12_ok_fr TH hst86 hm0 hk0 (by decide) (by decide) hp12
              refine W.eq (g2 := F0 m 111 ls []) rfl ?_
              refine lv_aload_n hx hb dX12_move_111 rfl (lv_at hl 2 rfl) ?_
              refine lv_iload_n hx hb dX12_move_112 rfl (lv_at hl 3 rfl) ?_
              refine lv_iload_n hx hb dX12_move_113 rfl (lv_at hl 4 rfl) ?_
              refine lv_iload_n hx hb dX12_move_114 rfl (lv_at hl 5 rfl) ?_
              refine tw_Vc (o := a0) (ci := 12) (n := 3) (post := (fun v kq Lq Eq => v = none ∧ kp = kq ∧ L = Lq ∧ tw_fr kp L [] [326, 328, 329] E86 Eq ∧ (∀ c : Nat, rw_h Eq a0 12 c = if c = (x1.toInt).toNat then 1 else rw_h E86 a0 12 c) ∧ (∀ c : Nat, rw_p Eq a0 12 c = if c = (x1.toInt).toNat then x2.toInt else rw_p E86 a0 12 c) ∧ (ot_ok Eq a0 12 E86) ∧ rw_ok Eq a0 (12) ∧ rd_ok Eq a0 ∧ eo_ok Eq a0 ∧ ht_ok Eq a0)) (As := [.int x1, .int x2, .int x3]) (rest := []) ⟨hx, hb, hml, hown, hB⟩ (fun sz => tX12_lays l D cs a0 x1 x2 x3 hm0 hk0 (by omega) (by omega) (by omega) (by omega) (by have e12 : ((12 : Int32).toInt) = 12 := (by decide); unfold lyw_ok; have fh : rw_h E86 a0 12 = _ := hh12; have fp : rw_p E86 a0 12 = rw_p E a0 12 := hp12; rw [fp]; have up := hpoxc20_0 (by omega) (by omega); rw [e12] at up; exact ly_move hrow.1.1 hrow.1.2.1 hrow.1.2.2 (by omega) (by omega) (hpoxc4_1 (by omega)) (by omega) (by omega) (hpoxc9_1 (by omega)) up (fun c => congrFun fh c)) hg0 hg1 hg2 sz) cg_12_439_X12_lays rfl rfl (by decide +kernel) ⟨Nat.le_of_ble_eq_true rfl, Nat.le_of_ble_eq_true rfl⟩ hK hN TH hS hA rfl hm0 hk0 (by decide) rfl hl.1 rfl (Nat.le_of_ble_eq_true rfl) dX12_move_115 ⟨Nat.le_of_ble_eq_true rfl, Nat.le_of_ble_eq_true rfl⟩ (fun v92 kp92 L92 E92 H locs hq92 hx92 TH hS => ?_)
              obtain ⟨rfl, rfl, rfl, hst92, hpoxc93_0, hpoxc93_1, hpoxc93_2, hgpxc93_0, hgpxc93_1, hgpxc93_2, hgpxc93_3⟩ := hq92
              have hF := hF.tr hst92 (fun _ h => ⟨h, rfl⟩) (by decide) (by decide)
              have hmf94 : tw_fv E92 a0 26 = .int xi1 := (hst92.1 a0 26 hm0 (by rw [hk0]; decide)).trans hmf88
              have hmf95 : tw_fv E92 a0 29 = .int xi2 := (hst92.1 a0 29 hm0 (by rw [hk0]; decide)).trans hmf89
              have hmf96 : tw_fv E92 a0 18 = .ref xr13 := (hst92.1 a0 18 hm0 (by rw [hk0]; decide)).trans hmf90
              have hmf97 : tw_fv E92 a0 16 = .ref xr75 := (hst92.1 a0 16 hm0 (by rw [hk0]; decide)).trans hmf91
              have hg4_o := hg4
              have hg5_o := hg5
              have hg6_o := hg6
              have hh12_o := hh12
              have hp12_o := hp12
              have hg4 : ln_ok E92 a0 := ln_ok_ot (r := 12) TH hst92 hm0 hk0 (by decide) (by decide) hpoxc93_2 (by have w := tw_fi_ed TH hm0 hk0; rw [tw_fi_fr hst92 hm0 hk0 (k := 27) (by decide)] at w; exact w) hg4_o
              have hg5 : dl_ok E92 a0 := dl_ok_12 TH hst92 hm0 hk0 (by decide) hpoxc93_2 (fun r hr z y => (by have fp : rw_p E86 a0 12 = rw_p E a0 12 := hp12_o; have hrn : r ≠ (x1.toInt).toNat := (fun w => (by rw [fp, w] at y; exact hpn y)); rw [hpoxc93_0 r, hpoxc93_1 r, if_neg hrn, if_neg hrn]; exact ⟨z, y⟩)) hg5_o
              have hg6 : fw_ok E92 a0 := fw_ok_ot (r := 12) TH hst92 hm0 hk0 (by decide) hpoxc93_2 (by decide) hg6_o
              have hgn98 : dr_ok E92 a0 := (fun _ => (by have fh : rw_h E86 a0 12 = _ := hh12; have fp : rw_p E86 a0 12 = rw_p E a0 12 := hp12; refine row_put (h := rw_h E a0 12) (p := rw_p E a0 12) (n := x1.toInt) (u := x2.toInt) (N := xi1.toInt) (by omega) (by omega) (by omega) ?_ (Or.inr ⟨hpoxc4_1 (by omega), hrow.2.2.1⟩) (fun c hc hx => (by have z := hrow.2.2.2 c hc hx; rw [tw_fi_of hn26] at z; omega)) (by omega) (tw_fi_of ((hst92.1 a0 26 hm0 (by rw [hk0]; decide)).trans hmf88)) (fun c => (by rw [hpoxc93_0 c, fh]; (by_cases hcn : c = (x1.toInt).toNat; (rw [if_pos hcn, if_pos hcn]); (rw [if_neg hcn, if_neg hcn]; exact if_neg hcn)))) (fun c => (hpoxc93_1 c).trans (by rw [fp])) hgpxc93_0; (obtain ⟨r, r0, r1, r2, r3⟩ := hrow.2.1; exact ⟨r, r0, r1, (fun z => hpn (by rw [← z]; exact r3)), r2, r3⟩)))
              refine W.eq (g2 := F0 m 118 ls []) rfl ?_
              refine lv_iconst (v := 1) hx hb dX12_move_118 (by decide) ?_
              exact tw_zret hx hb hr hlocks (by decide) TH hS hex ⟨⟨_, rfl, (show 0 ≤ Int32.toInt 1 from by have : ((1 : Int32).toInt) = 1 := (by decide); omega), (show Int32.toInt 1 ≤ 1 from by have : ((1 : Int32).toInt) = 1 := (by decide); omega), hgpxc93_1, hgpxc93_2, hgpxc93_3, hgn98, hg4, hg5, hg6⟩, rfl, rfl, hF⟩ (Nat.le_of_ble_eq_true rfl) (Nat.le_of_ble_eq_true rfl) dX12_move_119
            · have hf99 : xc70.toInt = 0 := by have z := (fa_eq _ _).mp hc71; have : ((0 : Int32).toInt) = 0 := (by decide); omega
              refine lv_iconst (v := 0) hx hb dX12_move_82 (by decide) ?_
              exact tw_zret hx hb hr hlocks (by decide) TH hS hex ⟨⟨_, rfl, (show 0 ≤ Int32.toInt 0 from by have : ((0 : Int32).toInt) = 0 := (by decide); omega), (show Int32.toInt 0 ≤ 1 from by have : ((0 : Int32).toInt) = 0 := (by decide); omega), hg0, hg1, hg2, hg3, hg4, hg5, hg6⟩, rfl, rfl, hF⟩ (Nat.le_of_ble_eq_true rfl) (Nat.le_of_ble_eq_true rfl) dX12_move_83
        · have hf100 : ¬ (xc20.toInt = 0) := fun q => hc21 ((fa_eq _ _).mpr (by have : ((0 : Int32).toInt) = 0 := (by decide); omega))
          refine lv_iconst (v := 0) hx hb dX12_move_40 (by decide) ?_
          exact tw_zret hx hb hr hlocks (by decide) TH hS hex ⟨⟨_, rfl, (show 0 ≤ Int32.toInt 0 from by have : ((0 : Int32).toInt) = 0 := (by decide); omega), (show Int32.toInt 0 ≤ 1 from by have : ((0 : Int32).toInt) = 0 := (by decide); omega), hg0, hg1, hg2, hg3, hg4, hg5, hg6⟩, rfl, rfl, hF⟩ (Nat.le_of_ble_eq_true rfl) (Nat.le_of_ble_eq_true rfl) dX12_move_41
set_option maxHeartbeats 4000000 in
set_option maxRecDepth 100000 in
theorem tX12_close (l : Launch) (D : va_G) (cs : Nat → ClassId) {kp : Nat → Nat} {L : List Nat} {E : Nat → va_E} (a0 : Nat) (hm0 : a0 ∈ L) (hk0 : kp a0 = 12) (hg0 : rd_ok E a0) (hg1 : eo_ok E a0) (hg2 : ht_ok E a0) (hg3 : dr_ok E a0) (hg4 : ln_ok E a0) (hg5 : dl_ok E a0) (hg6 : fw_ok E a0) (sz : Nat) : Met l yX12_close (.code yX12_close cX12_close 1 (some .int) :: cx_big) { frames := 5, cells := 0, slots := 0, locals := 119 } (tw_P D cs kp L E [.ref a0] sz) (tw_Q D cs kp L (fun v kq Lq Eq => (∃ x : Int32, v = some (.int x) ∧ rd_ok Eq a0 ∧ eo_ok Eq a0 ∧ ht_ok Eq a0 ∧ dr_ok Eq a0 ∧ ln_ok Eq a0 ∧ dl_ok Eq a0 ∧ fw_ok Eq a0) ∧ kp = kq ∧ L = Lq ∧ tw_fr kp L [(12, 27), (12, 29)] [326, 327, 328, 329, 331, 333, 334, 335, 348, 349] E Eq) (va_A (va_pl L E) sz)) 0 0 (va_A (va_pl L E) sz) := by
  refine tw_ofW (by decide) (Nat.le_of_ble_eq_true rfl) ?_
  intro p e s m below meth c A ls hx hb hr hml hB hown hlocks hK hN hA TH hS hl
  have hown : s.vm.findClass "TreeMergeModel" = some m.cls := hown
  have hl : lv_has ls 1 [(0, .ref a0)] := hl
  obtain ⟨kp0, ekp⟩ : ∃ z, z = kp := ⟨_, rfl⟩
  obtain ⟨L0, eL⟩ : ∃ z, z = L := ⟨_, rfl⟩
  rw [show tw_Q D cs kp L = tw_Q D cs kp0 L0 by rw [ekp, eL]]
  have hex : ∀ a : Nat, a ∈ L0 → a ∈ L ∧ kp a = kp0 a := fun a h => ⟨by rw [← eL]; exact h, by rw [ekp]⟩
  have hF : tw_fr kp L [(12, 27), (12, 29)] [326, 327, 328, 329, 331, 333, 334, 335, 348, 349] E E := tw_fr.rf
  refine lv_aload_n hx hb dX12_close_0 rfl (lv_at hl 0 rfl) ?_
  refine tw_get (ci := 12) (C := RX12) (T := TX12) (N := 64) hx hb hB cx_inX12 hown hK TH hm0 hk0 rfl ⟨by decide, rfl⟩ 29 (by decide) cw_1222 (fun _ h9 => h9) dX12_close_1 (fun hv => ?_)
  obtain ⟨xi1, hxi1, hxi1a, hxi1b⟩ : ∃ x : Int32, tw_fv E a0 29 = .int x ∧ 0 ≤ x.toInt ∧ x.toInt ≤ 1 := hv
  rw [hxi1]
  refine lv_if_eq (tgt := 26) hx hb dX12_close_4 (by decide) (fun hc2 => ?_) (fun hc2 => ?_)
  · have hf3 : xi1.toInt = 0 := by have z := (fa_eq _ _).mp hc2; have : ((0 : Int32).toInt) = 0 := (by decide); omega
    refine lv_iconst (v := (-1)) hx hb dX12_close_26 (by decide) ?_
    exact tw_iret hx hb hr hlocks TH hS hex ⟨⟨_, rfl, hg0, hg1, hg2, hg3, hg4, hg5, hg6⟩, rfl, rfl, hF⟩ (Nat.le_of_ble_eq_true rfl) (Nat.le_of_ble_eq_true rfl) dX12_close_27
  · have hf4 : ¬ (xi1.toInt = 0) := fun q => hc2 ((fa_eq _ _).mpr (by have : ((0 : Int32).toInt) = 0 := (by decide); omega))
    refine lv_aload_n hx hb dX12_close_7 rfl (lv_at hl 0 rfl) ?_
    refine tw_get (ci := 12) (C := RX12) (T := TX12) (N := 64) hx hb hB cx_inX12 hown hK TH hm0 hk0 rfl ⟨by decide, rfl⟩ 27 (by decide) cw_1220 (fun _ h9 => h9) dX12_close_8 (fun hv => ?_)
    obtain ⟨xi5, hxi5, hxi5a, hxi5b⟩ : ∃ x : Int32, tw_fv E a0 27 = .int x ∧ 0 ≤ x.toInt ∧ x.toInt ≤ 12 := hv
    rw [hxi5]
    refine lv_bipush (v := 12) hx hb dX12_close_11 (by decide) ?_
    refine lv_icmp_eq (tgt := 26) hx hb dX12_close_13 (by decide) (fun hc6 => ?_) (fun hc6 => ?_)
    · have hf7 : xi5.toInt = 12 := by have z := (fa_eq _ _).mp hc6; have : ((12 : Int32).toInt) = 12 := (by decide); omega
      refine lv_iconst (v := (-1)) hx hb dX12_close_26 (by decide) ?_
      exact tw_iret hx hb hr hlocks TH hS hex ⟨⟨_, rfl, hg0, hg1, hg2, hg3, hg4, hg5, hg6⟩, rfl, rfl, hF⟩ (Nat.le_of_ble_eq_true rfl) (Nat.le_of_ble_eq_true rfl) dX12_close_27
    · have hf8 : ¬ (xi5.toInt = 12) := fun q => hc6 ((fa_eq _ _).mpr (by have : ((12 : Int32).toInt) = 12 := (by decide); omega))
      refine lv_aload_n hx hb dX12_close_16 rfl (lv_at hl 0 rfl) ?_
      refine lv_bipush (v := 12) hx hb dX12_close_17 (by decide) ?_
      refine tw_Vc (o := a0) (ci := 12) (n := 1) (post := (fun v kq Lq Eq => (∃ x : Int32, v = some (.int x) ∧ (-1) ≤ x.toInt ∧ x.toInt ≤ 149) ∧ kp = kq ∧ L = Lq ∧ tw_fr kp L [] [348, 349] E Eq)) (As := [.int 12]) (rest := []) ⟨hx, hb, hml, hown, hB⟩ (fun sz => tX12_firstBreak l D cs a0 (12 : Int32) hm0 hk0 (by have : ((12 : Int32).toInt) = 12 := (by decide); omega) (by have : ((12 : Int32).toInt) = 12 := (by decide); omega) hg2 (rw_ok_cast (i := 12) (by decide) (hg3 (by rw [tw_fi_of hxi1]; omega)).1) sz) cg_12_333_X12_firstBreak rfl rfl (by decide +kernel) ⟨Nat.le_of_ble_eq_true rfl, Nat.le_of_ble_eq_true rfl⟩ hK hN TH hS hA rfl hm0 hk0 (by decide) rfl hl.1 rfl (Nat.le_of_ble_eq_true rfl) dX12_close_19 ⟨Nat.le_of_ble_eq_true rfl, Nat.le_of_ble_eq_true rfl⟩ (fun v9 kp9 L9 E9 H locs hq9 hx9 TH hS => ?_)
      obtain ⟨⟨xc10, rfl, hxc10a, hxc10b⟩, rfl, rfl, hst9⟩ := hq9
      have hF := hF.tr hst9 (fun _ h => ⟨h, rfl⟩) (by decide) (by decide)
      have hmf11 : tw_fv E9 a0 29 = .int xi1 := (hst9.1 a0 29 hm0 (by rw [hk0]; decide)).trans hxi1
      have hmf12 : tw_fv E9 a0 27 = .int xi5 := (hst9.1 a0 27 hm0 (by rw [hk0]; decide)).trans hxi5
      have hg0 : rd_ok E9 a0 := rd_ok_fr TH hst9 hm0 hk0 (by decide) (by decide) hg0
      have hg1 : eo_ok E9 a0 := eo_ok_fr TH hst9 hm0 hk0 (by decide) (by decide) hg1
      have hg2 : ht_ok E9 a0 := ht_ok_fr TH hst9 hm0 hk0 (by decide) (by decide) hg2
      have hg3 : dr_ok E9 a0 := dr_ok_fr TH hst9 hm0 hk0 (by decide) (by decide) hg3
      have hg4 : ln_ok E9 a0 := ln_ok_fr TH hst9 hm0 hk0 (by decide) (by decide) hg4
      have hg5 : dl_ok E9 a0 := dl_ok_fr TH hst9 hm0 hk0 (by decide) (by decide) hg5
      have hg6 : fw_ok E9 a0 := fw_ok_fr TH hst9 hm0 hk0 (by decide) (by decide) hg6
      refine W.eq (g2 := F0 m 22 ls [.int xc10]) rfl ?_
      refine lv_iconst (v := (-1)) hx hb dX12_close_22 (by decide) ?_
      refine lv_icmp_eq (tgt := 28) hx hb dX12_close_23 (by decide) (fun hc13 => ?_) (fun hc13 => ?_)
      · have hf14 : xc10.toInt = (-1) := by have z := (fa_eq _ _).mp hc13; have : (((-1) : Int32).toInt) = (-1) := (by decide); omega
        refine lv_aload_n hx hb dX12_close_28 rfl (lv_at hl 0 rfl) ?_
        refine lv_bipush (v := 12) hx hb dX12_close_29 (by decide) ?_
        refine lv_aload_n hx hb dX12_close_31 rfl (lv_at hl 0 rfl) ?_
        refine tw_get (ci := 12) (C := RX12) (T := TX12) (N := 64) hx hb hB cx_inX12 hown hK TH hm0 hk0 rfl ⟨by decide, rfl⟩ 27 (by decide) cw_1220 (fun _ h9 => h9) dX12_close_32 (fun hv => ?_)
        rw [hmf12]
        obtain ⟨xi15, hxi15, hxi15a, hxi15b⟩ := tw_rd TH hm0 hk0 (by decide) (by decide) (k := 52) rfl
        have hrow := (hg3 (by rw [tw_fi_of hmf11]; omega))
        have hdl := hg5 (by rw [tw_fi_of hmf11]; omega)
        rw [tw_fi_of hxi15, tw_fi_of hmf12] at hdl
        have hdl0 := hdl.1
        have hdl1 := hdl.2.1
        refine tw_Vc (o := a0) (ci := 12) (n := 2) (post := (fun v kq Lq Eq => v = none ∧ kp = kq ∧ L = Lq ∧ tw_fr kp L [] [326, 327, 328, 329] E9 Eq ∧ (∀ c : Nat, c < 150 → rw_h Eq a0 xi5.toInt c = rw_h E9 a0 (12 : Int32).toInt c ∧ rw_p Eq a0 xi5.toInt c = rw_p E9 a0 (12 : Int32).toInt c) ∧ (ot_ok Eq a0 xi5.toInt E9) ∧ rd_ok Eq a0)) (As := [.int 12, .int xi5]) (rest := []) ⟨hx, hb, hml, hown, hB⟩ (fun sz => tX12_copies l D cs a0 (12 : Int32) xi5 hm0 hk0 (by have : ((12 : Int32).toInt) = 12 := (by decide); omega) (by have : ((12 : Int32).toInt) = 12 := (by decide); omega) (by omega) (by omega) (by have : ((12 : Int32).toInt) = 12 := (by decide); omega) hg0 sz) cg_12_411_X12_copies rfl rfl (by decide +kernel) ⟨Nat.le_of_ble_eq_true rfl, Nat.le_of_ble_eq_true rfl⟩ hK hN TH hS hA rfl hm0 hk0 (by decide) rfl hl.1 rfl (Nat.le_of_ble_eq_true rfl) dX12_close_35 ⟨Nat.le_of_ble_eq_true rfl, Nat.le_of_ble_eq_true rfl⟩ (fun v16 kp16 L16 E16 H locs hq16 hx16 TH hS => ?_)
        obtain ⟨rfl, rfl, rfl, hst16, hpoxc17_0, hpoxc17_1, hgpxc17_0⟩ := hq16
        have hF := hF.tr hst16 (fun _ h => ⟨h, rfl⟩) (by decide) (by decide)
        have hmf18 : tw_fv E16 a0 29 = .int xi1 := (hst16.1 a0 29 hm0 (by rw [hk0]; decide)).trans hmf11
        have hmf19 : tw_fv E16 a0 27 = .int xi5 := (hst16.1 a0 27 hm0 (by rw [hk0]; decide)).trans hmf12
        have hmf20 : tw_fv E16 a0 52 = .int xi15 := (hst16.1 a0 52 hm0 (by rw [hk0]; decide)).trans hxi15
        have hg1_o := hg1
        have hg2_o := hg2
        have hg3_o := hg3
        have hg4_o := hg4
        have hg5_o := hg5
        have hg6_o := hg6
        have hg1 : eo_ok E16 a0 := eo_ok_ot TH hst16 hm0 hk0 (by decide) hpoxc17_1 (by rw [tw_fi_of hmf12]; have e12 : ((12 : Int32).toInt) = 12 := (by decide); omega) hg1_o
        have hg2 : ht_ok E16 a0 := ht_ok_ot hpoxc17_1 (by have e12 : ((12 : Int32).toInt) = 12 := (by decide); omega) hg2_o
        have hg3 : dr_ok E16 a0 := dr_ok_ot hst16 hm0 hk0 (by decide) hpoxc17_1 (by omega) hg3_o
        have hg4 : ln_ok E16 a0 := ln_ok_ot (r := xi5.toInt) TH hst16 hm0 hk0 (by decide) (by decide) hpoxc17_1 (by rw [tw_fi_of hmf12]; omega) hg4_o
        have hg5 : dl_ok E16 a0 := dl_ok_ot (r := xi5.toInt) TH hst16 hm0 hk0 (by decide) hpoxc17_1 (by omega) (by rw [tw_fi_of hmf12]; omega) hg5_o
        have hgn21 : row_ok E16 a0 (xi5.toInt) := (by have e12 : ((12 : Int32).toInt) = 12 := (by decide); have hc := hpoxc17_0; rw [e12] at hc; exact row_copy hrow hc (Int.le_of_eq (tw_fi_fr hst16 hm0 hk0 (k := 26) (by decide)).symm))
        have hgn22 : fx_ok E16 a0 (xi5.toInt) := fx_of_ot hpoxc17_1 (by omega) (tw_fi_of hmf12) hg6
        have hgn23 : r2_ok E16 a0 (xi5.toInt) (xi15.toInt) := (by have e12 : ((12 : Int32).toInt) = 12 := (by decide); have hc := hpoxc17_0; rw [e12] at hc; exact r2_copy hc (hpoxc17_1 (xi15.toInt) (by omega) (by omega) (by omega)) hdl.2.2)
        refine W.eq (g2 := F0 m 38 ls []) rfl ?_
        refine lv_aload_n hx hb dX12_close_38 rfl (lv_at hl 0 rfl) ?_
        refine lv_iconst (v := 0) hx hb dX12_close_39 (by decide) ?_
        refine tw_put (ci := 12) (v := .int 0) (ty := .boolean) (C := RX12) (T := TX12) (N := 64) hx hb hB cx_inX12 tyX12 tyX12_ok nmX12 hown hK TH hS hm0 hk0 rfl ⟨by decide, rfl⟩ 29 (by decide) cw_1222 (fun _ h9 => h9) rfl (by decide +kernel) (by decide) (by decide) ⟨_, rfl, (show 0 ≤ Int32.toInt 0 from by have : ((0 : Int32).toInt) = 0 := (by decide); omega), (show Int32.toInt 0 ≤ 1 from by have : ((0 : Int32).toInt) = 0 := (by decide); omega)⟩ dX12_close_40 (fun H locs E24 TH hS hmf28 hp25 hp26 => ?_)
        have hst27 : tw_fr kp L [(12, 29)] [] E16 E24 := tw_fr.put tw_fr.rf (fun _ => hk0) (by decide) hp25 hp26 (by decide)
        have hF := hF.tr hst27 (fun _ h => ⟨h, rfl⟩) (by decide) (by decide)
        have hmf29 : tw_fv E24 a0 27 = .int xi5 := (hst27.1 a0 27 hm0 (by rw [hk0]; decide)).trans hmf19
        have hmf30 : tw_fv E24 a0 52 = .int xi15 := (hst27.1 a0 52 hm0 (by rw [hk0]; decide)).trans hmf20
        have hg1 : eo_ok E24 a0 := eo_ok_fr TH hst27 hm0 hk0 (by decide) (by decide) hg1
        have hg2 : ht_ok E24 a0 := ht_ok_fr TH hst27 hm0 hk0 (by decide) (by decide) hg2
        have hg4 : ln_ok E24 a0 := ln_ok_fr TH hst27 hm0 hk0 (by decide) (by decide) hg4
        have hgn21 : row_ok E24 a0 (xi5.toInt) := row_ok_fr TH hst27 hm0 hk0 (by decide) (by decide) (by omega) hgn21
        have hgn22 : fx_ok E24 a0 (xi5.toInt) := fx_ok_fr TH hst27 hm0 hk0 (by decide) (by decide) hgn22
        have hgn23 : r2_ok E24 a0 (xi5.toInt) (xi15.toInt) := r2_ok_fr TH hst27 hm0 hk0 (by decide) (by decide) (by omega) hgn23
        have hgpxc17_0 : rd_ok E24 a0 := rd_ok_fr TH hst27 hm0 hk0 (by decide) (by decide) hgpxc17_0
        have hgn31 : dr_ok E24 a0 := (fun hd => absurd hd (by rw [tw_fi_of hmf28]; decide))
        have hgn32 : dl_ok E24 a0 := (fun hd => absurd hd (by rw [tw_fi_of hmf28]; decide))
        refine lv_aload_n hx hb dX12_close_43 rfl (lv_at hl 0 rfl) ?_
        refine lv_aload_n hx hb dX12_close_44 rfl (lv_at hl 0 rfl) ?_
        refine tw_get (ci := 12) (C := RX12) (T := TX12) (N := 64) hx hb hB cx_inX12 hown hK TH hm0 hk0 rfl ⟨by decide, rfl⟩ 27 (by decide) cw_1220 (fun _ h9 => h9) dX12_close_45 (fun hv => ?_)
        rw [hmf29]
        refine tw_Vc (o := a0) (ci := 12) (n := 1) (post := (fun v kq Lq Eq => v = none ∧ kp = kq ∧ L = Lq ∧ tw_fr kp L [] [331, 333] E24 Eq)) (As := [.int xi5]) (rest := []) ⟨hx, hb, hml, hown, hB⟩ (fun sz => tX12_noPending l D cs a0 xi5 hm0 hk0 (by omega) (by omega) sz) cg_12_417_X12_noPending rfl rfl (by decide +kernel) ⟨Nat.le_of_ble_eq_true rfl, Nat.le_of_ble_eq_true rfl⟩ hK hN TH hS hA rfl hm0 hk0 (by decide) rfl hl.1 rfl (Nat.le_of_ble_eq_true rfl) dX12_close_48 ⟨Nat.le_of_ble_eq_true rfl, Nat.le_of_ble_eq_true rfl⟩ (fun v33 kp33 L33 E33 H locs hq33 hx33 TH hS => ?_)
        obtain ⟨rfl, rfl, rfl, hst33⟩ := hq33
        have hF := hF.tr hst33 (fun _ h => ⟨h, rfl⟩) (by decide) (by decide)
        have hmf35 : tw_fv E33 a0 27 = .int xi5 := (hst33.1 a0 27 hm0 (by rw [hk0]; decide)).trans hmf29
        have hmf36 : tw_fv E33 a0 52 = .int xi15 := (hst33.1 a0 52 hm0 (by rw [hk0]; decide)).trans hmf30
        have hmf37 : tw_fv E33 a0 29 = .int 0 := (hst33.1 a0 29 hm0 (by rw [hk0]; decide)).trans hmf28
        have hg1 : eo_ok E33 a0 := eo_ok_fr TH hst33 hm0 hk0 (by decide) (by decide) hg1
        have hg2 : ht_ok E33 a0 := ht_ok_fr TH hst33 hm0 hk0 (by decide) (by decide) hg2
        have hg4 : ln_ok E33 a0 := ln_ok_fr TH hst33 hm0 hk0 (by decide) (by decide) hg4
        have hgn21 : row_ok E33 a0 (xi5.toInt) := row_ok_fr TH hst33 hm0 hk0 (by decide) (by decide) (by omega) hgn21
        have hgn22 : fx_ok E33 a0 (xi5.toInt) := fx_ok_fr TH hst33 hm0 hk0 (by decide) (by decide) hgn22
        have hgn23 : r2_ok E33 a0 (xi5.toInt) (xi15.toInt) := r2_ok_fr TH hst33 hm0 hk0 (by decide) (by decide) (by omega) hgn23
        have hgpxc17_0 : rd_ok E33 a0 := rd_ok_fr TH hst33 hm0 hk0 (by decide) (by decide) hgpxc17_0
        have hgn31 : dr_ok E33 a0 := dr_ok_fr TH hst33 hm0 hk0 (by decide) (by decide) hgn31
        have hgn32 : dl_ok E33 a0 := dl_ok_fr TH hst33 hm0 hk0 (by decide) (by decide) hgn32
        refine W.eq (g2 := F0 m 51 ls []) rfl ?_
        refine lv_aload_n hx hb dX12_close_51 rfl (lv_at hl 0 rfl) ?_
        refine lv_aload_n hx hb dX12_close_52 rfl (lv_at hl 0 rfl) ?_
        refine tw_get (ci := 12) (C := RX12) (T := TX12) (N := 64) hx hb hB cx_inX12 hown hK TH hm0 hk0 rfl ⟨by decide, rfl⟩ 52 (by decide) cw_1245 (fun _ h9 => h9) dX12_close_53 (fun hv => ?_)
        rw [hmf36]
        refine lv_iconst (v := (-1)) hx hb dX12_close_56 (by decide) ?_
        refine tw_Vc (o := a0) (ci := 12) (n := 2) (post := (fun v kq Lq Eq => (∃ x : Int32, v = some (.int x) ∧ 0 ≤ x.toInt ∧ x.toInt ≤ 11 ∧ (x.toInt = xi5.toInt) ∧ (∀ j : Nat, tw_el Eq a0 24 j = if j = (xi5.toInt).toNat then xi15.toInt else tw_el E33 a0 24 j) ∧ (∀ j : Nat, tw_el Eq a0 25 j = if j = (xi5.toInt).toNat then ((-1) : Int32).toInt else tw_el E33 a0 25 j) ∧ (∃ z0 : Int32, tw_fv Eq a0 27 = .int z0 ∧ (z0.toInt = xi5.toInt + 1))) ∧ kp = kq ∧ L = Lq ∧ tw_fr kp L [(12, 27)] [334, 335] E33 Eq)) (As := [.int xi15, .int (-1)]) (rest := []) ⟨hx, hb, hml, hown, hB⟩ (fun sz => tX12_edition l D cs a0 xi15 ((-1) : Int32) xi5 hm0 hk0 (by omega) (by omega) (by have : (((-1) : Int32).toInt) = (-1) := (by decide); omega) (by have : (((-1) : Int32).toInt) = (-1) := (by decide); omega) hmf35 (by have : (((-1) : Int32).toInt) = (-1) := (by decide); omega) sz) cg_12_345_X12_edition rfl rfl (by decide +kernel) ⟨Nat.le_of_ble_eq_true rfl, Nat.le_of_ble_eq_true rfl⟩ hK hN TH hS hA rfl hm0 hk0 (by decide) rfl hl.1 rfl (Nat.le_of_ble_eq_true rfl) dX12_close_57 ⟨Nat.le_of_ble_eq_true rfl, Nat.le_of_ble_eq_true rfl⟩ (fun v38 kp38 L38 E38 H locs hq38 hx38 TH hS => ?_)
        obtain ⟨⟨xc39, rfl, hxc39a, hxc39b, hpoxc39_0, hpoxc39_1, hpoxc39_2, ⟨zfxc39_0_0, hzfxc39_0_0, hzpxc39_0⟩⟩, rfl, rfl, hst38⟩ := hq38
        have hF := hF.tr hst38 (fun _ h => ⟨h, rfl⟩) (by decide) (by decide)
        have hmf40 : tw_fv E38 a0 52 = .int xi15 := (hst38.1 a0 52 hm0 (by rw [hk0]; decide)).trans hmf36
        have hmf41 : tw_fv E38 a0 29 = .int 0 := (hst38.1 a0 29 hm0 (by rw [hk0]; decide)).trans hmf37
        have hg1_o := hg1
        have hg2_o := hg2
        have hg4_o := hg4
        have hgn21_o := hgn21
        have hgn22_o := hgn22
        have hgn23_o := hgn23
        have hgpxc17_0_o := hgpxc17_0
        have hgn31_o := hgn31
        have hgn32_o := hgn32
        have hg1 : eo_ok E38 a0 := eo_ok_inc (r := xi5.toInt) TH hst38 hm0 hk0 (by decide) (by decide) (tw_fi_of hmf35) (by rw [tw_fi_of hzfxc39_0_0]; omega) hgn21_o hg1_o
        have hg2 : ht_ok E38 a0 := ht_ok_fr TH hst38 hm0 hk0 (by decide) (by decide) hg2
        have hg4 : ln_ok E38 a0 := (by have hrr := hgn23_o; refine ln_ok_inc (r := xi5.toInt) TH hst38 hm0 hk0 (by decide) (by decide) (tw_fi_of hmf35) (by rw [tw_fi_of hzfxc39_0_0]; omega) (fun f hf j hj => ?_) (fun f hf => ?_) hg4_o; (have hf : f = 24 ∨ f = 25 := (by simpa using hf); rcases hf with rfl | rfl; (rw [hpoxc39_1, if_neg (by omega)]); (rw [hpoxc39_2, if_neg (by omega)])); (have hf : f = 24 ∨ f = 25 := (by simpa using hf); rcases hf with rfl | rfl; (rw [hpoxc39_1, if_pos rfl]; exact Or.inr ⟨by omega, by omega, hrr⟩); (rw [hpoxc39_2, if_pos rfl]; exact Or.inl (by decide))))
        have hgn21 : row_ok E38 a0 (xi5.toInt) := row_ok_fr TH hst38 hm0 hk0 (by decide) (by decide) (by omega) hgn21
        have hgn22 : fx_ok E38 a0 (xi5.toInt) := fx_ok_fr TH hst38 hm0 hk0 (by decide) (by decide) hgn22
        have hgn23 : r2_ok E38 a0 (xi5.toInt) (xi15.toInt) := r2_ok_fr TH hst38 hm0 hk0 (by decide) (by decide) (by omega) hgn23
        have hgpxc17_0 : rd_ok E38 a0 := rd_ok_fr TH hst38 hm0 hk0 (by decide) (by decide) hgpxc17_0
        have hgn31 : dr_ok E38 a0 := dr_ok_fr TH hst38 hm0 hk0 (by decide) (by decide) hgn31
        have hgn32 : dl_ok E38 a0 := (fun hd => absurd hd (by rw [tw_fi_fr hst38 hm0 hk0 (k := 29) (by decide), tw_fi_of hmf37]; decide))
        have hgn42 : fw_ok E38 a0 := fw_of_fx (by rw [tw_fi_of hzfxc39_0_0]; omega) hgn22
        obtain ⟨qzfxc39_0_0, hqzfxc39_0_0, hqzfxc39_0_0a, hqzfxc39_0_0b⟩ := tw_rd TH hm0 hk0 (by decide) (by decide) (k := 27) rfl
        have eqzfxc39_0_0 : qzfxc39_0_0 = zfxc39_0_0 := by have q := hqzfxc39_0_0.symm.trans hzfxc39_0_0; injection q
        rw [eqzfxc39_0_0] at hqzfxc39_0_0a hqzfxc39_0_0b
        refine W.eq (g2 := F0 m 60 ls [.int xc39]) rfl ?_
        exact tw_iret hx hb hr hlocks TH hS hex ⟨⟨_, rfl, hgpxc17_0, hg1, hg2, hgn31, hg4, hgn32, hgn42⟩, rfl, rfl, hF⟩ (Nat.le_of_ble_eq_true rfl) (Nat.le_of_ble_eq_true rfl) dX12_close_60
      · have hf43 : ¬ (xc10.toInt = (-1)) := fun q => hc13 ((fa_eq _ _).mpr (by have : (((-1) : Int32).toInt) = (-1) := (by decide); omega))
        refine lv_iconst (v := (-1)) hx hb dX12_close_26 (by decide) ?_
        exact tw_iret hx hb hr hlocks TH hS hex ⟨⟨_, rfl, hg0, hg1, hg2, hg3, hg4, hg5, hg6⟩, rfl, rfl, hF⟩ (Nat.le_of_ble_eq_true rfl) (Nat.le_of_ble_eq_true rfl) dX12_close_27
set_option maxHeartbeats 4000000 in
set_option maxRecDepth 100000 in
theorem tX12_baseRow (l : Launch) (D : va_G) (cs : Nat → ClassId) {kp : Nat → Nat} {L : List Nat} {E : Nat → va_E} (a0 : Nat) (x1 : Int32) (x2 : Int32) (fv0_27 : Int32) (hm0 : a0 ∈ L) (hk0 : kp a0 = 12) (hp1a : 0 ≤ x1.toInt) (hp1b : x1.toInt ≤ 11) (hp2a : 0 ≤ x2.toInt) (hp2b : x2.toInt ≤ 11) (hfv0_27 : tw_fv E a0 27 = .int fv0_27) (hpre0 : x1.toInt < fv0_27.toInt) (hpre1 : x2.toInt < fv0_27.toInt) (hg0 : rd_ok E a0) (hg1 : eo_ok E a0) (hg2 : ht_ok E a0) (hg3 : dr_ok E a0) (hg4 : ln_ok E a0) (hg5 : dl_ok E a0) (hg6 : fw_ok E a0) (sz : Nat) : Met l yX12_baseRow (.code yX12_baseRow cX12_baseRow 9 (some .int) :: cx_big) { frames := 14, cells := 0, slots := 0, locals := 313 } (tw_P D cs kp L E [.ref a0, .int x1, .int x2] sz) (tw_Q D cs kp L (fun v kq Lq Eq => (∃ x : Int32, v = some (.int x) ∧ (-1) ≤ x.toInt ∧ x.toInt ≤ 14 ∧ (x.toInt ≠ 12 ∧ x.toInt ≠ 13) ∧ (x.toInt < 12 → x.toInt < fv0_27.toInt) ∧ (x.toInt ≠ -1 → r2_ok Eq a0 x1.toInt x2.toInt) ∧ rd_ok Eq a0 ∧ eo_ok Eq a0 ∧ ht_ok Eq a0 ∧ dr_ok Eq a0 ∧ ln_ok Eq a0 ∧ dl_ok Eq a0 ∧ fw_ok Eq a0) ∧ kp = kq ∧ L = Lq ∧ tw_fr kp L [(12, 57)] [326, 327, 328, 329, 348, 349, 359, 363, 364, 365] E Eq) (va_A (va_pl L E) sz)) 0 0 (va_A (va_pl L E) sz) := by
  refine tw_ofW (by decide) (Nat.le_of_ble_eq_true rfl) ?_
  intro p e s m below meth c A ls hx hb hr hml hB hown hlocks hK hN hA TH hS hl
  have hown : s.vm.findClass "TreeMergeModel" = some m.cls := hown
  have hl : lv_has ls 9 [(0, .ref a0), (1, .int x1), (2, .int x2)] := hl
  obtain ⟨kp0, ekp⟩ : ∃ z, z = kp := ⟨_, rfl⟩
  obtain ⟨L0, eL⟩ : ∃ z, z = L := ⟨_, rfl⟩
  rw [show tw_Q D cs kp L = tw_Q D cs kp0 L0 by rw [ekp, eL]]
  have hex : ∀ a : Nat, a ∈ L0 → a ∈ L ∧ kp a = kp0 a := fun a h => ⟨by rw [← eL]; exact h, by rw [ekp]⟩
  have hF : tw_fr kp L [(12, 57)] [326, 327, 328, 329, 348, 349, 359, 363, 364, 365] E E := tw_fr.rf
  obtain ⟨qfv0_27, hqfv0_27, hqfv0_27a, hqfv0_27b⟩ := tw_rd TH hm0 hk0 (by decide) (by decide) (k := 27) rfl
  have eqfv0_27 : qfv0_27 = fv0_27 := by have q := hqfv0_27.symm.trans hfv0_27; injection q
  rw [eqfv0_27] at hqfv0_27a hqfv0_27b
  refine lv_aload_n hx hb dX12_baseRow_0 rfl (lv_at hl 0 rfl) ?_
  refine lv_iload_n hx hb dX12_baseRow_1 rfl (lv_at hl 1 rfl) ?_
  refine lv_iload_n hx hb dX12_baseRow_2 rfl (lv_at hl 2 rfl) ?_
  refine lv_iconst (v := 0) hx hb dX12_baseRow_3 (by decide) ?_
  refine tw_Vc (o := a0) (ci := 12) (n := 3) (post := (fun v kq Lq Eq => (∃ x : Int32, v = some (.int x) ∧ (-1) ≤ x.toInt ∧ x.toInt ≤ 11 ∧ (x.toInt < fv0_27.toInt ∧ (x.toInt ≠ -1 → r2_ok E a0 x1.toInt x.toInt ∧ r2_ok E a0 x2.toInt x.toInt))) ∧ kp = kq ∧ L = Lq ∧ E = Eq)) (As := [.int x1, .int x2, .int 0]) (rest := []) ⟨hx, hb, hml, hown, hB⟩ (fun sz => tX12_nthBase l D cs a0 x1 x2 (0 : Int32) fv0_27 hm0 hk0 (by omega) (by omega) (by omega) (by omega) (by have : ((0 : Int32).toInt) = 0 := (by decide); omega) (by have : ((0 : Int32).toInt) = 0 := (by decide); omega) hfv0_27 (by have : ((0 : Int32).toInt) = 0 := (by decide); omega) (by have : ((0 : Int32).toInt) = 0 := (by decide); omega) hg1 hg4 sz) cg_12_518_X12_nthBase rfl rfl (by decide +kernel) ⟨Nat.le_of_ble_eq_true rfl, Nat.le_of_ble_eq_true rfl⟩ hK hN TH hS hA rfl hm0 hk0 (by decide) rfl hl.1 rfl (Nat.le_of_ble_eq_true rfl) dX12_baseRow_4 ⟨Nat.le_of_ble_eq_true rfl, Nat.le_of_ble_eq_true rfl⟩ (fun v1 kp1 L1 E1 H locs hq1 hx1 TH hS => ?_)
  obtain ⟨⟨xc2, rfl, hxc2a, hxc2b, hpoxc2_0⟩, rfl, rfl, rfl⟩ := hq1
  refine W.eq (g2 := F0 m 7 ls [.int xc2]) rfl ?_
  refine lv_istore_n (lv' := [(3, .int xc2), (0, .ref a0), (1, .int x1), (2, .int x2)]) hx hb dX12_baseRow_7 rfl hl (by decide) rfl (fun ls hl => ?_)
  refine lv_aload_n hx hb dX12_baseRow_8 rfl (lv_at hl 1 rfl) ?_
  refine lv_iload_n hx hb dX12_baseRow_9 rfl (lv_at hl 2 rfl) ?_
  refine lv_iload_n hx hb dX12_baseRow_10 rfl (lv_at hl 3 rfl) ?_
  refine lv_iconst (v := 1) hx hb dX12_baseRow_11 (by decide) ?_
  refine tw_Vc (o := a0) (ci := 12) (n := 3) (post := (fun v kq Lq Eq => (∃ x : Int32, v = some (.int x) ∧ (-1) ≤ x.toInt ∧ x.toInt ≤ 11 ∧ (x.toInt < fv0_27.toInt ∧ (x.toInt ≠ -1 → r2_ok E a0 x1.toInt x.toInt ∧ r2_ok E a0 x2.toInt x.toInt))) ∧ kp = kq ∧ L = Lq ∧ E = Eq)) (As := [.int x1, .int x2, .int 1]) (rest := []) ⟨hx, hb, hml, hown, hB⟩ (fun sz => tX12_nthBase l D cs a0 x1 x2 (1 : Int32) fv0_27 hm0 hk0 (by omega) (by omega) (by omega) (by omega) (by have : ((1 : Int32).toInt) = 1 := (by decide); omega) (by have : ((1 : Int32).toInt) = 1 := (by decide); omega) hfv0_27 (by have : ((1 : Int32).toInt) = 1 := (by decide); omega) (by have : ((1 : Int32).toInt) = 1 := (by decide); omega) hg1 hg4 sz) cg_12_518_X12_nthBase rfl rfl (by decide +kernel) ⟨Nat.le_of_ble_eq_true rfl, Nat.le_of_ble_eq_true rfl⟩ hK hN TH hS hA rfl hm0 hk0 (by decide) rfl hl.1 rfl (Nat.le_of_ble_eq_true rfl) dX12_baseRow_12 ⟨Nat.le_of_ble_eq_true rfl, Nat.le_of_ble_eq_true rfl⟩ (fun v3 kp3 L3 E3 H locs hq3 hx3 TH hS => ?_)
  obtain ⟨⟨xc4, rfl, hxc4a, hxc4b, hpoxc4_0⟩, rfl, rfl, rfl⟩ := hq3
  refine W.eq (g2 := F0 m 15 ls [.int xc4]) rfl ?_
  refine lv_istore (lv' := [(4, .int xc4), (3, .int xc2), (0, .ref a0), (1, .int x1), (2, .int x2)]) hx hb dX12_baseRow_15 hl (by decide) rfl (fun ls hl => ?_)
  have hrr : xc2.toInt ≠ -1 → r2_ok E a0 (x1.toInt) (x2.toInt) := fun q => r2_tr (hg1 (xc2.toInt) (by omega) (by rw [tw_fi_of hfv0_27]; have w := hpoxc2_0.1; omega)).1 (hpoxc2_0.2 q).1 (r2_sy (hpoxc2_0.2 q).2)
  refine lv_iload_n hx hb dX12_baseRow_17 rfl (lv_at hl 1 rfl) ?_
  refine lv_iconst (v := (-1)) hx hb dX12_baseRow_18 (by decide) ?_
  refine lv_icmp_eq (tgt := 28) hx hb dX12_baseRow_19 (by decide) (fun hc5 => ?_) (fun hc5 => ?_)
  · have hf6 : xc2.toInt = (-1) := by have z := (fa_eq _ _).mp hc5; have : (((-1) : Int32).toInt) = (-1) := (by decide); omega
    refine lv_iload_n hx hb dX12_baseRow_28 rfl (lv_at hl 1 rfl) ?_
    exact tw_iret hx hb hr hlocks TH hS hex ⟨⟨_, rfl, (show (-1) ≤ Int32.toInt xc2 from by  omega), (show Int32.toInt xc2 ≤ 14 from by  omega), (by  omega), (by  omega), (by  intro q; exact hrr (by omega)), hg0, hg1, hg2, hg3, hg4, hg5, hg6⟩, rfl, rfl, hF⟩ (Nat.le_of_ble_eq_true rfl) (Nat.le_of_ble_eq_true rfl) dX12_baseRow_29
  · have hf7 : ¬ (xc2.toInt = (-1)) := fun q => hc5 ((fa_eq _ _).mpr (by have : (((-1) : Int32).toInt) = (-1) := (by decide); omega))
    refine lv_iload hx hb dX12_baseRow_22 (lv_at hl 0 rfl) ?_
    refine lv_iconst (v := (-1)) hx hb dX12_baseRow_24 (by decide) ?_
    refine lv_icmp_ne (tgt := 30) hx hb dX12_baseRow_25 (by decide) (fun hc8 => ?_) (fun hc8 => ?_)
    · have hf9 : ¬ (xc4.toInt = (-1)) := fun q => hc8 ((fa_eq _ _).mpr (by have : (((-1) : Int32).toInt) = (-1) := (by decide); omega))
      have hr2g : r2_ok E a0 (x1.toInt) (x2.toInt) := hrr (by omega)
      refine lv_aload_n hx hb dX12_baseRow_30 rfl (lv_at hl 2 rfl) ?_
      refine lv_iload_n hx hb dX12_baseRow_31 rfl (lv_at hl 1 rfl) ?_
      refine lv_iload hx hb dX12_baseRow_32 (lv_at hl 0 rfl) ?_
      refine lv_iconst (v := 0) hx hb dX12_baseRow_34 (by decide) ?_
      refine tw_Vc (o := a0) (ci := 12) (n := 3) (post := (fun v kq Lq Eq => (∃ x : Int32, v = some (.int x) ∧ (-1) ≤ x.toInt ∧ x.toInt ≤ 11 ∧ (x.toInt < fv0_27.toInt ∧ (x.toInt ≠ -1 → r2_ok E a0 xc2.toInt x.toInt ∧ r2_ok E a0 xc4.toInt x.toInt))) ∧ kp = kq ∧ L = Lq ∧ E = Eq)) (As := [.int xc2, .int xc4, .int 0]) (rest := []) ⟨hx, hb, hml, hown, hB⟩ (fun sz => tX12_nthBase l D cs a0 xc2 xc4 (0 : Int32) fv0_27 hm0 hk0 (by omega) (by omega) (by omega) (by omega) (by have : ((0 : Int32).toInt) = 0 := (by decide); omega) (by have : ((0 : Int32).toInt) = 0 := (by decide); omega) hfv0_27 (by have : ((0 : Int32).toInt) = 0 := (by decide); omega) (by have : ((0 : Int32).toInt) = 0 := (by decide); omega) hg1 hg4 sz) cg_12_518_X12_nthBase rfl rfl (by decide +kernel) ⟨Nat.le_of_ble_eq_true rfl, Nat.le_of_ble_eq_true rfl⟩ hK hN TH hS hA rfl hm0 hk0 (by decide) rfl hl.1 rfl (Nat.le_of_ble_eq_true rfl) dX12_baseRow_35 ⟨Nat.le_of_ble_eq_true rfl, Nat.le_of_ble_eq_true rfl⟩ (fun v10 kp10 L10 E10 H locs hq10 hx10 TH hS => ?_)
      obtain ⟨⟨xc11, rfl, hxc11a, hxc11b, hpoxc11_0⟩, rfl, rfl, rfl⟩ := hq10
      refine W.eq (g2 := F0 m 38 ls [.int xc11]) rfl ?_
      refine lv_istore (lv' := [(5, .int xc11), (4, .int xc4), (3, .int xc2), (0, .ref a0), (1, .int x1), (2, .int x2)]) hx hb dX12_baseRow_38 hl (by decide) rfl (fun ls hl => ?_)
      refine lv_iload hx hb dX12_baseRow_40 (lv_at hl 0 rfl) ?_
      refine lv_iconst (v := (-1)) hx hb dX12_baseRow_42 (by decide) ?_
      refine lv_icmp_eq (tgt := 58) hx hb dX12_baseRow_43 (by decide) (fun hc12 => ?_) (fun hc12 => ?_)
      · have hf13 : xc11.toInt = (-1) := by have z := (fa_eq _ _).mp hc12; have : (((-1) : Int32).toInt) = (-1) := (by decide); omega
        refine lv_iconst (v := (-1)) hx hb dX12_baseRow_58 (by decide) ?_
        exact tw_iret hx hb hr hlocks TH hS hex ⟨⟨_, rfl, (show (-1) ≤ Int32.toInt (-1) from by have : (((-1) : Int32).toInt) = (-1) := (by decide); omega), (show Int32.toInt (-1) ≤ 14 from by have : (((-1) : Int32).toInt) = (-1) := (by decide); omega), (by have : (((-1) : Int32).toInt) = (-1) := (by decide); omega), (by have : (((-1) : Int32).toInt) = (-1) := (by decide); omega), (by have : (((-1) : Int32).toInt) = (-1) := (by decide); intro q; exfalso; exact q (by decide)), hg0, hg1, hg2, hg3, hg4, hg5, hg6⟩, rfl, rfl, hF⟩ (Nat.le_of_ble_eq_true rfl) (Nat.le_of_ble_eq_true rfl) dX12_baseRow_59
      · have hf14 : ¬ (xc11.toInt = (-1)) := fun q => hc12 ((fa_eq _ _).mpr (by have : (((-1) : Int32).toInt) = (-1) := (by decide); omega))
        refine lv_aload_n hx hb dX12_baseRow_46 rfl (lv_at hl 3 rfl) ?_
        refine lv_iload_n hx hb dX12_baseRow_47 rfl (lv_at hl 2 rfl) ?_
        refine lv_iload hx hb dX12_baseRow_48 (lv_at hl 1 rfl) ?_
        refine lv_iconst (v := 1) hx hb dX12_baseRow_50 (by decide) ?_
        refine tw_Vc (o := a0) (ci := 12) (n := 3) (post := (fun v kq Lq Eq => (∃ x : Int32, v = some (.int x) ∧ (-1) ≤ x.toInt ∧ x.toInt ≤ 11 ∧ (x.toInt < fv0_27.toInt ∧ (x.toInt ≠ -1 → r2_ok E a0 xc2.toInt x.toInt ∧ r2_ok E a0 xc4.toInt x.toInt))) ∧ kp = kq ∧ L = Lq ∧ E = Eq)) (As := [.int xc2, .int xc4, .int 1]) (rest := []) ⟨hx, hb, hml, hown, hB⟩ (fun sz => tX12_nthBase l D cs a0 xc2 xc4 (1 : Int32) fv0_27 hm0 hk0 (by omega) (by omega) (by omega) (by omega) (by have : ((1 : Int32).toInt) = 1 := (by decide); omega) (by have : ((1 : Int32).toInt) = 1 := (by decide); omega) hfv0_27 (by have : ((1 : Int32).toInt) = 1 := (by decide); omega) (by have : ((1 : Int32).toInt) = 1 := (by decide); omega) hg1 hg4 sz) cg_12_518_X12_nthBase rfl rfl (by decide +kernel) ⟨Nat.le_of_ble_eq_true rfl, Nat.le_of_ble_eq_true rfl⟩ hK hN TH hS hA rfl hm0 hk0 (by decide) rfl hl.1 rfl (Nat.le_of_ble_eq_true rfl) dX12_baseRow_51 ⟨Nat.le_of_ble_eq_true rfl, Nat.le_of_ble_eq_true rfl⟩ (fun v15 kp15 L15 E15 H locs hq15 hx15 TH hS => ?_)
        obtain ⟨⟨xc16, rfl, hxc16a, hxc16b, hpoxc16_0⟩, rfl, rfl, rfl⟩ := hq15
        refine W.eq (g2 := F0 m 54 ls [.int xc16]) rfl ?_
        refine lv_iconst (v := (-1)) hx hb dX12_baseRow_54 (by decide) ?_
        refine lv_icmp_eq (tgt := 60) hx hb dX12_baseRow_55 (by decide) (fun hc17 => ?_) (fun hc17 => ?_)
        · have hf18 : xc16.toInt = (-1) := by have z := (fa_eq _ _).mp hc17; have : (((-1) : Int32).toInt) = (-1) := (by decide); omega
          refine lv_aload_n hx hb dX12_baseRow_60 rfl (lv_at hl 3 rfl) ?_
          refine tw_get (ci := 12) (C := RX12) (T := TX12) (N := 64) hx hb hB cx_inX12 hown hK TH hm0 hk0 rfl ⟨by decide, rfl⟩ 57 (by decide) cw_1250 (fun _ h9 => h9) dX12_baseRow_61 (fun hv => ?_)
          obtain ⟨xi19, hxi19, hxi19a, hxi19b⟩ : ∃ x : Int32, tw_fv E a0 57 = .int x ∧ 0 ≤ x.toInt ∧ x.toInt ≤ 1200 := hv
          rw [hxi19]
          refine lv_istore (lv' := [(6, .int xi19), (5, .int xc11), (4, .int xc4), (3, .int xc2), (0, .ref a0), (1, .int x1), (2, .int x2)]) hx hb dX12_baseRow_64 hl (by decide) rfl (fun ls hl => ?_)
          refine lv_iconst (v := 0) hx hb dX12_baseRow_66 (by decide) ?_
          refine lv_istore (lv' := [(7, .int 0), (6, .int xi19), (5, .int xc11), (4, .int xc4), (3, .int xc2), (0, .ref a0), (1, .int x1), (2, .int x2)]) hx hb dX12_baseRow_67 hl (by decide) rfl (fun ls hl => ?_)
          have hJ69 : ∀ (n69 : Nat) (y69_7 : Int32) (Eg69 : Nat → va_E) (H : Heap) (locs : List Loc) (ls : Array Slot), 0 ≤ y69_7.toInt → y69_7.toInt ≤ 1600 → 1200 - y69_7.toInt ≤ (n69 : Int) → tw_fr kp L [] [365] E Eg69 → rd_ok Eg69 a0 → eo_ok Eg69 a0 → ht_ok Eg69 a0 → dr_ok Eg69 a0 → ln_ok Eg69 a0 → dl_ok Eg69 a0 → fw_ok Eg69 a0 → r2_ok Eg69 a0 (x1.toInt) (x2.toInt) → tw_H D cs kp L Eg69 A H → va_S A s.heap H locs → lv_has ls 9 [(7, .int y69_7), (6, .int xi19), (5, .int xc11), (4, .int xc4), (3, .int xc2), (0, .ref a0)] → W p l e { frames := 14, cells := 0, slots := 0, locals := 313 } s m [.ref a0, .int x1, .int x2].toArray below meth c H locs 0 0 (MQ below (tw_Q D cs kp0 L0 (fun v kq Lq Eq => (∃ x : Int32, v = some (.int x) ∧ (-1) ≤ x.toInt ∧ x.toInt ≤ 14 ∧ (x.toInt ≠ 12 ∧ x.toInt ≠ 13) ∧ (x.toInt < 12 → x.toInt < fv0_27.toInt) ∧ (x.toInt ≠ -1 → r2_ok Eq a0 x1.toInt x2.toInt) ∧ rd_ok Eq a0 ∧ eo_ok Eq a0 ∧ ht_ok Eq a0 ∧ dr_ok Eq a0 ∧ ln_ok Eq a0 ∧ dl_ok Eq a0 ∧ fw_ok Eq a0) ∧ kp = kq ∧ L = Lq ∧ tw_fr kp L [(12, 57)] [326, 327, 328, 329, 348, 349, 359, 363, 364, 365] E Eq) A) [.ref a0, .int x1, .int x2].toArray s 0 0 A) (F0 m 69 ls []) := by
            intro n69
            induction n69 using Nat.strongRecOn with
            | _ n69 ih69 =>
              intro y69_7 Eg69 H locs ls hy69_7a hy69_7b hmeas69 hG69 hcg69_0 hcg69_1 hcg69_2 hcg69_3 hcg69_4 hcg69_5 hcg69_6 hcg69_7 TH hS hl
              have hF := hF.tr hG69 (fun _ h => ⟨h, rfl⟩) (by decide) (by decide)
              have hmf20 : tw_fv Eg69 a0 27 = .int fv0_27 := (hG69.1 a0 27 hm0 (by rw [hk0]; decide)).trans hfv0_27
              have hmf21 : tw_fv Eg69 a0 57 = .int xi19 := (hG69.1 a0 57 hm0 (by rw [hk0]; decide)).trans hxi19
              refine lv_iload hx hb dX12_baseRow_69 (lv_at hl 0 rfl) ?_
              refine lv_iload hx hb dX12_baseRow_71 (lv_at hl 1 rfl) ?_
              refine lv_icmp_ge (tgt := 96) hx hb dX12_baseRow_73 (by decide) (fun hc22 => ?_) (fun hc22 => ?_)
              · have hf23 : xi19.toInt ≤ y69_7.toInt := by have z := (fa_le _ _).mp hc22;  omega
                refine lv_aload_n hx hb dX12_baseRow_96 rfl (lv_at hl 5 rfl) ?_
                refine lv_iload_n hx hb dX12_baseRow_97 rfl (lv_at hl 4 rfl) ?_
                refine lv_iload hx hb dX12_baseRow_98 (lv_at hl 3 rfl) ?_
                refine lv_iload hx hb dX12_baseRow_100 (lv_at hl 2 rfl) ?_
                refine tw_Vc (o := a0) (ci := 12) (n := 3) (post := (fun v kq Lq Eq => (∃ x : Int32, v = some (.int x) ∧ 0 ≤ x.toInt ∧ x.toInt ≤ 1 ∧ (ot_ok Eq a0 13 Eg69) ∧ (x.toInt ≠ 0 → r2_ok Eg69 a0 xc2.toInt xc4.toInt → row_ok Eq a0 13) ∧ (x.toInt ≠ 0 → r2_ok Eg69 a0 xc2.toInt xc4.toInt → r2_ok Eq a0 13 xc2.toInt ∧ r2_ok Eq a0 13 xc4.toInt) ∧ rd_ok Eq a0 ∧ ht_ok Eq a0) ∧ kp = kq ∧ L = Lq ∧ tw_fr kp L [(12, 57)] [326, 327, 328, 329, 348, 349, 359, 363, 364] Eg69 Eq)) (As := [.int xc2, .int xc4, .int xc11]) (rest := []) ⟨hx, hb, hml, hown, hB⟩ (fun sz => tX12_merges l D cs a0 xc2 xc4 xc11 hm0 hk0 (by omega) (by omega) (by omega) (by omega) (by omega) (by omega) (by  omega) (by  omega) (by  omega) (hcg69_1 (xc2.toInt) (by omega) (by rw [tw_fi_of hmf20]; omega)) (hcg69_1 (xc4.toInt) (by omega) (by rw [tw_fi_of hmf20]; omega)) hcg69_0 hcg69_2 sz) cg_12_521_X12_merges rfl rfl (by decide +kernel) ⟨Nat.le_of_ble_eq_true rfl, Nat.le_of_ble_eq_true rfl⟩ hK hN TH hS hA rfl hm0 hk0 (by decide) rfl hl.1 rfl (Nat.le_of_ble_eq_true rfl) dX12_baseRow_102 ⟨Nat.le_of_ble_eq_true rfl, Nat.le_of_ble_eq_true rfl⟩ (fun v24 kp24 L24 E24 H locs hq24 hx24 TH hS => ?_)
                obtain ⟨⟨xc25, rfl, hxc25a, hxc25b, hpoxc25_0, hpoxc25_1, hpoxc25_2, hgpxc25_0, hgpxc25_1⟩, rfl, rfl, hst24⟩ := hq24
                have hF := hF.tr hst24 (fun _ h => ⟨h, rfl⟩) (by decide) (by decide)
                have hmf26 : tw_fv E24 a0 27 = .int fv0_27 := (hst24.1 a0 27 hm0 (by rw [hk0]; decide)).trans hmf20
                have hcg69_1_o := hcg69_1
                have hcg69_3_o := hcg69_3
                have hcg69_4_o := hcg69_4
                have hcg69_5_o := hcg69_5
                have hcg69_6_o := hcg69_6
                have hcg69_7_o := hcg69_7
                have hcg69_1 : eo_ok E24 a0 := eo_ok_ot (r := 13) TH hst24 hm0 hk0 (by decide) (by have e14 : ((14 : Int32).toInt) = 14 := (by decide); have q := hpoxc25_0; (try rw [e14] at q); exact q) (by rw [tw_fi_of hmf20]; omega) hcg69_1_o
                have hcg69_3 : dr_ok E24 a0 := dr_ok_ot (r := 13) hst24 hm0 hk0 (by decide) (by have e14 : ((14 : Int32).toInt) = 14 := (by decide); have q := hpoxc25_0; (try rw [e14] at q); exact q) (by decide) hcg69_3_o
                have hcg69_4 : ln_ok E24 a0 := ln_ok_ot (r := 13) TH hst24 hm0 hk0 (by decide) (by decide) (by have e14 : ((14 : Int32).toInt) = 14 := (by decide); have q := hpoxc25_0; (try rw [e14] at q); exact q) (by rw [tw_fi_of hmf20]; omega) hcg69_4_o
                have hcg69_5 : dl_ok E24 a0 := dl_ok_ot (r := 13) TH hst24 hm0 hk0 (by decide) (by have e14 : ((14 : Int32).toInt) = 14 := (by decide); have q := hpoxc25_0; (try rw [e14] at q); exact q) (by decide) (by rw [tw_fi_of hmf20]; omega) hcg69_5_o
                have hcg69_6 : fw_ok E24 a0 := fw_ok_ot (r := 13) TH hst24 hm0 hk0 (by decide) (by have e14 : ((14 : Int32).toInt) = 14 := (by decide); have q := hpoxc25_0; (try rw [e14] at q); exact q) (by decide) hcg69_6_o
                have hcg69_7 : r2_ok E24 a0 (x1.toInt) (x2.toInt) := r2_ot (r := 13) (by have e14 : ((14 : Int32).toInt) = 14 := (by decide); have q := hpoxc25_0; (try rw [e14] at q); exact q) (by omega) (by omega) (by omega) (by omega) (by omega) (by omega) hcg69_7_o
                refine W.eq (g2 := F0 m 105 ls [.int xc25]) rfl ?_
                refine lv_istore (lv' := [(7, .int xc25), (6, .int xi19), (5, .int xc11), (4, .int xc4), (3, .int xc2), (0, .ref a0)]) hx hb dX12_baseRow_105 hl (by decide) rfl (fun ls hl => ?_)
                refine lv_aload_n hx hb dX12_baseRow_107 rfl (lv_at hl 5 rfl) ?_
                refine lv_iload hx hb dX12_baseRow_108 (lv_at hl 1 rfl) ?_
                refine tw_put (ci := 12) (v := .int xi19) (ty := .int) (C := RX12) (T := TX12) (N := 64) hx hb hB cx_inX12 tyX12 tyX12_ok nmX12 hown hK TH hS hm0 hk0 rfl ⟨by decide, rfl⟩ 57 (by decide) cw_1250 (fun _ h9 => h9) rfl (by decide +kernel) rfl rfl ⟨_, rfl, (show 0 ≤ Int32.toInt xi19 from by  omega), (show Int32.toInt xi19 ≤ 1200 from by  omega)⟩ dX12_baseRow_110 (fun H locs E27 TH hS hmf31 hp28 hp29 => ?_)
                have hst30 : tw_fr kp L [(12, 57)] [] E24 E27 := tw_fr.put tw_fr.rf (fun _ => hk0) (by decide) hp28 hp29 (by decide)
                have hF := hF.tr hst30 (fun _ h => ⟨h, rfl⟩) (by decide) (by decide)
                have hmf32 : tw_fv E27 a0 27 = .int fv0_27 := (hst30.1 a0 27 hm0 (by rw [hk0]; decide)).trans hmf26
                have hcg69_1 : eo_ok E27 a0 := eo_ok_fr TH hst30 hm0 hk0 (by decide) (by decide) hcg69_1
                have hcg69_3 : dr_ok E27 a0 := dr_ok_fr TH hst30 hm0 hk0 (by decide) (by decide) hcg69_3
                have hcg69_4 : ln_ok E27 a0 := ln_ok_fr TH hst30 hm0 hk0 (by decide) (by decide) hcg69_4
                have hcg69_5 : dl_ok E27 a0 := dl_ok_fr TH hst30 hm0 hk0 (by decide) (by decide) hcg69_5
                have hcg69_6 : fw_ok E27 a0 := fw_ok_fr TH hst30 hm0 hk0 (by decide) (by decide) hcg69_6
                have hcg69_7 : r2_ok E27 a0 (x1.toInt) (x2.toInt) := r2_ok_fr TH hst30 hm0 hk0 (by decide) (by decide) (by omega) hcg69_7
                have hgpxc25_0 : rd_ok E27 a0 := rd_ok_fr TH hst30 hm0 hk0 (by decide) (by decide) hgpxc25_0
                have hgpxc25_1 : ht_ok E27 a0 := ht_ok_fr TH hst30 hm0 hk0 (by decide) (by decide) hgpxc25_1
                refine lv_iconst (v := 0) hx hb dX12_baseRow_113 (by decide) ?_
                refine lv_istore (lv' := [(8, .int 0), (7, .int xc25), (6, .int xi19), (5, .int xc11), (4, .int xc4), (3, .int xc2), (0, .ref a0)]) hx hb dX12_baseRow_114 hl (by decide) rfl (fun ls hl => ?_)
                have hJ116 : ∀ (n116 : Nat) (y116_8 : Int32) (Eg116 : Nat → va_E) (H : Heap) (locs : List Loc) (ls : Array Slot), 0 ≤ y116_8.toInt → y116_8.toInt ≤ 1600 → 1200 - y116_8.toInt ≤ (n116 : Int) → tw_fr kp L [] [359] E27 Eg116 → rd_ok Eg116 a0 → eo_ok Eg116 a0 → ht_ok Eg116 a0 → dr_ok Eg116 a0 → ln_ok Eg116 a0 → dl_ok Eg116 a0 → fw_ok Eg116 a0 → r2_ok Eg116 a0 (x1.toInt) (x2.toInt) → tw_H D cs kp L Eg116 A H → va_S A s.heap H locs → lv_has ls 9 [(8, .int y116_8), (7, .int xc25), (6, .int xi19), (0, .ref a0)] → W p l e { frames := 14, cells := 0, slots := 0, locals := 313 } s m [.ref a0, .int x1, .int x2].toArray below meth c H locs 0 0 (MQ below (tw_Q D cs kp0 L0 (fun v kq Lq Eq => (∃ x : Int32, v = some (.int x) ∧ (-1) ≤ x.toInt ∧ x.toInt ≤ 14 ∧ (x.toInt ≠ 12 ∧ x.toInt ≠ 13) ∧ (x.toInt < 12 → x.toInt < fv0_27.toInt) ∧ (x.toInt ≠ -1 → r2_ok Eq a0 x1.toInt x2.toInt) ∧ rd_ok Eq a0 ∧ eo_ok Eq a0 ∧ ht_ok Eq a0 ∧ dr_ok Eq a0 ∧ ln_ok Eq a0 ∧ dl_ok Eq a0 ∧ fw_ok Eq a0) ∧ kp = kq ∧ L = Lq ∧ tw_fr kp L [(12, 57)] [326, 327, 328, 329, 348, 349, 359, 363, 364, 365] E Eq) A) [.ref a0, .int x1, .int x2].toArray s 0 0 A) (F0 m 116 ls []) := by
                  intro n116
                  induction n116 using Nat.strongRecOn with
                  | _ n116 ih116 =>
                    intro y116_8 Eg116 H locs ls hy116_8a hy116_8b hmeas116 hG116 hcg116_0 hcg116_1 hcg116_2 hcg116_3 hcg116_4 hcg116_5 hcg116_6 hcg116_7 TH hS hl
                    have hF := hF.tr hG116 (fun _ h => ⟨h, rfl⟩) (by decide) (by decide)
                    have hmf33 : tw_fv Eg116 a0 27 = .int fv0_27 := (hG116.1 a0 27 hm0 (by rw [hk0]; decide)).trans hmf32
                    have hmf34 : tw_fv Eg116 a0 57 = .int xi19 := (hG116.1 a0 57 hm0 (by rw [hk0]; decide)).trans hmf31
                    refine lv_iload hx hb dX12_baseRow_116 (lv_at hl 0 rfl) ?_
                    refine lv_iload hx hb dX12_baseRow_118 (lv_at hl 2 rfl) ?_
                    refine lv_icmp_ge (tgt := 143) hx hb dX12_baseRow_120 (by decide) (fun hc35 => ?_) (fun hc35 => ?_)
                    · have hf36 : xi19.toInt ≤ y116_8.toInt := by have z := (fa_le _ _).mp hc35;  omega
                      refine lv_iload hx hb dX12_baseRow_143 (lv_at hl 1 rfl) ?_
                      refine lv_if_ne (tgt := 150) hx hb dX12_baseRow_145 (by decide) (fun hc37 => ?_) (fun hc37 => ?_)
                      · have hf38 : ¬ (xc25.toInt = 0) := fun q => hc37 ((fa_eq _ _).mpr (by have : ((0 : Int32).toInt) = 0 := (by decide); omega))
                        refine lv_aload_n hx hb dX12_baseRow_150 rfl (lv_at hl 3 rfl) ?_
                        refine lv_bipush (v := 13) hx hb dX12_baseRow_151 (by decide) ?_
                        refine lv_bipush (v := 14) hx hb dX12_baseRow_153 (by decide) ?_
                        refine tw_Vc (o := a0) (ci := 12) (n := 2) (post := (fun v kq Lq Eq => v = none ∧ kp = kq ∧ L = Lq ∧ tw_fr kp L [] [326, 327, 328, 329] Eg116 Eq ∧ (∀ c : Nat, c < 150 → rw_h Eq a0 (14 : Int32).toInt c = rw_h Eg116 a0 (13 : Int32).toInt c ∧ rw_p Eq a0 (14 : Int32).toInt c = rw_p Eg116 a0 (13 : Int32).toInt c) ∧ (ot_ok Eq a0 (14 : Int32).toInt Eg116) ∧ rd_ok Eq a0)) (As := [.int 13, .int 14]) (rest := []) ⟨hx, hb, hml, hown, hB⟩ (fun sz => tX12_copies l D cs a0 (13 : Int32) (14 : Int32) hm0 hk0 (by have : ((13 : Int32).toInt) = 13 := (by decide); omega) (by have : ((13 : Int32).toInt) = 13 := (by decide); omega) (by have : ((14 : Int32).toInt) = 14 := (by decide); omega) (by have : ((14 : Int32).toInt) = 14 := (by decide); omega) (by have : ((13 : Int32).toInt) = 13 := (by decide); have : ((14 : Int32).toInt) = 14 := (by decide); omega) hcg116_0 sz) cg_12_411_X12_copies rfl rfl (by decide +kernel) ⟨Nat.le_of_ble_eq_true rfl, Nat.le_of_ble_eq_true rfl⟩ hK hN TH hS hA rfl hm0 hk0 (by decide) rfl hl.1 rfl (Nat.le_of_ble_eq_true rfl) dX12_baseRow_155 ⟨Nat.le_of_ble_eq_true rfl, Nat.le_of_ble_eq_true rfl⟩ (fun v39 kp39 L39 E39 H locs hq39 hx39 TH hS => ?_)
                        obtain ⟨rfl, rfl, rfl, hst39, hpoxc40_0, hpoxc40_1, hgpxc40_0⟩ := hq39
                        have hF := hF.tr hst39 (fun _ h => ⟨h, rfl⟩) (by decide) (by decide)
                        have hmf41 : tw_fv E39 a0 27 = .int fv0_27 := (hst39.1 a0 27 hm0 (by rw [hk0]; decide)).trans hmf33
                        have hmf42 : tw_fv E39 a0 57 = .int xi19 := (hst39.1 a0 57 hm0 (by rw [hk0]; decide)).trans hmf34
                        have hcg116_1_o := hcg116_1
                        have hcg116_2_o := hcg116_2
                        have hcg116_3_o := hcg116_3
                        have hcg116_4_o := hcg116_4
                        have hcg116_5_o := hcg116_5
                        have hcg116_6_o := hcg116_6
                        have hcg116_7_o := hcg116_7
                        have hcg116_1 : eo_ok E39 a0 := eo_ok_ot (r := 14) TH hst39 hm0 hk0 (by decide) (by have e14 : ((14 : Int32).toInt) = 14 := (by decide); have q := hpoxc40_1; (try rw [e14] at q); exact q) (by rw [tw_fi_of hmf33]; omega) hcg116_1_o
                        have hcg116_2 : ht_ok E39 a0 := ht_ok_ot (r := 14) (by have e14 : ((14 : Int32).toInt) = 14 := (by decide); have q := hpoxc40_1; (try rw [e14] at q); exact q) (by decide) hcg116_2_o
                        have hcg116_3 : dr_ok E39 a0 := dr_ok_ot (r := 14) hst39 hm0 hk0 (by decide) (by have e14 : ((14 : Int32).toInt) = 14 := (by decide); have q := hpoxc40_1; (try rw [e14] at q); exact q) (by decide) hcg116_3_o
                        have hcg116_4 : ln_ok E39 a0 := ln_ok_ot (r := 14) TH hst39 hm0 hk0 (by decide) (by decide) (by have e14 : ((14 : Int32).toInt) = 14 := (by decide); have q := hpoxc40_1; (try rw [e14] at q); exact q) (by rw [tw_fi_of hmf33]; omega) hcg116_4_o
                        have hcg116_5 : dl_ok E39 a0 := dl_ok_ot (r := 14) TH hst39 hm0 hk0 (by decide) (by have e14 : ((14 : Int32).toInt) = 14 := (by decide); have q := hpoxc40_1; (try rw [e14] at q); exact q) (by decide) (by rw [tw_fi_of hmf33]; omega) hcg116_5_o
                        have hcg116_6 : fw_ok E39 a0 := fw_ok_ot (r := 14) TH hst39 hm0 hk0 (by decide) (by have e14 : ((14 : Int32).toInt) = 14 := (by decide); have q := hpoxc40_1; (try rw [e14] at q); exact q) (by decide) hcg116_6_o
                        have hcg116_7 : r2_ok E39 a0 (x1.toInt) (x2.toInt) := r2_ot (r := 14) (by have e14 : ((14 : Int32).toInt) = 14 := (by decide); have q := hpoxc40_1; (try rw [e14] at q); exact q) (by omega) (by omega) (by omega) (by omega) (by omega) (by omega) hcg116_7_o
                        refine W.eq (g2 := F0 m 158 ls []) rfl ?_
                        refine lv_bipush (v := 14) hx hb dX12_baseRow_158 (by decide) ?_
                        exact tw_iret hx hb hr hlocks TH hS hex ⟨⟨_, rfl, (show (-1) ≤ Int32.toInt 14 from by have : ((14 : Int32).toInt) = 14 := (by decide); omega), (show Int32.toInt 14 ≤ 14 from by have : ((14 : Int32).toInt) = 14 := (by decide); omega), (by have : ((14 : Int32).toInt) = 14 := (by decide); omega), (by have : ((14 : Int32).toInt) = 14 := (by decide); omega), (by have : ((14 : Int32).toInt) = 14 := (by decide); intro q; exact hcg116_7), hgpxc40_0, hcg116_1, hcg116_2, hcg116_3, hcg116_4, hcg116_5, hcg116_6⟩, rfl, rfl, hF⟩ (Nat.le_of_ble_eq_true rfl) (Nat.le_of_ble_eq_true rfl) dX12_baseRow_160
                      · have hf43 : xc25.toInt = 0 := by have z := (fa_eq _ _).mp hc37; have : ((0 : Int32).toInt) = 0 := (by decide); omega
                        refine lv_iconst (v := (-1)) hx hb dX12_baseRow_148 (by decide) ?_
                        exact tw_iret hx hb hr hlocks TH hS hex ⟨⟨_, rfl, (show (-1) ≤ Int32.toInt (-1) from by have : (((-1) : Int32).toInt) = (-1) := (by decide); omega), (show Int32.toInt (-1) ≤ 14 from by have : (((-1) : Int32).toInt) = (-1) := (by decide); omega), (by have : (((-1) : Int32).toInt) = (-1) := (by decide); omega), (by have : (((-1) : Int32).toInt) = (-1) := (by decide); omega), (by have : (((-1) : Int32).toInt) = (-1) := (by decide); intro q; exfalso; exact q (by decide)), hcg116_0, hcg116_1, hcg116_2, hcg116_3, hcg116_4, hcg116_5, hcg116_6⟩, rfl, rfl, hF⟩ (Nat.le_of_ble_eq_true rfl) (Nat.le_of_ble_eq_true rfl) dX12_baseRow_149
                    · have hf44 : ¬ (xi19.toInt ≤ y116_8.toInt) := fun q => hc35 ((fa_le _ _).mpr (by  omega))
                      refine lv_aload_n hx hb dX12_baseRow_123 rfl (lv_at hl 3 rfl) ?_
                      refine tw_get (ci := 12) (C := RX12) (T := TX12) (N := 64) hx hb hB cx_inX12 hown hK TH hm0 hk0 rfl ⟨by decide, rfl⟩ 53 (by decide) cw_1246 (fun _ h9 => h9) dX12_baseRow_124 (fun hv => ?_)
                      obtain ⟨xr45, hxr45, hmxr45, hkxr45⟩ : ∃ a : Nat, tw_fv Eg116 a0 53 = .ref a ∧ a ∈ L ∧ kp a = 359 := hv
                      rw [hxr45]
                      refine lv_iload hx hb dX12_baseRow_127 (lv_at hl 0 rfl) ?_
                      refine lv_aload_n hx hb dX12_baseRow_129 rfl (lv_at hl 3 rfl) ?_
                      refine tw_get (ci := 12) (C := RX12) (T := TX12) (N := 64) hx hb hB cx_inX12 hown hK TH hm0 hk0 rfl ⟨by decide, rfl⟩ 61 (by decide) cw_1254 (fun _ h9 => h9) dX12_baseRow_130 (fun hv => ?_)
                      obtain ⟨xr46, hxr46, hmxr46, hkxr46⟩ : ∃ a : Nat, tw_fv Eg116 a0 61 = .ref a ∧ a ∈ L ∧ kp a = 365 := hv
                      rw [hxr46]
                      refine lv_iload hx hb dX12_baseRow_133 (lv_at hl 0 rfl) ?_
                      refine tw_iald (k := 365) (t0 := 0) (n := 1200) (lo := (-2147483648)) (hi := 2147483647) hx hb hK TH hmxr46 hkxr46 (by decide) rfl rfl (i := y116_8) (vp_in_iff.mpr ⟨by  omega, by  omega⟩) dX12_baseRow_135 (fun hxe47a hxe47b => ?_)
                      obtain ⟨xe47, exe47⟩ : ∃ z : Int32, tw_iv Eg116 xr46 (Int32.toNatClampNeg y116_8) = z := ⟨_, rfl⟩
                      rw [exe47] at hxe47a hxe47b ⊢
                      refine tw_iast (k := 359) (n := 1200) (lo := (-2147483648)) (hi := 2147483647) hx hb hK TH hS hmxr45 hkxr45 (by decide) rfl (i := y116_8) (x := xe47) (vp_in_iff.mpr ⟨by  omega, by  omega⟩) (ia_lo _) (ia_hi _) dX12_baseRow_136 (fun H locs E48 TH hS hp49 hp50 hp51 => ?_)
                      have hst52 : tw_fr kp L [] [359] Eg116 E48 := tw_fr.ast tw_fr.rf (fun _ => hkxr45) hp49 hp50 (by decide)
                      have hF := hF.tr hst52 (fun _ h => ⟨h, rfl⟩) (by decide) (by decide)
                      have hG116 := hG116.tr hst52 (fun _ h => ⟨h, rfl⟩) (by decide) (by decide)
                      have hmf53 : tw_fv E48 a0 27 = .int fv0_27 := (hst52.1 a0 27 hm0 (by rw [hk0]; decide)).trans hmf33
                      have hmf54 : tw_fv E48 a0 57 = .int xi19 := (hst52.1 a0 57 hm0 (by rw [hk0]; decide)).trans hmf34
                      have hmf55 : tw_fv E48 a0 53 = .ref xr45 := (hst52.1 a0 53 hm0 (by rw [hk0]; decide)).trans hxr45
                      have hmf56 : tw_fv E48 a0 61 = .ref xr46 := (hst52.1 a0 61 hm0 (by rw [hk0]; decide)).trans hxr46
                      have hcg116_0 : rd_ok E48 a0 := rd_ok_fr TH hst52 hm0 hk0 (by decide) (by decide) hcg116_0
                      have hcg116_1 : eo_ok E48 a0 := eo_ok_fr TH hst52 hm0 hk0 (by decide) (by decide) hcg116_1
                      have hcg116_2 : ht_ok E48 a0 := ht_ok_fr TH hst52 hm0 hk0 (by decide) (by decide) hcg116_2
                      have hcg116_3 : dr_ok E48 a0 := dr_ok_fr TH hst52 hm0 hk0 (by decide) (by decide) hcg116_3
                      have hcg116_4 : ln_ok E48 a0 := ln_ok_fr TH hst52 hm0 hk0 (by decide) (by decide) hcg116_4
                      have hcg116_5 : dl_ok E48 a0 := dl_ok_fr TH hst52 hm0 hk0 (by decide) (by decide) hcg116_5
                      have hcg116_6 : fw_ok E48 a0 := fw_ok_fr TH hst52 hm0 hk0 (by decide) (by decide) hcg116_6
                      have hcg116_7 : r2_ok E48 a0 (x1.toInt) (x2.toInt) := r2_ok_fr TH hst52 hm0 hk0 (by decide) (by decide) (by omega) hcg116_7
                      obtain ⟨zi57, ezi57⟩ : ∃ z : Int32, z = y116_8 + Int32.ofInt 1 := ⟨_, rfl⟩
                      have hzi57 : zi57.toInt = y116_8.toInt + 1 := by rw [ezi57]; have : ((Int32.ofInt 1).toInt) = 1 := (by decide);  exact (ia_add (by omega) (by omega)).trans (by omega)
                      refine lv_iinc (v := zi57) (lv' := [(8, .int zi57), (7, .int xc25), (6, .int xi19), (0, .ref a0)]) hx hb dX12_baseRow_137 hl (k := 0) rfl ezi57.symm (by decide) rfl (fun ls hl => ?_)
                      refine lv_goto (tgt := 116) hx hb dX12_baseRow_140 (by decide) ?_
                      exact ih116 (n116 - 1) (by   omega) zi57 _ _ _ ls (by omega) (by omega) (by   omega) hG116 hcg116_0 hcg116_1 hcg116_2 hcg116_3 hcg116_4 hcg116_5 hcg116_6 hcg116_7 TH hS (lv_sub hl [0, 1, 2, 3] rfl)
                exact hJ116 1201 (0 : Int32) _ _ _ ls (by have : ((0 : Int32).toInt) = 0 := (by decide); omega) (by have : ((0 : Int32).toInt) = 0 := (by decide); omega) (by have : ((0 : Int32).toInt) = 0 := (by decide);  omega) tw_fr.rf hgpxc25_0 hcg69_1 hgpxc25_1 hcg69_3 hcg69_4 hcg69_5 hcg69_6 hcg69_7 TH hS (lv_sub hl [0, 1, 2, 6] rfl)
              · have hf58 : ¬ (xi19.toInt ≤ y69_7.toInt) := fun q => hc22 ((fa_le _ _).mpr (by  omega))
                refine lv_aload_n hx hb dX12_baseRow_76 rfl (lv_at hl 5 rfl) ?_
                refine tw_get (ci := 12) (C := RX12) (T := TX12) (N := 64) hx hb hB cx_inX12 hown hK TH hm0 hk0 rfl ⟨by decide, rfl⟩ 61 (by decide) cw_1254 (fun _ h9 => h9) dX12_baseRow_77 (fun hv => ?_)
                obtain ⟨xr59, hxr59, hmxr59, hkxr59⟩ : ∃ a : Nat, tw_fv Eg69 a0 61 = .ref a ∧ a ∈ L ∧ kp a = 365 := hv
                rw [hxr59]
                refine lv_iload hx hb dX12_baseRow_80 (lv_at hl 0 rfl) ?_
                refine lv_aload_n hx hb dX12_baseRow_82 rfl (lv_at hl 5 rfl) ?_
                refine tw_get (ci := 12) (C := RX12) (T := TX12) (N := 64) hx hb hB cx_inX12 hown hK TH hm0 hk0 rfl ⟨by decide, rfl⟩ 53 (by decide) cw_1246 (fun _ h9 => h9) dX12_baseRow_83 (fun hv => ?_)
                obtain ⟨xr60, hxr60, hmxr60, hkxr60⟩ : ∃ a : Nat, tw_fv Eg69 a0 53 = .ref a ∧ a ∈ L ∧ kp a = 359 := hv
                rw [hxr60]
                refine lv_iload hx hb dX12_baseRow_86 (lv_at hl 0 rfl) ?_
                refine tw_iald (k := 359) (t0 := 0) (n := 1200) (lo := (-2147483648)) (hi := 2147483647) hx hb hK TH hmxr60 hkxr60 (by decide) rfl rfl (i := y69_7) (vp_in_iff.mpr ⟨by  omega, by  omega⟩) dX12_baseRow_88 (fun hxe61a hxe61b => ?_)
                obtain ⟨xe61, exe61⟩ : ∃ z : Int32, tw_iv Eg69 xr60 (Int32.toNatClampNeg y69_7) = z := ⟨_, rfl⟩
                rw [exe61] at hxe61a hxe61b ⊢
                refine tw_iast (k := 365) (n := 1200) (lo := (-2147483648)) (hi := 2147483647) hx hb hK TH hS hmxr59 hkxr59 (by decide) rfl (i := y69_7) (x := xe61) (vp_in_iff.mpr ⟨by  omega, by  omega⟩) (ia_lo _) (ia_hi _) dX12_baseRow_89 (fun H locs E62 TH hS hp63 hp64 hp65 => ?_)
                have hst66 : tw_fr kp L [] [365] Eg69 E62 := tw_fr.ast tw_fr.rf (fun _ => hkxr59) hp63 hp64 (by decide)
                have hF := hF.tr hst66 (fun _ h => ⟨h, rfl⟩) (by decide) (by decide)
                have hG69 := hG69.tr hst66 (fun _ h => ⟨h, rfl⟩) (by decide) (by decide)
                have hmf67 : tw_fv E62 a0 27 = .int fv0_27 := (hst66.1 a0 27 hm0 (by rw [hk0]; decide)).trans hmf20
                have hmf68 : tw_fv E62 a0 57 = .int xi19 := (hst66.1 a0 57 hm0 (by rw [hk0]; decide)).trans hmf21
                have hmf69 : tw_fv E62 a0 61 = .ref xr59 := (hst66.1 a0 61 hm0 (by rw [hk0]; decide)).trans hxr59
                have hmf70 : tw_fv E62 a0 53 = .ref xr60 := (hst66.1 a0 53 hm0 (by rw [hk0]; decide)).trans hxr60
                have hcg69_0 : rd_ok E62 a0 := rd_ok_fr TH hst66 hm0 hk0 (by decide) (by decide) hcg69_0
                have hcg69_1 : eo_ok E62 a0 := eo_ok_fr TH hst66 hm0 hk0 (by decide) (by decide) hcg69_1
                have hcg69_2 : ht_ok E62 a0 := ht_ok_fr TH hst66 hm0 hk0 (by decide) (by decide) hcg69_2
                have hcg69_3 : dr_ok E62 a0 := dr_ok_fr TH hst66 hm0 hk0 (by decide) (by decide) hcg69_3
                have hcg69_4 : ln_ok E62 a0 := ln_ok_fr TH hst66 hm0 hk0 (by decide) (by decide) hcg69_4
                have hcg69_5 : dl_ok E62 a0 := dl_ok_fr TH hst66 hm0 hk0 (by decide) (by decide) hcg69_5
                have hcg69_6 : fw_ok E62 a0 := fw_ok_fr TH hst66 hm0 hk0 (by decide) (by decide) hcg69_6
                have hcg69_7 : r2_ok E62 a0 (x1.toInt) (x2.toInt) := r2_ok_fr TH hst66 hm0 hk0 (by decide) (by decide) (by omega) hcg69_7
                obtain ⟨zi71, ezi71⟩ : ∃ z : Int32, z = y69_7 + Int32.ofInt 1 := ⟨_, rfl⟩
                have hzi71 : zi71.toInt = y69_7.toInt + 1 := by rw [ezi71]; have : ((Int32.ofInt 1).toInt) = 1 := (by decide);  exact (ia_add (by omega) (by omega)).trans (by omega)
                refine lv_iinc (v := zi71) (lv' := [(7, .int zi71), (6, .int xi19), (5, .int xc11), (4, .int xc4), (3, .int xc2), (0, .ref a0)]) hx hb dX12_baseRow_90 hl (k := 0) rfl ezi71.symm (by decide) rfl (fun ls hl => ?_)
                refine lv_goto (tgt := 69) hx hb dX12_baseRow_93 (by decide) ?_
                exact ih69 (n69 - 1) (by   omega) zi71 _ _ _ ls (by omega) (by omega) (by   omega) hG69 hcg69_0 hcg69_1 hcg69_2 hcg69_3 hcg69_4 hcg69_5 hcg69_6 hcg69_7 TH hS (lv_sub hl [0, 1, 2, 3, 4, 5] rfl)
          exact hJ69 1201 (0 : Int32) _ _ _ ls (by have : ((0 : Int32).toInt) = 0 := (by decide); omega) (by have : ((0 : Int32).toInt) = 0 := (by decide); omega) (by have : ((0 : Int32).toInt) = 0 := (by decide);  omega) tw_fr.rf hg0 hg1 hg2 hg3 hg4 hg5 hg6 hr2g TH hS (lv_sub hl [0, 1, 2, 3, 4, 5] rfl)
        · have hf72 : ¬ (xc16.toInt = (-1)) := fun q => hc17 ((fa_eq _ _).mpr (by have : (((-1) : Int32).toInt) = (-1) := (by decide); omega))
          refine lv_iconst (v := (-1)) hx hb dX12_baseRow_58 (by decide) ?_
          exact tw_iret hx hb hr hlocks TH hS hex ⟨⟨_, rfl, (show (-1) ≤ Int32.toInt (-1) from by have : (((-1) : Int32).toInt) = (-1) := (by decide); omega), (show Int32.toInt (-1) ≤ 14 from by have : (((-1) : Int32).toInt) = (-1) := (by decide); omega), (by have : (((-1) : Int32).toInt) = (-1) := (by decide); omega), (by have : (((-1) : Int32).toInt) = (-1) := (by decide); omega), (by have : (((-1) : Int32).toInt) = (-1) := (by decide); intro q; exfalso; exact q (by decide)), hg0, hg1, hg2, hg3, hg4, hg5, hg6⟩, rfl, rfl, hF⟩ (Nat.le_of_ble_eq_true rfl) (Nat.le_of_ble_eq_true rfl) dX12_baseRow_59
    · have hf73 : xc4.toInt = (-1) := by have z := (fa_eq _ _).mp hc8; have : (((-1) : Int32).toInt) = (-1) := (by decide); omega
      refine lv_iload_n hx hb dX12_baseRow_28 rfl (lv_at hl 1 rfl) ?_
      exact tw_iret hx hb hr hlocks TH hS hex ⟨⟨_, rfl, (show (-1) ≤ Int32.toInt xc2 from by  omega), (show Int32.toInt xc2 ≤ 14 from by  omega), (by  omega), (by  omega), (by  intro q; exact hrr (by omega)), hg0, hg1, hg2, hg3, hg4, hg5, hg6⟩, rfl, rfl, hF⟩ (Nat.le_of_ble_eq_true rfl) (Nat.le_of_ble_eq_true rfl) dX12_baseRow_29
set_option maxHeartbeats 4000000 in
set_option maxRecDepth 100000 in
theorem tX12_base (l : Launch) (D : va_G) (cs : Nat → ClassId) {kp : Nat → Nat} {L : List Nat} {E : Nat → va_E} (a0 : Nat) (x1 : Int32) (x2 : Int32) (hm0 : a0 ∈ L) (hk0 : kp a0 = 12) (hg0 : rd_ok E a0) (hg1 : eo_ok E a0) (hg2 : ht_ok E a0) (hg3 : dr_ok E a0) (hg4 : ln_ok E a0) (hg5 : dl_ok E a0) (hg6 : fw_ok E a0) (sz : Nat) : Met l yX12_base (.code yX12_base cX12_base 4 (some .int) :: cx_big) { frames := 15, cells := 0, slots := 0, locals := 341 } (tw_P D cs kp L E [.ref a0, .int x1, .int x2] sz) (tw_Q D cs kp L (fun v kq Lq Eq => (∃ x : Int32, v = some (.int x) ∧ (-1) ≤ x.toInt ∧ x.toInt ≤ 100 ∧ rd_ok Eq a0 ∧ eo_ok Eq a0 ∧ ht_ok Eq a0 ∧ dr_ok Eq a0 ∧ ln_ok Eq a0 ∧ dl_ok Eq a0 ∧ fw_ok Eq a0) ∧ kp = kq ∧ L = Lq ∧ tw_fr kp L [(12, 57)] [326, 327, 328, 329, 348, 349, 359, 363, 364, 365] E Eq) (va_A (va_pl L E) sz)) 0 0 (va_A (va_pl L E) sz) := by
  refine tw_ofW (by decide) (Nat.le_of_ble_eq_true rfl) ?_
  intro p e s m below meth c A ls hx hb hr hml hB hown hlocks hK hN hA TH hS hl
  have hown : s.vm.findClass "TreeMergeModel" = some m.cls := hown
  have hl : lv_has ls 4 [(0, .ref a0), (1, .int x1), (2, .int x2)] := hl
  obtain ⟨kp0, ekp⟩ : ∃ z, z = kp := ⟨_, rfl⟩
  obtain ⟨L0, eL⟩ : ∃ z, z = L := ⟨_, rfl⟩
  rw [show tw_Q D cs kp L = tw_Q D cs kp0 L0 by rw [ekp, eL]]
  have hex : ∀ a : Nat, a ∈ L0 → a ∈ L ∧ kp a = kp0 a := fun a h => ⟨by rw [← eL]; exact h, by rw [ekp]⟩
  have hF : tw_fr kp L [(12, 57)] [326, 327, 328, 329, 348, 349, 359, 363, 364, 365] E E := tw_fr.rf
  refine lv_aload_n hx hb dX12_base_0 rfl (lv_at hl 0 rfl) ?_
  refine lv_iload_n hx hb dX12_base_1 rfl (lv_at hl 1 rfl) ?_
  obtain ⟨xi1, hxi1, hxi1a, hxi1b⟩ := tw_rd TH hm0 hk0 (by decide) (by decide) (k := 27) rfl
  refine tw_Vc (o := a0) (ci := 12) (n := 1) (post := (fun v kq Lq Eq => (∃ x : Int32, v = some (.int x) ∧ 0 ≤ x.toInt ∧ x.toInt ≤ 1 ∧ (x.toInt ≠ 0 → 0 ≤ x1.toInt ∧ x1.toInt < xi1.toInt)) ∧ kp = kq ∧ L = Lq ∧ E = Eq)) (As := [.int x1]) (rest := []) ⟨hx, hb, hml, hown, hB⟩ (fun sz => tX12_isEdition l D cs a0 x1 xi1 hm0 hk0 hxi1 sz) cg_12_396_X12_isEdition rfl rfl (by decide +kernel) ⟨Nat.le_of_ble_eq_true rfl, Nat.le_of_ble_eq_true rfl⟩ hK hN TH hS hA rfl hm0 hk0 (by decide) rfl hl.1 rfl (Nat.le_of_ble_eq_true rfl) dX12_base_2 ⟨Nat.le_of_ble_eq_true rfl, Nat.le_of_ble_eq_true rfl⟩ (fun v2 kp2 L2 E2 H locs hq2 hx2 TH hS => ?_)
  obtain ⟨⟨xc3, rfl, hxc3a, hxc3b, hpoxc3_0⟩, rfl, rfl, rfl⟩ := hq2
  refine W.eq (g2 := F0 m 5 ls [.int xc3]) rfl ?_
  refine lv_if_eq (tgt := 16) hx hb dX12_base_5 (by decide) (fun hc4 => ?_) (fun hc4 => ?_)
  · have hf5 : xc3.toInt = 0 := by have z := (fa_eq _ _).mp hc4; have : ((0 : Int32).toInt) = 0 := (by decide); omega
    refine lv_iconst (v := (-1)) hx hb dX12_base_16 (by decide) ?_
    exact tw_iret hx hb hr hlocks TH hS hex ⟨⟨_, rfl, (show (-1) ≤ Int32.toInt (-1) from by have : (((-1) : Int32).toInt) = (-1) := (by decide); omega), (show Int32.toInt (-1) ≤ 100 from by have : (((-1) : Int32).toInt) = (-1) := (by decide); omega), hg0, hg1, hg2, hg3, hg4, hg5, hg6⟩, rfl, rfl, hF⟩ (Nat.le_of_ble_eq_true rfl) (Nat.le_of_ble_eq_true rfl) dX12_base_17
  · have hf6 : ¬ (xc3.toInt = 0) := fun q => hc4 ((fa_eq _ _).mpr (by have : ((0 : Int32).toInt) = 0 := (by decide); omega))
    refine lv_aload_n hx hb dX12_base_8 rfl (lv_at hl 0 rfl) ?_
    refine lv_iload_n hx hb dX12_base_9 rfl (lv_at hl 2 rfl) ?_
    refine tw_Vc (o := a0) (ci := 12) (n := 1) (post := (fun v kq Lq Eq => (∃ x : Int32, v = some (.int x) ∧ 0 ≤ x.toInt ∧ x.toInt ≤ 1 ∧ (x.toInt ≠ 0 → 0 ≤ x2.toInt ∧ x2.toInt < xi1.toInt)) ∧ kp = kq ∧ L = Lq ∧ E = Eq)) (As := [.int x2]) (rest := []) ⟨hx, hb, hml, hown, hB⟩ (fun sz => tX12_isEdition l D cs a0 x2 xi1 hm0 hk0 hxi1 sz) cg_12_396_X12_isEdition rfl rfl (by decide +kernel) ⟨Nat.le_of_ble_eq_true rfl, Nat.le_of_ble_eq_true rfl⟩ hK hN TH hS hA rfl hm0 hk0 (by decide) rfl hl.1 rfl (Nat.le_of_ble_eq_true rfl) dX12_base_10 ⟨Nat.le_of_ble_eq_true rfl, Nat.le_of_ble_eq_true rfl⟩ (fun v7 kp7 L7 E7 H locs hq7 hx7 TH hS => ?_)
    obtain ⟨⟨xc8, rfl, hxc8a, hxc8b, hpoxc8_0⟩, rfl, rfl, rfl⟩ := hq7
    refine W.eq (g2 := F0 m 13 ls [.int xc8]) rfl ?_
    refine lv_if_ne (tgt := 18) hx hb dX12_base_13 (by decide) (fun hc9 => ?_) (fun hc9 => ?_)
    · have hf10 : ¬ (xc8.toInt = 0) := fun q => hc9 ((fa_eq _ _).mpr (by have : ((0 : Int32).toInt) = 0 := (by decide); omega))
      refine lv_aload_n hx hb dX12_base_18 rfl (lv_at hl 0 rfl) ?_
      refine lv_iload_n hx hb dX12_base_19 rfl (lv_at hl 1 rfl) ?_
      refine lv_iload_n hx hb dX12_base_20 rfl (lv_at hl 2 rfl) ?_
      refine tw_Vc (o := a0) (ci := 12) (n := 2) (post := (fun v kq Lq Eq => (∃ x : Int32, v = some (.int x) ∧ (-1) ≤ x.toInt ∧ x.toInt ≤ 14 ∧ (x.toInt ≠ 12 ∧ x.toInt ≠ 13) ∧ (x.toInt < 12 → x.toInt < xi1.toInt) ∧ (x.toInt ≠ -1 → r2_ok Eq a0 x1.toInt x2.toInt) ∧ rd_ok Eq a0 ∧ eo_ok Eq a0 ∧ ht_ok Eq a0 ∧ dr_ok Eq a0 ∧ ln_ok Eq a0 ∧ dl_ok Eq a0 ∧ fw_ok Eq a0) ∧ kp = kq ∧ L = Lq ∧ tw_fr kp L [(12, 57)] [326, 327, 328, 329, 348, 349, 359, 363, 364, 365] E Eq)) (As := [.int x1, .int x2]) (rest := []) ⟨hx, hb, hml, hown, hB⟩ (fun sz => tX12_baseRow l D cs a0 x1 x2 xi1 hm0 hk0 (by omega) (by omega) (by omega) (by omega) hxi1 (by  omega) (by  omega) hg0 hg1 hg2 hg3 hg4 hg5 hg6 sz) cg_12_524_X12_baseRow rfl rfl (by decide +kernel) ⟨Nat.le_of_ble_eq_true rfl, Nat.le_of_ble_eq_true rfl⟩ hK hN TH hS hA rfl hm0 hk0 (by decide) rfl hl.1 rfl (Nat.le_of_ble_eq_true rfl) dX12_base_21 ⟨Nat.le_of_ble_eq_true rfl, Nat.le_of_ble_eq_true rfl⟩ (fun v11 kp11 L11 E11 H locs hq11 hx11 TH hS => ?_)
      obtain ⟨⟨xc12, rfl, hxc12a, hxc12b, hpoxc12_0, hpoxc12_1, hpoxc12_2, hgpxc12_0, hgpxc12_1, hgpxc12_2, hgpxc12_3, hgpxc12_4, hgpxc12_5, hgpxc12_6⟩, rfl, rfl, hst11⟩ := hq11
      have hF := hF.tr hst11 (fun _ h => ⟨h, rfl⟩) (by decide) (by decide)
      have hmf13 : tw_fv E11 a0 27 = .int xi1 := (hst11.1 a0 27 hm0 (by rw [hk0]; decide)).trans hxi1
      refine W.eq (g2 := F0 m 24 ls [.int xc12]) rfl ?_
      refine lv_istore_n (lv' := [(3, .int xc12), (0, .ref a0), (1, .int x1), (2, .int x2)]) hx hb dX12_base_24 rfl hl (by decide) rfl (fun ls hl => ?_)
      refine lv_iload_n hx hb dX12_base_25 rfl (lv_at hl 0 rfl) ?_
      refine lv_bipush (v := 14) hx hb dX12_base_26 (by decide) ?_
      refine lv_icmp_ne (tgt := 36) hx hb dX12_base_28 (by decide) (fun hc14 => ?_) (fun hc14 => ?_)
      · have hf15 : ¬ (xc12.toInt = 14) := fun q => hc14 ((fa_eq _ _).mpr (by have : ((14 : Int32).toInt) = 14 := (by decide); omega))
        refine lv_iload_n hx hb dX12_base_36 rfl (lv_at hl 0 rfl) ?_
        exact tw_iret hx hb hr hlocks TH hS hex ⟨⟨_, rfl, (show (-1) ≤ Int32.toInt xc12 from by  omega), (show Int32.toInt xc12 ≤ 100 from by  omega), hgpxc12_0, hgpxc12_1, hgpxc12_2, hgpxc12_3, hgpxc12_4, hgpxc12_5, hgpxc12_6⟩, rfl, rfl, hF⟩ (Nat.le_of_ble_eq_true rfl) (Nat.le_of_ble_eq_true rfl) dX12_base_37
      · have hf16 : xc12.toInt = 14 := by have z := (fa_eq _ _).mp hc14; have : ((14 : Int32).toInt) = 14 := (by decide); omega
        refine lv_bipush (v := 100) hx hb dX12_base_31 (by decide) ?_
        refine lv_goto (tgt := 37) hx hb dX12_base_33 (by decide) ?_
        exact tw_iret hx hb hr hlocks TH hS hex ⟨⟨_, rfl, (show (-1) ≤ Int32.toInt 100 from by have : ((100 : Int32).toInt) = 100 := (by decide); omega), (show Int32.toInt 100 ≤ 100 from by have : ((100 : Int32).toInt) = 100 := (by decide); omega), hgpxc12_0, hgpxc12_1, hgpxc12_2, hgpxc12_3, hgpxc12_4, hgpxc12_5, hgpxc12_6⟩, rfl, rfl, hF⟩ (Nat.le_of_ble_eq_true rfl) (Nat.le_of_ble_eq_true rfl) dX12_base_37
    · have hf17 : xc8.toInt = 0 := by have z := (fa_eq _ _).mp hc9; have : ((0 : Int32).toInt) = 0 := (by decide); omega
      refine lv_iconst (v := (-1)) hx hb dX12_base_16 (by decide) ?_
      exact tw_iret hx hb hr hlocks TH hS hex ⟨⟨_, rfl, (show (-1) ≤ Int32.toInt (-1) from by have : (((-1) : Int32).toInt) = (-1) := (by decide); omega), (show Int32.toInt (-1) ≤ 100 from by have : (((-1) : Int32).toInt) = (-1) := (by decide); omega), hg0, hg1, hg2, hg3, hg4, hg5, hg6⟩, rfl, rfl, hF⟩ (Nat.le_of_ble_eq_true rfl) (Nat.le_of_ble_eq_true rfl) dX12_base_17
set_option maxHeartbeats 4000000 in
set_option maxRecDepth 100000 in
theorem tX12_made (l : Launch) (D : va_G) (cs : Nat → ClassId) {kp : Nat → Nat} {L : List Nat} {E : Nat → va_E} (a0 : Nat) (x1 : Int32) (x2 : Int32) (fv0_27 : Int32) (hm0 : a0 ∈ L) (hk0 : kp a0 = 12) (hp1a : 0 ≤ x1.toInt) (hp1b : x1.toInt ≤ 11) (hp2a : (-1) ≤ x2.toInt) (hp2b : x2.toInt ≤ 11) (hfv0_27 : tw_fv E a0 27 = .int fv0_27) (hpre0 : fv0_27.toInt ≤ 11) (hpre1 : x1.toInt < fv0_27.toInt) (hpre2 : r2_ok E a0 13 x1.toInt) (hpre3 : x2.toInt < fv0_27.toInt) (hpre4 : x2.toInt ≠ -1 → r2_ok E a0 13 x2.toInt) (hg0 : row_ok E a0 (13)) (hg1 : rd_ok E a0) (hg2 : eo_ok E a0) (hg3 : ht_ok E a0) (hg4 : dr_ok E a0) (hg5 : ln_ok E a0) (hg6 : dl_ok E a0) (hg7 : fw_ok E a0) (sz : Nat) : Met l yX12_made (.code yX12_made cX12_made 3 (some .int) :: cx_big) { frames := 1, cells := 0, slots := 0, locals := 23 } (tw_P D cs kp L E [.ref a0, .int x1, .int x2] sz) (tw_Q D cs kp L (fun v kq Lq Eq => (∃ x : Int32, v = some (.int x) ∧ 0 ≤ x.toInt ∧ x.toInt ≤ 11 ∧ rd_ok Eq a0 ∧ eo_ok Eq a0 ∧ ht_ok Eq a0 ∧ dr_ok Eq a0 ∧ ln_ok Eq a0 ∧ dl_ok Eq a0 ∧ fw_ok Eq a0) ∧ kp = kq ∧ L = Lq ∧ tw_fr kp L [(12, 27)] [326, 327, 328, 329, 334, 335] E Eq) (va_A (va_pl L E) sz)) 0 0 (va_A (va_pl L E) sz) := by
  refine tw_ofW (by decide) (Nat.le_of_ble_eq_true rfl) ?_
  intro p e s m below meth c A ls hx hb hr hml hB hown hlocks hK hN hA TH hS hl
  have hown : s.vm.findClass "TreeMergeModel" = some m.cls := hown
  have hl : lv_has ls 3 [(0, .ref a0), (1, .int x1), (2, .int x2)] := hl
  obtain ⟨kp0, ekp⟩ : ∃ z, z = kp := ⟨_, rfl⟩
  obtain ⟨L0, eL⟩ : ∃ z, z = L := ⟨_, rfl⟩
  rw [show tw_Q D cs kp L = tw_Q D cs kp0 L0 by rw [ekp, eL]]
  have hex : ∀ a : Nat, a ∈ L0 → a ∈ L ∧ kp a = kp0 a := fun a h => ⟨by rw [← eL]; exact h, by rw [ekp]⟩
  have hF : tw_fr kp L [(12, 27)] [326, 327, 328, 329, 334, 335] E E := tw_fr.rf
  obtain ⟨qfv0_27, hqfv0_27, hqfv0_27a, hqfv0_27b⟩ := tw_rd TH hm0 hk0 (by decide) (by decide) (k := 27) rfl
  have eqfv0_27 : qfv0_27 = fv0_27 := by have q := hqfv0_27.symm.trans hfv0_27; injection q
  rw [eqfv0_27] at hqfv0_27a hqfv0_27b
  refine lv_aload_n hx hb dX12_made_0 rfl (lv_at hl 0 rfl) ?_
  refine lv_bipush (v := 13) hx hb dX12_made_1 (by decide) ?_
  refine lv_aload_n hx hb dX12_made_3 rfl (lv_at hl 0 rfl) ?_
  refine tw_get (ci := 12) (C := RX12) (T := TX12) (N := 64) hx hb hB cx_inX12 hown hK TH hm0 hk0 rfl ⟨by decide, rfl⟩ 27 (by decide) cw_1220 (fun _ h9 => h9) dX12_made_4 (fun hv => ?_)
  rw [hfv0_27]
  refine tw_Vc (o := a0) (ci := 12) (n := 2) (post := (fun v kq Lq Eq => v = none ∧ kp = kq ∧ L = Lq ∧ tw_fr kp L [] [326, 327, 328, 329] E Eq ∧ (∀ c : Nat, c < 150 → rw_h Eq a0 fv0_27.toInt c = rw_h E a0 (13 : Int32).toInt c ∧ rw_p Eq a0 fv0_27.toInt c = rw_p E a0 (13 : Int32).toInt c) ∧ (ot_ok Eq a0 fv0_27.toInt E) ∧ rd_ok Eq a0)) (As := [.int 13, .int fv0_27]) (rest := []) ⟨hx, hb, hml, hown, hB⟩ (fun sz => tX12_copies l D cs a0 (13 : Int32) fv0_27 hm0 hk0 (by have : ((13 : Int32).toInt) = 13 := (by decide); omega) (by have : ((13 : Int32).toInt) = 13 := (by decide); omega) (by omega) (by omega) (by have : ((13 : Int32).toInt) = 13 := (by decide); omega) hg1 sz) cg_12_411_X12_copies rfl rfl (by decide +kernel) ⟨Nat.le_of_ble_eq_true rfl, Nat.le_of_ble_eq_true rfl⟩ hK hN TH hS hA rfl hm0 hk0 (by decide) rfl hl.1 rfl (Nat.le_of_ble_eq_true rfl) dX12_made_7 ⟨Nat.le_of_ble_eq_true rfl, Nat.le_of_ble_eq_true rfl⟩ (fun v1 kp1 L1 E1 H locs hq1 hx1 TH hS => ?_)
  obtain ⟨rfl, rfl, rfl, hst1, hpoxc2_0, hpoxc2_1, hgpxc2_0⟩ := hq1
  have hF := hF.tr hst1 (fun _ h => ⟨h, rfl⟩) (by decide) (by decide)
  have hmf3 : tw_fv E1 a0 27 = .int fv0_27 := (hst1.1 a0 27 hm0 (by rw [hk0]; decide)).trans hfv0_27
  have hg0_o := hg0
  have hg2_o := hg2
  have hg3_o := hg3
  have hg4_o := hg4
  have hg5_o := hg5
  have hg6_o := hg6
  have hg7_o := hg7
  have hg2 : eo_ok E1 a0 := eo_ok_ot TH hst1 hm0 hk0 (by decide) hpoxc2_1 (by rw [tw_fi_of hfv0_27]; have e12 : ((12 : Int32).toInt) = 12 := (by decide); omega) hg2_o
  have hg3 : ht_ok E1 a0 := ht_ok_ot hpoxc2_1 (by have e12 : ((12 : Int32).toInt) = 12 := (by decide); omega) hg3_o
  have hg4 : dr_ok E1 a0 := dr_ok_ot hst1 hm0 hk0 (by decide) hpoxc2_1 (by omega) hg4_o
  have hg5 : ln_ok E1 a0 := ln_ok_ot TH hst1 hm0 hk0 (by decide) (by decide) hpoxc2_1 (by rw [tw_fi_of hfv0_27]; omega) hg5_o
  have hg6 : dl_ok E1 a0 := dl_ok_ot (r := fv0_27.toInt) TH hst1 hm0 hk0 (by decide) hpoxc2_1 (by omega) (by rw [tw_fi_of hfv0_27]; omega) hg6_o
  have hgn4 : row_ok E1 a0 (fv0_27.toInt) := (by have e13 : ((13 : Int32).toInt) = 13 := (by decide); have hc := hpoxc2_0; rw [e13] at hc; exact row_copy hg0 hc (Int.le_of_eq (tw_fi_fr hst1 hm0 hk0 (k := 26) (by decide)).symm))
  have hgn5 : fx_ok E1 a0 (fv0_27.toInt) := fx_of_ot hpoxc2_1 (by omega) (tw_fi_of hfv0_27) hg7
  refine W.eq (g2 := F0 m 10 ls []) rfl ?_
  have e13 : ((13 : Int32).toInt) = 13 := (by decide)
  have hcp := hpoxc2_0
  rw [e13] at hcp
  have hr1 : r2_ok E1 a0 (fv0_27.toInt) (x1.toInt) := r2_copy hcp (hpoxc2_1 (x1.toInt) (by omega) (by omega) (by omega)) hpre2
  have hr2 : x2.toInt ≠ -1 → r2_ok E1 a0 (fv0_27.toInt) (x2.toInt) := fun q => r2_copy hcp (hpoxc2_1 (x2.toInt) (by omega) (by omega) (by omega)) (hpre4 q)
  have hn27 := hmf3
  refine lv_aload_n hx hb dX12_made_10 rfl (lv_at hl 0 rfl) ?_
  refine lv_iload_n hx hb dX12_made_11 rfl (lv_at hl 1 rfl) ?_
  refine lv_iload_n hx hb dX12_made_12 rfl (lv_at hl 2 rfl) ?_
  refine tw_Vc (o := a0) (ci := 12) (n := 2) (post := (fun v kq Lq Eq => (∃ x : Int32, v = some (.int x) ∧ 0 ≤ x.toInt ∧ x.toInt ≤ 11 ∧ (x.toInt = fv0_27.toInt) ∧ (∀ j : Nat, tw_el Eq a0 24 j = if j = (fv0_27.toInt).toNat then x1.toInt else tw_el E1 a0 24 j) ∧ (∀ j : Nat, tw_el Eq a0 25 j = if j = (fv0_27.toInt).toNat then x2.toInt else tw_el E1 a0 25 j) ∧ (∃ z0 : Int32, tw_fv Eq a0 27 = .int z0 ∧ (z0.toInt = fv0_27.toInt + 1))) ∧ kp = kq ∧ L = Lq ∧ tw_fr kp L [(12, 27)] [334, 335] E1 Eq)) (As := [.int x1, .int x2]) (rest := []) ⟨hx, hb, hml, hown, hB⟩ (fun sz => tX12_edition l D cs a0 x1 x2 fv0_27 hm0 hk0 (by omega) (by omega) (by omega) (by omega) hmf3 (by  omega) sz) cg_12_345_X12_edition rfl rfl (by decide +kernel) ⟨Nat.le_of_ble_eq_true rfl, Nat.le_of_ble_eq_true rfl⟩ hK hN TH hS hA rfl hm0 hk0 (by decide) rfl hl.1 rfl (Nat.le_of_ble_eq_true rfl) dX12_made_13 ⟨Nat.le_of_ble_eq_true rfl, Nat.le_of_ble_eq_true rfl⟩ (fun v6 kp6 L6 E6 H locs hq6 hx6 TH hS => ?_)
  obtain ⟨⟨xc7, rfl, hxc7a, hxc7b, hpoxc7_0, hpoxc7_1, hpoxc7_2, ⟨zfxc7_0_0, hzfxc7_0_0, hzpxc7_0⟩⟩, rfl, rfl, hst6⟩ := hq6
  have hF := hF.tr hst6 (fun _ h => ⟨h, rfl⟩) (by decide) (by decide)
  have hg2_o := hg2
  have hg3_o := hg3
  have hg4_o := hg4
  have hg5_o := hg5
  have hg6_o := hg6
  have hgn4_o := hgn4
  have hgn5_o := hgn5
  have hgpxc2_0_o := hgpxc2_0
  have hg2 : eo_ok E6 a0 := eo_ok_inc (r := fv0_27.toInt) TH hst6 hm0 hk0 (by decide) (by decide) (tw_fi_of hmf3) (by rw [tw_fi_of hzfxc7_0_0]; omega) hgn4_o hg2_o
  have hg3 : ht_ok E6 a0 := ht_ok_fr TH hst6 hm0 hk0 (by decide) (by decide) hg3
  have hg4 : dr_ok E6 a0 := dr_ok_fr TH hst6 hm0 hk0 (by decide) (by decide) hg4
  have hg5 : ln_ok E6 a0 := (by refine ln_ok_inc (r := fv0_27.toInt) TH hst6 hm0 hk0 (by decide) (by decide) (tw_fi_of hmf3) (by rw [tw_fi_of hzfxc7_0_0]; omega) (fun f hf j hj => ?_) (fun f hf => ?_) hg5_o; (have hf : f = 24 ∨ f = 25 := (by simpa using hf); rcases hf with rfl | rfl; (rw [hpoxc7_1, if_neg (by omega)]); (rw [hpoxc7_2, if_neg (by omega)])); (have hf : f = 24 ∨ f = 25 := (by simpa using hf); rcases hf with rfl | rfl; (rw [hpoxc7_1, if_pos rfl]; exact Or.inr ⟨by omega, by omega, hr1⟩); (rw [hpoxc7_2, if_pos rfl]; (by_cases hq : x2.toInt = -1; exact Or.inl hq; exact Or.inr ⟨by omega, by omega, hr2 hq⟩))))
  have hg6 : dl_ok E6 a0 := dl_ok_inc TH hst6 hm0 hk0 (by decide) (by decide) (by rw [tw_fi_of hmf3, tw_fi_of hzfxc7_0_0]; omega) hg6_o
  have hgn4 : row_ok E6 a0 (fv0_27.toInt) := row_ok_fr TH hst6 hm0 hk0 (by decide) (by decide) (by omega) hgn4
  have hgn5 : fx_ok E6 a0 (fv0_27.toInt) := fx_ok_fr TH hst6 hm0 hk0 (by decide) (by decide) hgn5
  have hgpxc2_0 : rd_ok E6 a0 := rd_ok_fr TH hst6 hm0 hk0 (by decide) (by decide) hgpxc2_0
  have hgn8 : fw_ok E6 a0 := fw_of_fx (by rw [tw_fi_of hzfxc7_0_0]; omega) hgn5
  obtain ⟨qzfxc7_0_0, hqzfxc7_0_0, hqzfxc7_0_0a, hqzfxc7_0_0b⟩ := tw_rd TH hm0 hk0 (by decide) (by decide) (k := 27) rfl
  have eqzfxc7_0_0 : qzfxc7_0_0 = zfxc7_0_0 := by have q := hqzfxc7_0_0.symm.trans hzfxc7_0_0; injection q
  rw [eqzfxc7_0_0] at hqzfxc7_0_0a hqzfxc7_0_0b
  refine W.eq (g2 := F0 m 16 ls [.int xc7]) rfl ?_
  exact tw_iret hx hb hr hlocks TH hS hex ⟨⟨_, rfl, (show 0 ≤ Int32.toInt xc7 from by  omega), (show Int32.toInt xc7 ≤ 11 from by  omega), hgpxc2_0, hg2, hg3, hg4, hg5, hg6, hgn8⟩, rfl, rfl, hF⟩ (Nat.le_of_ble_eq_true rfl) (Nat.le_of_ble_eq_true rfl) dX12_made_16
set_option maxHeartbeats 4000000 in
set_option maxRecDepth 100000 in
theorem tX12_merge (l : Launch) (D : va_G) (cs : Nat → ClassId) {kp : Nat → Nat} {L : List Nat} {E : Nat → va_E} (a0 : Nat) (x1 : Int32) (x2 : Int32) (hm0 : a0 ∈ L) (hk0 : kp a0 = 12) (hg0 : rd_ok E a0) (hg1 : eo_ok E a0) (hg2 : ht_ok E a0) (hg3 : dr_ok E a0) (hg4 : ln_ok E a0) (hg5 : dl_ok E a0) (hg6 : fw_ok E a0) (sz : Nat) : Met l yX12_merge (.code yX12_merge cX12_merge 4 (some .int) :: cx_big) { frames := 15, cells := 0, slots := 0, locals := 341 } (tw_P D cs kp L E [.ref a0, .int x1, .int x2] sz) (tw_Q D cs kp L (fun v kq Lq Eq => (∃ x : Int32, v = some (.int x) ∧ (-1) ≤ x.toInt ∧ x.toInt ≤ 11 ∧ rd_ok Eq a0 ∧ eo_ok Eq a0 ∧ ht_ok Eq a0 ∧ dr_ok Eq a0 ∧ ln_ok Eq a0 ∧ dl_ok Eq a0 ∧ fw_ok Eq a0) ∧ kp = kq ∧ L = Lq ∧ tw_fr kp L [(12, 27), (12, 57)] [326, 327, 328, 329, 334, 335, 348, 349, 359, 363, 364, 365] E Eq) (va_A (va_pl L E) sz)) 0 0 (va_A (va_pl L E) sz) := by
  refine tw_ofW (by decide) (Nat.le_of_ble_eq_true rfl) ?_
  intro p e s m below meth c A ls hx hb hr hml hB hown hlocks hK hN hA TH hS hl
  have hown : s.vm.findClass "TreeMergeModel" = some m.cls := hown
  have hl : lv_has ls 4 [(0, .ref a0), (1, .int x1), (2, .int x2)] := hl
  obtain ⟨kp0, ekp⟩ : ∃ z, z = kp := ⟨_, rfl⟩
  obtain ⟨L0, eL⟩ : ∃ z, z = L := ⟨_, rfl⟩
  rw [show tw_Q D cs kp L = tw_Q D cs kp0 L0 by rw [ekp, eL]]
  have hex : ∀ a : Nat, a ∈ L0 → a ∈ L ∧ kp a = kp0 a := fun a h => ⟨by rw [← eL]; exact h, by rw [ekp]⟩
  have hF : tw_fr kp L [(12, 27), (12, 57)] [326, 327, 328, 329, 334, 335, 348, 349, 359, 363, 364, 365] E E := tw_fr.rf
  refine lv_aload_n hx hb dX12_merge_0 rfl (lv_at hl 0 rfl) ?_
  refine lv_iload_n hx hb dX12_merge_1 rfl (lv_at hl 1 rfl) ?_
  obtain ⟨xi1, hxi1, hxi1a, hxi1b⟩ := tw_rd TH hm0 hk0 (by decide) (by decide) (k := 27) rfl
  refine tw_Vc (o := a0) (ci := 12) (n := 1) (post := (fun v kq Lq Eq => (∃ x : Int32, v = some (.int x) ∧ 0 ≤ x.toInt ∧ x.toInt ≤ 1 ∧ (x.toInt ≠ 0 → 0 ≤ x1.toInt ∧ x1.toInt < xi1.toInt)) ∧ kp = kq ∧ L = Lq ∧ E = Eq)) (As := [.int x1]) (rest := []) ⟨hx, hb, hml, hown, hB⟩ (fun sz => tX12_isEdition l D cs a0 x1 xi1 hm0 hk0 hxi1 sz) cg_12_396_X12_isEdition rfl rfl (by decide +kernel) ⟨Nat.le_of_ble_eq_true rfl, Nat.le_of_ble_eq_true rfl⟩ hK hN TH hS hA rfl hm0 hk0 (by decide) rfl hl.1 rfl (Nat.le_of_ble_eq_true rfl) dX12_merge_2 ⟨Nat.le_of_ble_eq_true rfl, Nat.le_of_ble_eq_true rfl⟩ (fun v2 kp2 L2 E2 H locs hq2 hx2 TH hS => ?_)
  obtain ⟨⟨xc3, rfl, hxc3a, hxc3b, hpoxc3_0⟩, rfl, rfl, rfl⟩ := hq2
  refine W.eq (g2 := F0 m 5 ls [.int xc3]) rfl ?_
  refine lv_if_eq (tgt := 16) hx hb dX12_merge_5 (by decide) (fun hc4 => ?_) (fun hc4 => ?_)
  · have hf5 : xc3.toInt = 0 := by have z := (fa_eq _ _).mp hc4; have : ((0 : Int32).toInt) = 0 := (by decide); omega
    refine lv_iconst (v := (-1)) hx hb dX12_merge_16 (by decide) ?_
    exact tw_iret hx hb hr hlocks TH hS hex ⟨⟨_, rfl, (show (-1) ≤ Int32.toInt (-1) from by have : (((-1) : Int32).toInt) = (-1) := (by decide); omega), (show Int32.toInt (-1) ≤ 11 from by have : (((-1) : Int32).toInt) = (-1) := (by decide); omega), hg0, hg1, hg2, hg3, hg4, hg5, hg6⟩, rfl, rfl, hF⟩ (Nat.le_of_ble_eq_true rfl) (Nat.le_of_ble_eq_true rfl) dX12_merge_17
  · have hf6 : ¬ (xc3.toInt = 0) := fun q => hc4 ((fa_eq _ _).mpr (by have : ((0 : Int32).toInt) = 0 := (by decide); omega))
    refine lv_aload_n hx hb dX12_merge_8 rfl (lv_at hl 0 rfl) ?_
    refine lv_iload_n hx hb dX12_merge_9 rfl (lv_at hl 2 rfl) ?_
    refine tw_Vc (o := a0) (ci := 12) (n := 1) (post := (fun v kq Lq Eq => (∃ x : Int32, v = some (.int x) ∧ 0 ≤ x.toInt ∧ x.toInt ≤ 1 ∧ (x.toInt ≠ 0 → 0 ≤ x2.toInt ∧ x2.toInt < xi1.toInt)) ∧ kp = kq ∧ L = Lq ∧ E = Eq)) (As := [.int x2]) (rest := []) ⟨hx, hb, hml, hown, hB⟩ (fun sz => tX12_isEdition l D cs a0 x2 xi1 hm0 hk0 hxi1 sz) cg_12_396_X12_isEdition rfl rfl (by decide +kernel) ⟨Nat.le_of_ble_eq_true rfl, Nat.le_of_ble_eq_true rfl⟩ hK hN TH hS hA rfl hm0 hk0 (by decide) rfl hl.1 rfl (Nat.le_of_ble_eq_true rfl) dX12_merge_10 ⟨Nat.le_of_ble_eq_true rfl, Nat.le_of_ble_eq_true rfl⟩ (fun v7 kp7 L7 E7 H locs hq7 hx7 TH hS => ?_)
    obtain ⟨⟨xc8, rfl, hxc8a, hxc8b, hpoxc8_0⟩, rfl, rfl, rfl⟩ := hq7
    refine W.eq (g2 := F0 m 13 ls [.int xc8]) rfl ?_
    refine lv_if_ne (tgt := 18) hx hb dX12_merge_13 (by decide) (fun hc9 => ?_) (fun hc9 => ?_)
    · have hf10 : ¬ (xc8.toInt = 0) := fun q => hc9 ((fa_eq _ _).mpr (by have : ((0 : Int32).toInt) = 0 := (by decide); omega))
      refine lv_aload_n hx hb dX12_merge_18 rfl (lv_at hl 0 rfl) ?_
      refine lv_iload_n hx hb dX12_merge_19 rfl (lv_at hl 1 rfl) ?_
      refine lv_iload_n hx hb dX12_merge_20 rfl (lv_at hl 2 rfl) ?_
      refine tw_Vc (o := a0) (ci := 12) (n := 2) (post := (fun v kq Lq Eq => (∃ x : Int32, v = some (.int x) ∧ 0 ≤ x.toInt ∧ x.toInt ≤ 1 ∧ (x.toInt ≠ 0 → r2_ok E a0 x1.toInt x2.toInt)) ∧ kp = kq ∧ L = Lq ∧ E = Eq)) (As := [.int x1, .int x2]) (rest := []) ⟨hx, hb, hml, hown, hB⟩ (fun sz => tX12_isFrom_v11 l D cs a0 x1 x2 xi1 hm0 hk0 (by omega) (by omega) (by omega) (by omega) hxi1 (by  omega) hg1 hg4 sz) cg_12_512_X12_isFrom rfl rfl (by decide +kernel) ⟨Nat.le_of_ble_eq_true rfl, Nat.le_of_ble_eq_true rfl⟩ hK hN TH hS hA rfl hm0 hk0 (by decide) rfl hl.1 rfl (Nat.le_of_ble_eq_true rfl) dX12_merge_21 ⟨Nat.le_of_ble_eq_true rfl, Nat.le_of_ble_eq_true rfl⟩ (fun v11 kp11 L11 E11 H locs hq11 hx11 TH hS => ?_)
      obtain ⟨⟨xc12, rfl, hxc12a, hxc12b, hpoxc12_0⟩, rfl, rfl, rfl⟩ := hq11
      refine W.eq (g2 := F0 m 24 ls [.int xc12]) rfl ?_
      refine lv_if_eq (tgt := 29) hx hb dX12_merge_24 (by decide) (fun hc13 => ?_) (fun hc13 => ?_)
      · have hf14 : xc12.toInt = 0 := by have z := (fa_eq _ _).mp hc13; have : ((0 : Int32).toInt) = 0 := (by decide); omega
        refine lv_aload_n hx hb dX12_merge_29 rfl (lv_at hl 0 rfl) ?_
        refine lv_iload_n hx hb dX12_merge_30 rfl (lv_at hl 2 rfl) ?_
        refine lv_iload_n hx hb dX12_merge_31 rfl (lv_at hl 1 rfl) ?_
        refine tw_Vc (o := a0) (ci := 12) (n := 2) (post := (fun v kq Lq Eq => (∃ x : Int32, v = some (.int x) ∧ 0 ≤ x.toInt ∧ x.toInt ≤ 1 ∧ (x.toInt ≠ 0 → r2_ok E a0 x2.toInt x1.toInt)) ∧ kp = kq ∧ L = Lq ∧ E = Eq)) (As := [.int x2, .int x1]) (rest := []) ⟨hx, hb, hml, hown, hB⟩ (fun sz => tX12_isFrom_v11 l D cs a0 x2 x1 xi1 hm0 hk0 (by omega) (by omega) (by omega) (by omega) hxi1 (by  omega) hg1 hg4 sz) cg_12_512_X12_isFrom rfl rfl (by decide +kernel) ⟨Nat.le_of_ble_eq_true rfl, Nat.le_of_ble_eq_true rfl⟩ hK hN TH hS hA rfl hm0 hk0 (by decide) rfl hl.1 rfl (Nat.le_of_ble_eq_true rfl) dX12_merge_32 ⟨Nat.le_of_ble_eq_true rfl, Nat.le_of_ble_eq_true rfl⟩ (fun v15 kp15 L15 E15 H locs hq15 hx15 TH hS => ?_)
        obtain ⟨⟨xc16, rfl, hxc16a, hxc16b, hpoxc16_0⟩, rfl, rfl, rfl⟩ := hq15
        refine W.eq (g2 := F0 m 35 ls [.int xc16]) rfl ?_
        refine lv_if_eq (tgt := 40) hx hb dX12_merge_35 (by decide) (fun hc17 => ?_) (fun hc17 => ?_)
        · have hf18 : xc16.toInt = 0 := by have z := (fa_eq _ _).mp hc17; have : ((0 : Int32).toInt) = 0 := (by decide); omega
          refine lv_aload_n hx hb dX12_merge_40 rfl (lv_at hl 0 rfl) ?_
          refine tw_get (ci := 12) (C := RX12) (T := TX12) (N := 64) hx hb hB cx_inX12 hown hK TH hm0 hk0 rfl ⟨by decide, rfl⟩ 27 (by decide) cw_1220 (fun _ h9 => h9) dX12_merge_41 (fun hv => ?_)
          rw [hxi1]
          refine lv_bipush (v := 12) hx hb dX12_merge_44 (by decide) ?_
          refine lv_icmp_ne (tgt := 51) hx hb dX12_merge_46 (by decide) (fun hc19 => ?_) (fun hc19 => ?_)
          · have hf20 : ¬ (xi1.toInt = 12) := fun q => hc19 ((fa_eq _ _).mpr (by have : ((12 : Int32).toInt) = 12 := (by decide); omega))
            refine lv_aload_n hx hb dX12_merge_51 rfl (lv_at hl 0 rfl) ?_
            refine lv_iload_n hx hb dX12_merge_52 rfl (lv_at hl 1 rfl) ?_
            refine lv_iload_n hx hb dX12_merge_53 rfl (lv_at hl 2 rfl) ?_
            refine tw_Vc (o := a0) (ci := 12) (n := 2) (post := (fun v kq Lq Eq => (∃ x : Int32, v = some (.int x) ∧ (-1) ≤ x.toInt ∧ x.toInt ≤ 14 ∧ (x.toInt ≠ 12 ∧ x.toInt ≠ 13) ∧ (x.toInt < 12 → x.toInt < xi1.toInt) ∧ (x.toInt ≠ -1 → r2_ok Eq a0 x1.toInt x2.toInt) ∧ rd_ok Eq a0 ∧ eo_ok Eq a0 ∧ ht_ok Eq a0 ∧ dr_ok Eq a0 ∧ ln_ok Eq a0 ∧ dl_ok Eq a0 ∧ fw_ok Eq a0) ∧ kp = kq ∧ L = Lq ∧ tw_fr kp L [(12, 57)] [326, 327, 328, 329, 348, 349, 359, 363, 364, 365] E Eq)) (As := [.int x1, .int x2]) (rest := []) ⟨hx, hb, hml, hown, hB⟩ (fun sz => tX12_baseRow l D cs a0 x1 x2 xi1 hm0 hk0 (by omega) (by omega) (by omega) (by omega) hxi1 (by  omega) (by  omega) hg0 hg1 hg2 hg3 hg4 hg5 hg6 sz) cg_12_524_X12_baseRow rfl rfl (by decide +kernel) ⟨Nat.le_of_ble_eq_true rfl, Nat.le_of_ble_eq_true rfl⟩ hK hN TH hS hA rfl hm0 hk0 (by decide) rfl hl.1 rfl (Nat.le_of_ble_eq_true rfl) dX12_merge_54 ⟨Nat.le_of_ble_eq_true rfl, Nat.le_of_ble_eq_true rfl⟩ (fun v21 kp21 L21 E21 H locs hq21 hx21 TH hS => ?_)
            obtain ⟨⟨xc22, rfl, hxc22a, hxc22b, hpoxc22_0, hpoxc22_1, hpoxc22_2, hgpxc22_0, hgpxc22_1, hgpxc22_2, hgpxc22_3, hgpxc22_4, hgpxc22_5, hgpxc22_6⟩, rfl, rfl, hst21⟩ := hq21
            have hF := hF.tr hst21 (fun _ h => ⟨h, rfl⟩) (by decide) (by decide)
            have hmf23 : tw_fv E21 a0 27 = .int xi1 := (hst21.1 a0 27 hm0 (by rw [hk0]; decide)).trans hxi1
            refine W.eq (g2 := F0 m 57 ls [.int xc22]) rfl ?_
            refine lv_istore_n (lv' := [(3, .int xc22), (0, .ref a0), (1, .int x1), (2, .int x2)]) hx hb dX12_merge_57 rfl hl (by decide) rfl (fun ls hl => ?_)
            refine lv_iload_n hx hb dX12_merge_58 rfl (lv_at hl 0 rfl) ?_
            refine lv_iconst (v := (-1)) hx hb dX12_merge_59 (by decide) ?_
            refine lv_icmp_eq (tgt := 82) hx hb dX12_merge_60 (by decide) (fun hc24 => ?_) (fun hc24 => ?_)
            · have hf25 : xc22.toInt = (-1) := by have z := (fa_eq _ _).mp hc24; have : (((-1) : Int32).toInt) = (-1) := (by decide); omega
              refine lv_iconst (v := (-1)) hx hb dX12_merge_82 (by decide) ?_
              exact tw_iret hx hb hr hlocks TH hS hex ⟨⟨_, rfl, (show (-1) ≤ Int32.toInt (-1) from by have : (((-1) : Int32).toInt) = (-1) := (by decide); omega), (show Int32.toInt (-1) ≤ 11 from by have : (((-1) : Int32).toInt) = (-1) := (by decide); omega), hgpxc22_0, hgpxc22_1, hgpxc22_2, hgpxc22_3, hgpxc22_4, hgpxc22_5, hgpxc22_6⟩, rfl, rfl, hF⟩ (Nat.le_of_ble_eq_true rfl) (Nat.le_of_ble_eq_true rfl) dX12_merge_83
            · have hf26 : ¬ (xc22.toInt = (-1)) := fun q => hc24 ((fa_eq _ _).mpr (by have : (((-1) : Int32).toInt) = (-1) := (by decide); omega))
              refine lv_aload_n hx hb dX12_merge_63 rfl (lv_at hl 1 rfl) ?_
              refine lv_iload_n hx hb dX12_merge_64 rfl (lv_at hl 2 rfl) ?_
              refine lv_iload_n hx hb dX12_merge_65 rfl (lv_at hl 3 rfl) ?_
              refine lv_iload_n hx hb dX12_merge_66 rfl (lv_at hl 0 rfl) ?_
              refine tw_Vc (o := a0) (ci := 12) (n := 3) (post := (fun v kq Lq Eq => (∃ x : Int32, v = some (.int x) ∧ 0 ≤ x.toInt ∧ x.toInt ≤ 1 ∧ (ot_ok Eq a0 13 E21) ∧ (x.toInt ≠ 0 → r2_ok E21 a0 x1.toInt x2.toInt → row_ok Eq a0 13) ∧ (x.toInt ≠ 0 → r2_ok E21 a0 x1.toInt x2.toInt → r2_ok Eq a0 13 x1.toInt ∧ r2_ok Eq a0 13 x2.toInt) ∧ rd_ok Eq a0 ∧ ht_ok Eq a0) ∧ kp = kq ∧ L = Lq ∧ tw_fr kp L [(12, 57)] [326, 327, 328, 329, 348, 349, 359, 363, 364] E21 Eq)) (As := [.int x1, .int x2, .int xc22]) (rest := []) ⟨hx, hb, hml, hown, hB⟩ (fun sz => tX12_merges l D cs a0 x1 x2 xc22 hm0 hk0 (by omega) (by omega) (by omega) (by omega) (by omega) (by omega) (by  omega) (by  omega) (by  omega) (hgpxc22_1 (x1.toInt) (by omega) (by rw [tw_fi_of hmf23]; omega)) (hgpxc22_1 (x2.toInt) (by omega) (by rw [tw_fi_of hmf23]; omega)) hgpxc22_0 hgpxc22_2 sz) cg_12_521_X12_merges rfl rfl (by decide +kernel) ⟨Nat.le_of_ble_eq_true rfl, Nat.le_of_ble_eq_true rfl⟩ hK hN TH hS hA rfl hm0 hk0 (by decide) rfl hl.1 rfl (Nat.le_of_ble_eq_true rfl) dX12_merge_67 ⟨Nat.le_of_ble_eq_true rfl, Nat.le_of_ble_eq_true rfl⟩ (fun v27 kp27 L27 E27 H locs hq27 hx27 TH hS => ?_)
              obtain ⟨⟨xc28, rfl, hxc28a, hxc28b, hpoxc28_0, hpoxc28_1, hpoxc28_2, hgpxc28_0, hgpxc28_1⟩, rfl, rfl, hst27⟩ := hq27
              have hF := hF.tr hst27 (fun _ h => ⟨h, rfl⟩) (by decide) (by decide)
              have hmf29 : tw_fv E27 a0 27 = .int xi1 := (hst27.1 a0 27 hm0 (by rw [hk0]; decide)).trans hmf23
              have hgpxc22_1_o := hgpxc22_1
              have hgpxc22_3_o := hgpxc22_3
              have hgpxc22_4_o := hgpxc22_4
              have hgpxc22_5_o := hgpxc22_5
              have hgpxc22_6_o := hgpxc22_6
              have hgpxc22_1 : eo_ok E27 a0 := eo_ok_ot (r := 13) TH hst27 hm0 hk0 (by decide) (by have e14 : ((14 : Int32).toInt) = 14 := (by decide); have q := hpoxc28_0; (try rw [e14] at q); exact q) (by rw [tw_fi_of hmf23]; omega) hgpxc22_1_o
              have hgpxc22_3 : dr_ok E27 a0 := dr_ok_ot (r := 13) hst27 hm0 hk0 (by decide) (by have e14 : ((14 : Int32).toInt) = 14 := (by decide); have q := hpoxc28_0; (try rw [e14] at q); exact q) (by decide) hgpxc22_3_o
              have hgpxc22_4 : ln_ok E27 a0 := ln_ok_ot (r := 13) TH hst27 hm0 hk0 (by decide) (by decide) (by have e14 : ((14 : Int32).toInt) = 14 := (by decide); have q := hpoxc28_0; (try rw [e14] at q); exact q) (by rw [tw_fi_of hmf23]; omega) hgpxc22_4_o
              have hgpxc22_5 : dl_ok E27 a0 := dl_ok_ot (r := 13) TH hst27 hm0 hk0 (by decide) (by have e14 : ((14 : Int32).toInt) = 14 := (by decide); have q := hpoxc28_0; (try rw [e14] at q); exact q) (by decide) (by rw [tw_fi_of hmf23]; omega) hgpxc22_5_o
              have hgpxc22_6 : fw_ok E27 a0 := fw_ok_ot (r := 13) TH hst27 hm0 hk0 (by decide) (by have e14 : ((14 : Int32).toInt) = 14 := (by decide); have q := hpoxc28_0; (try rw [e14] at q); exact q) (by decide) hgpxc22_6_o
              refine W.eq (g2 := F0 m 70 ls [.int xc28]) rfl ?_
              refine lv_if_eq (tgt := 82) hx hb dX12_merge_70 (by decide) (fun hc30 => ?_) (fun hc30 => ?_)
              · have hf31 : xc28.toInt = 0 := by have z := (fa_eq _ _).mp hc30; have : ((0 : Int32).toInt) = 0 := (by decide); omega
                refine lv_iconst (v := (-1)) hx hb dX12_merge_82 (by decide) ?_
                exact tw_iret hx hb hr hlocks TH hS hex ⟨⟨_, rfl, (show (-1) ≤ Int32.toInt (-1) from by have : (((-1) : Int32).toInt) = (-1) := (by decide); omega), (show Int32.toInt (-1) ≤ 11 from by have : (((-1) : Int32).toInt) = (-1) := (by decide); omega), hgpxc28_0, hgpxc22_1, hgpxc28_1, hgpxc22_3, hgpxc22_4, hgpxc22_5, hgpxc22_6⟩, rfl, rfl, hF⟩ (Nat.le_of_ble_eq_true rfl) (Nat.le_of_ble_eq_true rfl) dX12_merge_83
              · have hf32 : ¬ (xc28.toInt = 0) := fun q => hc30 ((fa_eq _ _).mpr (by have : ((0 : Int32).toInt) = 0 := (by decide); omega))
                have hbr := hpoxc22_2 (by omega)
                have hrow13 : row_ok E27 a0 13 := hpoxc28_1 (by omega) hbr
                have hr13 := hpoxc28_2 (by omega) hbr
                refine lv_aload_n hx hb dX12_merge_73 rfl (lv_at hl 1 rfl) ?_
                refine lv_iload_n hx hb dX12_merge_74 rfl (lv_at hl 2 rfl) ?_
                refine lv_iload_n hx hb dX12_merge_75 rfl (lv_at hl 3 rfl) ?_
                refine tw_Vc (o := a0) (ci := 12) (n := 2) (post := (fun v kq Lq Eq => (∃ x : Int32, v = some (.int x) ∧ 0 ≤ x.toInt ∧ x.toInt ≤ 11 ∧ rd_ok Eq a0 ∧ eo_ok Eq a0 ∧ ht_ok Eq a0 ∧ dr_ok Eq a0 ∧ ln_ok Eq a0 ∧ dl_ok Eq a0 ∧ fw_ok Eq a0) ∧ kp = kq ∧ L = Lq ∧ tw_fr kp L [(12, 27)] [326, 327, 328, 329, 334, 335] E27 Eq)) (As := [.int x1, .int x2]) (rest := []) ⟨hx, hb, hml, hown, hB⟩ (fun sz => tX12_made l D cs a0 x1 x2 xi1 hm0 hk0 (by omega) (by omega) (by omega) (by omega) hmf29 (by  omega) (by  omega) (by  exact hr13.1) (by  omega) (by  intro _; exact hr13.2) hrow13 hgpxc28_0 hgpxc22_1 hgpxc28_1 hgpxc22_3 hgpxc22_4 hgpxc22_5 hgpxc22_6 sz) cg_12_527_X12_made rfl rfl (by decide +kernel) ⟨Nat.le_of_ble_eq_true rfl, Nat.le_of_ble_eq_true rfl⟩ hK hN TH hS hA rfl hm0 hk0 (by decide) rfl hl.1 rfl (Nat.le_of_ble_eq_true rfl) dX12_merge_76 ⟨Nat.le_of_ble_eq_true rfl, Nat.le_of_ble_eq_true rfl⟩ (fun v33 kp33 L33 E33 H locs hq33 hx33 TH hS => ?_)
                obtain ⟨⟨xc34, rfl, hxc34a, hxc34b, hgpxc34_0, hgpxc34_1, hgpxc34_2, hgpxc34_3, hgpxc34_4, hgpxc34_5, hgpxc34_6⟩, rfl, rfl, hst33⟩ := hq33
                have hF := hF.tr hst33 (fun _ h => ⟨h, rfl⟩) (by decide) (by decide)
                refine W.eq (g2 := F0 m 79 ls [.int xc34]) rfl ?_
                refine lv_goto (tgt := 83) hx hb dX12_merge_79 (by decide) ?_
                exact tw_iret hx hb hr hlocks TH hS hex ⟨⟨_, rfl, (show (-1) ≤ Int32.toInt xc34 from by  omega), (show Int32.toInt xc34 ≤ 11 from by  omega), hgpxc34_0, hgpxc34_1, hgpxc34_2, hgpxc34_3, hgpxc34_4, hgpxc34_5, hgpxc34_6⟩, rfl, rfl, hF⟩ (Nat.le_of_ble_eq_true rfl) (Nat.le_of_ble_eq_true rfl) dX12_merge_83
          · have hf35 : xi1.toInt = 12 := by have z := (fa_eq _ _).mp hc19; have : ((12 : Int32).toInt) = 12 := (by decide); omega
            refine lv_iconst (v := (-1)) hx hb dX12_merge_49 (by decide) ?_
            exact tw_iret hx hb hr hlocks TH hS hex ⟨⟨_, rfl, (show (-1) ≤ Int32.toInt (-1) from by have : (((-1) : Int32).toInt) = (-1) := (by decide); omega), (show Int32.toInt (-1) ≤ 11 from by have : (((-1) : Int32).toInt) = (-1) := (by decide); omega), hg0, hg1, hg2, hg3, hg4, hg5, hg6⟩, rfl, rfl, hF⟩ (Nat.le_of_ble_eq_true rfl) (Nat.le_of_ble_eq_true rfl) dX12_merge_50
        · have hf36 : ¬ (xc16.toInt = 0) := fun q => hc17 ((fa_eq _ _).mpr (by have : ((0 : Int32).toInt) = 0 := (by decide); omega))
          refine lv_iload_n hx hb dX12_merge_38 rfl (lv_at hl 2 rfl) ?_
          exact tw_iret hx hb hr hlocks TH hS hex ⟨⟨_, rfl, (show (-1) ≤ Int32.toInt x2 from by  omega), (show Int32.toInt x2 ≤ 11 from by  omega), hg0, hg1, hg2, hg3, hg4, hg5, hg6⟩, rfl, rfl, hF⟩ (Nat.le_of_ble_eq_true rfl) (Nat.le_of_ble_eq_true rfl) dX12_merge_39
      · have hf37 : ¬ (xc12.toInt = 0) := fun q => hc13 ((fa_eq _ _).mpr (by have : ((0 : Int32).toInt) = 0 := (by decide); omega))
        refine lv_iload_n hx hb dX12_merge_27 rfl (lv_at hl 1 rfl) ?_
        exact tw_iret hx hb hr hlocks TH hS hex ⟨⟨_, rfl, (show (-1) ≤ Int32.toInt x1 from by  omega), (show Int32.toInt x1 ≤ 11 from by  omega), hg0, hg1, hg2, hg3, hg4, hg5, hg6⟩, rfl, rfl, hF⟩ (Nat.le_of_ble_eq_true rfl) (Nat.le_of_ble_eq_true rfl) dX12_merge_28
    · have hf38 : xc8.toInt = 0 := by have z := (fa_eq _ _).mp hc9; have : ((0 : Int32).toInt) = 0 := (by decide); omega
      refine lv_iconst (v := (-1)) hx hb dX12_merge_16 (by decide) ?_
      exact tw_iret hx hb hr hlocks TH hS hex ⟨⟨_, rfl, (show (-1) ≤ Int32.toInt (-1) from by have : (((-1) : Int32).toInt) = (-1) := (by decide); omega), (show Int32.toInt (-1) ≤ 11 from by have : (((-1) : Int32).toInt) = (-1) := (by decide); omega), hg0, hg1, hg2, hg3, hg4, hg5, hg6⟩, rfl, rfl, hF⟩ (Nat.le_of_ble_eq_true rfl) (Nat.le_of_ble_eq_true rfl) dX12_merge_17
set_option maxHeartbeats 4000000 in
set_option maxRecDepth 100000 in
theorem tX12_carry (l : Launch) (D : va_G) (cs : Nat → ClassId) {kp : Nat → Nat} {L : List Nat} {E : Nat → va_E} (a0 : Nat) (x1 : Int32) (x2 : Int32) (hm0 : a0 ∈ L) (hk0 : kp a0 = 12) (hg0 : rd_ok E a0) (hg1 : eo_ok E a0) (hg2 : ht_ok E a0) (hg3 : dr_ok E a0) (hg4 : ln_ok E a0) (hg5 : dl_ok E a0) (hg6 : fw_ok E a0) (sz : Nat) : Met l yX12_carry (.code yX12_carry cX12_carry 3 (some .int) :: cx_big) { frames := 14, cells := 0, slots := 0, locals := 313 } (tw_P D cs kp L E [.ref a0, .int x1, .int x2] sz) (tw_Q D cs kp L (fun v kq Lq Eq => (∃ x : Int32, v = some (.int x) ∧ (-1) ≤ x.toInt ∧ x.toInt ≤ 11 ∧ rd_ok Eq a0 ∧ eo_ok Eq a0 ∧ ht_ok Eq a0 ∧ dr_ok Eq a0 ∧ ln_ok Eq a0 ∧ dl_ok Eq a0 ∧ fw_ok Eq a0) ∧ kp = kq ∧ L = Lq ∧ tw_fr kp L [(12, 27), (12, 57)] [326, 327, 328, 329, 334, 335, 348, 349, 359, 363, 364] E Eq) (va_A (va_pl L E) sz)) 0 0 (va_A (va_pl L E) sz) := by
  refine tw_ofW (by decide) (Nat.le_of_ble_eq_true rfl) ?_
  intro p e s m below meth c A ls hx hb hr hml hB hown hlocks hK hN hA TH hS hl
  have hown : s.vm.findClass "TreeMergeModel" = some m.cls := hown
  have hl : lv_has ls 3 [(0, .ref a0), (1, .int x1), (2, .int x2)] := hl
  obtain ⟨kp0, ekp⟩ : ∃ z, z = kp := ⟨_, rfl⟩
  obtain ⟨L0, eL⟩ : ∃ z, z = L := ⟨_, rfl⟩
  rw [show tw_Q D cs kp L = tw_Q D cs kp0 L0 by rw [ekp, eL]]
  have hex : ∀ a : Nat, a ∈ L0 → a ∈ L ∧ kp a = kp0 a := fun a h => ⟨by rw [← eL]; exact h, by rw [ekp]⟩
  have hF : tw_fr kp L [(12, 27), (12, 57)] [326, 327, 328, 329, 334, 335, 348, 349, 359, 363, 364] E E := tw_fr.rf
  refine lv_aload_n hx hb dX12_carry_0 rfl (lv_at hl 0 rfl) ?_
  refine lv_iload_n hx hb dX12_carry_1 rfl (lv_at hl 1 rfl) ?_
  obtain ⟨xi1, hxi1, hxi1a, hxi1b⟩ := tw_rd TH hm0 hk0 (by decide) (by decide) (k := 27) rfl
  refine tw_Vc (o := a0) (ci := 12) (n := 1) (post := (fun v kq Lq Eq => (∃ x : Int32, v = some (.int x) ∧ 0 ≤ x.toInt ∧ x.toInt ≤ 1 ∧ (x.toInt ≠ 0 → 0 ≤ x1.toInt ∧ x1.toInt < xi1.toInt) ∧ (x.toInt ≠ 0 → tw_el E a0 24 (x1.toInt).toNat ≠ -1)) ∧ kp = kq ∧ L = Lq ∧ E = Eq)) (As := [.int x1]) (rest := []) ⟨hx, hb, hml, hown, hB⟩ (fun sz => tX12_hasOneParent l D cs a0 x1 xi1 hm0 hk0 hxi1 sz) cg_12_530_X12_hasOneParent rfl rfl (by decide +kernel) ⟨Nat.le_of_ble_eq_true rfl, Nat.le_of_ble_eq_true rfl⟩ hK hN TH hS hA rfl hm0 hk0 (by decide) rfl hl.1 rfl (Nat.le_of_ble_eq_true rfl) dX12_carry_2 ⟨Nat.le_of_ble_eq_true rfl, Nat.le_of_ble_eq_true rfl⟩ (fun v2 kp2 L2 E2 H locs hq2 hx2 TH hS => ?_)
  obtain ⟨⟨xc3, rfl, hxc3a, hxc3b, hpoxc3_0, hpoxc3_1⟩, rfl, rfl, rfl⟩ := hq2
  refine W.eq (g2 := F0 m 5 ls [.int xc3]) rfl ?_
  refine lv_if_eq (tgt := 36) hx hb dX12_carry_5 (by decide) (fun hc4 => ?_) (fun hc4 => ?_)
  · have hf5 : xc3.toInt = 0 := by have z := (fa_eq _ _).mp hc4; have : ((0 : Int32).toInt) = 0 := (by decide); omega
    refine lv_iconst (v := (-1)) hx hb dX12_carry_36 (by decide) ?_
    exact tw_iret hx hb hr hlocks TH hS hex ⟨⟨_, rfl, (show (-1) ≤ Int32.toInt (-1) from by have : (((-1) : Int32).toInt) = (-1) := (by decide); omega), (show Int32.toInt (-1) ≤ 11 from by have : (((-1) : Int32).toInt) = (-1) := (by decide); omega), hg0, hg1, hg2, hg3, hg4, hg5, hg6⟩, rfl, rfl, hF⟩ (Nat.le_of_ble_eq_true rfl) (Nat.le_of_ble_eq_true rfl) dX12_carry_37
  · have hf6 : ¬ (xc3.toInt = 0) := fun q => hc4 ((fa_eq _ _).mpr (by have : ((0 : Int32).toInt) = 0 := (by decide); omega))
    refine lv_aload_n hx hb dX12_carry_8 rfl (lv_at hl 0 rfl) ?_
    refine lv_iload_n hx hb dX12_carry_9 rfl (lv_at hl 2 rfl) ?_
    refine tw_Vc (o := a0) (ci := 12) (n := 1) (post := (fun v kq Lq Eq => (∃ x : Int32, v = some (.int x) ∧ 0 ≤ x.toInt ∧ x.toInt ≤ 1 ∧ (x.toInt ≠ 0 → 0 ≤ x2.toInt ∧ x2.toInt < xi1.toInt)) ∧ kp = kq ∧ L = Lq ∧ E = Eq)) (As := [.int x2]) (rest := []) ⟨hx, hb, hml, hown, hB⟩ (fun sz => tX12_isEdition l D cs a0 x2 xi1 hm0 hk0 hxi1 sz) cg_12_396_X12_isEdition rfl rfl (by decide +kernel) ⟨Nat.le_of_ble_eq_true rfl, Nat.le_of_ble_eq_true rfl⟩ hK hN TH hS hA rfl hm0 hk0 (by decide) rfl hl.1 rfl (Nat.le_of_ble_eq_true rfl) dX12_carry_10 ⟨Nat.le_of_ble_eq_true rfl, Nat.le_of_ble_eq_true rfl⟩ (fun v7 kp7 L7 E7 H locs hq7 hx7 TH hS => ?_)
    obtain ⟨⟨xc8, rfl, hxc8a, hxc8b, hpoxc8_0⟩, rfl, rfl, rfl⟩ := hq7
    refine W.eq (g2 := F0 m 13 ls [.int xc8]) rfl ?_
    refine lv_if_eq (tgt := 36) hx hb dX12_carry_13 (by decide) (fun hc9 => ?_) (fun hc9 => ?_)
    · have hf10 : xc8.toInt = 0 := by have z := (fa_eq _ _).mp hc9; have : ((0 : Int32).toInt) = 0 := (by decide); omega
      refine lv_iconst (v := (-1)) hx hb dX12_carry_36 (by decide) ?_
      exact tw_iret hx hb hr hlocks TH hS hex ⟨⟨_, rfl, (show (-1) ≤ Int32.toInt (-1) from by have : (((-1) : Int32).toInt) = (-1) := (by decide); omega), (show Int32.toInt (-1) ≤ 11 from by have : (((-1) : Int32).toInt) = (-1) := (by decide); omega), hg0, hg1, hg2, hg3, hg4, hg5, hg6⟩, rfl, rfl, hF⟩ (Nat.le_of_ble_eq_true rfl) (Nat.le_of_ble_eq_true rfl) dX12_carry_37
    · have hf11 : ¬ (xc8.toInt = 0) := fun q => hc9 ((fa_eq _ _).mpr (by have : ((0 : Int32).toInt) = 0 := (by decide); omega))
      refine lv_aload_n hx hb dX12_carry_16 rfl (lv_at hl 0 rfl) ?_
      refine tw_get (ci := 12) (C := RX12) (T := TX12) (N := 64) hx hb hB cx_inX12 hown hK TH hm0 hk0 rfl ⟨by decide, rfl⟩ 27 (by decide) cw_1220 (fun _ h9 => h9) dX12_carry_17 (fun hv => ?_)
      rw [hxi1]
      refine lv_bipush (v := 12) hx hb dX12_carry_20 (by decide) ?_
      refine lv_icmp_eq (tgt := 36) hx hb dX12_carry_22 (by decide) (fun hc12 => ?_) (fun hc12 => ?_)
      · have hf13 : xi1.toInt = 12 := by have z := (fa_eq _ _).mp hc12; have : ((12 : Int32).toInt) = 12 := (by decide); omega
        refine lv_iconst (v := (-1)) hx hb dX12_carry_36 (by decide) ?_
        exact tw_iret hx hb hr hlocks TH hS hex ⟨⟨_, rfl, (show (-1) ≤ Int32.toInt (-1) from by have : (((-1) : Int32).toInt) = (-1) := (by decide); omega), (show Int32.toInt (-1) ≤ 11 from by have : (((-1) : Int32).toInt) = (-1) := (by decide); omega), hg0, hg1, hg2, hg3, hg4, hg5, hg6⟩, rfl, rfl, hF⟩ (Nat.le_of_ble_eq_true rfl) (Nat.le_of_ble_eq_true rfl) dX12_carry_37
      · have hf14 : ¬ (xi1.toInt = 12) := fun q => hc12 ((fa_eq _ _).mpr (by have : ((12 : Int32).toInt) = 12 := (by decide); omega))
        refine lv_aload_n hx hb dX12_carry_25 rfl (lv_at hl 0 rfl) ?_
        refine lv_iload_n hx hb dX12_carry_26 rfl (lv_at hl 1 rfl) ?_
        refine lv_iload_n hx hb dX12_carry_27 rfl (lv_at hl 2 rfl) ?_
        refine lv_iconst (v := 0) hx hb dX12_carry_28 (by decide) ?_
        refine tw_Vc (o := a0) (ci := 12) (n := 3) (post := (fun v kq Lq Eq => (∃ x : Int32, v = some (.int x) ∧ (-1) ≤ x.toInt ∧ x.toInt ≤ 11 ∧ (x.toInt < xi1.toInt ∧ (x.toInt ≠ -1 → r2_ok E a0 x1.toInt x.toInt ∧ r2_ok E a0 x2.toInt x.toInt))) ∧ kp = kq ∧ L = Lq ∧ E = Eq)) (As := [.int x1, .int x2, .int 0]) (rest := []) ⟨hx, hb, hml, hown, hB⟩ (fun sz => tX12_nthBase l D cs a0 x1 x2 (0 : Int32) xi1 hm0 hk0 (by omega) (by omega) (by omega) (by omega) (by have : ((0 : Int32).toInt) = 0 := (by decide); omega) (by have : ((0 : Int32).toInt) = 0 := (by decide); omega) hxi1 (by have : ((0 : Int32).toInt) = 0 := (by decide); omega) (by have : ((0 : Int32).toInt) = 0 := (by decide); omega) hg1 hg4 sz) cg_12_518_X12_nthBase rfl rfl (by decide +kernel) ⟨Nat.le_of_ble_eq_true rfl, Nat.le_of_ble_eq_true rfl⟩ hK hN TH hS hA rfl hm0 hk0 (by decide) rfl hl.1 rfl (Nat.le_of_ble_eq_true rfl) dX12_carry_29 ⟨Nat.le_of_ble_eq_true rfl, Nat.le_of_ble_eq_true rfl⟩ (fun v15 kp15 L15 E15 H locs hq15 hx15 TH hS => ?_)
        obtain ⟨⟨xc16, rfl, hxc16a, hxc16b, hpoxc16_0⟩, rfl, rfl, rfl⟩ := hq15
        refine W.eq (g2 := F0 m 32 ls [.int xc16]) rfl ?_
        refine lv_iconst (v := (-1)) hx hb dX12_carry_32 (by decide) ?_
        refine lv_icmp_ne (tgt := 38) hx hb dX12_carry_33 (by decide) (fun hc17 => ?_) (fun hc17 => ?_)
        · have hf18 : ¬ (xc16.toInt = (-1)) := fun q => hc17 ((fa_eq _ _).mpr (by have : (((-1) : Int32).toInt) = (-1) := (by decide); omega))
          refine lv_aload_n hx hb dX12_carry_38 rfl (lv_at hl 0 rfl) ?_
          refine lv_iload_n hx hb dX12_carry_39 rfl (lv_at hl 1 rfl) ?_
          refine lv_iload_n hx hb dX12_carry_40 rfl (lv_at hl 2 rfl) ?_
          refine lv_aload_n hx hb dX12_carry_41 rfl (lv_at hl 0 rfl) ?_
          refine tw_get (ci := 12) (C := RX12) (T := TX12) (N := 64) hx hb hB cx_inX12 hown hK TH hm0 hk0 rfl ⟨by decide, rfl⟩ 24 (by decide) cw_1217 (fun _ h9 => h9) dX12_carry_42 (fun hv => ?_)
          obtain ⟨xr19, hxr19, hmxr19, hkxr19⟩ : ∃ a : Nat, tw_fv E a0 24 = .ref a ∧ a ∈ L ∧ kp a = 334 := hv
          rw [hxr19]
          refine lv_iload_n hx hb dX12_carry_45 rfl (lv_at hl 1 rfl) ?_
          refine tw_iald (k := 334) (t0 := 0) (n := 12) (lo := (-1)) (hi := 11) hx hb hK TH hmxr19 hkxr19 (by decide) rfl rfl (i := x1) (vp_in_iff.mpr ⟨by  omega, by  omega⟩) dX12_carry_46 (fun hxe20a hxe20b => ?_)
          obtain ⟨xe20, exe20⟩ : ∃ z : Int32, tw_iv E xr19 (Int32.toNatClampNeg x1) = z := ⟨_, rfl⟩
          rw [exe20] at hxe20a hxe20b ⊢
          have hw47 : tw_el E a0 24 (x1.toInt).toNat = xe20.toInt := (by rw [tw_el_of hxr19]; exact congrArg Int32.toInt exe20)
          have hz47 : xe20.toInt ≠ -1 := (by rw [← hw47]; exact hpoxc3_1 (by omega))
          have hl47 : 0 ≤ xe20.toInt ∧ xe20.toInt < x1.toInt ∧ r2_ok E a0 (x1.toInt) (xe20.toInt) := (by have q := hg4 (x1.toInt).toNat (by rw [tw_fi_of hxi1]; omega) 24 (by decide); rw [hw47, show (((x1.toInt).toNat : Nat) : Int) = x1.toInt by omega] at q; exact q.resolve_left hz47)
          have hl47a := hl47.1
          have hl47b := hl47.2.1
          have hnb := hpoxc16_0
          have hrr : r2_ok E a0 (x1.toInt) (x2.toInt) := r2_tr (hg1 (xc16.toInt) (by omega) (by rw [tw_fi_of hxi1]; omega)).1 (hnb.2 (by omega)).1 (r2_sy (hnb.2 (by omega)).2)
          refine tw_Vc (o := a0) (ci := 12) (n := 3) (post := (fun v kq Lq Eq => (∃ x : Int32, v = some (.int x) ∧ 0 ≤ x.toInt ∧ x.toInt ≤ 1 ∧ (ot_ok Eq a0 13 E) ∧ (x.toInt ≠ 0 → r2_ok E a0 x1.toInt x2.toInt → row_ok Eq a0 13) ∧ (x.toInt ≠ 0 → r2_ok E a0 x1.toInt x2.toInt → r2_ok Eq a0 13 x1.toInt ∧ r2_ok Eq a0 13 x2.toInt) ∧ rd_ok Eq a0 ∧ ht_ok Eq a0) ∧ kp = kq ∧ L = Lq ∧ tw_fr kp L [(12, 57)] [326, 327, 328, 329, 348, 349, 359, 363, 364] E Eq)) (As := [.int x1, .int x2, .int xe20]) (rest := []) ⟨hx, hb, hml, hown, hB⟩ (fun sz => tX12_merges l D cs a0 x1 x2 xe20 hm0 hk0 (by omega) (by omega) (by omega) (by omega) (by omega) (by omega) (by  omega) (by  omega) (by  omega) (hg1 (x1.toInt) (by omega) (by rw [tw_fi_of hxi1]; omega)) (hg1 (x2.toInt) (by omega) (by rw [tw_fi_of hxi1]; omega)) hg0 hg2 sz) cg_12_521_X12_merges rfl rfl (by decide +kernel) ⟨Nat.le_of_ble_eq_true rfl, Nat.le_of_ble_eq_true rfl⟩ hK hN TH hS hA rfl hm0 hk0 (by decide) rfl hl.1 rfl (Nat.le_of_ble_eq_true rfl) dX12_carry_47 ⟨Nat.le_of_ble_eq_true rfl, Nat.le_of_ble_eq_true rfl⟩ (fun v21 kp21 L21 E21 H locs hq21 hx21 TH hS => ?_)
          obtain ⟨⟨xc22, rfl, hxc22a, hxc22b, hpoxc22_0, hpoxc22_1, hpoxc22_2, hgpxc22_0, hgpxc22_1⟩, rfl, rfl, hst21⟩ := hq21
          have hF := hF.tr hst21 (fun _ h => ⟨h, rfl⟩) (by decide) (by decide)
          have hmf23 : tw_fv E21 a0 27 = .int xi1 := (hst21.1 a0 27 hm0 (by rw [hk0]; decide)).trans hxi1
          have hmf24 : tw_fv E21 a0 24 = .ref xr19 := (hst21.1 a0 24 hm0 (by rw [hk0]; decide)).trans hxr19
          have hg1_o := hg1
          have hg3_o := hg3
          have hg4_o := hg4
          have hg5_o := hg5
          have hg6_o := hg6
          have hg1 : eo_ok E21 a0 := eo_ok_ot (r := 13) TH hst21 hm0 hk0 (by decide) (by have e14 : ((14 : Int32).toInt) = 14 := (by decide); have q := hpoxc22_0; (try rw [e14] at q); exact q) (by rw [tw_fi_of hxi1]; omega) hg1_o
          have hg3 : dr_ok E21 a0 := dr_ok_ot (r := 13) hst21 hm0 hk0 (by decide) (by have e14 : ((14 : Int32).toInt) = 14 := (by decide); have q := hpoxc22_0; (try rw [e14] at q); exact q) (by decide) hg3_o
          have hg4 : ln_ok E21 a0 := ln_ok_ot (r := 13) TH hst21 hm0 hk0 (by decide) (by decide) (by have e14 : ((14 : Int32).toInt) = 14 := (by decide); have q := hpoxc22_0; (try rw [e14] at q); exact q) (by rw [tw_fi_of hxi1]; omega) hg4_o
          have hg5 : dl_ok E21 a0 := dl_ok_ot (r := 13) TH hst21 hm0 hk0 (by decide) (by have e14 : ((14 : Int32).toInt) = 14 := (by decide); have q := hpoxc22_0; (try rw [e14] at q); exact q) (by decide) (by rw [tw_fi_of hxi1]; omega) hg5_o
          have hg6 : fw_ok E21 a0 := fw_ok_ot (r := 13) TH hst21 hm0 hk0 (by decide) (by have e14 : ((14 : Int32).toInt) = 14 := (by decide); have q := hpoxc22_0; (try rw [e14] at q); exact q) (by decide) hg6_o
          refine W.eq (g2 := F0 m 50 ls [.int xc22]) rfl ?_
          refine lv_if_eq (tgt := 62) hx hb dX12_carry_50 (by decide) (fun hc25 => ?_) (fun hc25 => ?_)
          · have hf26 : xc22.toInt = 0 := by have z := (fa_eq _ _).mp hc25; have : ((0 : Int32).toInt) = 0 := (by decide); omega
            refine lv_iconst (v := (-1)) hx hb dX12_carry_62 (by decide) ?_
            exact tw_iret hx hb hr hlocks TH hS hex ⟨⟨_, rfl, (show (-1) ≤ Int32.toInt (-1) from by have : (((-1) : Int32).toInt) = (-1) := (by decide); omega), (show Int32.toInt (-1) ≤ 11 from by have : (((-1) : Int32).toInt) = (-1) := (by decide); omega), hgpxc22_0, hg1, hgpxc22_1, hg3, hg4, hg5, hg6⟩, rfl, rfl, hF⟩ (Nat.le_of_ble_eq_true rfl) (Nat.le_of_ble_eq_true rfl) dX12_carry_63
          · have hf27 : ¬ (xc22.toInt = 0) := fun q => hc25 ((fa_eq _ _).mpr (by have : ((0 : Int32).toInt) = 0 := (by decide); omega))
            have hrow13 : row_ok E21 a0 13 := hpoxc22_1 (by omega) hrr
            have hr13 := hpoxc22_2 (by omega) hrr
            refine lv_aload_n hx hb dX12_carry_53 rfl (lv_at hl 0 rfl) ?_
            refine lv_iload_n hx hb dX12_carry_54 rfl (lv_at hl 2 rfl) ?_
            refine lv_iconst (v := (-1)) hx hb dX12_carry_55 (by decide) ?_
            refine tw_Vc (o := a0) (ci := 12) (n := 2) (post := (fun v kq Lq Eq => (∃ x : Int32, v = some (.int x) ∧ 0 ≤ x.toInt ∧ x.toInt ≤ 11 ∧ rd_ok Eq a0 ∧ eo_ok Eq a0 ∧ ht_ok Eq a0 ∧ dr_ok Eq a0 ∧ ln_ok Eq a0 ∧ dl_ok Eq a0 ∧ fw_ok Eq a0) ∧ kp = kq ∧ L = Lq ∧ tw_fr kp L [(12, 27)] [326, 327, 328, 329, 334, 335] E21 Eq)) (As := [.int x2, .int (-1)]) (rest := []) ⟨hx, hb, hml, hown, hB⟩ (fun sz => tX12_made l D cs a0 x2 ((-1) : Int32) xi1 hm0 hk0 (by omega) (by omega) (by have : (((-1) : Int32).toInt) = (-1) := (by decide); omega) (by have : (((-1) : Int32).toInt) = (-1) := (by decide); omega) hmf23 (by have : (((-1) : Int32).toInt) = (-1) := (by decide); omega) (by have : (((-1) : Int32).toInt) = (-1) := (by decide); omega) (by have : (((-1) : Int32).toInt) = (-1) := (by decide); exact hr13.2) (by have : (((-1) : Int32).toInt) = (-1) := (by decide); omega) (by have : (((-1) : Int32).toInt) = (-1) := (by decide); intro q; exfalso; exact q (by decide)) hrow13 hgpxc22_0 hg1 hgpxc22_1 hg3 hg4 hg5 hg6 sz) cg_12_527_X12_made rfl rfl (by decide +kernel) ⟨Nat.le_of_ble_eq_true rfl, Nat.le_of_ble_eq_true rfl⟩ hK hN TH hS hA rfl hm0 hk0 (by decide) rfl hl.1 rfl (Nat.le_of_ble_eq_true rfl) dX12_carry_56 ⟨Nat.le_of_ble_eq_true rfl, Nat.le_of_ble_eq_true rfl⟩ (fun v28 kp28 L28 E28 H locs hq28 hx28 TH hS => ?_)
            obtain ⟨⟨xc29, rfl, hxc29a, hxc29b, hgpxc29_0, hgpxc29_1, hgpxc29_2, hgpxc29_3, hgpxc29_4, hgpxc29_5, hgpxc29_6⟩, rfl, rfl, hst28⟩ := hq28
            have hF := hF.tr hst28 (fun _ h => ⟨h, rfl⟩) (by decide) (by decide)
            have hmf30 : tw_fv E28 a0 24 = .ref xr19 := (hst28.1 a0 24 hm0 (by rw [hk0]; decide)).trans hmf24
            refine W.eq (g2 := F0 m 59 ls [.int xc29]) rfl ?_
            refine lv_goto (tgt := 63) hx hb dX12_carry_59 (by decide) ?_
            exact tw_iret hx hb hr hlocks TH hS hex ⟨⟨_, rfl, (show (-1) ≤ Int32.toInt xc29 from by  omega), (show Int32.toInt xc29 ≤ 11 from by  omega), hgpxc29_0, hgpxc29_1, hgpxc29_2, hgpxc29_3, hgpxc29_4, hgpxc29_5, hgpxc29_6⟩, rfl, rfl, hF⟩ (Nat.le_of_ble_eq_true rfl) (Nat.le_of_ble_eq_true rfl) dX12_carry_63
        · have hf31 : xc16.toInt = (-1) := by have z := (fa_eq _ _).mp hc17; have : (((-1) : Int32).toInt) = (-1) := (by decide); omega
          refine lv_iconst (v := (-1)) hx hb dX12_carry_36 (by decide) ?_
          exact tw_iret hx hb hr hlocks TH hS hex ⟨⟨_, rfl, (show (-1) ≤ Int32.toInt (-1) from by have : (((-1) : Int32).toInt) = (-1) := (by decide); omega), (show Int32.toInt (-1) ≤ 11 from by have : (((-1) : Int32).toInt) = (-1) := (by decide); omega), hg0, hg1, hg2, hg3, hg4, hg5, hg6⟩, rfl, rfl, hF⟩ (Nat.le_of_ble_eq_true rfl) (Nat.le_of_ble_eq_true rfl) dX12_carry_37
set_option maxHeartbeats 4000000 in
set_option maxRecDepth 100000 in
theorem tX12_back (l : Launch) (D : va_G) (cs : Nat → ClassId) {kp : Nat → Nat} {L : List Nat} {E : Nat → va_E} (a0 : Nat) (x1 : Int32) (x2 : Int32) (hm0 : a0 ∈ L) (hk0 : kp a0 = 12) (hg0 : rd_ok E a0) (hg1 : eo_ok E a0) (hg2 : ht_ok E a0) (hg3 : dr_ok E a0) (hg4 : ln_ok E a0) (hg5 : dl_ok E a0) (hg6 : fw_ok E a0) (sz : Nat) : Met l yX12_back (.code yX12_back cX12_back 3 (some .int) :: cx_big) { frames := 12, cells := 0, slots := 0, locals := 264 } (tw_P D cs kp L E [.ref a0, .int x1, .int x2] sz) (tw_Q D cs kp L (fun v kq Lq Eq => (∃ x : Int32, v = some (.int x) ∧ (-1) ≤ x.toInt ∧ x.toInt ≤ 11 ∧ rd_ok Eq a0 ∧ eo_ok Eq a0 ∧ ht_ok Eq a0 ∧ dr_ok Eq a0 ∧ ln_ok Eq a0 ∧ dl_ok Eq a0 ∧ fw_ok Eq a0) ∧ kp = kq ∧ L = Lq ∧ tw_fr kp L [(12, 27), (12, 57)] [326, 327, 328, 329, 334, 335, 348, 349, 359, 363, 364] E Eq) (va_A (va_pl L E) sz)) 0 0 (va_A (va_pl L E) sz) := by
  refine tw_ofW (by decide) (Nat.le_of_ble_eq_true rfl) ?_
  intro p e s m below meth c A ls hx hb hr hml hB hown hlocks hK hN hA TH hS hl
  have hown : s.vm.findClass "TreeMergeModel" = some m.cls := hown
  have hl : lv_has ls 3 [(0, .ref a0), (1, .int x1), (2, .int x2)] := hl
  obtain ⟨kp0, ekp⟩ : ∃ z, z = kp := ⟨_, rfl⟩
  obtain ⟨L0, eL⟩ : ∃ z, z = L := ⟨_, rfl⟩
  rw [show tw_Q D cs kp L = tw_Q D cs kp0 L0 by rw [ekp, eL]]
  have hex : ∀ a : Nat, a ∈ L0 → a ∈ L ∧ kp a = kp0 a := fun a h => ⟨by rw [← eL]; exact h, by rw [ekp]⟩
  have hF : tw_fr kp L [(12, 27), (12, 57)] [326, 327, 328, 329, 334, 335, 348, 349, 359, 363, 364] E E := tw_fr.rf
  refine lv_aload_n hx hb dX12_back_0 rfl (lv_at hl 0 rfl) ?_
  refine lv_iload_n hx hb dX12_back_1 rfl (lv_at hl 1 rfl) ?_
  obtain ⟨xi1, hxi1, hxi1a, hxi1b⟩ := tw_rd TH hm0 hk0 (by decide) (by decide) (k := 27) rfl
  refine tw_Vc (o := a0) (ci := 12) (n := 1) (post := (fun v kq Lq Eq => (∃ x : Int32, v = some (.int x) ∧ 0 ≤ x.toInt ∧ x.toInt ≤ 1 ∧ (x.toInt ≠ 0 → 0 ≤ x1.toInt ∧ x1.toInt < xi1.toInt) ∧ (x.toInt ≠ 0 → tw_el E a0 24 (x1.toInt).toNat ≠ -1)) ∧ kp = kq ∧ L = Lq ∧ E = Eq)) (As := [.int x1]) (rest := []) ⟨hx, hb, hml, hown, hB⟩ (fun sz => tX12_hasOneParent l D cs a0 x1 xi1 hm0 hk0 hxi1 sz) cg_12_530_X12_hasOneParent rfl rfl (by decide +kernel) ⟨Nat.le_of_ble_eq_true rfl, Nat.le_of_ble_eq_true rfl⟩ hK hN TH hS hA rfl hm0 hk0 (by decide) rfl hl.1 rfl (Nat.le_of_ble_eq_true rfl) dX12_back_2 ⟨Nat.le_of_ble_eq_true rfl, Nat.le_of_ble_eq_true rfl⟩ (fun v2 kp2 L2 E2 H locs hq2 hx2 TH hS => ?_)
  obtain ⟨⟨xc3, rfl, hxc3a, hxc3b, hpoxc3_0, hpoxc3_1⟩, rfl, rfl, rfl⟩ := hq2
  refine W.eq (g2 := F0 m 5 ls [.int xc3]) rfl ?_
  refine lv_if_eq (tgt := 39) hx hb dX12_back_5 (by decide) (fun hc4 => ?_) (fun hc4 => ?_)
  · have hf5 : xc3.toInt = 0 := by have z := (fa_eq _ _).mp hc4; have : ((0 : Int32).toInt) = 0 := (by decide); omega
    refine lv_iconst (v := (-1)) hx hb dX12_back_39 (by decide) ?_
    exact tw_iret hx hb hr hlocks TH hS hex ⟨⟨_, rfl, (show (-1) ≤ Int32.toInt (-1) from by have : (((-1) : Int32).toInt) = (-1) := (by decide); omega), (show Int32.toInt (-1) ≤ 11 from by have : (((-1) : Int32).toInt) = (-1) := (by decide); omega), hg0, hg1, hg2, hg3, hg4, hg5, hg6⟩, rfl, rfl, hF⟩ (Nat.le_of_ble_eq_true rfl) (Nat.le_of_ble_eq_true rfl) dX12_back_40
  · have hf6 : ¬ (xc3.toInt = 0) := fun q => hc4 ((fa_eq _ _).mpr (by have : ((0 : Int32).toInt) = 0 := (by decide); omega))
    refine lv_aload_n hx hb dX12_back_8 rfl (lv_at hl 0 rfl) ?_
    refine lv_iload_n hx hb dX12_back_9 rfl (lv_at hl 2 rfl) ?_
    refine tw_Vc (o := a0) (ci := 12) (n := 1) (post := (fun v kq Lq Eq => (∃ x : Int32, v = some (.int x) ∧ 0 ≤ x.toInt ∧ x.toInt ≤ 1 ∧ (x.toInt ≠ 0 → 0 ≤ x2.toInt ∧ x2.toInt < xi1.toInt)) ∧ kp = kq ∧ L = Lq ∧ E = Eq)) (As := [.int x2]) (rest := []) ⟨hx, hb, hml, hown, hB⟩ (fun sz => tX12_isEdition l D cs a0 x2 xi1 hm0 hk0 hxi1 sz) cg_12_396_X12_isEdition rfl rfl (by decide +kernel) ⟨Nat.le_of_ble_eq_true rfl, Nat.le_of_ble_eq_true rfl⟩ hK hN TH hS hA rfl hm0 hk0 (by decide) rfl hl.1 rfl (Nat.le_of_ble_eq_true rfl) dX12_back_10 ⟨Nat.le_of_ble_eq_true rfl, Nat.le_of_ble_eq_true rfl⟩ (fun v7 kp7 L7 E7 H locs hq7 hx7 TH hS => ?_)
    obtain ⟨⟨xc8, rfl, hxc8a, hxc8b, hpoxc8_0⟩, rfl, rfl, rfl⟩ := hq7
    refine W.eq (g2 := F0 m 13 ls [.int xc8]) rfl ?_
    refine lv_if_eq (tgt := 39) hx hb dX12_back_13 (by decide) (fun hc9 => ?_) (fun hc9 => ?_)
    · have hf10 : xc8.toInt = 0 := by have z := (fa_eq _ _).mp hc9; have : ((0 : Int32).toInt) = 0 := (by decide); omega
      refine lv_iconst (v := (-1)) hx hb dX12_back_39 (by decide) ?_
      exact tw_iret hx hb hr hlocks TH hS hex ⟨⟨_, rfl, (show (-1) ≤ Int32.toInt (-1) from by have : (((-1) : Int32).toInt) = (-1) := (by decide); omega), (show Int32.toInt (-1) ≤ 11 from by have : (((-1) : Int32).toInt) = (-1) := (by decide); omega), hg0, hg1, hg2, hg3, hg4, hg5, hg6⟩, rfl, rfl, hF⟩ (Nat.le_of_ble_eq_true rfl) (Nat.le_of_ble_eq_true rfl) dX12_back_40
    · have hf11 : ¬ (xc8.toInt = 0) := fun q => hc9 ((fa_eq _ _).mpr (by have : ((0 : Int32).toInt) = 0 := (by decide); omega))
      refine lv_iload_n hx hb dX12_back_16 rfl (lv_at hl 1 rfl) ?_
      refine lv_iload_n hx hb dX12_back_17 rfl (lv_at hl 2 rfl) ?_
      refine lv_icmp_eq (tgt := 39) hx hb dX12_back_18 (by decide) (fun hc12 => ?_) (fun hc12 => ?_)
      · have hf13 : x1.toInt = x2.toInt := by have z := (fa_eq _ _).mp hc12;  omega
        refine lv_iconst (v := (-1)) hx hb dX12_back_39 (by decide) ?_
        exact tw_iret hx hb hr hlocks TH hS hex ⟨⟨_, rfl, (show (-1) ≤ Int32.toInt (-1) from by have : (((-1) : Int32).toInt) = (-1) := (by decide); omega), (show Int32.toInt (-1) ≤ 11 from by have : (((-1) : Int32).toInt) = (-1) := (by decide); omega), hg0, hg1, hg2, hg3, hg4, hg5, hg6⟩, rfl, rfl, hF⟩ (Nat.le_of_ble_eq_true rfl) (Nat.le_of_ble_eq_true rfl) dX12_back_40
      · have hf14 : ¬ (x1.toInt = x2.toInt) := fun q => hc12 ((fa_eq _ _).mpr (by  omega))
        refine lv_aload_n hx hb dX12_back_21 rfl (lv_at hl 0 rfl) ?_
        refine lv_iload_n hx hb dX12_back_22 rfl (lv_at hl 2 rfl) ?_
        refine lv_iload_n hx hb dX12_back_23 rfl (lv_at hl 1 rfl) ?_
        refine tw_Vc (o := a0) (ci := 12) (n := 2) (post := (fun v kq Lq Eq => (∃ x : Int32, v = some (.int x) ∧ 0 ≤ x.toInt ∧ x.toInt ≤ 1 ∧ (x.toInt ≠ 0 → r2_ok E a0 x2.toInt x1.toInt)) ∧ kp = kq ∧ L = Lq ∧ E = Eq)) (As := [.int x2, .int x1]) (rest := []) ⟨hx, hb, hml, hown, hB⟩ (fun sz => tX12_isFrom_v11 l D cs a0 x2 x1 xi1 hm0 hk0 (by omega) (by omega) (by omega) (by omega) hxi1 (by  omega) hg1 hg4 sz) cg_12_512_X12_isFrom rfl rfl (by decide +kernel) ⟨Nat.le_of_ble_eq_true rfl, Nat.le_of_ble_eq_true rfl⟩ hK hN TH hS hA rfl hm0 hk0 (by decide) rfl hl.1 rfl (Nat.le_of_ble_eq_true rfl) dX12_back_24 ⟨Nat.le_of_ble_eq_true rfl, Nat.le_of_ble_eq_true rfl⟩ (fun v15 kp15 L15 E15 H locs hq15 hx15 TH hS => ?_)
        obtain ⟨⟨xc16, rfl, hxc16a, hxc16b, hpoxc16_0⟩, rfl, rfl, rfl⟩ := hq15
        refine W.eq (g2 := F0 m 27 ls [.int xc16]) rfl ?_
        refine lv_if_eq (tgt := 39) hx hb dX12_back_27 (by decide) (fun hc17 => ?_) (fun hc17 => ?_)
        · have hf18 : xc16.toInt = 0 := by have z := (fa_eq _ _).mp hc17; have : ((0 : Int32).toInt) = 0 := (by decide); omega
          refine lv_iconst (v := (-1)) hx hb dX12_back_39 (by decide) ?_
          exact tw_iret hx hb hr hlocks TH hS hex ⟨⟨_, rfl, (show (-1) ≤ Int32.toInt (-1) from by have : (((-1) : Int32).toInt) = (-1) := (by decide); omega), (show Int32.toInt (-1) ≤ 11 from by have : (((-1) : Int32).toInt) = (-1) := (by decide); omega), hg0, hg1, hg2, hg3, hg4, hg5, hg6⟩, rfl, rfl, hF⟩ (Nat.le_of_ble_eq_true rfl) (Nat.le_of_ble_eq_true rfl) dX12_back_40
        · have hf19 : ¬ (xc16.toInt = 0) := fun q => hc17 ((fa_eq _ _).mpr (by have : ((0 : Int32).toInt) = 0 := (by decide); omega))
          refine lv_aload_n hx hb dX12_back_30 rfl (lv_at hl 0 rfl) ?_
          refine tw_get (ci := 12) (C := RX12) (T := TX12) (N := 64) hx hb hB cx_inX12 hown hK TH hm0 hk0 rfl ⟨by decide, rfl⟩ 27 (by decide) cw_1220 (fun _ h9 => h9) dX12_back_31 (fun hv => ?_)
          rw [hxi1]
          refine lv_bipush (v := 12) hx hb dX12_back_34 (by decide) ?_
          refine lv_icmp_ne (tgt := 41) hx hb dX12_back_36 (by decide) (fun hc20 => ?_) (fun hc20 => ?_)
          · have hf21 : ¬ (xi1.toInt = 12) := fun q => hc20 ((fa_eq _ _).mpr (by have : ((12 : Int32).toInt) = 12 := (by decide); omega))
            refine lv_aload_n hx hb dX12_back_41 rfl (lv_at hl 0 rfl) ?_
            refine lv_aload_n hx hb dX12_back_42 rfl (lv_at hl 0 rfl) ?_
            refine tw_get (ci := 12) (C := RX12) (T := TX12) (N := 64) hx hb hB cx_inX12 hown hK TH hm0 hk0 rfl ⟨by decide, rfl⟩ 24 (by decide) cw_1217 (fun _ h9 => h9) dX12_back_43 (fun hv => ?_)
            obtain ⟨xr22, hxr22, hmxr22, hkxr22⟩ : ∃ a : Nat, tw_fv E a0 24 = .ref a ∧ a ∈ L ∧ kp a = 334 := hv
            rw [hxr22]
            refine lv_iload_n hx hb dX12_back_46 rfl (lv_at hl 1 rfl) ?_
            refine tw_iald (k := 334) (t0 := 0) (n := 12) (lo := (-1)) (hi := 11) hx hb hK TH hmxr22 hkxr22 (by decide) rfl rfl (i := x1) (vp_in_iff.mpr ⟨by  omega, by  omega⟩) dX12_back_47 (fun hxe23a hxe23b => ?_)
            obtain ⟨xe23, exe23⟩ : ∃ z : Int32, tw_iv E xr22 (Int32.toNatClampNeg x1) = z := ⟨_, rfl⟩
            rw [exe23] at hxe23a hxe23b ⊢
            have hw48 : tw_el E a0 24 (x1.toInt).toNat = xe23.toInt := (by rw [tw_el_of hxr22]; exact congrArg Int32.toInt exe23)
            have hz48 : xe23.toInt ≠ -1 := (by rw [← hw48]; exact hpoxc3_1 (by omega))
            have hl48 : 0 ≤ xe23.toInt ∧ xe23.toInt < x1.toInt ∧ r2_ok E a0 (x1.toInt) (xe23.toInt) := (by have q := hg4 (x1.toInt).toNat (by rw [tw_fi_of hxi1]; omega) 24 (by decide); rw [hw48, show (((x1.toInt).toNat : Nat) : Int) = x1.toInt by omega] at q; exact q.resolve_left hz48)
            have hl48a := hl48.1
            have hl48b := hl48.2.1
            have hrr : r2_ok E a0 (xe23.toInt) (x2.toInt) := r2_tr (hg1 (x1.toInt) (by omega) (by rw [tw_fi_of hxi1]; omega)).1 (r2_sy hl48.2.2) (r2_sy (hpoxc16_0 (by omega)))
            refine lv_iload_n hx hb dX12_back_48 rfl (lv_at hl 2 rfl) ?_
            refine lv_iload_n hx hb dX12_back_49 rfl (lv_at hl 1 rfl) ?_
            refine tw_Vc (o := a0) (ci := 12) (n := 3) (post := (fun v kq Lq Eq => (∃ x : Int32, v = some (.int x) ∧ 0 ≤ x.toInt ∧ x.toInt ≤ 1 ∧ (ot_ok Eq a0 13 E) ∧ (x.toInt ≠ 0 → r2_ok E a0 xe23.toInt x2.toInt → row_ok Eq a0 13) ∧ (x.toInt ≠ 0 → r2_ok E a0 xe23.toInt x2.toInt → r2_ok Eq a0 13 xe23.toInt ∧ r2_ok Eq a0 13 x2.toInt) ∧ rd_ok Eq a0 ∧ ht_ok Eq a0) ∧ kp = kq ∧ L = Lq ∧ tw_fr kp L [(12, 57)] [326, 327, 328, 329, 348, 349, 359, 363, 364] E Eq)) (As := [.int xe23, .int x2, .int x1]) (rest := []) ⟨hx, hb, hml, hown, hB⟩ (fun sz => tX12_merges l D cs a0 xe23 x2 x1 hm0 hk0 (by omega) (by omega) (by omega) (by omega) (by omega) (by omega) (by  omega) (by  omega) (by  omega) (hg1 (xe23.toInt) (by omega) (by rw [tw_fi_of hxi1]; omega)) (hg1 (x2.toInt) (by omega) (by rw [tw_fi_of hxi1]; omega)) hg0 hg2 sz) cg_12_521_X12_merges rfl rfl (by decide +kernel) ⟨Nat.le_of_ble_eq_true rfl, Nat.le_of_ble_eq_true rfl⟩ hK hN TH hS hA rfl hm0 hk0 (by decide) rfl hl.1 rfl (Nat.le_of_ble_eq_true rfl) dX12_back_50 ⟨Nat.le_of_ble_eq_true rfl, Nat.le_of_ble_eq_true rfl⟩ (fun v24 kp24 L24 E24 H locs hq24 hx24 TH hS => ?_)
            obtain ⟨⟨xc25, rfl, hxc25a, hxc25b, hpoxc25_0, hpoxc25_1, hpoxc25_2, hgpxc25_0, hgpxc25_1⟩, rfl, rfl, hst24⟩ := hq24
            have hF := hF.tr hst24 (fun _ h => ⟨h, rfl⟩) (by decide) (by decide)
            have hmf26 : tw_fv E24 a0 27 = .int xi1 := (hst24.1 a0 27 hm0 (by rw [hk0]; decide)).trans hxi1
            have hmf27 : tw_fv E24 a0 24 = .ref xr22 := (hst24.1 a0 24 hm0 (by rw [hk0]; decide)).trans hxr22
            have hg1_o := hg1
            have hg3_o := hg3
            have hg4_o := hg4
            have hg5_o := hg5
            have hg6_o := hg6
            have hg1 : eo_ok E24 a0 := eo_ok_ot (r := 13) TH hst24 hm0 hk0 (by decide) (by have e14 : ((14 : Int32).toInt) = 14 := (by decide); have q := hpoxc25_0; (try rw [e14] at q); exact q) (by rw [tw_fi_of hxi1]; omega) hg1_o
            have hg3 : dr_ok E24 a0 := dr_ok_ot (r := 13) hst24 hm0 hk0 (by decide) (by have e14 : ((14 : Int32).toInt) = 14 := (by decide); have q := hpoxc25_0; (try rw [e14] at q); exact q) (by decide) hg3_o
            have hg4 : ln_ok E24 a0 := ln_ok_ot (r := 13) TH hst24 hm0 hk0 (by decide) (by decide) (by have e14 : ((14 : Int32).toInt) = 14 := (by decide); have q := hpoxc25_0; (try rw [e14] at q); exact q) (by rw [tw_fi_of hxi1]; omega) hg4_o
            have hg5 : dl_ok E24 a0 := dl_ok_ot (r := 13) TH hst24 hm0 hk0 (by decide) (by have e14 : ((14 : Int32).toInt) = 14 := (by decide); have q := hpoxc25_0; (try rw [e14] at q); exact q) (by decide) (by rw [tw_fi_of hxi1]; omega) hg5_o
            have hg6 : fw_ok E24 a0 := fw_ok_ot (r := 13) TH hst24 hm0 hk0 (by decide) (by have e14 : ((14 : Int32).toInt) = 14 := (by decide); have q := hpoxc25_0; (try rw [e14] at q); exact q) (by decide) hg6_o
            refine W.eq (g2 := F0 m 53 ls [.int xc25]) rfl ?_
            refine lv_if_eq (tgt := 65) hx hb dX12_back_53 (by decide) (fun hc28 => ?_) (fun hc28 => ?_)
            · have hf29 : xc25.toInt = 0 := by have z := (fa_eq _ _).mp hc28; have : ((0 : Int32).toInt) = 0 := (by decide); omega
              refine lv_iconst (v := (-1)) hx hb dX12_back_65 (by decide) ?_
              exact tw_iret hx hb hr hlocks TH hS hex ⟨⟨_, rfl, (show (-1) ≤ Int32.toInt (-1) from by have : (((-1) : Int32).toInt) = (-1) := (by decide); omega), (show Int32.toInt (-1) ≤ 11 from by have : (((-1) : Int32).toInt) = (-1) := (by decide); omega), hgpxc25_0, hg1, hgpxc25_1, hg3, hg4, hg5, hg6⟩, rfl, rfl, hF⟩ (Nat.le_of_ble_eq_true rfl) (Nat.le_of_ble_eq_true rfl) dX12_back_66
            · have hf30 : ¬ (xc25.toInt = 0) := fun q => hc28 ((fa_eq _ _).mpr (by have : ((0 : Int32).toInt) = 0 := (by decide); omega))
              have hrow13 : row_ok E24 a0 13 := hpoxc25_1 (by omega) hrr
              have hr13 := hpoxc25_2 (by omega) hrr
              refine lv_aload_n hx hb dX12_back_56 rfl (lv_at hl 0 rfl) ?_
              refine lv_iload_n hx hb dX12_back_57 rfl (lv_at hl 2 rfl) ?_
              refine lv_iconst (v := (-1)) hx hb dX12_back_58 (by decide) ?_
              refine tw_Vc (o := a0) (ci := 12) (n := 2) (post := (fun v kq Lq Eq => (∃ x : Int32, v = some (.int x) ∧ 0 ≤ x.toInt ∧ x.toInt ≤ 11 ∧ rd_ok Eq a0 ∧ eo_ok Eq a0 ∧ ht_ok Eq a0 ∧ dr_ok Eq a0 ∧ ln_ok Eq a0 ∧ dl_ok Eq a0 ∧ fw_ok Eq a0) ∧ kp = kq ∧ L = Lq ∧ tw_fr kp L [(12, 27)] [326, 327, 328, 329, 334, 335] E24 Eq)) (As := [.int x2, .int (-1)]) (rest := []) ⟨hx, hb, hml, hown, hB⟩ (fun sz => tX12_made l D cs a0 x2 ((-1) : Int32) xi1 hm0 hk0 (by omega) (by omega) (by have : (((-1) : Int32).toInt) = (-1) := (by decide); omega) (by have : (((-1) : Int32).toInt) = (-1) := (by decide); omega) hmf26 (by have : (((-1) : Int32).toInt) = (-1) := (by decide); omega) (by have : (((-1) : Int32).toInt) = (-1) := (by decide); omega) (by have : (((-1) : Int32).toInt) = (-1) := (by decide); exact hr13.2) (by have : (((-1) : Int32).toInt) = (-1) := (by decide); omega) (by have : (((-1) : Int32).toInt) = (-1) := (by decide); intro q; exfalso; exact q (by decide)) hrow13 hgpxc25_0 hg1 hgpxc25_1 hg3 hg4 hg5 hg6 sz) cg_12_527_X12_made rfl rfl (by decide +kernel) ⟨Nat.le_of_ble_eq_true rfl, Nat.le_of_ble_eq_true rfl⟩ hK hN TH hS hA rfl hm0 hk0 (by decide) rfl hl.1 rfl (Nat.le_of_ble_eq_true rfl) dX12_back_59 ⟨Nat.le_of_ble_eq_true rfl, Nat.le_of_ble_eq_true rfl⟩ (fun v31 kp31 L31 E31 H locs hq31 hx31 TH hS => ?_)
              obtain ⟨⟨xc32, rfl, hxc32a, hxc32b, hgpxc32_0, hgpxc32_1, hgpxc32_2, hgpxc32_3, hgpxc32_4, hgpxc32_5, hgpxc32_6⟩, rfl, rfl, hst31⟩ := hq31
              have hF := hF.tr hst31 (fun _ h => ⟨h, rfl⟩) (by decide) (by decide)
              have hmf33 : tw_fv E31 a0 24 = .ref xr22 := (hst31.1 a0 24 hm0 (by rw [hk0]; decide)).trans hmf27
              refine W.eq (g2 := F0 m 62 ls [.int xc32]) rfl ?_
              refine lv_goto (tgt := 66) hx hb dX12_back_62 (by decide) ?_
              exact tw_iret hx hb hr hlocks TH hS hex ⟨⟨_, rfl, (show (-1) ≤ Int32.toInt xc32 from by  omega), (show Int32.toInt xc32 ≤ 11 from by  omega), hgpxc32_0, hgpxc32_1, hgpxc32_2, hgpxc32_3, hgpxc32_4, hgpxc32_5, hgpxc32_6⟩, rfl, rfl, hF⟩ (Nat.le_of_ble_eq_true rfl) (Nat.le_of_ble_eq_true rfl) dX12_back_66
          · have hf34 : xi1.toInt = 12 := by have z := (fa_eq _ _).mp hc20; have : ((12 : Int32).toInt) = 12 := (by decide); omega
            refine lv_iconst (v := (-1)) hx hb dX12_back_39 (by decide) ?_
            exact tw_iret hx hb hr hlocks TH hS hex ⟨⟨_, rfl, (show (-1) ≤ Int32.toInt (-1) from by have : (((-1) : Int32).toInt) = (-1) := (by decide); omega), (show Int32.toInt (-1) ≤ 11 from by have : (((-1) : Int32).toInt) = (-1) := (by decide); omega), hg0, hg1, hg2, hg3, hg4, hg5, hg6⟩, rfl, rfl, hF⟩ (Nat.le_of_ble_eq_true rfl) (Nat.le_of_ble_eq_true rfl) dX12_back_40
