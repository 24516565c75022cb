set_option maxHeartbeats 4000000 in
set_option maxRecDepth 100000 in
theorem tX12_lays (l : Launch) (D : va_G) (cs : Nat → ClassId) {kp : Nat → Nat} {L : List Nat} {E : Nat → va_E} (a0 : Nat) (x1 : Int32) (x2 : Int32) (x3 : Int32) (hm0 : a0 ∈ L) (hk0 : kp a0 = 12) (hp1a : 0 ≤ x1.toInt) (hp1b : x1.toInt ≤ 149) (hp2a : 0 ≤ x2.toInt) (hp2b : x2.toInt ≤ 149) (hg0 : lyw_ok E a0 (x1.toInt) (x2.toInt)) (hg1 : rd_ok E a0) (hg2 : eo_ok E a0) (hg3 : ht_ok E a0) (sz : Nat) : Met l yX12_lays (.code yX12_lays cX12_lays 5 none :: cx_big) { frames := 4, cells := 0, slots := 0, locals := 98 } (tw_P D cs kp L E [.ref a0, .int x1, .int x2, .int x3] sz) (tw_Q D cs kp L (fun v kq Lq Eq => v = none ∧ kp = kq ∧ L = Lq ∧ tw_fr kp L [] [326, 328, 329] E Eq ∧ (∀ c : Nat, rw_h Eq a0 12 c = if c = (x1.toInt).toNat then 1 else rw_h E a0 12 c) ∧ (∀ c : Nat, rw_p Eq a0 12 c = if c = (x1.toInt).toNat then x2.toInt else rw_p E a0 12 c) ∧ (ot_ok Eq a0 12 E) ∧ rw_ok Eq a0 (12) ∧ rd_ok Eq a0 ∧ eo_ok Eq a0 ∧ ht_ok Eq a0) (va_A (va_pl L E) sz)) 0 0 (va_A (va_pl L E) sz) := by
  refine tw_ofW (by decide) (Nat.le_of_ble_eq_true rfl) ?_
  intro p e s m below meth c A ls hx hb hr hml hB hown hlocks hK hN hA TH hS hl
  have hown : s.vm.findClass "TreeMergeModel" = some m.cls := hown
  have hl : lv_has ls 5 [(0, .ref a0), (1, .int x1), (2, .int x2), (3, .int x3)] := hl
  obtain ⟨kp0, ekp⟩ : ∃ z, z = kp := ⟨_, rfl⟩
  obtain ⟨L0, eL⟩ : ∃ z, z = L := ⟨_, rfl⟩
  rw [show tw_Q D cs kp L = tw_Q D cs kp0 L0 by rw [ekp, eL]]
  have hex : ∀ a : Nat, a ∈ L0 → a ∈ L ∧ kp a = kp0 a := fun a h => ⟨by rw [← eL]; exact h, by rw [ekp]⟩
  have hF : tw_fr kp L [] [326, 328, 329] E E := tw_fr.rf
  have hh12 : h12_ok E a0 (rw_h E a0 12) := rfl
  have hp12 : p12_ok E a0 (rw_p E a0 12) := rfl
  have hot : ot_ok E a0 12 E := ot_ok_rf
  refine lv_aload_n hx hb dX12_lays_0 rfl (lv_at hl 0 rfl) ?_
  refine lv_iload_n hx hb dX12_lays_1 rfl (lv_at hl 2 rfl) ?_
  refine tw_Vc (o := a0) (ci := 12) (n := 1) (post := (fun v kq Lq Eq => v = none ∧ kp = kq ∧ L = Lq ∧ tw_fr kp L [] [329] E Eq)) (As := [.int x2]) (rest := []) ⟨hx, hb, hml, hown, hB⟩ (fun sz => tX12_shrinks l D cs a0 x2 hm0 hk0 sz) cg_12_422_X12_shrinks rfl rfl (by decide +kernel) ⟨Nat.le_of_ble_eq_true rfl, Nat.le_of_ble_eq_true rfl⟩ hK hN TH hS hA rfl hm0 hk0 (by decide) rfl hl.1 rfl (Nat.le_of_ble_eq_true rfl) dX12_lays_2 ⟨Nat.le_of_ble_eq_true rfl, Nat.le_of_ble_eq_true rfl⟩ (fun v1 kp1 L1 E1 H locs hq1 hx1 TH hS => ?_)
  obtain ⟨rfl, rfl, rfl, hst1⟩ := hq1
  have hF := hF.tr hst1 (fun _ h => ⟨h, rfl⟩) (by decide) (by decide)
  have hg0 : lyw_ok E1 a0 (x1.toInt) (x2.toInt) := lyw_ok_fr TH hst1 hm0 hk0 (by decide) (by decide) hg0
  have hg1 : rd_ok E1 a0 := rd_ok_fr TH hst1 hm0 hk0 (by decide) (by decide) hg1
  have hg2 : eo_ok E1 a0 := eo_ok_fr TH hst1 hm0 hk0 (by decide) (by decide) hg2
  have hg3 : ht_ok E1 a0 := ht_ok_fr TH hst1 hm0 hk0 (by decide) (by decide) hg3
  have hh12 : h12_ok E1 a0 (rw_h E a0 12) := h12_ok_fr TH hst1 hm0 hk0 (by decide) (by decide) hh12
  have hp12 : p12_ok E1 a0 (rw_p E a0 12) := p12_ok_fr TH hst1 hm0 hk0 (by decide) (by decide) hp12
  have hot : ot_ok E1 a0 (12) E := ot_ok_fr TH hst1 hm0 hk0 (by decide) (by decide) hot
  refine W.eq (g2 := F0 m 5 ls []) rfl ?_
  refine lv_iconst (v := 0) hx hb dX12_lays_5 (by decide) ?_
  refine lv_istore (lv' := [(4, .int 0), (0, .ref a0), (1, .int x1), (2, .int x2), (3, .int x3)]) hx hb dX12_lays_6 hl (by decide) rfl (fun ls hl => ?_)
  have hJ8 : ∀ (n8 : Nat) (y8_4 : Int32) (Eg8 : Nat → va_E) (H : Heap) (locs : List Loc) (ls : Array Slot), 0 ≤ y8_4.toInt → y8_4.toInt ≤ 150 → 150 - y8_4.toInt ≤ (n8 : Int) → tw_fr kp L [] [329] E1 Eg8 → lyw_ok Eg8 a0 (x1.toInt) (x2.toInt) → rd_ok Eg8 a0 → eo_ok Eg8 a0 → ht_ok Eg8 a0 → h12_ok Eg8 a0 (rw_h E a0 12) → p12_ok Eg8 a0 (rw_p E a0 12) → ot_ok Eg8 a0 (12) E → tw_H D cs kp L Eg8 A H → va_S A s.heap H locs → lv_has ls 5 [(4, .int y8_4), (0, .ref a0), (1, .int x1), (2, .int x2), (3, .int x3)] → W p l e { frames := 4, cells := 0, slots := 0, locals := 98 } s m [.ref a0, .int x1, .int x2, .int x3].toArray below meth c H locs 0 0 (MQ below (tw_Q D cs kp0 L0 (fun v kq Lq Eq => v = none ∧ kp = kq ∧ L = Lq ∧ tw_fr kp L [] [326, 328, 329] E Eq ∧ (∀ c : Nat, rw_h Eq a0 12 c = if c = (x1.toInt).toNat then 1 else rw_h E a0 12 c) ∧ (∀ c : Nat, rw_p Eq a0 12 c = if c = (x1.toInt).toNat then x2.toInt else rw_p E a0 12 c) ∧ (ot_ok Eq a0 12 E) ∧ rw_ok Eq a0 (12) ∧ rd_ok Eq a0 ∧ eo_ok Eq a0 ∧ ht_ok Eq a0) A) [.ref a0, .int x1, .int x2, .int x3].toArray s 0 0 A) (F0 m 8 ls []) := by
    intro n8
    induction n8 using Nat.strongRecOn with
    | _ n8 ih8 =>
      intro y8_4 Eg8 H locs ls hy8_4a hy8_4b hmeas8 hG8 hg0 hg1 hg2 hg3 hh12 hp12 hot TH hS hl
      have hF := hF.tr hG8 (fun _ h => ⟨h, rfl⟩) (by decide) (by decide)
      refine lv_iload hx hb dX12_lays_8 (lv_at hl 0 rfl) ?_
      refine lv_sipush (v := 150) hx hb dX12_lays_10 (by decide) ?_
      refine lv_icmp_ge (tgt := 77) hx hb dX12_lays_13 (by decide) (fun hc3 => ?_) (fun hc3 => ?_)
      · have hf4 : 150 ≤ y8_4.toInt := by have z := (fa_le _ _).mp hc3; have : ((150 : Int32).toInt) = 150 := (by decide); omega
        refine lv_aload_n hx hb dX12_lays_77 rfl (lv_at hl 1 rfl) ?_
        refine tw_get (ci := 12) (C := RX12) (T := TX12) (N := 64) hx hb hB cx_inX12 hown hK TH hm0 hk0 rfl ⟨by decide, rfl⟩ 16 (by decide) cw_1209 (fun _ h9 => h9) dX12_lays_78 (fun hv => ?_)
        obtain ⟨xr5, hxr5, hmxr5, hkxr5⟩ : ∃ a : Nat, tw_fv Eg8 a0 16 = .ref a ∧ a ∈ L ∧ kp a = 316 := hv
        rw [hxr5]
        refine lv_bipush (v := 12) hx hb dX12_lays_81 (by decide) ?_
        refine tw_aald (k := 316) (t0 := 5) (n := 16) (lo := 326) (hi := 0) (ty := .boolean) hx hb hK TH hmxr5 hkxr5 (by decide) rfl rfl (i := 12) (vp_in_iff.mpr ⟨by have : ((12 : Int32).toInt) = 12 := (by decide); omega, by have : ((12 : Int32).toInt) = 12 := (by decide); omega⟩) dX12_lays_83 (fun xr6 exr6 hmxr6 hkxr6 => ?_)
        have hkxr6 : kp xr6 = 326 := hkxr6
        refine lv_iload_n hx hb dX12_lays_84 rfl (lv_at hl 2 rfl) ?_
        refine lv_iconst (v := 1) hx hb dX12_lays_85 (by decide) ?_
        have hlyo := hg0
        refine tw_zast (k := 326) (n := 150) (lo := 0) (hi := 1) hx hb hK TH hS hmxr6 hkxr6 (by decide) rfl (i := x1) (x := 1) (vp_in_iff.mpr ⟨by  omega, by  omega⟩) (by have : ((1 : Int32).toInt) = 1 := (by decide); omega) (by have : ((1 : Int32).toInt) = 1 := (by decide); omega) (by have : ((1 : Int32).toInt) = 1 := (by decide); omega) (by have : ((1 : Int32).toInt) = 1 := (by decide); omega) dX12_lays_86 (fun H locs E7 TH hS hp8 hp9 hp10 => ?_)
        have hst11 : tw_fr kp L [] [326] Eg8 E7 := tw_fr.ast tw_fr.rf (fun _ => hkxr6) hp8 hp9 (by decide)
        have hF := hF.tr hst11 (fun _ h => ⟨h, rfl⟩) (by decide) (by decide)
        have hmf12 : tw_fv E7 a0 16 = .ref xr5 := (hst11.1 a0 16 hm0 (by rw [hk0]; decide)).trans hxr5
        have hg0_o := hg0
        have hg1_o := hg1
        have hg2_o := hg2
        have hg3_o := hg3
        have hh12_o := hh12
        have hp12_o := hp12
        have hot_o := hot
        have hg1 : rd_ok E7 a0 := rd_ok_fr TH hst11 hm0 hk0 (by decide) (by decide) hg1
        have hg2 : eo_ok E7 a0 := eo_ok_h (i := 12) TH hm0 hk0 hg1_o hxr5 exr6 hkxr5 hkxr6 hp8 hp9 (by have e : ((12 : Int32).toInt) = 12 := (by decide); omega) (by have e : ((12 : Int32).toInt) = 12 := (by decide); omega) (by have := tw_fi_ed TH hm0 hk0; have e : ((12 : Int32).toInt) = 12 := (by decide); omega) hg2_o
        have hg3 : ht_ok E7 a0 := ht_ok_h (i := 12) hg1_o hxr5 exr6 hkxr5 hkxr6 hp8 hp9 (by have e : ((12 : Int32).toInt) = 12 := (by decide); omega) (by have e : ((12 : Int32).toInt) = 12 := (by decide); omega) hg3_o
        have hh12 : h12_ok E7 a0 (fun c => if c = (x1.toInt).toNat then 1 else (rw_h E a0 12) c) := (by have e12 : ((12 : Int32).toInt) = 12 := (by decide); have ev : ((1 : Int32).toInt) = 1 := (by decide); have q := rw_h_st (m := a0) (i := 12) (c := x1) hxr5 exr6 hkxr5 hkxr6 hp8 hp9 hp10; rw [e12, ev] at q; exact h12_st hh12_o q)
        have hp12 : p12_ok E7 a0 (rw_p E a0 12) := p12_ok_fr TH hst11 hm0 hk0 (by decide) (by decide) hp12
        have hot : ot_ok E7 a0 (12) E := (by have e12 : ((12 : Int32).toInt) = 12 := (by decide); have q := ot_ok_h (i := 12) TH hm0 hk0 hg1_o hxr5 exr6 hkxr5 hkxr6 hp8 hp9 (by omega) (by omega) (show ot_ok _ _ _ _ from (by rw [e12]; exact hot_o)); rw [e12] at q; exact q)
        have hgn13 : lyx_ok E7 a0 (x1.toInt) (x2.toInt) := (by have e12 : ((12 : Int32).toInt) = 12 := (by decide); have e1 : ((1 : Int32).toInt) = 1 := (by decide); have q := rw_h_st (m := a0) (i := 12) (c := x1) hxr5 exr6 hkxr5 hkxr6 hp8 hp9 hp10; rw [e12, e1] at q; exact lyx_of hlyo q (rw_p_hst TH hm0 hk0 hkxr6 hp8 hp9 (i := 12) (by decide)))
        refine lv_aload_n hx hb dX12_lays_87 rfl (lv_at hl 1 rfl) ?_
        refine tw_get (ci := 12) (C := RX12) (T := TX12) (N := 64) hx hb hB cx_inX12 hown hK TH hm0 hk0 rfl ⟨by decide, rfl⟩ 18 (by decide) cw_1211 (fun _ h9 => h9) dX12_lays_88 (fun hv => ?_)
        obtain ⟨xr14, hxr14, hmxr14, hkxr14⟩ : ∃ a : Nat, tw_fv E7 a0 18 = .ref a ∧ a ∈ L ∧ kp a = 318 := hv
        rw [hxr14]
        refine lv_bipush (v := 12) hx hb dX12_lays_91 (by decide) ?_
        refine tw_aald (k := 318) (t0 := 4) (n := 16) (lo := 328) (hi := 0) (ty := .int) hx hb hK TH hmxr14 hkxr14 (by decide) rfl rfl (i := 12) (vp_in_iff.mpr ⟨by have : ((12 : Int32).toInt) = 12 := (by decide); omega, by have : ((12 : Int32).toInt) = 12 := (by decide); omega⟩) dX12_lays_93 (fun xr15 exr15 hmxr15 hkxr15 => ?_)
        have hkxr15 : kp xr15 = 328 := hkxr15
        refine lv_iload_n hx hb dX12_lays_94 rfl (lv_at hl 2 rfl) ?_
        refine lv_iload_n hx hb dX12_lays_95 rfl (lv_at hl 3 rfl) ?_
        have hlxo := hgn13
        refine tw_iast (k := 328) (n := 150) (lo := (-1)) (hi := 149) hx hb hK TH hS hmxr15 hkxr15 (by decide) rfl (i := x1) (x := x2) (vp_in_iff.mpr ⟨by  omega, by  omega⟩) (by omega) (by omega) dX12_lays_96 (fun H locs E16 TH hS hp17 hp18 hp19 => ?_)
        have hst20 : tw_fr kp L [] [328] E7 E16 := tw_fr.ast tw_fr.rf (fun _ => hkxr15) hp17 hp18 (by decide)
        have hF := hF.tr hst20 (fun _ h => ⟨h, rfl⟩) (by decide) (by decide)
        have hmf21 : tw_fv E16 a0 16 = .ref xr5 := (hst20.1 a0 16 hm0 (by rw [hk0]; decide)).trans hmf12
        have hmf22 : tw_fv E16 a0 18 = .ref xr14 := (hst20.1 a0 18 hm0 (by rw [hk0]; decide)).trans hxr14
        have hg1_o := hg1
        have hg2_o := hg2
        have hg3_o := hg3
        have hh12_o := hh12
        have hp12_o := hp12
        have hot_o := hot
        have hgn13_o := hgn13
        have hg1 : rd_ok E16 a0 := rd_ok_fr TH hst20 hm0 hk0 (by decide) (by decide) hg1
        have hg2 : eo_ok E16 a0 := eo_ok_p (i := 12) TH hm0 hk0 hg1_o hxr14 exr15 hkxr14 hkxr15 hp17 hp18 (by have e : ((12 : Int32).toInt) = 12 := (by decide); omega) (by have e : ((12 : Int32).toInt) = 12 := (by decide); omega) (by have := tw_fi_ed TH hm0 hk0; have e : ((12 : Int32).toInt) = 12 := (by decide); omega) hg2_o
        have hg3 : ht_ok E16 a0 := ht_ok_fr TH hst20 hm0 hk0 (by decide) (by decide) hg3
        have hh12 : h12_ok E16 a0 (fun c => if c = (x1.toInt).toNat then 1 else (rw_h E a0 12) c) := h12_ok_fr TH hst20 hm0 hk0 (by decide) (by decide) hh12
        have hp12 : p12_ok E16 a0 (fun c => if c = (x1.toInt).toNat then x2.toInt else (rw_p E a0 12) c) := (by have e12 : ((12 : Int32).toInt) = 12 := (by decide); have q := rw_p_st (m := a0) (i := 12) (c := x1) hxr14 exr15 hkxr14 hkxr15 hp17 hp18 hp19; rw [e12] at q; exact p12_st hp12_o q)
        have hot : ot_ok E16 a0 (12) E := (by have e12 : ((12 : Int32).toInt) = 12 := (by decide); have q := ot_ok_p (i := 12) TH hm0 hk0 hg1_o hxr14 exr15 hkxr14 hkxr15 hp17 hp18 (by omega) (by omega) (show ot_ok _ _ _ _ from (by rw [e12]; exact hot_o)); rw [e12] at q; exact q)
        have hgn23 : rw_ok E16 a0 (12) := (by have e12 : ((12 : Int32).toInt) = 12 := (by decide); have q := rw_p_st (m := a0) (i := 12) (c := x1) hxr14 exr15 hkxr14 hkxr15 hp17 hp18 hp19; rw [e12] at q; exact rw_of_lyx hlxo (rw_h_pst TH hm0 hk0 hkxr15 hp17 hp18 (i := 12) (by decide)) q)
        refine lv_aload_n hx hb dX12_lays_97 rfl (lv_at hl 1 rfl) ?_
        refine tw_get (ci := 12) (C := RX12) (T := TX12) (N := 64) hx hb hB cx_inX12 hown hK TH hm0 hk0 rfl ⟨by decide, rfl⟩ 19 (by decide) cw_1212 (fun _ h9 => h9) dX12_lays_98 (fun hv => ?_)
        obtain ⟨xr24, hxr24, hmxr24, hkxr24⟩ : ∃ a : Nat, tw_fv E16 a0 19 = .ref a ∧ a ∈ L ∧ kp a = 319 := hv
        rw [hxr24]
        refine lv_bipush (v := 12) hx hb dX12_lays_101 (by decide) ?_
        refine tw_aald (k := 319) (t0 := 4) (n := 16) (lo := 329) (hi := 0) (ty := .int) hx hb hK TH hmxr24 hkxr24 (by decide) rfl rfl (i := 12) (vp_in_iff.mpr ⟨by have : ((12 : Int32).toInt) = 12 := (by decide); omega, by have : ((12 : Int32).toInt) = 12 := (by decide); omega⟩) dX12_lays_103 (fun xr25 exr25 hmxr25 hkxr25 => ?_)
        have hkxr25 : kp xr25 = 329 := hkxr25
        refine lv_iload_n hx hb dX12_lays_104 rfl (lv_at hl 2 rfl) ?_
        refine lv_iload_n hx hb dX12_lays_105 rfl (lv_at hl 4 rfl) ?_
        refine tw_iast (k := 329) (n := 150) (lo := (-2147483648)) (hi := 2147483647) hx hb hK TH hS hmxr25 hkxr25 (by decide) rfl (i := x1) (x := x3) (vp_in_iff.mpr ⟨by  omega, by  omega⟩) (ia_lo _) (ia_hi _) dX12_lays_106 (fun H locs E26 TH hS hp27 hp28 hp29 => ?_)
        have hst30 : tw_fr kp L [] [329] E16 E26 := tw_fr.ast tw_fr.rf (fun _ => hkxr25) hp27 hp28 (by decide)
        have hF := hF.tr hst30 (fun _ h => ⟨h, rfl⟩) (by decide) (by decide)
        have hmf31 : tw_fv E26 a0 16 = .ref xr5 := (hst30.1 a0 16 hm0 (by rw [hk0]; decide)).trans hmf21
        have hmf32 : tw_fv E26 a0 18 = .ref xr14 := (hst30.1 a0 18 hm0 (by rw [hk0]; decide)).trans hmf22
        have hmf33 : tw_fv E26 a0 19 = .ref xr24 := (hst30.1 a0 19 hm0 (by rw [hk0]; decide)).trans hxr24
        have hg1 : rd_ok E26 a0 := rd_ok_fr TH hst30 hm0 hk0 (by decide) (by decide) hg1
        have hg2 : eo_ok E26 a0 := eo_ok_fr TH hst30 hm0 hk0 (by decide) (by decide) hg2
        have hg3 : ht_ok E26 a0 := ht_ok_fr TH hst30 hm0 hk0 (by decide) (by decide) hg3
        have hh12 : h12_ok E26 a0 (fun c => if c = (x1.toInt).toNat then 1 else (rw_h E a0 12) c) := h12_ok_fr TH hst30 hm0 hk0 (by decide) (by decide) hh12
        have hp12 : p12_ok E26 a0 (fun c => if c = (x1.toInt).toNat then x2.toInt else (rw_p E a0 12) c) := p12_ok_fr TH hst30 hm0 hk0 (by decide) (by decide) hp12
        have hot : ot_ok E26 a0 (12) E := ot_ok_fr TH hst30 hm0 hk0 (by decide) (by decide) hot
        have hgn23 : rw_ok E26 a0 (12) := rw_ok_fr TH hst30 hm0 hk0 (by decide) (by decide) (by omega) hgn23
        refine lv_aload_n hx hb dX12_lays_107 rfl (lv_at hl 1 rfl) ?_
        refine lv_bipush (v := 12) hx hb dX12_lays_108 (by decide) ?_
        refine tw_Vc (o := a0) (ci := 12) (n := 1) (post := (fun v kq Lq Eq => v = none ∧ kp = kq ∧ L = Lq ∧ tw_fr kp L [] [329] E26 Eq ∧ ht_ok Eq a0 ∧ t1_ok Eq a0 ((12 : Int32).toInt))) (As := [.int 12]) (rest := []) ⟨hx, hb, hml, hown, hB⟩ (fun sz => tX12_orders l D cs a0 (12 : Int32) hm0 hk0 (by have : ((12 : Int32).toInt) = 12 := (by decide); omega) (by have : ((12 : Int32).toInt) = 12 := (by decide); omega) hg3 (t1_ok_cast (i := 12) (by decide) (hgn23).1) sz) cg_12_275_X12_orders rfl rfl (by decide +kernel) ⟨Nat.le_of_ble_eq_true rfl, Nat.le_of_ble_eq_true rfl⟩ hK hN TH hS hA rfl hm0 hk0 (by decide) rfl hl.1 rfl (Nat.le_of_ble_eq_true rfl) dX12_lays_110 ⟨Nat.le_of_ble_eq_true rfl, Nat.le_of_ble_eq_true rfl⟩ (fun v34 kp34 L34 E34 H locs hq34 hx34 TH hS => ?_)
        obtain ⟨rfl, rfl, rfl, hst34, hgpxc35_0, hgpxc35_1⟩ := hq34
        have hF := hF.tr hst34 (fun _ h => ⟨h, rfl⟩) (by decide) (by decide)
        have hmf36 : tw_fv E34 a0 16 = .ref xr5 := (hst34.1 a0 16 hm0 (by rw [hk0]; decide)).trans hmf31
        have hmf37 : tw_fv E34 a0 18 = .ref xr14 := (hst34.1 a0 18 hm0 (by rw [hk0]; decide)).trans hmf32
        have hmf38 : tw_fv E34 a0 19 = .ref xr24 := (hst34.1 a0 19 hm0 (by rw [hk0]; decide)).trans hmf33
        have hg1 : rd_ok E34 a0 := rd_ok_fr TH hst34 hm0 hk0 (by decide) (by decide) hg1
        have hg2 : eo_ok E34 a0 := eo_ok_fr TH hst34 hm0 hk0 (by decide) (by decide) hg2
        have hh12 : h12_ok E34 a0 (fun c => if c = (x1.toInt).toNat then 1 else (rw_h E a0 12) c) := h12_ok_fr TH hst34 hm0 hk0 (by decide) (by decide) hh12
        have hp12 : p12_ok E34 a0 (fun c => if c = (x1.toInt).toNat then x2.toInt else (rw_p E a0 12) c) := p12_ok_fr TH hst34 hm0 hk0 (by decide) (by decide) hp12
        have hot : ot_ok E34 a0 (12) E := ot_ok_fr TH hst34 hm0 hk0 (by decide) (by decide) hot
        have hgn23 : rw_ok E34 a0 (12) := rw_ok_fr TH hst34 hm0 hk0 (by decide) (by decide) (by omega) hgn23
        refine W.eq (g2 := F0 m 113 ls []) rfl ?_
        exact tw_vret hx hb hr hlocks TH hS hex ⟨rfl, rfl, rfl, hF, (by  intro c; exact congrFun hh12 c), (by  intro c; exact congrFun hp12 c), (by  exact hot), hgn23, hg1, hg2, hgpxc35_0⟩ (Nat.le_of_ble_eq_true rfl) (Nat.le_of_ble_eq_true rfl) dX12_lays_113
      · have hf39 : ¬ (150 ≤ y8_4.toInt) := fun q => hc3 ((fa_le _ _).mpr (by have : ((150 : Int32).toInt) = 150 := (by decide); omega))
        refine lv_aload_n hx hb dX12_lays_16 rfl (lv_at hl 1 rfl) ?_
        refine tw_get (ci := 12) (C := RX12) (T := TX12) (N := 64) hx hb hB cx_inX12 hown hK TH hm0 hk0 rfl ⟨by decide, rfl⟩ 16 (by decide) cw_1209 (fun _ h9 => h9) dX12_lays_17 (fun hv => ?_)
        obtain ⟨xr40, hxr40, hmxr40, hkxr40⟩ : ∃ a : Nat, tw_fv Eg8 a0 16 = .ref a ∧ a ∈ L ∧ kp a = 316 := hv
        rw [hxr40]
        refine lv_bipush (v := 12) hx hb dX12_lays_20 (by decide) ?_
        refine tw_aald (k := 316) (t0 := 5) (n := 16) (lo := 326) (hi := 0) (ty := .boolean) hx hb hK TH hmxr40 hkxr40 (by decide) rfl rfl (i := 12) (vp_in_iff.mpr ⟨by have : ((12 : Int32).toInt) = 12 := (by decide); omega, by have : ((12 : Int32).toInt) = 12 := (by decide); omega⟩) dX12_lays_22 (fun xr41 exr41 hmxr41 hkxr41 => ?_)
        have hkxr41 : kp xr41 = 326 := hkxr41
        refine lv_iload hx hb dX12_lays_23 (lv_at hl 0 rfl) ?_
        refine tw_zald (k := 326) (t0 := 3) (n := 150) (lo := 0) (hi := 1) hx hb hK TH hmxr41 hkxr41 (by decide) rfl rfl (i := y8_4) (vp_in_iff.mpr ⟨by  omega, by  omega⟩) dX12_lays_25 (fun hxe42a hxe42b => ?_)
        obtain ⟨xe42, exe42⟩ : ∃ z : Int32, tw_iv Eg8 xr41 (Int32.toNatClampNeg y8_4) = z := ⟨_, rfl⟩
        rw [exe42] at hxe42a hxe42b ⊢
        have hJ71 : ∀  (Eg71 : Nat → va_E) (H : Heap) (locs : List Loc) (ls : Array Slot), tw_fr kp L [] [329] Eg8 Eg71 → lyw_ok Eg71 a0 (x1.toInt) (x2.toInt) → rd_ok Eg71 a0 → eo_ok Eg71 a0 → ht_ok Eg71 a0 → h12_ok Eg71 a0 (rw_h E a0 12) → p12_ok Eg71 a0 (rw_p E a0 12) → ot_ok Eg71 a0 (12) E → tw_H D cs kp L Eg71 A H → va_S A s.heap H locs → lv_has ls 5 [(4, .int y8_4), (0, .ref a0), (1, .int x1), (2, .int x2), (3, .int x3)] → W p l e { frames := 4, cells := 0, slots := 0, locals := 98 } s m [.ref a0, .int x1, .int x2, .int x3].toArray below meth c H locs 0 0 (MQ below (tw_Q D cs kp0 L0 (fun v kq Lq Eq => v = none ∧ kp = kq ∧ L = Lq ∧ tw_fr kp L [] [326, 328, 329] E Eq ∧ (∀ c : Nat, rw_h Eq a0 12 c = if c = (x1.toInt).toNat then 1 else rw_h E a0 12 c) ∧ (∀ c : Nat, rw_p Eq a0 12 c = if c = (x1.toInt).toNat then x2.toInt else rw_p E a0 12 c) ∧ (ot_ok Eq a0 12 E) ∧ rw_ok Eq a0 (12) ∧ rd_ok Eq a0 ∧ eo_ok Eq a0 ∧ ht_ok Eq a0) A) [.ref a0, .int x1, .int x2, .int x3].toArray s 0 0 A) (F0 m 71 ls []) := by
          intro Eg71 H locs ls hG71 hg0 hg1 hg2 hg3 hh12 hp12 hot TH hS hl
          have hF := hF.tr hG71 (fun _ h => ⟨h, rfl⟩) (by decide) (by decide)
          have hG8 := hG8.tr hG71 (fun _ h => ⟨h, rfl⟩) (by decide) (by decide)
          have hmf43 : tw_fv Eg71 a0 16 = .ref xr40 := (hG71.1 a0 16 hm0 (by rw [hk0]; decide)).trans hxr40
          obtain ⟨zi44, ezi44⟩ : ∃ z : Int32, z = y8_4 + Int32.ofInt 1 := ⟨_, rfl⟩
          have hzi44 : zi44.toInt = y8_4.toInt + 1 := by rw [ezi44]; have : ((Int32.ofInt 1).toInt) = 1 := (by decide);  exact (ia_add (by omega) (by omega)).trans (by omega)
          refine lv_iinc (v := zi44) (lv' := [(4, .int zi44), (0, .ref a0), (1, .int x1), (2, .int x2), (3, .int x3)]) hx hb dX12_lays_71 hl (k := 0) rfl ezi44.symm (by decide) rfl (fun ls hl => ?_)
          refine lv_goto (tgt := 8) hx hb dX12_lays_74 (by decide) ?_
          exact ih8 (n8 - 1) (by   omega) zi44 _ _ _ ls (by omega) (by omega) (by   omega) hG8 hg0 hg1 hg2 hg3 hh12 hp12 hot TH hS (lv_sub hl [0, 1, 2, 3, 4] rfl)
        have hG71 : tw_fr kp L [] [329] Eg8 Eg8 := tw_fr.rf
        refine lv_if_eq (tgt := 71) hx hb dX12_lays_26 (by decide) (fun hc45 => ?_) (fun hc45 => ?_)
        · have hf46 : xe42.toInt = 0 := by have z := (fa_eq _ _).mp hc45; have : ((0 : Int32).toInt) = 0 := (by decide); omega
          exact hJ71  _ _ _ ls hG71 hg0 hg1 hg2 hg3 hh12 hp12 hot TH hS (lv_sub hl [0, 1, 2, 3, 4] rfl)
        · have hf47 : ¬ (xe42.toInt = 0) := fun q => hc45 ((fa_eq _ _).mpr (by have : ((0 : Int32).toInt) = 0 := (by decide); omega))
          refine lv_aload_n hx hb dX12_lays_29 rfl (lv_at hl 1 rfl) ?_
          refine tw_get (ci := 12) (C := RX12) (T := TX12) (N := 64) hx hb hB cx_inX12 hown hK TH hm0 hk0 rfl ⟨by decide, rfl⟩ 18 (by decide) cw_1211 (fun _ h9 => h9) dX12_lays_30 (fun hv => ?_)
          obtain ⟨xr48, hxr48, hmxr48, hkxr48⟩ : ∃ a : Nat, tw_fv Eg8 a0 18 = .ref a ∧ a ∈ L ∧ kp a = 318 := hv
          rw [hxr48]
          refine lv_bipush (v := 12) hx hb dX12_lays_33 (by decide) ?_
          refine tw_aald (k := 318) (t0 := 4) (n := 16) (lo := 328) (hi := 0) (ty := .int) hx hb hK TH hmxr48 hkxr48 (by decide) rfl rfl (i := 12) (vp_in_iff.mpr ⟨by have : ((12 : Int32).toInt) = 12 := (by decide); omega, by have : ((12 : Int32).toInt) = 12 := (by decide); omega⟩) dX12_lays_35 (fun xr49 exr49 hmxr49 hkxr49 => ?_)
          have hkxr49 : kp xr49 = 328 := hkxr49
          refine lv_iload hx hb dX12_lays_36 (lv_at hl 0 rfl) ?_
          refine tw_iald (k := 328) (t0 := 0) (n := 150) (lo := (-1)) (hi := 149) hx hb hK TH hmxr49 hkxr49 (by decide) rfl rfl (i := y8_4) (vp_in_iff.mpr ⟨by  omega, by  omega⟩) dX12_lays_38 (fun hxe50a hxe50b => ?_)
          obtain ⟨xe50, exe50⟩ : ∃ z : Int32, tw_iv Eg8 xr49 (Int32.toNatClampNeg y8_4) = z := ⟨_, rfl⟩
          rw [exe50] at hxe50a hxe50b ⊢
          refine lv_iload_n hx hb dX12_lays_39 rfl (lv_at hl 3 rfl) ?_
          refine lv_icmp_ne (tgt := 71) hx hb dX12_lays_40 (by decide) (fun hc51 => ?_) (fun hc51 => ?_)
          · have hf52 : ¬ (xe50.toInt = x2.toInt) := fun q => hc51 ((fa_eq _ _).mpr (by  omega))
            exact hJ71  _ _ _ ls hG71 hg0 hg1 hg2 hg3 hh12 hp12 hot TH hS (lv_sub hl [0, 1, 2, 3, 4] rfl)
          · have hf53 : xe50.toInt = x2.toInt := by have z := (fa_eq _ _).mp hc51;  omega
            refine lv_aload_n hx hb dX12_lays_43 rfl (lv_at hl 1 rfl) ?_
            refine tw_get (ci := 12) (C := RX12) (T := TX12) (N := 64) hx hb hB cx_inX12 hown hK TH hm0 hk0 rfl ⟨by decide, rfl⟩ 19 (by decide) cw_1212 (fun _ h9 => h9) dX12_lays_44 (fun hv => ?_)
            obtain ⟨xr54, hxr54, hmxr54, hkxr54⟩ : ∃ a : Nat, tw_fv Eg8 a0 19 = .ref a ∧ a ∈ L ∧ kp a = 319 := hv
            rw [hxr54]
            refine lv_bipush (v := 12) hx hb dX12_lays_47 (by decide) ?_
            refine tw_aald (k := 319) (t0 := 4) (n := 16) (lo := 329) (hi := 0) (ty := .int) hx hb hK TH hmxr54 hkxr54 (by decide) rfl rfl (i := 12) (vp_in_iff.mpr ⟨by have : ((12 : Int32).toInt) = 12 := (by decide); omega, by have : ((12 : Int32).toInt) = 12 := (by decide); omega⟩) dX12_lays_49 (fun xr55 exr55 hmxr55 hkxr55 => ?_)
            have hkxr55 : kp xr55 = 329 := hkxr55
            refine lv_iload hx hb dX12_lays_50 (lv_at hl 0 rfl) ?_
            refine tw_iald (k := 329) (t0 := 0) (n := 150) (lo := (-2147483648)) (hi := 2147483647) hx hb hK TH hmxr55 hkxr55 (by decide) rfl rfl (i := y8_4) (vp_in_iff.mpr ⟨by  omega, by  omega⟩) dX12_lays_52 (fun hxe56a hxe56b => ?_)
            obtain ⟨xe56, exe56⟩ : ∃ z : Int32, tw_iv Eg8 xr55 (Int32.toNatClampNeg y8_4) = z := ⟨_, rfl⟩
            rw [exe56] at hxe56a hxe56b ⊢
            refine lv_iload_n hx hb dX12_lays_53 rfl (lv_at hl 4 rfl) ?_
            refine lv_icmp_lt (tgt := 71) hx hb dX12_lays_54 (by decide) (fun hc57 => ?_) (fun hc57 => ?_)
            · have hf58 : xe56.toInt < x3.toInt := by have z := (fa_lt _ _).mp hc57;  omega
              exact hJ71  _ _ _ ls hG71 hg0 hg1 hg2 hg3 hh12 hp12 hot TH hS (lv_sub hl [0, 1, 2, 3, 4] rfl)
            · have hf59 : ¬ (xe56.toInt < x3.toInt) := fun q => hc57 ((fa_lt _ _).mpr (by  omega))
              refine lv_aload_n hx hb dX12_lays_57 rfl (lv_at hl 1 rfl) ?_
              refine tw_get (ci := 12) (C := RX12) (T := TX12) (N := 64) hx hb hB cx_inX12 hown hK TH hm0 hk0 rfl ⟨by decide, rfl⟩ 19 (by decide) cw_1212 (fun _ h9 => h9) dX12_lays_58 (fun hv => ?_)
              rw [hxr54]
              refine lv_bipush (v := 12) hx hb dX12_lays_61 (by decide) ?_
              refine tw_aald (k := 319) (t0 := 4) (n := 16) (lo := 329) (hi := 0) (ty := .int) hx hb hK TH hmxr54 hkxr54 (by decide) rfl rfl (i := 12) (vp_in_iff.mpr ⟨by have : ((12 : Int32).toInt) = 12 := (by decide); omega, by have : ((12 : Int32).toInt) = 12 := (by decide); omega⟩) dX12_lays_63 (fun xr60 exr60 hmxr60 hkxr60 => ?_)
              have ezxr60 : xr55 = xr60 := exr55.symm.trans exr60
              subst ezxr60
              refine lv_iload hx hb dX12_lays_64 (lv_at hl 0 rfl) ?_
              refine lv_dup2_11 hx hb dX12_lays_66 rfl rfl ?_
              refine tw_iald (k := 329) (t0 := 0) (n := 150) (lo := (-2147483648)) (hi := 2147483647) hx hb hK TH hmxr55 hkxr55 (by decide) rfl rfl (i := y8_4) (vp_in_iff.mpr ⟨by  omega, by  omega⟩) dX12_lays_67 (fun hxe61a hxe61b => ?_)
              rw [exe56]
              refine lv_iconst (v := 1) hx hb dX12_lays_68 (by decide) ?_
              refine lv_iadd hx hb dX12_lays_69 ?_
              refine lv_topi (fun zi62 ezi62 => ?_)
              refine tw_iast (k := 329) (n := 150) (lo := (-2147483648)) (hi := 2147483647) hx hb hK TH hS hmxr55 hkxr55 (by decide) rfl (i := y8_4) (x := zi62) (vp_in_iff.mpr ⟨by  omega, by  omega⟩) (ia_lo _) (ia_hi _) dX12_lays_70 (fun H locs E63 TH hS hp64 hp65 hp66 => ?_)
              have hst67 : tw_fr kp L [] [329] Eg8 E63 := tw_fr.ast tw_fr.rf (fun _ => hkxr55) hp64 hp65 (by decide)
              have hF := hF.tr hst67 (fun _ h => ⟨h, rfl⟩) (by decide) (by decide)
              have hG8 := hG8.tr hst67 (fun _ h => ⟨h, rfl⟩) (by decide) (by decide)
              have hG71 := hG71.tr hst67 (fun _ h => ⟨h, rfl⟩) (by decide) (by decide)
              have hmf68 : tw_fv E63 a0 16 = .ref xr40 := (hst67.1 a0 16 hm0 (by rw [hk0]; decide)).trans hxr40
              have hmf69 : tw_fv E63 a0 18 = .ref xr48 := (hst67.1 a0 18 hm0 (by rw [hk0]; decide)).trans hxr48
              have hmf70 : tw_fv E63 a0 19 = .ref xr54 := (hst67.1 a0 19 hm0 (by rw [hk0]; decide)).trans hxr54
              have hg0 : lyw_ok E63 a0 (x1.toInt) (x2.toInt) := lyw_ok_fr TH hst67 hm0 hk0 (by decide) (by decide) hg0
              have hg1 : rd_ok E63 a0 := rd_ok_fr TH hst67 hm0 hk0 (by decide) (by decide) hg1
              have hg2 : eo_ok E63 a0 := eo_ok_fr TH hst67 hm0 hk0 (by decide) (by decide) hg2
              have hg3 : ht_ok E63 a0 := ht_ok_fr TH hst67 hm0 hk0 (by decide) (by decide) hg3
              have hh12 : h12_ok E63 a0 (rw_h E a0 12) := h12_ok_fr TH hst67 hm0 hk0 (by decide) (by decide) hh12
              have hp12 : p12_ok E63 a0 (rw_p E a0 12) := p12_ok_fr TH hst67 hm0 hk0 (by decide) (by decide) hp12
              have hot : ot_ok E63 a0 (12) E := ot_ok_fr TH hst67 hm0 hk0 (by decide) (by decide) hot
              exact hJ71  _ _ _ ls hG71 hg0 hg1 hg2 hg3 hh12 hp12 hot TH hS (lv_sub hl [0, 1, 2, 3, 4] rfl)
  exact hJ8 151 (0 : Int32) _ _ _ ls (by have : ((0 : Int32).toInt) = 0 := (by decide); omega) (by have : ((0 : Int32).toInt) = 0 := (by decide); omega) (by have : ((0 : Int32).toInt) = 0 := (by decide);  omega) tw_fr.rf hg0 hg1 hg2 hg3 hh12 hp12 hot TH hS (lv_sub hl [0, 1, 2, 3, 4] rfl)
set_option maxHeartbeats 4000000 in
set_option maxRecDepth 100000 in
theorem tX12_put (l : Launch) (D : va_G) (cs : Nat → ClassId) {kp : Nat → Nat} {L : List Nat} {E : Nat → va_E} (a0 : Nat) (x1 : Int32) (x2 : Int32) (x3 : Int32) (x4 : Int64) (hm0 : a0 ∈ L) (hk0 : kp a0 = 12) (hg0 : rd_ok E a0) (hg1 : eo_ok E a0) (hg2 : ht_ok E a0) (hg3 : dr_ok E a0) (hg4 : ln_ok E a0) (hg5 : dl_ok E a0) (sz : Nat) : Met l yX12_put (.code yX12_put cX12_put 7 (some .int) :: cx_big) { frames := 5, cells := 0, slots := 0, locals := 122 } (tw_P D cs kp L E [.ref a0, .int x1, .int x2, .int x3, .long x4] sz) (tw_Q D cs kp L (fun v kq Lq Eq => (∃ x : Int32, v = some (.int x) ∧ rd_ok Eq a0 ∧ eo_ok Eq a0 ∧ ht_ok Eq a0 ∧ dr_ok Eq a0 ∧ ln_ok Eq a0 ∧ dl_ok Eq a0) ∧ kp = kq ∧ L = Lq ∧ tw_fr kp L [(12, 26)] [326, 327, 328, 329, 330, 331, 333] E Eq) (va_A (va_pl L E) sz)) 0 0 (va_A (va_pl L E) sz) := by
  refine tw_ofW (by decide) (Nat.le_of_ble_eq_true rfl) ?_
  intro p e s m below meth c A ls hx hb hr hml hB hown hlocks hK hN hA TH hS hl
  have hown : s.vm.findClass "TreeMergeModel" = some m.cls := hown
  have hl : lv_has ls 7 [(0, .ref a0), (1, .int x1), (2, .int x2), (3, .int x3), (4, .long x4)] := hl
  obtain ⟨kp0, ekp⟩ : ∃ z, z = kp := ⟨_, rfl⟩
  obtain ⟨L0, eL⟩ : ∃ z, z = L := ⟨_, rfl⟩
  rw [show tw_Q D cs kp L = tw_Q D cs kp0 L0 by rw [ekp, eL]]
  have hex : ∀ a : Nat, a ∈ L0 → a ∈ L ∧ kp a = kp0 a := fun a h => ⟨by rw [← eL]; exact h, by rw [ekp]⟩
  have hF : tw_fr kp L [(12, 26)] [326, 327, 328, 329, 330, 331, 333] E E := tw_fr.rf
  have hh12 : h12_ok E a0 (rw_h E a0 12) := rfl
  have hp12 : p12_ok E a0 (rw_p E a0 12) := rfl
  refine lv_aload_n hx hb dX12_put_0 rfl (lv_at hl 0 rfl) ?_
  refine lv_iload_n hx hb dX12_put_1 rfl (lv_at hl 1 rfl) ?_
  obtain ⟨xi1, hxi1, hxi1a, hxi1b⟩ := tw_rd TH hm0 hk0 (by decide) (by decide) (k := 26) rfl
  obtain ⟨xi2, hxi2, hxi2a, hxi2b⟩ := tw_rd TH hm0 hk0 (by decide) (by decide) (k := 29) rfl
  refine tw_Vc (o := a0) (ci := 12) (n := 1) (post := (fun v kq Lq Eq => (∃ x : Int32, v = some (.int x) ∧ 0 ≤ x.toInt ∧ x.toInt ≤ 1 ∧ (x.toInt ≠ 0 → 0 ≤ x1.toInt ∧ x1.toInt < xi1.toInt ∧ xi2.toInt = 1) ∧ (x.toInt ≠ 0 → rw_h E a0 12 (x1.toInt).toNat ≠ 0)) ∧ kp = kq ∧ L = Lq ∧ E = Eq)) (As := [.int x1]) (rest := []) ⟨hx, hb, hml, hown, hB⟩ (fun sz => tX12_inDraft l D cs a0 x1 xi1 xi2 hm0 hk0 hxi1 hxi2 sz) cg_12_425_X12_inDraft rfl rfl (by decide +kernel) ⟨Nat.le_of_ble_eq_true rfl, Nat.le_of_ble_eq_true rfl⟩ hK hN TH hS hA rfl hm0 hk0 (by decide) rfl hl.1 rfl (Nat.le_of_ble_eq_true rfl) dX12_put_2 ⟨Nat.le_of_ble_eq_true rfl, Nat.le_of_ble_eq_true rfl⟩ (fun v3 kp3 L3 E3 H locs hq3 hx3 TH hS => ?_)
  obtain ⟨⟨xc4, rfl, hxc4a, hxc4b, hpoxc4_0, hpoxc4_1⟩, rfl, rfl, rfl⟩ := hq3
  refine W.eq (g2 := F0 m 5 ls [.int xc4]) rfl ?_
  refine lv_if_eq (tgt := 70) hx hb dX12_put_5 (by decide) (fun hc5 => ?_) (fun hc5 => ?_)
  · have hf6 : xc4.toInt = 0 := by have z := (fa_eq _ _).mp hc5; have : ((0 : Int32).toInt) = 0 := (by decide); omega
    refine lv_iconst (v := (-1)) hx hb dX12_put_70 (by decide) ?_
    exact tw_iret hx hb hr hlocks TH hS hex ⟨⟨_, rfl, hg0, hg1, hg2, hg3, hg4, hg5⟩, rfl, rfl, hF⟩ (Nat.le_of_ble_eq_true rfl) (Nat.le_of_ble_eq_true rfl) dX12_put_71
  · have hf7 : ¬ (xc4.toInt = 0) := fun q => hc5 ((fa_eq _ _).mpr (by have : ((0 : Int32).toInt) = 0 := (by decide); omega))
    refine lv_iload_n hx hb dX12_put_8 rfl (lv_at hl 3 rfl) ?_
    refine lv_i2l (v := (x3).toInt64) hx hb dX12_put_9 rfl ?_
    refine tw_topl (fun zl8 ezl8 => ?_)
    have hzl8 : zl8.toInt = x3.toInt := by rw [ezl8];  exact (Int32.toInt_toInt64 _)
    refine lv_lconst (v := 0) hx hb dX12_put_10 (by decide) ?_
    refine tw_topl (fun zl9 ezl9 => ?_)
    have hzl9 : zl9.toInt = 0 := by rw [ezl9]; decide
    refine lv_aload_n hx hb dX12_put_11 rfl (lv_at hl 0 rfl) ?_
    refine tw_get (ci := 12) (C := RX12) (T := TX12) (N := 64) hx hb hB cx_inX12 hown hK TH hm0 hk0 rfl ⟨by decide, rfl⟩ 14 (by decide) cw_1207 (fun _ h9 => h9) dX12_put_12 (fun hv => ?_)
    obtain ⟨xi10, hxi10, hxi10a, hxi10b⟩ : ∃ x : Int32, tw_fv E a0 14 = .int x ∧ 0 ≤ x.toInt ∧ x.toInt ≤ 10 := hv
    rw [hxi10]
    refine lv_iconst (v := 1) hx hb dX12_put_15 (by decide) ?_
    refine lv_isub hx hb dX12_put_16 ?_
    refine lv_topi (fun zi11 ezi11 => ?_)
    have hzi11 : zi11.toInt = xi10.toInt - 1 := by rw [ezi11]; have : ((1 : Int32).toInt) = 1 := (by decide); have := ia_lo xi10; have := ia_hi xi10; exact (ia_sub (by omega) (by omega)).trans (by omega)
    refine lv_i2l (v := (zi11).toInt64) hx hb dX12_put_17 rfl ?_
    refine tw_topl (fun zl12 ezl12 => ?_)
    have hzl12 : zl12.toInt = zi11.toInt := by rw [ezl12];  exact (Int32.toInt_toInt64 _)
    refine tw_Sc (n := 3) (post := (fun v kq Lq Eq => (∃ x : Int32, v = some (.int x) ∧ 0 ≤ x.toInt ∧ x.toInt ≤ 1 ∧ (x.toInt ≠ 0 → zl9.toInt ≤ zl8.toInt ∧ zl8.toInt ≤ zl12.toInt)) ∧ kp = kq ∧ L = Lq ∧ E = Eq)) (As := [.long zl8, .long zl9, .long zl12]) (rest := []) ⟨hx, hb, hml, hown, hB⟩ (fun sz => tX12_in l D cs zl8 zl9 zl12  sz) cg_12_171_X12_in rfl rfl (by decide +kernel) ⟨Nat.le_of_ble_eq_true rfl, Nat.le_of_ble_eq_true rfl⟩ hK hN TH hS hA rfl hl.1 rfl (Nat.le_of_ble_eq_true rfl) dX12_put_18 ⟨Nat.le_of_ble_eq_true rfl, Nat.le_of_ble_eq_true rfl⟩ (fun v13 kp13 L13 E13 H locs hq13 hx13 TH hS => ?_)
    obtain ⟨⟨xc14, rfl, hxc14a, hxc14b, hpoxc14_0⟩, rfl, rfl, rfl⟩ := hq13
    refine W.eq (g2 := F0 m 21 ls [.int xc14]) rfl ?_
    refine lv_if_eq (tgt := 70) hx hb dX12_put_21 (by decide) (fun hc15 => ?_) (fun hc15 => ?_)
    · have hf16 : xc14.toInt = 0 := by have z := (fa_eq _ _).mp hc15; have : ((0 : Int32).toInt) = 0 := (by decide); omega
      refine lv_iconst (v := (-1)) hx hb dX12_put_70 (by decide) ?_
      exact tw_iret hx hb hr hlocks TH hS hex ⟨⟨_, rfl, hg0, hg1, hg2, hg3, hg4, hg5⟩, rfl, rfl, hF⟩ (Nat.le_of_ble_eq_true rfl) (Nat.le_of_ble_eq_true rfl) dX12_put_71
    · have hf17 : ¬ (xc14.toInt = 0) := fun q => hc15 ((fa_eq _ _).mpr (by have : ((0 : Int32).toInt) = 0 := (by decide); omega))
      refine lv_iload_n hx hb dX12_put_24 rfl (lv_at hl 2 rfl) ?_
      refine lv_i2l (v := (x2).toInt64) hx hb dX12_put_25 rfl ?_
      refine tw_topl (fun zl18 ezl18 => ?_)
      have hzl18 : zl18.toInt = x2.toInt := by rw [ezl18];  exact (Int32.toInt_toInt64 _)
      refine lv_lconst (v := 0) hx hb dX12_put_26 (by decide) ?_
      refine tw_topl (fun zl19 ezl19 => ?_)
      have hzl19 : zl19.toInt = 0 := by rw [ezl19]; decide
      refine lv_aload_n hx hb dX12_put_27 rfl (lv_at hl 0 rfl) ?_
      refine lv_bipush (v := 12) hx hb dX12_put_28 (by decide) ?_
      refine lv_iload_n hx hb dX12_put_30 rfl (lv_at hl 1 rfl) ?_
      refine tw_Vc (o := a0) (ci := 12) (n := 2) (post := (fun v kq Lq Eq => (∃ x : Int32, v = some (.int x) ∧ 0 ≤ x.toInt ∧ x.toInt ≤ 150 ∧ (x.toInt = 0 → nk_inv (rw_h E a0 (12 : Int32).toInt) (rw_p E a0 (12 : Int32).toInt) x1.toInt 150)) ∧ kp = kq ∧ L = Lq ∧ E = Eq)) (As := [.int 12, .int x1]) (rest := [.long zl19, .long zl18]) ⟨hx, hb, hml, hown, hB⟩ (fun sz => tX12_kidsOf l D cs a0 (12 : Int32) x1 hm0 hk0 (by have : ((12 : Int32).toInt) = 12 := (by decide); omega) (by have : ((12 : Int32).toInt) = 12 := (by decide); omega) sz) cg_12_315_X12_kidsOf rfl rfl (by decide +kernel) ⟨Nat.le_of_ble_eq_true rfl, Nat.le_of_ble_eq_true rfl⟩ hK hN TH hS hA rfl hm0 hk0 (by decide) rfl hl.1 rfl (Nat.le_of_ble_eq_true rfl) dX12_put_31 ⟨Nat.le_of_ble_eq_true rfl, Nat.le_of_ble_eq_true rfl⟩ (fun v20 kp20 L20 E20 H locs hq20 hx20 TH hS => ?_)
      obtain ⟨⟨xc21, rfl, hxc21a, hxc21b, hpoxc21_0⟩, rfl, rfl, rfl⟩ := hq20
      refine W.eq (g2 := F0 m 34 ls [.int xc21, .long zl19, .long zl18]) rfl ?_
      refine lv_i2l (v := (xc21).toInt64) hx hb dX12_put_34 rfl ?_
      refine tw_topl (fun zl22 ezl22 => ?_)
      have hzl22 : zl22.toInt = xc21.toInt := by rw [ezl22];  exact (Int32.toInt_toInt64 _)
      refine tw_Sc (n := 3) (post := (fun v kq Lq Eq => (∃ x : Int32, v = some (.int x) ∧ 0 ≤ x.toInt ∧ x.toInt ≤ 1 ∧ (x.toInt ≠ 0 → zl19.toInt ≤ zl18.toInt ∧ zl18.toInt ≤ zl22.toInt)) ∧ kp = kq ∧ L = Lq ∧ E = Eq)) (As := [.long zl18, .long zl19, .long zl22]) (rest := []) ⟨hx, hb, hml, hown, hB⟩ (fun sz => tX12_in l D cs zl18 zl19 zl22  sz) cg_12_171_X12_in rfl rfl (by decide +kernel) ⟨Nat.le_of_ble_eq_true rfl, Nat.le_of_ble_eq_true rfl⟩ hK hN TH hS hA rfl hl.1 rfl (Nat.le_of_ble_eq_true rfl) dX12_put_35 ⟨Nat.le_of_ble_eq_true rfl, Nat.le_of_ble_eq_true rfl⟩ (fun v23 kp23 L23 E23 H locs hq23 hx23 TH hS => ?_)
      obtain ⟨⟨xc24, rfl, hxc24a, hxc24b, hpoxc24_0⟩, rfl, rfl, rfl⟩ := hq23
      refine W.eq (g2 := F0 m 38 ls [.int xc24]) rfl ?_
      refine lv_if_eq (tgt := 70) hx hb dX12_put_38 (by decide) (fun hc25 => ?_) (fun hc25 => ?_)
      · have hf26 : xc24.toInt = 0 := by have z := (fa_eq _ _).mp hc25; have : ((0 : Int32).toInt) = 0 := (by decide); omega
        refine lv_iconst (v := (-1)) hx hb dX12_put_70 (by decide) ?_
        exact tw_iret hx hb hr hlocks TH hS hex ⟨⟨_, rfl, hg0, hg1, hg2, hg3, hg4, hg5⟩, rfl, rfl, hF⟩ (Nat.le_of_ble_eq_true rfl) (Nat.le_of_ble_eq_true rfl) dX12_put_71
      · have hf27 : ¬ (xc24.toInt = 0) := fun q => hc25 ((fa_eq _ _).mpr (by have : ((0 : Int32).toInt) = 0 := (by decide); omega))
        refine lv_lload hx hb dX12_put_41 (lv_at hl 4 rfl) ?_
        refine tw_Sc (n := 1) (post := (fun v kq Lq Eq => (∃ x : Int32, v = some (.int x) ∧ 0 ≤ x.toInt ∧ x.toInt ≤ 1) ∧ kp = kq ∧ L = Lq ∧ E = Eq)) (As := [.long x4]) (rest := []) ⟨hx, hb, hml, hown, hB⟩ (fun sz => tX12_isGood l D cs x4  sz) cg_12_428_X12_isGood rfl rfl (by decide +kernel) ⟨Nat.le_of_ble_eq_true rfl, Nat.le_of_ble_eq_true rfl⟩ hK hN TH hS hA rfl hl.1 rfl (Nat.le_of_ble_eq_true rfl) dX12_put_43 ⟨Nat.le_of_ble_eq_true rfl, Nat.le_of_ble_eq_true rfl⟩ (fun v28 kp28 L28 E28 H locs hq28 hx28 TH hS => ?_)
        obtain ⟨⟨xc29, rfl, hxc29a, hxc29b⟩, rfl, rfl, rfl⟩ := hq28
        refine W.eq (g2 := F0 m 46 ls [.int xc29]) rfl ?_
        refine lv_if_eq (tgt := 70) hx hb dX12_put_46 (by decide) (fun hc30 => ?_) (fun hc30 => ?_)
        · have hf31 : xc29.toInt = 0 := by have z := (fa_eq _ _).mp hc30; have : ((0 : Int32).toInt) = 0 := (by decide); omega
          refine lv_iconst (v := (-1)) hx hb dX12_put_70 (by decide) ?_
          exact tw_iret hx hb hr hlocks TH hS hex ⟨⟨_, rfl, hg0, hg1, hg2, hg3, hg4, hg5⟩, rfl, rfl, hF⟩ (Nat.le_of_ble_eq_true rfl) (Nat.le_of_ble_eq_true rfl) dX12_put_71
        · have hf32 : ¬ (xc29.toInt = 0) := fun q => hc30 ((fa_eq _ _).mpr (by have : ((0 : Int32).toInt) = 0 := (by decide); omega))
          refine lv_aload_n hx hb dX12_put_49 rfl (lv_at hl 0 rfl) ?_
          refine lv_bipush (v := 12) hx hb dX12_put_50 (by decide) ?_
          refine tw_Vc (o := a0) (ci := 12) (n := 1) (post := (fun v kq Lq Eq => (∃ x : Int32, v = some (.int x) ∧ 0 ≤ x.toInt ∧ x.toInt ≤ 150 ∧ (x.toInt = (rt_size (rw_h E a0 (12 : Int32).toInt) : Int))) ∧ kp = kq ∧ L = Lq ∧ E = Eq)) (As := [.int 12]) (rest := []) ⟨hx, hb, hml, hown, hB⟩ (fun sz => tX12_size l D cs a0 (12 : Int32) hm0 hk0 (by have : ((12 : Int32).toInt) = 12 := (by decide); omega) (by have : ((12 : Int32).toInt) = 12 := (by decide); omega) sz) cg_12_432_X12_size rfl rfl (by decide +kernel) ⟨Nat.le_of_ble_eq_true rfl, Nat.le_of_ble_eq_true rfl⟩ hK hN TH hS hA rfl hm0 hk0 (by decide) rfl hl.1 rfl (Nat.le_of_ble_eq_true rfl) dX12_put_52 ⟨Nat.le_of_ble_eq_true rfl, Nat.le_of_ble_eq_true rfl⟩ (fun v33 kp33 L33 E33 H locs hq33 hx33 TH hS => ?_)
          obtain ⟨⟨xc34, rfl, hxc34a, hxc34b, hpoxc34_0⟩, rfl, rfl, rfl⟩ := hq33
          refine W.eq (g2 := F0 m 55 ls [.int xc34]) rfl ?_
          refine lv_bipush (v := 24) hx hb dX12_put_55 (by decide) ?_
          refine lv_icmp_ge (tgt := 70) hx hb dX12_put_57 (by decide) (fun hc35 => ?_) (fun hc35 => ?_)
          · have hf36 : 24 ≤ xc34.toInt := by have z := (fa_le _ _).mp hc35; have : ((24 : Int32).toInt) = 24 := (by decide); omega
            refine lv_iconst (v := (-1)) hx hb dX12_put_70 (by decide) ?_
            exact tw_iret hx hb hr hlocks TH hS hex ⟨⟨_, rfl, hg0, hg1, hg2, hg3, hg4, hg5⟩, rfl, rfl, hF⟩ (Nat.le_of_ble_eq_true rfl) (Nat.le_of_ble_eq_true rfl) dX12_put_71
          · have hf37 : ¬ (24 ≤ xc34.toInt) := fun q => hc35 ((fa_le _ _).mpr (by have : ((24 : Int32).toInt) = 24 := (by decide); omega))
            refine lv_aload_n hx hb dX12_put_60 rfl (lv_at hl 0 rfl) ?_
            refine tw_get (ci := 12) (C := RX12) (T := TX12) (N := 64) hx hb hB cx_inX12 hown hK TH hm0 hk0 rfl ⟨by decide, rfl⟩ 26 (by decide) cw_1219 (fun _ h9 => h9) dX12_put_61 (fun hv => ?_)
            rw [hxi1]
            refine lv_sipush (v := 150) hx hb dX12_put_64 (by decide) ?_
            refine lv_icmp_ne (tgt := 72) hx hb dX12_put_67 (by decide) (fun hc38 => ?_) (fun hc38 => ?_)
            · have hf39 : ¬ (xi1.toInt = 150) := fun q => hc38 ((fa_eq _ _).mpr (by have : ((150 : Int32).toInt) = 150 := (by decide); omega))
              refine lv_aload_n hx hb dX12_put_72 rfl (lv_at hl 0 rfl) ?_
              refine lv_iload_n hx hb dX12_put_73 rfl (lv_at hl 3 rfl) ?_
              refine lv_iconst (v := (-1)) hx hb dX12_put_74 (by decide) ?_
              have hrow := (hg3 (by rw [tw_fi_of hxi2]; omega))
              have hn0 : rw_h E a0 12 (xi1.toInt).toNat = 0 := Decidable.byContradiction (fun z => (by have q := hrow.2.2.2 (xi1.toInt).toNat (by omega) z; rw [tw_fi_of hxi1] at q; omega))
              refine tw_Vc (o := a0) (ci := 12) (n := 2) (post := (fun v kq Lq Eq => (∃ x : Int32, v = some (.int x) ∧ 0 ≤ x.toInt ∧ x.toInt ≤ 149 ∧ (x.toInt = xi1.toInt) ∧ (∃ z0 : Int32, tw_fv Eq a0 26 = .int z0 ∧ (z0.toInt = xi1.toInt + 1))) ∧ kp = kq ∧ L = Lq ∧ tw_fr kp L [(12, 26)] [330, 331] E Eq)) (As := [.int x3, .int (-1)]) (rest := []) ⟨hx, hb, hml, hown, hB⟩ (fun sz => tX12_newNode l D cs a0 x3 ((-1) : Int32) xi1 hm0 hk0 (by omega) (by omega) (by have : (((-1) : Int32).toInt) = (-1) := (by decide); omega) (by have : (((-1) : Int32).toInt) = (-1) := (by decide); omega) hxi1 (by have : (((-1) : Int32).toInt) = (-1) := (by decide); omega) sz) cg_12_342_X12_newNode rfl rfl (by decide +kernel) ⟨Nat.le_of_ble_eq_true rfl, Nat.le_of_ble_eq_true rfl⟩ hK hN TH hS hA rfl hm0 hk0 (by decide) rfl hl.1 rfl (Nat.le_of_ble_eq_true rfl) dX12_put_75 ⟨Nat.le_of_ble_eq_true rfl, Nat.le_of_ble_eq_true rfl⟩ (fun v40 kp40 L40 E40 H locs hq40 hx40 TH hS => ?_)
              obtain ⟨⟨xc41, rfl, hxc41a, hxc41b, hpoxc41_0, ⟨zfxc41_0_0, hzfxc41_0_0, hzpxc41_0⟩⟩, rfl, rfl, hst40⟩ := hq40
              have hF := hF.tr hst40 (fun _ h => ⟨h, rfl⟩) (by decide) (by decide)
              have hmf42 : tw_fv E40 a0 29 = .int xi2 := (hst40.1 a0 29 hm0 (by rw [hk0]; decide)).trans hxi2
              have hmf43 : tw_fv E40 a0 14 = .int xi10 := (hst40.1 a0 14 hm0 (by rw [hk0]; decide)).trans hxi10
              have hg0_o := hg0
              have hg1_o := hg1
              have hg2_o := hg2
              have hg3_o := hg3
              have hg4_o := hg4
              have hg5_o := hg5
              have hh12_o := hh12
              have hp12_o := hp12
              have hg0 : rd_ok E40 a0 := rd_ok_fr TH hst40 hm0 hk0 (by decide) (by decide) hg0
              have hg1 : eo_ok E40 a0 := eo_ok_more TH hst40 hm0 hk0 (by decide) (by decide) (by rw [tw_fi_of hxi1, tw_fi_of hzfxc41_0_0]; omega) hg1_o
              have hg2 : ht_ok E40 a0 := ht_ok_fr TH hst40 hm0 hk0 (by decide) (by decide) hg2
              have hg3 : dr_ok E40 a0 := dr_ok_more TH hst40 hm0 hk0 (by decide) (by decide) (by rw [tw_fi_of hxi1, tw_fi_of hzfxc41_0_0]; omega) hg3_o
              have hg4 : ln_ok E40 a0 := ln_ok_fr TH hst40 hm0 hk0 (by decide) (by decide) hg4
              have hg5 : dl_ok E40 a0 := dl_ok_fr TH hst40 hm0 hk0 (by decide) (by decide) hg5
              have hh12 : h12_ok E40 a0 (rw_h E a0 12) := h12_ok_fr TH hst40 hm0 hk0 (by decide) (by decide) hh12
              have hp12 : p12_ok E40 a0 (rw_p E a0 12) := p12_ok_fr TH hst40 hm0 hk0 (by decide) (by decide) hp12
              obtain ⟨qzfxc41_0_0, hqzfxc41_0_0, hqzfxc41_0_0a, hqzfxc41_0_0b⟩ := tw_rd TH hm0 hk0 (by decide) (by decide) (k := 26) rfl
              have eqzfxc41_0_0 : qzfxc41_0_0 = zfxc41_0_0 := by have q := hqzfxc41_0_0.symm.trans hzfxc41_0_0; injection q
              rw [eqzfxc41_0_0] at hqzfxc41_0_0a hqzfxc41_0_0b
              refine W.eq (g2 := F0 m 78 ls [.int xc41]) rfl ?_
              refine lv_istore (lv' := [(6, .int xc41), (0, .ref a0), (1, .int x1), (2, .int x2), (3, .int x3), (4, .long x4)]) hx hb dX12_put_78 hl (by decide) rfl (fun ls hl => ?_)
              refine lv_aload_n hx hb dX12_put_80 rfl (lv_at hl 1 rfl) ?_
              refine tw_get (ci := 12) (C := RX12) (T := TX12) (N := 64) hx hb hB cx_inX12 hown hK TH hm0 hk0 rfl ⟨by decide, rfl⟩ 23 (by decide) cw_1216 (fun _ h9 => h9) dX12_put_81 (fun hv => ?_)
              obtain ⟨xr44, hxr44, hmxr44, hkxr44⟩ : ∃ a : Nat, tw_fv E40 a0 23 = .ref a ∧ a ∈ L ∧ kp a = 333 := hv
              rw [hxr44]
              refine lv_iload hx hb dX12_put_84 (lv_at hl 0 rfl) ?_
              refine lv_iconst (v := 1) hx hb dX12_put_86 (by decide) ?_
              refine tw_zast (k := 333) (n := 150) (lo := 0) (hi := 1) hx hb hK TH hS hmxr44 hkxr44 (by decide) rfl (i := xc41) (x := 1) (vp_in_iff.mpr ⟨by  omega, by  omega⟩) (by have : ((1 : Int32).toInt) = 1 := (by decide); omega) (by have : ((1 : Int32).toInt) = 1 := (by decide); omega) (by have : ((1 : Int32).toInt) = 1 := (by decide); omega) (by have : ((1 : Int32).toInt) = 1 := (by decide); omega) dX12_put_87 (fun H locs E45 TH hS hp46 hp47 hp48 => ?_)
              have hst49 : tw_fr kp L [] [333] E40 E45 := tw_fr.ast tw_fr.rf (fun _ => hkxr44) hp46 hp47 (by decide)
              have hF := hF.tr hst49 (fun _ h => ⟨h, rfl⟩) (by decide) (by decide)
              have hmf50 : tw_fv E45 a0 29 = .int xi2 := (hst49.1 a0 29 hm0 (by rw [hk0]; decide)).trans hmf42
              have hmf51 : tw_fv E45 a0 14 = .int xi10 := (hst49.1 a0 14 hm0 (by rw [hk0]; decide)).trans hmf43
              have hmf52 : tw_fv E45 a0 26 = .int zfxc41_0_0 := (hst49.1 a0 26 hm0 (by rw [hk0]; decide)).trans hzfxc41_0_0
              have hmf53 : tw_fv E45 a0 23 = .ref xr44 := (hst49.1 a0 23 hm0 (by rw [hk0]; decide)).trans hxr44
              have hg0 : rd_ok E45 a0 := rd_ok_fr TH hst49 hm0 hk0 (by decide) (by decide) hg0
              have hg1 : eo_ok E45 a0 := eo_ok_fr TH hst49 hm0 hk0 (by decide) (by decide) hg1
              have hg2 : ht_ok E45 a0 := ht_ok_fr TH hst49 hm0 hk0 (by decide) (by decide) hg2
              have hg3 : dr_ok E45 a0 := dr_ok_fr TH hst49 hm0 hk0 (by decide) (by decide) hg3
              have hg4 : ln_ok E45 a0 := ln_ok_fr TH hst49 hm0 hk0 (by decide) (by decide) hg4
              have hg5 : dl_ok E45 a0 := dl_ok_fr TH hst49 hm0 hk0 (by decide) (by decide) hg5
              have hh12 : h12_ok E45 a0 (rw_h E a0 12) := h12_ok_fr TH hst49 hm0 hk0 (by decide) (by decide) hh12
              have hp12 : p12_ok E45 a0 (rw_p E a0 12) := p12_ok_fr TH hst49 hm0 hk0 (by decide) (by decide) hp12
              refine lv_aload_n hx hb dX12_put_88 rfl (lv_at hl 1 rfl) ?_
              refine tw_get (ci := 12) (C := RX12) (T := TX12) (N := 64) hx hb hB cx_inX12 hown hK TH hm0 hk0 rfl ⟨by decide, rfl⟩ 17 (by decide) cw_1210 (fun _ h9 => h9) dX12_put_89 (fun hv => ?_)
              obtain ⟨xr54, hxr54, hmxr54, hkxr54⟩ : ∃ a : Nat, tw_fv E45 a0 17 = .ref a ∧ a ∈ L ∧ kp a = 317 := hv
              rw [hxr54]
              refine lv_bipush (v := 12) hx hb dX12_put_92 (by decide) ?_
              refine tw_aald (k := 317) (t0 := 6) (n := 16) (lo := 327) (hi := 0) (ty := .long) hx hb hK TH hmxr54 hkxr54 (by decide) rfl rfl (i := 12) (vp_in_iff.mpr ⟨by have : ((12 : Int32).toInt) = 12 := (by decide); omega, by have : ((12 : Int32).toInt) = 12 := (by decide); omega⟩) dX12_put_94 (fun xr55 exr55 hmxr55 hkxr55 => ?_)
              have hkxr55 : kp xr55 = 327 := hkxr55
              refine lv_iload hx hb dX12_put_95 (lv_at hl 0 rfl) ?_
              refine lv_lload hx hb dX12_put_97 (lv_at hl 5 rfl) ?_
              refine tw_Sc (n := 1) (post := (fun v kq Lq Eq => (∃ x : Int64, v = some (.long x)) ∧ kp = kq ∧ L = Lq ∧ E45 = Eq)) (As := [.long x4]) (rest := [.int xc41, .ref xr55]) ⟨hx, hb, hml, hown, hB⟩ (fun sz => tX12_packed l D cs x4  sz) cg_12_435_X12_packed rfl rfl (by decide +kernel) ⟨Nat.le_of_ble_eq_true rfl, Nat.le_of_ble_eq_true rfl⟩ hK hN TH hS hA rfl hl.1 rfl (Nat.le_of_ble_eq_true rfl) dX12_put_99 ⟨Nat.le_of_ble_eq_true rfl, Nat.le_of_ble_eq_true rfl⟩ (fun v56 kp56 L56 E56 H locs hq56 hx56 TH hS => ?_)
              obtain ⟨⟨xc57, rfl⟩, rfl, rfl, rfl⟩ := hq56
              refine W.eq (g2 := F0 m 102 ls [.long xc57, .int xc41, .ref xr55]) rfl ?_
              refine tw_last2 (k := 327) (n := 150) (lo := 0) (hi := 0) hx hb hK TH hS hmxr55 hkxr55 (by decide) rfl (i := xc41) (x := xc57) (vp_in_iff.mpr ⟨by  omega, by  omega⟩) dX12_put_102 (fun H locs E58 TH hS hp59 hp60 hp62 => ?_)
              have hst61 : tw_fr kp L [] [327] E45 E58 := tw_fr.ast tw_fr.rf (fun _ => hkxr55) hp59 hp60 (by decide)
              have hF := hF.tr hst61 (fun _ h => ⟨h, rfl⟩) (by decide) (by decide)
              have hmf63 : tw_fv E58 a0 29 = .int xi2 := (hst61.1 a0 29 hm0 (by rw [hk0]; decide)).trans hmf50
              have hmf64 : tw_fv E58 a0 14 = .int xi10 := (hst61.1 a0 14 hm0 (by rw [hk0]; decide)).trans hmf51
              have hmf65 : tw_fv E58 a0 26 = .int zfxc41_0_0 := (hst61.1 a0 26 hm0 (by rw [hk0]; decide)).trans hmf52
              have hmf66 : tw_fv E58 a0 23 = .ref xr44 := (hst61.1 a0 23 hm0 (by rw [hk0]; decide)).trans hmf53
              have hmf67 : tw_fv E58 a0 17 = .ref xr54 := (hst61.1 a0 17 hm0 (by rw [hk0]; decide)).trans hxr54
              have hg0 : rd_ok E58 a0 := rd_ok_fr TH hst61 hm0 hk0 (by decide) (by decide) hg0
              have hg1 : eo_ok E58 a0 := eo_ok_fr TH hst61 hm0 hk0 (by decide) (by decide) hg1
              have hg2 : ht_ok E58 a0 := ht_ok_fr TH hst61 hm0 hk0 (by decide) (by decide) hg2
              have hg3 : dr_ok E58 a0 := dr_ok_fr TH hst61 hm0 hk0 (by decide) (by decide) hg3
              have hg4 : ln_ok E58 a0 := ln_ok_fr TH hst61 hm0 hk0 (by decide) (by decide) hg4
              have hg5 : dl_ok E58 a0 := dl_ok_fr TH hst61 hm0 hk0 (by decide) (by decide) hg5
              have hh12 : h12_ok E58 a0 (rw_h E a0 12) := h12_ok_fr TH hst61 hm0 hk0 (by decide) (by decide) hh12
              have hp12 : p12_ok E58 a0 (rw_p E a0 12) := p12_ok_fr TH hst61 hm0 hk0 (by decide) (by decide) hp12
              refine lv_aload_n hx hb dX12_put_103 rfl (lv_at hl 1 rfl) ?_
              refine lv_iload hx hb dX12_put_104 (lv_at hl 0 rfl) ?_
              refine lv_iload_n hx hb dX12_put_106 rfl (lv_at hl 2 rfl) ?_
              refine lv_iload_n hx hb dX12_put_107 rfl (lv_at hl 3 rfl) ?_
              refine tw_Vc (o := a0) (ci := 12) (n := 3) (post := (fun v kq Lq Eq => v = none ∧ kp = kq ∧ L = Lq ∧ tw_fr kp L [] [326, 328, 329] E58 Eq ∧ (∀ c : Nat, rw_h Eq a0 12 c = if c = (xc41.toInt).toNat then 1 else rw_h E58 a0 12 c) ∧ (∀ c : Nat, rw_p Eq a0 12 c = if c = (xc41.toInt).toNat then x1.toInt else rw_p E58 a0 12 c) ∧ (ot_ok Eq a0 12 E58) ∧ rw_ok Eq a0 (12) ∧ rd_ok Eq a0 ∧ eo_ok Eq a0 ∧ ht_ok Eq a0)) (As := [.int xc41, .int x1, .int x2]) (rest := []) ⟨hx, hb, hml, hown, hB⟩ (fun sz => tX12_lays l D cs a0 xc41 x1 x2 hm0 hk0 (by omega) (by omega) (by omega) (by omega) (by unfold lyw_ok; have fh : rw_h E58 a0 12 = rw_h E a0 12 := hh12; have fp : rw_p E58 a0 12 = rw_p E a0 12 := hp12; rw [fh, fp]; refine ly_new hrow.1.1 hrow.1.2.1 hrow.1.2.2 (by omega) (by omega) ?_ (by omega) (by omega) (hpoxc4_1 (by omega)); (rw [show (Int32.toInt xc41).toNat = (xi1.toInt).toNat by omega]; exact hn0)) hg0 hg1 hg2 sz) cg_12_439_X12_lays rfl rfl (by decide +kernel) ⟨Nat.le_of_ble_eq_true rfl, Nat.le_of_ble_eq_true rfl⟩ hK hN TH hS hA rfl hm0 hk0 (by decide) rfl hl.1 rfl (Nat.le_of_ble_eq_true rfl) dX12_put_108 ⟨Nat.le_of_ble_eq_true rfl, Nat.le_of_ble_eq_true rfl⟩ (fun v68 kp68 L68 E68 H locs hq68 hx68 TH hS => ?_)
              obtain ⟨rfl, rfl, rfl, hst68, hpoxc69_0, hpoxc69_1, hpoxc69_2, hgpxc69_0, hgpxc69_1, hgpxc69_2, hgpxc69_3⟩ := hq68
              have hF := hF.tr hst68 (fun _ h => ⟨h, rfl⟩) (by decide) (by decide)
              have hmf70 : tw_fv E68 a0 29 = .int xi2 := (hst68.1 a0 29 hm0 (by rw [hk0]; decide)).trans hmf63
              have hmf71 : tw_fv E68 a0 14 = .int xi10 := (hst68.1 a0 14 hm0 (by rw [hk0]; decide)).trans hmf64
              have hmf72 : tw_fv E68 a0 26 = .int zfxc41_0_0 := (hst68.1 a0 26 hm0 (by rw [hk0]; decide)).trans hmf65
              have hmf73 : tw_fv E68 a0 23 = .ref xr44 := (hst68.1 a0 23 hm0 (by rw [hk0]; decide)).trans hmf66
              have hmf74 : tw_fv E68 a0 17 = .ref xr54 := (hst68.1 a0 17 hm0 (by rw [hk0]; decide)).trans hmf67
              have hg3_o := hg3
              have hg4_o := hg4
              have hg5_o := hg5
              have hh12_o := hh12
              have hp12_o := hp12
              have hg3 : dr_ok E68 a0 := (fun _ => (by have fh : rw_h E58 a0 12 = rw_h E a0 12 := hh12_o; have fp : rw_p E58 a0 12 = rw_p E a0 12 := hp12_o; have e12 : ((12 : Int32).toInt) = 12 := (by decide); have hs := hpoxc34_0; rw [e12] at hs; refine row_put (h := rw_h E a0 12) (p := rw_p E a0 12) (n := xc41.toInt) (u := x1.toInt) (N := zfxc41_0_0.toInt) (by omega) (by omega) (by omega) ?_ (Or.inl (by omega)) (fun c hc hx => (by have z := hrow.2.2.2 c hc hx; rw [tw_fi_of hxi1] at z; omega)) (by omega) (tw_fi_of ((hst68.1 a0 26 hm0 (by rw [hk0]; decide)).trans hmf65)) (fun c => (hpoxc69_0 c).trans (by rw [fh])) (fun c => (hpoxc69_1 c).trans (by rw [fp])) hgpxc69_0; (obtain ⟨r, r0, r1, r2, r3⟩ := hrow.2.1; exact ⟨r, r0, r1, (fun z => r2 (by rw [z, show (Int32.toInt xc41).toNat = (xi1.toInt).toNat by omega]; exact hn0)), r2, r3⟩)))
              have hg4 : ln_ok E68 a0 := ln_ok_ot (r := 12) TH hst68 hm0 hk0 (by decide) (by decide) hpoxc69_2 (by have w := tw_fi_ed TH hm0 hk0; rw [tw_fi_fr hst68 hm0 hk0 (k := 27) (by decide)] at w; exact w) hg4_o
              have hg5 : dl_ok E68 a0 := dl_ok_12 TH hst68 hm0 hk0 (by decide) hpoxc69_2 (fun r hr z y => (by have fh : rw_h E58 a0 12 = rw_h E a0 12 := hh12_o; have fp : rw_p E58 a0 12 = rw_p E a0 12 := hp12_o; have hrn : r ≠ (xc41.toInt).toNat := (fun w => (by rw [fh, w, show (Int32.toInt xc41).toNat = (xi1.toInt).toNat by omega] at z; exact z hn0)); rw [hpoxc69_0 r, hpoxc69_1 r, if_neg hrn, if_neg hrn]; exact ⟨z, y⟩)) hg5_o
              refine W.eq (g2 := F0 m 111 ls []) rfl ?_
              refine lv_iload hx hb dX12_put_111 (lv_at hl 0 rfl) ?_
              exact tw_iret hx hb hr hlocks TH hS hex ⟨⟨_, rfl, hgpxc69_1, hgpxc69_2, hgpxc69_3, hg3, hg4, hg5⟩, rfl, rfl, hF⟩ (Nat.le_of_ble_eq_true rfl) (Nat.le_of_ble_eq_true rfl) dX12_put_113
            · have hf75 : xi1.toInt = 150 := by have z := (fa_eq _ _).mp hc38; have : ((150 : Int32).toInt) = 150 := (by decide); omega
              refine lv_iconst (v := (-1)) hx hb dX12_put_70 (by decide) ?_
              exact tw_iret hx hb hr hlocks TH hS hex ⟨⟨_, rfl, hg0, hg1, hg2, hg3, hg4, hg5⟩, rfl, rfl, hF⟩ (Nat.le_of_ble_eq_true rfl) (Nat.le_of_ble_eq_true rfl) dX12_put_71
set_option maxHeartbeats 4000000 in
set_option maxRecDepth 100000 in
theorem tX12_move (l : Launch) (D : va_G) (cs : Nat → ClassId) {kp : Nat → Nat} {L : List Nat} {E : Nat → va_E} (a0 : Nat) (x1 : Int32) (x2 : Int32) (x3 : Int32) (hm0 : a0 ∈ L) (hk0 : kp a0 = 12) (hg0 : rd_ok E a0) (hg1 : eo_ok E a0) (hg2 : ht_ok E a0) (hg3 : dr_ok E a0) (hg4 : ln_ok E a0) (hg5 : dl_ok E a0) (sz : Nat) : Met l yX12_move (.code yX12_move cX12_move 6 (some .boolean) :: cx_big) { frames := 5, cells := 0, slots := 0, locals := 122 } (tw_P D cs kp L E [.ref a0, .int x1, .int x2, .int x3] sz) (tw_Q D cs kp L (fun v kq Lq Eq => (∃ x : Int32, v = some (.int x) ∧ 0 ≤ x.toInt ∧ x.toInt ≤ 1 ∧ rd_ok Eq a0 ∧ eo_ok Eq a0 ∧ ht_ok Eq a0 ∧ dr_ok Eq a0 ∧ ln_ok Eq a0 ∧ dl_ok Eq a0) ∧ kp = kq ∧ L = Lq ∧ tw_fr kp L [] [326, 328, 329] E Eq) (va_A (va_pl L E) sz)) 0 0 (va_A (va_pl L E) sz) := by
  refine tw_ofW (by decide) (Nat.le_of_ble_eq_true rfl) ?_
  intro p e s m below meth c A ls hx hb hr hml hB hown hlocks hK hN hA TH hS hl
  have hown : s.vm.findClass "TreeMergeModel" = some m.cls := hown
  have hl : lv_has ls 6 [(0, .ref a0), (1, .int x1), (2, .int x2), (3, .int x3)] := hl
  obtain ⟨kp0, ekp⟩ : ∃ z, z = kp := ⟨_, rfl⟩
  obtain ⟨L0, eL⟩ : ∃ z, z = L := ⟨_, rfl⟩
  rw [show tw_Q D cs kp L = tw_Q D cs kp0 L0 by rw [ekp, eL]]
  have hex : ∀ a : Nat, a ∈ L0 → a ∈ L ∧ kp a = kp0 a := fun a h => ⟨by rw [← eL]; exact h, by rw [ekp]⟩
  have hF : tw_fr kp L [] [326, 328, 329] E E := tw_fr.rf
  have hh12 : h12_ok E a0 (rw_h E a0 12) := rfl
  have hp12 : p12_ok E a0 (rw_p E a0 12) := rfl
  refine lv_aload_n hx hb dX12_move_0 rfl (lv_at hl 0 rfl) ?_
  refine lv_iload_n hx hb dX12_move_1 rfl (lv_at hl 1 rfl) ?_
  obtain ⟨xi1, hxi1, hxi1a, hxi1b⟩ := tw_rd TH hm0 hk0 (by decide) (by decide) (k := 26) rfl
  obtain ⟨xi2, hxi2, hxi2a, hxi2b⟩ := tw_rd TH hm0 hk0 (by decide) (by decide) (k := 29) rfl
  refine tw_Vc (o := a0) (ci := 12) (n := 1) (post := (fun v kq Lq Eq => (∃ x : Int32, v = some (.int x) ∧ 0 ≤ x.toInt ∧ x.toInt ≤ 1 ∧ (x.toInt ≠ 0 → 0 ≤ x1.toInt ∧ x1.toInt < xi1.toInt ∧ xi2.toInt = 1) ∧ (x.toInt ≠ 0 → rw_h E a0 12 (x1.toInt).toNat ≠ 0)) ∧ kp = kq ∧ L = Lq ∧ E = Eq)) (As := [.int x1]) (rest := []) ⟨hx, hb, hml, hown, hB⟩ (fun sz => tX12_inDraft l D cs a0 x1 xi1 xi2 hm0 hk0 hxi1 hxi2 sz) cg_12_425_X12_inDraft rfl rfl (by decide +kernel) ⟨Nat.le_of_ble_eq_true rfl, Nat.le_of_ble_eq_true rfl⟩ hK hN TH hS hA rfl hm0 hk0 (by decide) rfl hl.1 rfl (Nat.le_of_ble_eq_true rfl) dX12_move_2 ⟨Nat.le_of_ble_eq_true rfl, Nat.le_of_ble_eq_true rfl⟩ (fun v3 kp3 L3 E3 H locs hq3 hx3 TH hS => ?_)
  obtain ⟨⟨xc4, rfl, hxc4a, hxc4b, hpoxc4_0, hpoxc4_1⟩, rfl, rfl, rfl⟩ := hq3
  refine W.eq (g2 := F0 m 5 ls [.int xc4]) rfl ?_
  refine lv_if_eq (tgt := 40) hx hb dX12_move_5 (by decide) (fun hc5 => ?_) (fun hc5 => ?_)
  · have hf6 : xc4.toInt = 0 := by have z := (fa_eq _ _).mp hc5; have : ((0 : Int32).toInt) = 0 := (by decide); omega
    refine lv_iconst (v := 0) hx hb dX12_move_40 (by decide) ?_
    exact tw_zret hx hb hr hlocks (by decide) TH hS hex ⟨⟨_, rfl, (show 0 ≤ Int32.toInt 0 from by have : ((0 : Int32).toInt) = 0 := (by decide); omega), (show Int32.toInt 0 ≤ 1 from by have : ((0 : Int32).toInt) = 0 := (by decide); omega), hg0, hg1, hg2, hg3, hg4, hg5⟩, rfl, rfl, hF⟩ (Nat.le_of_ble_eq_true rfl) (Nat.le_of_ble_eq_true rfl) dX12_move_41
  · have hf7 : ¬ (xc4.toInt = 0) := fun q => hc5 ((fa_eq _ _).mpr (by have : ((0 : Int32).toInt) = 0 := (by decide); omega))
    refine lv_aload_n hx hb dX12_move_8 rfl (lv_at hl 0 rfl) ?_
    refine lv_iload_n hx hb dX12_move_9 rfl (lv_at hl 2 rfl) ?_
    refine tw_Vc (o := a0) (ci := 12) (n := 1) (post := (fun v kq Lq Eq => (∃ x : Int32, v = some (.int x) ∧ 0 ≤ x.toInt ∧ x.toInt ≤ 1 ∧ (x.toInt ≠ 0 → 0 ≤ x2.toInt ∧ x2.toInt < xi1.toInt ∧ xi2.toInt = 1) ∧ (x.toInt ≠ 0 → rw_h E a0 12 (x2.toInt).toNat ≠ 0)) ∧ kp = kq ∧ L = Lq ∧ E = Eq)) (As := [.int x2]) (rest := []) ⟨hx, hb, hml, hown, hB⟩ (fun sz => tX12_inDraft l D cs a0 x2 xi1 xi2 hm0 hk0 hxi1 hxi2 sz) cg_12_425_X12_inDraft rfl rfl (by decide +kernel) ⟨Nat.le_of_ble_eq_true rfl, Nat.le_of_ble_eq_true rfl⟩ hK hN TH hS hA rfl hm0 hk0 (by decide) rfl hl.1 rfl (Nat.le_of_ble_eq_true rfl) dX12_move_10 ⟨Nat.le_of_ble_eq_true rfl, Nat.le_of_ble_eq_true rfl⟩ (fun v8 kp8 L8 E8 H locs hq8 hx8 TH hS => ?_)
    obtain ⟨⟨xc9, rfl, hxc9a, hxc9b, hpoxc9_0, hpoxc9_1⟩, rfl, rfl, rfl⟩ := hq8
    refine W.eq (g2 := F0 m 13 ls [.int xc9]) rfl ?_
    refine lv_if_eq (tgt := 40) hx hb dX12_move_13 (by decide) (fun hc10 => ?_) (fun hc10 => ?_)
    · have hf11 : xc9.toInt = 0 := by have z := (fa_eq _ _).mp hc10; have : ((0 : Int32).toInt) = 0 := (by decide); omega
      refine lv_iconst (v := 0) hx hb dX12_move_40 (by decide) ?_
      exact tw_zret hx hb hr hlocks (by decide) TH hS hex ⟨⟨_, rfl, (show 0 ≤ Int32.toInt 0 from by have : ((0 : Int32).toInt) = 0 := (by decide); omega), (show Int32.toInt 0 ≤ 1 from by have : ((0 : Int32).toInt) = 0 := (by decide); omega), hg0, hg1, hg2, hg3, hg4, hg5⟩, rfl, rfl, hF⟩ (Nat.le_of_ble_eq_true rfl) (Nat.le_of_ble_eq_true rfl) dX12_move_41
    · have hf12 : ¬ (xc9.toInt = 0) := fun q => hc10 ((fa_eq _ _).mpr (by have : ((0 : Int32).toInt) = 0 := (by decide); omega))
      refine lv_aload_n hx hb dX12_move_16 rfl (lv_at hl 0 rfl) ?_
      refine tw_get (ci := 12) (C := RX12) (T := TX12) (N := 64) hx hb hB cx_inX12 hown hK TH hm0 hk0 rfl ⟨by decide, rfl⟩ 18 (by decide) cw_1211 (fun _ h9 => h9) dX12_move_17 (fun hv => ?_)
      obtain ⟨xr13, hxr13, hmxr13, hkxr13⟩ : ∃ a : Nat, tw_fv E a0 18 = .ref a ∧ a ∈ L ∧ kp a = 318 := hv
      rw [hxr13]
      refine lv_bipush (v := 12) hx hb dX12_move_20 (by decide) ?_
      refine tw_aald (k := 318) (t0 := 4) (n := 16) (lo := 328) (hi := 0) (ty := .int) hx hb hK TH hmxr13 hkxr13 (by decide) rfl rfl (i := 12) (vp_in_iff.mpr ⟨by have : ((12 : Int32).toInt) = 12 := (by decide); omega, by have : ((12 : Int32).toInt) = 12 := (by decide); omega⟩) dX12_move_22 (fun xr14 exr14 hmxr14 hkxr14 => ?_)
      have hkxr14 : kp xr14 = 328 := hkxr14
      refine lv_iload_n hx hb dX12_move_23 rfl (lv_at hl 1 rfl) ?_
      refine tw_iald (k := 328) (t0 := 0) (n := 150) (lo := (-1)) (hi := 149) hx hb hK TH hmxr14 hkxr14 (by decide) rfl rfl (i := x1) (vp_in_iff.mpr ⟨by  omega, by  omega⟩) dX12_move_24 (fun hxe15a hxe15b => ?_)
      obtain ⟨xe15, exe15⟩ : ∃ z : Int32, tw_iv E xr14 (Int32.toNatClampNeg x1) = z := ⟨_, rfl⟩
      rw [exe15] at hxe15a hxe15b ⊢
      refine lv_iconst (v := (-1)) hx hb dX12_move_25 (by decide) ?_
      refine lv_icmp_eq (tgt := 40) hx hb dX12_move_26 (by decide) (fun hc16 => ?_) (fun hc16 => ?_)
      · have hf17 : xe15.toInt = (-1) := by have z := (fa_eq _ _).mp hc16; have : (((-1) : Int32).toInt) = (-1) := (by decide); omega
        refine lv_iconst (v := 0) hx hb dX12_move_40 (by decide) ?_
        exact tw_zret hx hb hr hlocks (by decide) TH hS hex ⟨⟨_, rfl, (show 0 ≤ Int32.toInt 0 from by have : ((0 : Int32).toInt) = 0 := (by decide); omega), (show Int32.toInt 0 ≤ 1 from by have : ((0 : Int32).toInt) = 0 := (by decide); omega), hg0, hg1, hg2, hg3, hg4, hg5⟩, rfl, rfl, hF⟩ (Nat.le_of_ble_eq_true rfl) (Nat.le_of_ble_eq_true rfl) dX12_move_41
      · have hf18 : ¬ (xe15.toInt = (-1)) := fun q => hc16 ((fa_eq _ _).mpr (by have : (((-1) : Int32).toInt) = (-1) := (by decide); omega))
        refine lv_aload_n hx hb dX12_move_29 rfl (lv_at hl 0 rfl) ?_
        refine lv_bipush (v := 12) hx hb dX12_move_30 (by decide) ?_
        refine lv_iload_n hx hb dX12_move_32 rfl (lv_at hl 2 rfl) ?_
        refine lv_iload_n hx hb dX12_move_33 rfl (lv_at hl 1 rfl) ?_
        refine tw_Vc (o := a0) (ci := 12) (n := 3) (post := (fun v kq Lq Eq => (∃ x : Int32, v = some (.int x) ∧ 0 ≤ x.toInt ∧ x.toInt ≤ 1 ∧ (x.toInt = 0 → 0 ≤ x1.toInt → ∀ k : Nat, rt_up (rw_p E a0 (12 : Int32).toInt) k x2.toInt ≠ x1.toInt)) ∧ kp = kq ∧ L = Lq ∧ E = Eq)) (As := [.int 12, .int x2, .int x1]) (rest := []) ⟨hx, hb, hml, hown, hB⟩ (fun sz => tX12_isUnder l D cs a0 (12 : Int32) x2 x1 hm0 hk0 (by have : ((12 : Int32).toInt) = 12 := (by decide); omega) (by have : ((12 : Int32).toInt) = 12 := (by decide); omega) (by omega) (by omega) (by have : ((12 : Int32).toInt) = 12 := (by decide); have e12 : ((12 : Int32).toInt) = 12 := (by decide); rw [e12]; exact hpoxc9_1 (by omega)) (rw_ok_cast (i := 12) (by decide) (hg3 (by rw [tw_fi_of hxi2]; omega)).1) sz) cg_12_442_X12_isUnder rfl rfl (by decide +kernel) ⟨Nat.le_of_ble_eq_true rfl, Nat.le_of_ble_eq_true rfl⟩ hK hN TH hS hA rfl hm0 hk0 (by decide) rfl hl.1 rfl (Nat.le_of_ble_eq_true rfl) dX12_move_34 ⟨Nat.le_of_ble_eq_true rfl, Nat.le_of_ble_eq_true rfl⟩ (fun v19 kp19 L19 E19 H locs hq19 hx19 TH hS => ?_)
        obtain ⟨⟨xc20, rfl, hxc20a, hxc20b, hpoxc20_0⟩, rfl, rfl, rfl⟩ := hq19
        refine W.eq (g2 := F0 m 37 ls [.int xc20]) rfl ?_
        refine lv_if_eq (tgt := 42) hx hb dX12_move_37 (by decide) (fun hc21 => ?_) (fun hc21 => ?_)
        · have hf22 : xc20.toInt = 0 := by have z := (fa_eq _ _).mp hc21; have : ((0 : Int32).toInt) = 0 := (by decide); omega
          refine lv_aload_n hx hb dX12_move_42 rfl (lv_at hl 0 rfl) ?_
          refine lv_bipush (v := 12) hx hb dX12_move_43 (by decide) ?_
          refine lv_iload_n hx hb dX12_move_45 rfl (lv_at hl 2 rfl) ?_
          refine tw_Vc (o := a0) (ci := 12) (n := 2) (post := (fun v kq Lq Eq => (∃ x : Int32, v = some (.int x) ∧ 0 ≤ x.toInt ∧ x.toInt ≤ 150 ∧ (x.toInt = 0 → nk_inv (rw_h E a0 (12 : Int32).toInt) (rw_p E a0 (12 : Int32).toInt) x2.toInt 150)) ∧ kp = kq ∧ L = Lq ∧ E = Eq)) (As := [.int 12, .int x2]) (rest := []) ⟨hx, hb, hml, hown, hB⟩ (fun sz => tX12_kidsOf l D cs a0 (12 : Int32) x2 hm0 hk0 (by have : ((12 : Int32).toInt) = 12 := (by decide); omega) (by have : ((12 : Int32).toInt) = 12 := (by decide); omega) sz) cg_12_315_X12_kidsOf rfl rfl (by decide +kernel) ⟨Nat.le_of_ble_eq_true rfl, Nat.le_of_ble_eq_true rfl⟩ hK hN TH hS hA rfl hm0 hk0 (by decide) rfl hl.1 rfl (Nat.le_of_ble_eq_true rfl) dX12_move_46 ⟨Nat.le_of_ble_eq_true rfl, Nat.le_of_ble_eq_true rfl⟩ (fun v23 kp23 L23 E23 H locs hq23 hx23 TH hS => ?_)
          obtain ⟨⟨xc24, rfl, hxc24a, hxc24b, hpoxc24_0⟩, rfl, rfl, rfl⟩ := hq23
          refine W.eq (g2 := F0 m 49 ls [.int xc24]) rfl ?_
          refine lv_aload_n hx hb dX12_move_49 rfl (lv_at hl 0 rfl) ?_
          refine tw_get (ci := 12) (C := RX12) (T := TX12) (N := 64) hx hb hB cx_inX12 hown hK TH hm0 hk0 rfl ⟨by decide, rfl⟩ 18 (by decide) cw_1211 (fun _ h9 => h9) dX12_move_50 (fun hv => ?_)
          rw [hxr13]
          refine lv_bipush (v := 12) hx hb dX12_move_53 (by decide) ?_
          refine tw_aald (k := 318) (t0 := 4) (n := 16) (lo := 328) (hi := 0) (ty := .int) hx hb hK TH hmxr13 hkxr13 (by decide) rfl rfl (i := 12) (vp_in_iff.mpr ⟨by have : ((12 : Int32).toInt) = 12 := (by decide); omega, by have : ((12 : Int32).toInt) = 12 := (by decide); omega⟩) dX12_move_55 (fun xr25 exr25 hmxr25 hkxr25 => ?_)
          have ezxr25 : xr14 = xr25 := exr14.symm.trans exr25
          subst ezxr25
          refine lv_iload_n hx hb dX12_move_56 rfl (lv_at hl 1 rfl) ?_
          refine tw_iald (k := 328) (t0 := 0) (n := 150) (lo := (-1)) (hi := 149) hx hb hK TH hmxr14 hkxr14 (by decide) rfl rfl (i := x1) (vp_in_iff.mpr ⟨by  omega, by  omega⟩) dX12_move_57 (fun hxe26a hxe26b => ?_)
          rw [exe15]
          refine lv_iload_n hx hb dX12_move_58 rfl (lv_at hl 2 rfl) ?_
          refine lv_icmp_ne (tgt := 66) hx hb dX12_move_59 (by decide) (fun hc27 => ?_) (fun hc27 => ?_)
          · have hf28 : ¬ (xe15.toInt = x2.toInt) := fun q => hc27 ((fa_eq _ _).mpr (by  omega))
            refine lv_iconst (v := 0) hx hb dX12_move_66 (by decide) ?_
            refine lv_isub hx hb dX12_move_67 ?_
            refine lv_topi (fun zi29 ezi29 => ?_)
            have hzi29 : zi29.toInt = xc24.toInt - 0 := by rw [ezi29]; have : ((0 : Int32).toInt) = 0 := (by decide); have := ia_lo xc24; have := ia_hi xc24; exact (ia_sub (by omega) (by omega)).trans (by omega)
            refine lv_istore (lv' := [(4, .int zi29), (0, .ref a0), (1, .int x1), (2, .int x2), (3, .int x3)]) hx hb dX12_move_68 hl (by decide) rfl (fun ls hl => ?_)
            refine lv_iload_n hx hb dX12_move_70 rfl (lv_at hl 4 rfl) ?_
            refine lv_i2l (v := (x3).toInt64) hx hb dX12_move_71 rfl ?_
            refine tw_topl (fun zl30 ezl30 => ?_)
            have hzl30 : zl30.toInt = x3.toInt := by rw [ezl30];  exact (Int32.toInt_toInt64 _)
            refine lv_lconst (v := 0) hx hb dX12_move_72 (by decide) ?_
            refine tw_topl (fun zl31 ezl31 => ?_)
            have hzl31 : zl31.toInt = 0 := by rw [ezl31]; decide
            refine lv_iload hx hb dX12_move_73 (lv_at hl 0 rfl) ?_
            refine lv_i2l (v := (zi29).toInt64) hx hb dX12_move_75 rfl ?_
            refine tw_topl (fun zl32 ezl32 => ?_)
            have hzl32 : zl32.toInt = zi29.toInt := by rw [ezl32];  exact (Int32.toInt_toInt64 _)
            refine tw_Sc (n := 3) (post := (fun v kq Lq Eq => (∃ x : Int32, v = some (.int x) ∧ 0 ≤ x.toInt ∧ x.toInt ≤ 1 ∧ (x.toInt ≠ 0 → zl31.toInt ≤ zl30.toInt ∧ zl30.toInt ≤ zl32.toInt)) ∧ kp = kq ∧ L = Lq ∧ E = Eq)) (As := [.long zl30, .long zl31, .long zl32]) (rest := []) ⟨hx, hb, hml, hown, hB⟩ (fun sz => tX12_in l D cs zl30 zl31 zl32  sz) cg_12_171_X12_in rfl rfl (by decide +kernel) ⟨Nat.le_of_ble_eq_true rfl, Nat.le_of_ble_eq_true rfl⟩ hK hN TH hS hA rfl hl.1 rfl (Nat.le_of_ble_eq_true rfl) dX12_move_76 ⟨Nat.le_of_ble_eq_true rfl, Nat.le_of_ble_eq_true rfl⟩ (fun v33 kp33 L33 E33 H locs hq33 hx33 TH hS => ?_)
            obtain ⟨⟨xc34, rfl, hxc34a, hxc34b, hpoxc34_0⟩, rfl, rfl, rfl⟩ := hq33
            refine W.eq (g2 := F0 m 79 ls [.int xc34]) rfl ?_
            refine lv_if_ne (tgt := 84) hx hb dX12_move_79 (by decide) (fun hc35 => ?_) (fun hc35 => ?_)
            · have hf36 : ¬ (xc34.toInt = 0) := fun q => hc35 ((fa_eq _ _).mpr (by have : ((0 : Int32).toInt) = 0 := (by decide); omega))
              refine lv_aload_n hx hb dX12_move_84 rfl (lv_at hl 1 rfl) ?_
              refine tw_get (ci := 12) (C := RX12) (T := TX12) (N := 64) hx hb hB cx_inX12 hown hK TH hm0 hk0 rfl ⟨by decide, rfl⟩ 18 (by decide) cw_1211 (fun _ h9 => h9) dX12_move_85 (fun hv => ?_)
              rw [hxr13]
              refine lv_bipush (v := 12) hx hb dX12_move_88 (by decide) ?_
              refine tw_aald (k := 318) (t0 := 4) (n := 16) (lo := 328) (hi := 0) (ty := .int) hx hb hK TH hmxr13 hkxr13 (by decide) rfl rfl (i := 12) (vp_in_iff.mpr ⟨by have : ((12 : Int32).toInt) = 12 := (by decide); omega, by have : ((12 : Int32).toInt) = 12 := (by decide); omega⟩) dX12_move_90 (fun xr37 exr37 hmxr37 hkxr37 => ?_)
              have ezxr37 : xr14 = xr37 := exr14.symm.trans exr37
              subst ezxr37
              refine lv_iload_n hx hb dX12_move_91 rfl (lv_at hl 2 rfl) ?_
              refine tw_iald (k := 328) (t0 := 0) (n := 150) (lo := (-1)) (hi := 149) hx hb hK TH hmxr14 hkxr14 (by decide) rfl rfl (i := x1) (vp_in_iff.mpr ⟨by  omega, by  omega⟩) dX12_move_92 (fun hxe38a hxe38b => ?_)
              rw [exe15]
              refine lv_istore (lv' := [(5, .int xe15), (4, .int zi29), (0, .ref a0), (1, .int x1), (2, .int x2), (3, .int x3)]) hx hb dX12_move_93 hl (by decide) rfl (fun ls hl => ?_)
              have rf_xe15 : rw_p E a0 (12) (x1.toInt).toNat = xe15.toInt := (by have q := rw_p_of (m := a0) (i := (12 : Int32)) (c := x1) hxr13 exr14 exe15; rw [show ((12 : Int32).toInt) = 12 from (by decide)] at q; exact q)
              have hn26 := hxi1
              have hrow := (hg3 (by rw [tw_fi_of hxi2]; omega))
              have hpn : rw_p E a0 12 (x1.toInt).toNat ≠ -1 := (by rw [rf_xe15]; omega)
              refine lv_aload_n hx hb dX12_move_95 rfl (lv_at hl 2 rfl) ?_
              refine tw_get (ci := 12) (C := RX12) (T := TX12) (N := 64) hx hb hB cx_inX12 hown hK TH hm0 hk0 rfl ⟨by decide, rfl⟩ 16 (by decide) cw_1209 (fun _ h9 => h9) dX12_move_96 (fun hv => ?_)
              obtain ⟨xr39, hxr39, hmxr39, hkxr39⟩ : ∃ a : Nat, tw_fv E a0 16 = .ref a ∧ a ∈ L ∧ kp a = 316 := hv
              rw [hxr39]
              refine lv_bipush (v := 12) hx hb dX12_move_99 (by decide) ?_
              refine tw_aald (k := 316) (t0 := 5) (n := 16) (lo := 326) (hi := 0) (ty := .boolean) hx hb hK TH hmxr39 hkxr39 (by decide) rfl rfl (i := 12) (vp_in_iff.mpr ⟨by have : ((12 : Int32).toInt) = 12 := (by decide); omega, by have : ((12 : Int32).toInt) = 12 := (by decide); omega⟩) dX12_move_101 (fun xr40 exr40 hmxr40 hkxr40 => ?_)
              have hkxr40 : kp xr40 = 326 := hkxr40
              refine lv_iload_n hx hb dX12_move_102 rfl (lv_at hl 3 rfl) ?_
              refine lv_iconst (v := 0) hx hb dX12_move_103 (by decide) ?_
              refine tw_zast (k := 326) (n := 150) (lo := 0) (hi := 1) hx hb hK TH hS hmxr40 hkxr40 (by decide) rfl (i := x1) (x := 0) (vp_in_iff.mpr ⟨by  omega, by  omega⟩) (by have : ((0 : Int32).toInt) = 0 := (by decide); omega) (by have : ((0 : Int32).toInt) = 0 := (by decide); omega) (by have : ((0 : Int32).toInt) = 0 := (by decide); omega) (by have : ((0 : Int32).toInt) = 0 := (by decide); omega) dX12_move_104 (fun H locs E41 TH hS hp42 hp43 hp44 => ?_)
              have hst45 : tw_fr kp L [] [326] E E41 := tw_fr.ast tw_fr.rf (fun _ => hkxr40) hp42 hp43 (by decide)
              have hF := hF.tr hst45 (fun _ h => ⟨h, rfl⟩) (by decide) (by decide)
              have hmf46 : tw_fv E41 a0 26 = .int xi1 := (hst45.1 a0 26 hm0 (by rw [hk0]; decide)).trans hxi1
              have hmf47 : tw_fv E41 a0 29 = .int xi2 := (hst45.1 a0 29 hm0 (by rw [hk0]; decide)).trans hxi2
              have hmf48 : tw_fv E41 a0 18 = .ref xr13 := (hst45.1 a0 18 hm0 (by rw [hk0]; decide)).trans hxr13
              have hmf49 : tw_fv E41 a0 16 = .ref xr39 := (hst45.1 a0 16 hm0 (by rw [hk0]; decide)).trans hxr39
              have hg0_o := hg0
              have hg1_o := hg1
              have hg2_o := hg2
              have hg3_o := hg3
              have hg4_o := hg4
              have hg5_o := hg5
              have hh12_o := hh12
              have hp12_o := hp12
              have hg0 : rd_ok E41 a0 := rd_ok_fr TH hst45 hm0 hk0 (by decide) (by decide) hg0
              have hg1 : eo_ok E41 a0 := eo_ok_h (i := 12) TH hm0 hk0 hg0_o hxr39 exr40 hkxr39 hkxr40 hp42 hp43 (by have e : ((12 : Int32).toInt) = 12 := (by decide); omega) (by have e : ((12 : Int32).toInt) = 12 := (by decide); omega) (by have := tw_fi_ed TH hm0 hk0; have e : ((12 : Int32).toInt) = 12 := (by decide); omega) hg1_o
              have hg2 : ht_ok E41 a0 := ht_ok_h (i := 12) hg0_o hxr39 exr40 hkxr39 hkxr40 hp42 hp43 (by have e : ((12 : Int32).toInt) = 12 := (by decide); omega) (by have e : ((12 : Int32).toInt) = 12 := (by decide); omega) hg2_o
              have hg4 : ln_ok E41 a0 := ln_ok_h (i := 12) TH hm0 hk0 hg0_o hxr39 exr40 hkxr39 hkxr40 hp42 hp43 (by have e : ((12 : Int32).toInt) = 12 := (by decide); omega) (by have e : ((12 : Int32).toInt) = 12 := (by decide); omega) (by have := tw_fi_ed TH hm0 hk0; have e : ((12 : Int32).toInt) = 12 := (by decide); omega) hg4_o
              have hg5 : dl_ok E41 a0 := dl_ok_12 TH hst45 hm0 hk0 (by decide) (by have e12 : ((12 : Int32).toInt) = 12 := (by decide); have q := ot_ok_h (i := 12) TH hm0 hk0 hg0_o hxr39 exr40 hkxr39 hkxr40 hp42 hp43 (by omega) (by omega) ot_ok_rf; rw [e12] at q; exact q) (fun r hr x y => (by have e12 : ((12 : Int32).toInt) = 12 := (by decide); have rf_xe15 : rw_p E a0 (12) (x1.toInt).toNat = xe15.toInt := (by have q := rw_p_of (m := a0) (i := (12 : Int32)) (c := x1) hxr13 exr14 exe15; rw [show ((12 : Int32).toInt) = 12 from (by decide)] at q; exact q); have q := rw_h_st (m := a0) (i := 12) (c := x1) hxr39 exr40 hkxr39 hkxr40 hp42 hp43 hp44 r; rw [e12] at q; rw [rw_p_hst TH hm0 hk0 hkxr40 hp42 hp43 (i := 12) (by decide), q, if_neg (fun z => (by rw [z, rf_xe15] at y; omega))]; exact ⟨x, y⟩)) hg5_o
              have hh12 : h12_ok E41 a0 (fun c => if c = (x1.toInt).toNat then 0 else (rw_h E a0 12) c) := (by have e12 : ((12 : Int32).toInt) = 12 := (by decide); have ev : ((0 : Int32).toInt) = 0 := (by decide); have q := rw_h_st (m := a0) (i := 12) (c := x1) hxr39 exr40 hkxr39 hkxr40 hp42 hp43 hp44; rw [e12, ev] at q; exact h12_st hh12_o q)
              have hp12 : p12_ok E41 a0 (rw_p E a0 12) := p12_ok_fr TH hst45 hm0 hk0 (by decide) (by decide) hp12
              refine lv_aload_n hx hb dX12_move_105 rfl (lv_at hl 2 rfl) ?_
              refine lv_iload hx hb dX12_move_106 (lv_at hl 0 rfl) ?_
              refine tw_Vc (o := a0) (ci := 12) (n := 1) (post := (fun v kq Lq Eq => v = none ∧ kp = kq ∧ L = Lq ∧ tw_fr kp L [] [329] E41 Eq)) (As := [.int xe15]) (rest := []) ⟨hx, hb, hml, hown, hB⟩ (fun sz => tX12_shrinks l D cs a0 xe15 hm0 hk0 sz) cg_12_422_X12_shrinks rfl rfl (by decide +kernel) ⟨Nat.le_of_ble_eq_true rfl, Nat.le_of_ble_eq_true rfl⟩ hK hN TH hS hA rfl hm0 hk0 (by decide) rfl hl.1 rfl (Nat.le_of_ble_eq_true rfl) dX12_move_108 ⟨Nat.le_of_ble_eq_true rfl, Nat.le_of_ble_eq_true rfl⟩ (fun v50 kp50 L50 E50 H locs hq50 hx50 TH hS => ?_)
              obtain ⟨rfl, rfl, rfl, hst50⟩ := hq50
              have hF := hF.tr hst50 (fun _ h => ⟨h, rfl⟩) (by decide) (by decide)
              have hmf52 : tw_fv E50 a0 26 = .int xi1 := (hst50.1 a0 26 hm0 (by rw [hk0]; decide)).trans hmf46
              have hmf53 : tw_fv E50 a0 29 = .int xi2 := (hst50.1 a0 29 hm0 (by rw [hk0]; decide)).trans hmf47
              have hmf54 : tw_fv E50 a0 18 = .ref xr13 := (hst50.1 a0 18 hm0 (by rw [hk0]; decide)).trans hmf48
              have hmf55 : tw_fv E50 a0 16 = .ref xr39 := (hst50.1 a0 16 hm0 (by rw [hk0]; decide)).trans hmf49
              have hg0 : rd_ok E50 a0 := rd_ok_fr TH hst50 hm0 hk0 (by decide) (by decide) hg0
              have hg1 : eo_ok E50 a0 := eo_ok_fr TH hst50 hm0 hk0 (by decide) (by decide) hg1
              have hg2 : ht_ok E50 a0 := ht_ok_fr TH hst50 hm0 hk0 (by decide) (by decide) hg2
              have hg4 : ln_ok E50 a0 := ln_ok_fr TH hst50 hm0 hk0 (by decide) (by decide) hg4
              have hg5 : dl_ok E50 a0 := dl_ok_fr TH hst50 hm0 hk0 (by decide) (by decide) hg5
              have hh12 : h12_ok E50 a0 (fun c => if c = (x1.toInt).toNat then 0 else (rw_h E a0 12) c) := h12_ok_fr TH hst50 hm0 hk0 (by decide) (by decide) hh12
              have hp12 : p12_ok E50 a0 (rw_p E a0 12) := p12_ok_fr TH hst50 hm0 hk0 (by decide) (by decide) hp12
              refine W.eq (g2 := F0 m 111 ls []) rfl ?_
              refine lv_aload_n hx hb dX12_move_111 rfl (lv_at hl 2 rfl) ?_
              refine lv_iload_n hx hb dX12_move_112 rfl (lv_at hl 3 rfl) ?_
              refine lv_iload_n hx hb dX12_move_113 rfl (lv_at hl 4 rfl) ?_
              refine lv_iload_n hx hb dX12_move_114 rfl (lv_at hl 5 rfl) ?_
              refine tw_Vc (o := a0) (ci := 12) (n := 3) (post := (fun v kq Lq Eq => v = none ∧ kp = kq ∧ L = Lq ∧ tw_fr kp L [] [326, 328, 329] E50 Eq ∧ (∀ c : Nat, rw_h Eq a0 12 c = if c = (x1.toInt).toNat then 1 else rw_h E50 a0 12 c) ∧ (∀ c : Nat, rw_p Eq a0 12 c = if c = (x1.toInt).toNat then x2.toInt else rw_p E50 a0 12 c) ∧ (ot_ok Eq a0 12 E50) ∧ rw_ok Eq a0 (12) ∧ rd_ok Eq a0 ∧ eo_ok Eq a0 ∧ ht_ok Eq a0)) (As := [.int x1, .int x2, .int x3]) (rest := []) ⟨hx, hb, hml, hown, hB⟩ (fun sz => tX12_lays l D cs a0 x1 x2 x3 hm0 hk0 (by omega) (by omega) (by omega) (by omega) (by have e12 : ((12 : Int32).toInt) = 12 := (by decide); unfold lyw_ok; have fh : rw_h E50 a0 12 = _ := hh12; have fp : rw_p E50 a0 12 = rw_p E a0 12 := hp12; rw [fp]; have up := hpoxc20_0 (by omega) (by omega); rw [e12] at up; exact ly_move hrow.1.1 hrow.1.2.1 hrow.1.2.2 (by omega) (by omega) (hpoxc4_1 (by omega)) (by omega) (by omega) (hpoxc9_1 (by omega)) up (fun c => congrFun fh c)) hg0 hg1 hg2 sz) cg_12_439_X12_lays rfl rfl (by decide +kernel) ⟨Nat.le_of_ble_eq_true rfl, Nat.le_of_ble_eq_true rfl⟩ hK hN TH hS hA rfl hm0 hk0 (by decide) rfl hl.1 rfl (Nat.le_of_ble_eq_true rfl) dX12_move_115 ⟨Nat.le_of_ble_eq_true rfl, Nat.le_of_ble_eq_true rfl⟩ (fun v56 kp56 L56 E56 H locs hq56 hx56 TH hS => ?_)
              obtain ⟨rfl, rfl, rfl, hst56, hpoxc57_0, hpoxc57_1, hpoxc57_2, hgpxc57_0, hgpxc57_1, hgpxc57_2, hgpxc57_3⟩ := hq56
              have hF := hF.tr hst56 (fun _ h => ⟨h, rfl⟩) (by decide) (by decide)
              have hmf58 : tw_fv E56 a0 26 = .int xi1 := (hst56.1 a0 26 hm0 (by rw [hk0]; decide)).trans hmf52
              have hmf59 : tw_fv E56 a0 29 = .int xi2 := (hst56.1 a0 29 hm0 (by rw [hk0]; decide)).trans hmf53
              have hmf60 : tw_fv E56 a0 18 = .ref xr13 := (hst56.1 a0 18 hm0 (by rw [hk0]; decide)).trans hmf54
              have hmf61 : tw_fv E56 a0 16 = .ref xr39 := (hst56.1 a0 16 hm0 (by rw [hk0]; decide)).trans hmf55
              have hg4_o := hg4
              have hg5_o := hg5
              have hh12_o := hh12
              have hp12_o := hp12
              have hg4 : ln_ok E56 a0 := ln_ok_ot (r := 12) TH hst56 hm0 hk0 (by decide) (by decide) hpoxc57_2 (by have w := tw_fi_ed TH hm0 hk0; rw [tw_fi_fr hst56 hm0 hk0 (k := 27) (by decide)] at w; exact w) hg4_o
              have hg5 : dl_ok E56 a0 := dl_ok_12 TH hst56 hm0 hk0 (by decide) hpoxc57_2 (fun r hr z y => (by have fp : rw_p E50 a0 12 = rw_p E a0 12 := hp12_o; have hrn : r ≠ (x1.toInt).toNat := (fun w => (by rw [fp, w] at y; exact hpn y)); rw [hpoxc57_0 r, hpoxc57_1 r, if_neg hrn, if_neg hrn]; exact ⟨z, y⟩)) hg5_o
              have hgn62 : dr_ok E56 a0 := (fun _ => (by have fh : rw_h E50 a0 12 = _ := hh12; have fp : rw_p E50 a0 12 = rw_p E a0 12 := hp12; refine row_put (h := rw_h E a0 12) (p := rw_p E a0 12) (n := x1.toInt) (u := x2.toInt) (N := xi1.toInt) (by omega) (by omega) (by omega) ?_ (Or.inr ⟨hpoxc4_1 (by omega), hrow.2.2.1⟩) (fun c hc hx => (by have z := hrow.2.2.2 c hc hx; rw [tw_fi_of hn26] at z; omega)) (by omega) (tw_fi_of ((hst56.1 a0 26 hm0 (by rw [hk0]; decide)).trans hmf52)) (fun c => (by rw [hpoxc57_0 c, fh]; (by_cases hcn : c = (x1.toInt).toNat; (rw [if_pos hcn, if_pos hcn]); (rw [if_neg hcn, if_neg hcn]; exact if_neg hcn)))) (fun c => (hpoxc57_1 c).trans (by rw [fp])) hgpxc57_0; (obtain ⟨r, r0, r1, r2, r3⟩ := hrow.2.1; exact ⟨r, r0, r1, (fun z => hpn (by rw [← z]; exact r3)), r2, r3⟩)))
              refine W.eq (g2 := F0 m 118 ls []) rfl ?_
              refine lv_iconst (v := 1) hx hb dX12_move_118 (by decide) ?_
              exact tw_zret hx hb hr hlocks (by decide) TH hS hex ⟨⟨_, rfl, (show 0 ≤ Int32.toInt 1 from by have : ((1 : Int32).toInt) = 1 := (by decide); omega), (show Int32.toInt 1 ≤ 1 from by have : ((1 : Int32).toInt) = 1 := (by decide); omega), hgpxc57_1, hgpxc57_2, hgpxc57_3, hgn62, hg4, hg5⟩, rfl, rfl, hF⟩ (Nat.le_of_ble_eq_true rfl) (Nat.le_of_ble_eq_true rfl) dX12_move_119
            · have hf63 : xc34.toInt = 0 := by have z := (fa_eq _ _).mp hc35; have : ((0 : Int32).toInt) = 0 := (by decide); omega
              refine lv_iconst (v := 0) hx hb dX12_move_82 (by decide) ?_
              exact tw_zret hx hb hr hlocks (by decide) TH hS hex ⟨⟨_, rfl, (show 0 ≤ Int32.toInt 0 from by have : ((0 : Int32).toInt) = 0 := (by decide); omega), (show Int32.toInt 0 ≤ 1 from by have : ((0 : Int32).toInt) = 0 := (by decide); omega), hg0, hg1, hg2, hg3, hg4, hg5⟩, rfl, rfl, hF⟩ (Nat.le_of_ble_eq_true rfl) (Nat.le_of_ble_eq_true rfl) dX12_move_83
          · have hf64 : xe15.toInt = x2.toInt := by have z := (fa_eq _ _).mp hc27;  omega
            refine lv_iconst (v := 1) hx hb dX12_move_62 (by decide) ?_
            refine lv_goto (tgt := 67) hx hb dX12_move_63 (by decide) ?_
            refine lv_isub hx hb dX12_move_67 ?_
            refine lv_topi (fun zi65 ezi65 => ?_)
            have hzi65 : zi65.toInt = xc24.toInt - 1 := by rw [ezi65]; have : ((1 : Int32).toInt) = 1 := (by decide); have := ia_lo xc24; have := ia_hi xc24; exact (ia_sub (by omega) (by omega)).trans (by omega)
            refine lv_istore (lv' := [(4, .int zi65), (0, .ref a0), (1, .int x1), (2, .int x2), (3, .int x3)]) hx hb dX12_move_68 hl (by decide) rfl (fun ls hl => ?_)
            refine lv_iload_n hx hb dX12_move_70 rfl (lv_at hl 4 rfl) ?_
            refine lv_i2l (v := (x3).toInt64) hx hb dX12_move_71 rfl ?_
            refine tw_topl (fun zl66 ezl66 => ?_)
            have hzl66 : zl66.toInt = x3.toInt := by rw [ezl66];  exact (Int32.toInt_toInt64 _)
            refine lv_lconst (v := 0) hx hb dX12_move_72 (by decide) ?_
            refine tw_topl (fun zl67 ezl67 => ?_)
            have hzl67 : zl67.toInt = 0 := by rw [ezl67]; decide
            refine lv_iload hx hb dX12_move_73 (lv_at hl 0 rfl) ?_
            refine lv_i2l (v := (zi65).toInt64) hx hb dX12_move_75 rfl ?_
            refine tw_topl (fun zl68 ezl68 => ?_)
            have hzl68 : zl68.toInt = zi65.toInt := by rw [ezl68];  exact (Int32.toInt_toInt64 _)
            refine tw_Sc (n := 3) (post := (fun v kq Lq Eq => (∃ x : Int32, v = some (.int x) ∧ 0 ≤ x.toInt ∧ x.toInt ≤ 1 ∧ (x.toInt ≠ 0 → zl67.toInt ≤ zl66.toInt ∧ zl66.toInt ≤ zl68.toInt)) ∧ kp = kq ∧ L = Lq ∧ E = Eq)) (As := [.long zl66, .long zl67, .long zl68]) (rest := []) ⟨hx, hb, hml, hown, hB⟩ (fun sz => tX12_in l D cs zl66 zl67 zl68  sz) cg_12_171_X12_in rfl rfl (by decide +kernel) ⟨Nat.le_of_ble_eq_true rfl, Nat.le_of_ble_eq_true rfl⟩ hK hN TH hS hA rfl hl.1 rfl (Nat.le_of_ble_eq_true rfl) dX12_move_76 ⟨Nat.le_of_ble_eq_true rfl, Nat.le_of_ble_eq_true rfl⟩ (fun v69 kp69 L69 E69 H locs hq69 hx69 TH hS => ?_)
            obtain ⟨⟨xc70, rfl, hxc70a, hxc70b, hpoxc70_0⟩, rfl, rfl, rfl⟩ := hq69
            refine W.eq (g2 := F0 m 79 ls [.int xc70]) rfl ?_
            refine lv_if_ne (tgt := 84) hx hb dX12_move_79 (by decide) (fun hc71 => ?_) (fun hc71 => ?_)
            · have hf72 : ¬ (xc70.toInt = 0) := fun q => hc71 ((fa_eq _ _).mpr (by have : ((0 : Int32).toInt) = 0 := (by decide); omega))
              refine lv_aload_n hx hb dX12_move_84 rfl (lv_at hl 1 rfl) ?_
              refine tw_get (ci := 12) (C := RX12) (T := TX12) (N := 64) hx hb hB cx_inX12 hown hK TH hm0 hk0 rfl ⟨by decide, rfl⟩ 18 (by decide) cw_1211 (fun _ h9 => h9) dX12_move_85 (fun hv => ?_)
              rw [hxr13]
              refine lv_bipush (v := 12) hx hb dX12_move_88 (by decide) ?_
              refine tw_aald (k := 318) (t0 := 4) (n := 16) (lo := 328) (hi := 0) (ty := .int) hx hb hK TH hmxr13 hkxr13 (by decide) rfl rfl (i := 12) (vp_in_iff.mpr ⟨by have : ((12 : Int32).toInt) = 12 := (by decide); omega, by have : ((12 : Int32).toInt) = 12 := (by decide); omega⟩) dX12_move_90 (fun xr73 exr73 hmxr73 hkxr73 => ?_)
              have ezxr73 : xr14 = xr73 := exr14.symm.trans exr73
              subst ezxr73
              refine lv_iload_n hx hb dX12_move_91 rfl (lv_at hl 2 rfl) ?_
              refine tw_iald (k := 328) (t0 := 0) (n := 150) (lo := (-1)) (hi := 149) hx hb hK TH hmxr14 hkxr14 (by decide) rfl rfl (i := x1) (vp_in_iff.mpr ⟨by  omega, by  omega⟩) dX12_move_92 (fun hxe74a hxe74b => ?_)
              rw [exe15]
              refine lv_istore (lv' := [(5, .int xe15), (4, .int zi65), (0, .ref a0), (1, .int x1), (2, .int x2), (3, .int x3)]) hx hb dX12_move_93 hl (by decide) rfl (fun ls hl => ?_)
              have rf_xe15 : rw_p E a0 (12) (x1.toInt).toNat = xe15.toInt := (by have q := rw_p_of (m := a0) (i := (12 : Int32)) (c := x1) hxr13 exr14 exe15; rw [show ((12 : Int32).toInt) = 12 from (by decide)] at q; exact q)
              have hn26 := hxi1
              have hrow := (hg3 (by rw [tw_fi_of hxi2]; omega))
              have hpn : rw_p E a0 12 (x1.toInt).toNat ≠ -1 := (by rw [rf_xe15]; omega)
              refine lv_aload_n hx hb dX12_move_95 rfl (lv_at hl 2 rfl) ?_
              refine tw_get (ci := 12) (C := RX12) (T := TX12) (N := 64) hx hb hB cx_inX12 hown hK TH hm0 hk0 rfl ⟨by decide, rfl⟩ 16 (by decide) cw_1209 (fun _ h9 => h9) dX12_move_96 (fun hv => ?_)
              obtain ⟨xr75, hxr75, hmxr75, hkxr75⟩ : ∃ a : Nat, tw_fv E a0 16 = .ref a ∧ a ∈ L ∧ kp a = 316 := hv
              rw [hxr75]
              refine lv_bipush (v := 12) hx hb dX12_move_99 (by decide) ?_
              refine tw_aald (k := 316) (t0 := 5) (n := 16) (lo := 326) (hi := 0) (ty := .boolean) hx hb hK TH hmxr75 hkxr75 (by decide) rfl rfl (i := 12) (vp_in_iff.mpr ⟨by have : ((12 : Int32).toInt) = 12 := (by decide); omega, by have : ((12 : Int32).toInt) = 12 := (by decide); omega⟩) dX12_move_101 (fun xr76 exr76 hmxr76 hkxr76 => ?_)
              have hkxr76 : kp xr76 = 326 := hkxr76
              refine lv_iload_n hx hb dX12_move_102 rfl (lv_at hl 3 rfl) ?_
              refine lv_iconst (v := 0) hx hb dX12_move_103 (by decide) ?_
              refine tw_zast (k := 326) (n := 150) (lo := 0) (hi := 1) hx hb hK TH hS hmxr76 hkxr76 (by decide) rfl (i := x1) (x := 0) (vp_in_iff.mpr ⟨by  omega, by  omega⟩) (by have : ((0 : Int32).toInt) = 0 := (by decide); omega) (by have : ((0 : Int32).toInt) = 0 := (by decide); omega) (by have : ((0 : Int32).toInt) = 0 := (by decide); omega) (by have : ((0 : Int32).toInt) = 0 := (by decide); omega) dX12_move_104 (fun H locs E77 TH hS hp78 hp79 hp80 => ?_)
              have hst81 : tw_fr kp L [] [326] E E77 := tw_fr.ast tw_fr.rf (fun _ => hkxr76) hp78 hp79 (by decide)
              have hF := hF.tr hst81 (fun _ h => ⟨h, rfl⟩) (by decide) (by decide)
              have hmf82 : tw_fv E77 a0 26 = .int xi1 := (hst81.1 a0 26 hm0 (by rw [hk0]; decide)).trans hxi1
              have hmf83 : tw_fv E77 a0 29 = .int xi2 := (hst81.1 a0 29 hm0 (by rw [hk0]; decide)).trans hxi2
              have hmf84 : tw_fv E77 a0 18 = .ref xr13 := (hst81.1 a0 18 hm0 (by rw [hk0]; decide)).trans hxr13
              have hmf85 : tw_fv E77 a0 16 = .ref xr75 := (hst81.1 a0 16 hm0 (by rw [hk0]; decide)).trans hxr75
              have hg0_o := hg0
              have hg1_o := hg1
              have hg2_o := hg2
              have hg3_o := hg3
              have hg4_o := hg4
              have hg5_o := hg5
              have hh12_o := hh12
              have hp12_o := hp12
              have hg0 : rd_ok E77 a0 := rd_ok_fr TH hst81 hm0 hk0 (by decide) (by decide) hg0
              have hg1 : eo_ok E77 a0 := eo_ok_h (i := 12) TH hm0 hk0 hg0_o hxr75 exr76 hkxr75 hkxr76 hp78 hp79 (by have e : ((12 : Int32).toInt) = 12 := (by decide); omega) (by have e : ((12 : Int32).toInt) = 12 := (by decide); omega) (by have := tw_fi_ed TH hm0 hk0; have e : ((12 : Int32).toInt) = 12 := (by decide); omega) hg1_o
              have hg2 : ht_ok E77 a0 := ht_ok_h (i := 12) hg0_o hxr75 exr76 hkxr75 hkxr76 hp78 hp79 (by have e : ((12 : Int32).toInt) = 12 := (by decide); omega) (by have e : ((12 : Int32).toInt) = 12 := (by decide); omega) hg2_o
              have hg4 : ln_ok E77 a0 := ln_ok_h (i := 12) TH hm0 hk0 hg0_o hxr75 exr76 hkxr75 hkxr76 hp78 hp79 (by have e : ((12 : Int32).toInt) = 12 := (by decide); omega) (by have e : ((12 : Int32).toInt) = 12 := (by decide); omega) (by have := tw_fi_ed TH hm0 hk0; have e : ((12 : Int32).toInt) = 12 := (by decide); omega) hg4_o
              have hg5 : dl_ok E77 a0 := dl_ok_12 TH hst81 hm0 hk0 (by decide) (by have e12 : ((12 : Int32).toInt) = 12 := (by decide); have q := ot_ok_h (i := 12) TH hm0 hk0 hg0_o hxr75 exr76 hkxr75 hkxr76 hp78 hp79 (by omega) (by omega) ot_ok_rf; rw [e12] at q; exact q) (fun r hr x y => (by have e12 : ((12 : Int32).toInt) = 12 := (by decide); have rf_xe15 : rw_p E a0 (12) (x1.toInt).toNat = xe15.toInt := (by have q := rw_p_of (m := a0) (i := (12 : Int32)) (c := x1) hxr13 exr14 exe15; rw [show ((12 : Int32).toInt) = 12 from (by decide)] at q; exact q); have q := rw_h_st (m := a0) (i := 12) (c := x1) hxr75 exr76 hkxr75 hkxr76 hp78 hp79 hp80 r; rw [e12] at q; rw [rw_p_hst TH hm0 hk0 hkxr76 hp78 hp79 (i := 12) (by decide), q, if_neg (fun z => (by rw [z, rf_xe15] at y; omega))]; exact ⟨x, y⟩)) hg5_o
              have hh12 : h12_ok E77 a0 (fun c => if c = (x1.toInt).toNat then 0 else (rw_h E a0 12) c) := (by have e12 : ((12 : Int32).toInt) = 12 := (by decide); have ev : ((0 : Int32).toInt) = 0 := (by decide); have q := rw_h_st (m := a0) (i := 12) (c := x1) hxr75 exr76 hkxr75 hkxr76 hp78 hp79 hp80; rw [e12, ev] at q; exact h12_st hh12_o q)
              have hp12 : p12_ok E77 a0 (rw_p E a0 12) := p12_ok_fr TH hst81 hm0 hk0 (by decide) (by decide) hp12
              refine lv_aload_n hx hb dX12_move_105 rfl (lv_at hl 2 rfl) ?_
              refine lv_iload hx hb dX12_move_106 (lv_at hl 0 rfl) ?_
              refine tw_Vc (o := a0) (ci := 12) (n := 1) (post := (fun v kq Lq Eq => v = none ∧ kp = kq ∧ L = Lq ∧ tw_fr kp L [] [329] E77 Eq)) (As := [.int xe15]) (rest := []) ⟨hx, hb, hml, hown, hB⟩ (fun sz => tX12_shrinks l D cs a0 xe15 hm0 hk0 sz) cg_12_422_X12_shrinks rfl rfl (by decide +kernel) ⟨Nat.le_of_ble_eq_true rfl, Nat.le_of_ble_eq_true rfl⟩ hK hN TH hS hA rfl hm0 hk0 (by decide) rfl hl.1 rfl (Nat.le_of_ble_eq_true rfl) dX12_move_108 ⟨Nat.le_of_ble_eq_true rfl, Nat.le_of_ble_eq_true rfl⟩ (fun v86 kp86 L86 E86 H locs hq86 hx86 TH hS => ?_)
              obtain ⟨rfl, rfl, rfl, hst86⟩ := hq86
              have hF := hF.tr hst86 (fun _ h => ⟨h, rfl⟩) (by decide) (by decide)
              have hmf88 : tw_fv E86 a0 26 = .int xi1 := (hst86.1 a0 26 hm0 (by rw [hk0]; decide)).trans hmf82
              have hmf89 : tw_fv E86 a0 29 = .int xi2 := (hst86.1 a0 29 hm0 (by rw [hk0]; decide)).trans hmf83
              have hmf90 : tw_fv E86 a0 18 = .ref xr13 := (hst86.1 a0 18 hm0 (by rw [hk0]; decide)).trans hmf84
              have hmf91 : tw_fv E86 a0 16 = .ref xr75 := (hst86.1 a0 16 hm0 (by rw [hk0]; decide)).trans hmf85
              have hg0 : rd_ok E86 a0 := rd_ok_fr TH hst86 hm0 hk0 (by decide) (by decide) hg0
              have hg1 : eo_ok E86 a0 := eo_ok_fr TH hst86 hm0 hk0 (by decide) (by decide) hg1
              have hg2 : ht_ok E86 a0 := ht_ok_fr TH hst86 hm0 hk0 (by decide) (by decide) hg2
              have hg4 : ln_ok E86 a0 := ln_ok_fr TH hst86 hm0 hk0 (by decide) (by decide) hg4
              have hg5 : dl_ok E86 a0 := dl_ok_fr TH hst86 hm0 hk0 (by decide) (by decide) hg5
              have hh12 : h12_ok E86 a0 (fun c => if c = (x1.toInt).toNat then 0 else (rw_h E a0 12) c) := h12_ok_fr TH hst86 hm0 hk0 (by decide) (by decide) hh12
              have hp12 : p12_ok E86 a0 (rw_p E a0 12) := p12_ok_fr TH hst86 hm0 hk0 (by decide) (by decide) hp12
              refine W.eq (g2 := F0 m 111 ls []) rfl ?_
              refine lv_aload_n hx hb dX12_move_111 rfl (lv_at hl 2 rfl) ?_
              refine lv_iload_n hx hb dX12_move_112 rfl (lv_at hl 3 rfl) ?_
              refine lv_iload_n hx hb dX12_move_113 rfl (lv_at hl 4 rfl) ?_
              refine lv_iload_n hx hb dX12_move_114 rfl (lv_at hl 5 rfl) ?_
              refine tw_Vc (o := a0) (ci := 12) (n := 3) (post := (fun v kq Lq Eq => v = none ∧ kp = kq ∧ L = Lq ∧ tw_fr kp L [] [326, 328, 329] E86 Eq ∧ (∀ c : Nat, rw_h Eq a0 12 c = if c = (x1.toInt).toNat then 1 else rw_h E86 a0 12 c) ∧ (∀ c : Nat, rw_p Eq a0 12 c = if c = (x1.toInt).toNat then x2.toInt else rw_p E86 a0 12 c) ∧ (ot_ok Eq a0 12 E86) ∧ rw_ok Eq a0 (12) ∧ rd_ok Eq a0 ∧ eo_ok Eq a0 ∧ ht_ok Eq a0)) (As := [.int x1, .int x2, .int x3]) (rest := []) ⟨hx, hb, hml, hown, hB⟩ (fun sz => tX12_lays l D cs a0 x1 x2 x3 hm0 hk0 (by omega) (by omega) (by omega) (by omega) (by have e12 : ((12 : Int32).toInt) = 12 := (by decide); unfold lyw_ok; have fh : rw_h E86 a0 12 = _ := hh12; have fp : rw_p E86 a0 12 = rw_p E a0 12 := hp12; rw [fp]; have up := hpoxc20_0 (by omega) (by omega); rw [e12] at up; exact ly_move hrow.1.1 hrow.1.2.1 hrow.1.2.2 (by omega) (by omega) (hpoxc4_1 (by omega)) (by omega) (by omega) (hpoxc9_1 (by omega)) up (fun c => congrFun fh c)) hg0 hg1 hg2 sz) cg_12_439_X12_lays rfl rfl (by decide +kernel) ⟨Nat.le_of_ble_eq_true rfl, Nat.le_of_ble_eq_true rfl⟩ hK hN TH hS hA rfl hm0 hk0 (by decide) rfl hl.1 rfl (Nat.le_of_ble_eq_true rfl) dX12_move_115 ⟨Nat.le_of_ble_eq_true rfl, Nat.le_of_ble_eq_true rfl⟩ (fun v92 kp92 L92 E92 H locs hq92 hx92 TH hS => ?_)
              obtain ⟨rfl, rfl, rfl, hst92, hpoxc93_0, hpoxc93_1, hpoxc93_2, hgpxc93_0, hgpxc93_1, hgpxc93_2, hgpxc93_3⟩ := hq92
              have hF := hF.tr hst92 (fun _ h => ⟨h, rfl⟩) (by decide) (by decide)
              have hmf94 : tw_fv E92 a0 26 = .int xi1 := (hst92.1 a0 26 hm0 (by rw [hk0]; decide)).trans hmf88
              have hmf95 : tw_fv E92 a0 29 = .int xi2 := (hst92.1 a0 29 hm0 (by rw [hk0]; decide)).trans hmf89
              have hmf96 : tw_fv E92 a0 18 = .ref xr13 := (hst92.1 a0 18 hm0 (by rw [hk0]; decide)).trans hmf90
              have hmf97 : tw_fv E92 a0 16 = .ref xr75 := (hst92.1 a0 16 hm0 (by rw [hk0]; decide)).trans hmf91
              have hg4_o := hg4
              have hg5_o := hg5
              have hh12_o := hh12
              have hp12_o := hp12
              have hg4 : ln_ok E92 a0 := ln_ok_ot (r := 12) TH hst92 hm0 hk0 (by decide) (by decide) hpoxc93_2 (by have w := tw_fi_ed TH hm0 hk0; rw [tw_fi_fr hst92 hm0 hk0 (k := 27) (by decide)] at w; exact w) hg4_o
              have hg5 : dl_ok E92 a0 := dl_ok_12 TH hst92 hm0 hk0 (by decide) hpoxc93_2 (fun r hr z y => (by have fp : rw_p E86 a0 12 = rw_p E a0 12 := hp12_o; have hrn : r ≠ (x1.toInt).toNat := (fun w => (by rw [fp, w] at y; exact hpn y)); rw [hpoxc93_0 r, hpoxc93_1 r, if_neg hrn, if_neg hrn]; exact ⟨z, y⟩)) hg5_o
              have hgn98 : dr_ok E92 a0 := (fun _ => (by have fh : rw_h E86 a0 12 = _ := hh12; have fp : rw_p E86 a0 12 = rw_p E a0 12 := hp12; refine row_put (h := rw_h E a0 12) (p := rw_p E a0 12) (n := x1.toInt) (u := x2.toInt) (N := xi1.toInt) (by omega) (by omega) (by omega) ?_ (Or.inr ⟨hpoxc4_1 (by omega), hrow.2.2.1⟩) (fun c hc hx => (by have z := hrow.2.2.2 c hc hx; rw [tw_fi_of hn26] at z; omega)) (by omega) (tw_fi_of ((hst92.1 a0 26 hm0 (by rw [hk0]; decide)).trans hmf88)) (fun c => (by rw [hpoxc93_0 c, fh]; (by_cases hcn : c = (x1.toInt).toNat; (rw [if_pos hcn, if_pos hcn]); (rw [if_neg hcn, if_neg hcn]; exact if_neg hcn)))) (fun c => (hpoxc93_1 c).trans (by rw [fp])) hgpxc93_0; (obtain ⟨r, r0, r1, r2, r3⟩ := hrow.2.1; exact ⟨r, r0, r1, (fun z => hpn (by rw [← z]; exact r3)), r2, r3⟩)))
              refine W.eq (g2 := F0 m 118 ls []) rfl ?_
              refine lv_iconst (v := 1) hx hb dX12_move_118 (by decide) ?_
              exact tw_zret hx hb hr hlocks (by decide) TH hS hex ⟨⟨_, rfl, (show 0 ≤ Int32.toInt 1 from by have : ((1 : Int32).toInt) = 1 := (by decide); omega), (show Int32.toInt 1 ≤ 1 from by have : ((1 : Int32).toInt) = 1 := (by decide); omega), hgpxc93_1, hgpxc93_2, hgpxc93_3, hgn98, hg4, hg5⟩, rfl, rfl, hF⟩ (Nat.le_of_ble_eq_true rfl) (Nat.le_of_ble_eq_true rfl) dX12_move_119
            · have hf99 : xc70.toInt = 0 := by have z := (fa_eq _ _).mp hc71; have : ((0 : Int32).toInt) = 0 := (by decide); omega
              refine lv_iconst (v := 0) hx hb dX12_move_82 (by decide) ?_
              exact tw_zret hx hb hr hlocks (by decide) TH hS hex ⟨⟨_, rfl, (show 0 ≤ Int32.toInt 0 from by have : ((0 : Int32).toInt) = 0 := (by decide); omega), (show Int32.toInt 0 ≤ 1 from by have : ((0 : Int32).toInt) = 0 := (by decide); omega), hg0, hg1, hg2, hg3, hg4, hg5⟩, rfl, rfl, hF⟩ (Nat.le_of_ble_eq_true rfl) (Nat.le_of_ble_eq_true rfl) dX12_move_83
        · have hf100 : ¬ (xc20.toInt = 0) := fun q => hc21 ((fa_eq _ _).mpr (by have : ((0 : Int32).toInt) = 0 := (by decide); omega))
          refine lv_iconst (v := 0) hx hb dX12_move_40 (by decide) ?_
          exact tw_zret hx hb hr hlocks (by decide) TH hS hex ⟨⟨_, rfl, (show 0 ≤ Int32.toInt 0 from by have : ((0 : Int32).toInt) = 0 := (by decide); omega), (show Int32.toInt 0 ≤ 1 from by have : ((0 : Int32).toInt) = 0 := (by decide); omega), hg0, hg1, hg2, hg3, hg4, hg5⟩, rfl, rfl, hF⟩ (Nat.le_of_ble_eq_true rfl) (Nat.le_of_ble_eq_true rfl) dX12_move_41
set_option maxHeartbeats 4000000 in
set_option maxRecDepth 100000 in
theorem tX12_stacks (l : Launch) (D : va_G) (cs : Nat → ClassId) {kp : Nat → Nat} {L : List Nat} {E : Nat → va_E} (a0 : Nat) (x1 : Int32) (x2 : Int32) (x3 : Int32) (hm0 : a0 ∈ L) (hk0 : kp a0 = 12) (hp1a : 0 ≤ x1.toInt) (hp1b : x1.toInt ≤ 15) (hp2a : 0 ≤ x2.toInt) (hp2b : x2.toInt ≤ 15) (hp3a : 0 ≤ x3.toInt) (hp3b : x3.toInt ≤ 15) (hpre0 : x1.toInt ≠ 13) (hpre1 : x2.toInt ≠ 13) (hpre2 : x3.toInt ≠ 13) (hpre3 : fq_ok E a0 x1.toInt x2.toInt x3.toInt 4 0) (hg0 : row_ok E a0 (x1.toInt)) (hg1 : row_ok E a0 (x2.toInt)) (hg2 : rd_ok E a0) (sz : Nat) : Met l yX12_stacks (.code yX12_stacks cX12_stacks 6 none :: cx_big) { frames := 3, cells := 0, slots := 0, locals := 73 } (tw_P D cs kp L E [.ref a0, .int x1, .int x2, .int x3] sz) (tw_Q D cs kp L (fun v kq Lq Eq => v = none ∧ kp = kq ∧ L = Lq ∧ tw_fr kp L [] [326, 327, 328] E Eq ∧ (t1_ok Eq a0 13) ∧ (sx_ok Eq a0 E x1.toInt x2.toInt 150) ∧ (ot_ok Eq a0 13 E) ∧ rd_ok Eq a0) (va_A (va_pl L E) sz)) 0 0 (va_A (va_pl L E) sz) := by
  refine tw_ofW (by decide) (Nat.le_of_ble_eq_true rfl) ?_
  intro p e s m below meth c A ls hx hb hr hml hB hown hlocks hK hN hA TH hS hl
  have hown : s.vm.findClass "TreeMergeModel" = some m.cls := hown
  have hl : lv_has ls 6 [(0, .ref a0), (1, .int x1), (2, .int x2), (3, .int x3)] := hl
  obtain ⟨kp0, ekp⟩ : ∃ z, z = kp := ⟨_, rfl⟩
  obtain ⟨L0, eL⟩ : ∃ z, z = L := ⟨_, rfl⟩
  rw [show tw_Q D cs kp L = tw_Q D cs kp0 L0 by rw [ekp, eL]]
  have hex : ∀ a : Nat, a ∈ L0 → a ∈ L ∧ kp a = kp0 a := fun a h => ⟨by rw [← eL]; exact h, by rw [ekp]⟩
  have hF : tw_fr kp L [] [326, 327, 328] E E := tw_fr.rf
  have hot : ot_ok E a0 13 E := ot_ok_rf
  have hww : ww_ok E a0 E (0) := ww_ok_rf
  have hsx : sx_ok E a0 E (x1.toInt) (x2.toInt) (0) := sx_zero rfl
  have hra := hg0
  have hrb := hg1
  refine lv_iconst (v := 0) hx hb dX12_stacks_0 (by decide) ?_
  refine lv_istore (lv' := [(4, .int 0), (0, .ref a0), (1, .int x1), (2, .int x2), (3, .int x3)]) hx hb dX12_stacks_1 hl (by decide) rfl (fun ls hl => ?_)
  have hJ3 : ∀ (n3 : Nat) (y3_4 : Int32) (Eg3 : Nat → va_E) (H : Heap) (locs : List Loc) (ls : Array Slot), 0 ≤ y3_4.toInt → y3_4.toInt ≤ 150 → 150 - y3_4.toInt ≤ (n3 : Int) → tw_fr kp L [] [326, 327, 328] E Eg3 → rd_ok Eg3 a0 → ot_ok Eg3 a0 (13) E → ww_ok Eg3 a0 E (y3_4.toInt) → sx_ok Eg3 a0 E (x1.toInt) (x2.toInt) (y3_4.toInt) → tw_H D cs kp L Eg3 A H → va_S A s.heap H locs → lv_has ls 6 [(4, .int y3_4), (0, .ref a0), (1, .int x1), (2, .int x2), (3, .int x3)] → W p l e { frames := 3, cells := 0, slots := 0, locals := 73 } s m [.ref a0, .int x1, .int x2, .int x3].toArray below meth c H locs 0 0 (MQ below (tw_Q D cs kp0 L0 (fun v kq Lq Eq => v = none ∧ kp = kq ∧ L = Lq ∧ tw_fr kp L [] [326, 327, 328] E Eq ∧ (t1_ok Eq a0 13) ∧ (sx_ok Eq a0 E x1.toInt x2.toInt 150) ∧ (ot_ok Eq a0 13 E) ∧ rd_ok Eq a0) A) [.ref a0, .int x1, .int x2, .int x3].toArray s 0 0 A) (F0 m 3 ls []) := by
    intro n3
    induction n3 using Nat.strongRecOn with
    | _ n3 ih3 =>
      intro y3_4 Eg3 H locs ls hy3_4a hy3_4b hmeas3 hG3 hcg3_0 hcg3_1 hcg3_2 hcg3_3 TH hS hl
      have hF := hF.tr hG3 (fun _ h => ⟨h, rfl⟩) (by decide) (by decide)
      refine lv_iload hx hb dX12_stacks_3 (lv_at hl 0 rfl) ?_
      refine lv_sipush (v := 150) hx hb dX12_stacks_5 (by decide) ?_
      refine lv_icmp_ge (tgt := 125) hx hb dX12_stacks_8 (by decide) (fun hc1 => ?_) (fun hc1 => ?_)
      · have hf2 : 150 ≤ y3_4.toInt := by have z := (fa_le _ _).mp hc1; have : ((150 : Int32).toInt) = 150 := (by decide); omega
        refine lv_iconst (v := 1) hx hb dX12_stacks_125 (by decide) ?_
        refine lv_istore (lv' := [(4, .int 1), (0, .ref a0), (1, .int x1), (2, .int x2), (3, .int x3)]) hx hb dX12_stacks_126 hl (by decide) rfl (fun ls hl => ?_)
        have hJ128 : ∀ (n128 : Nat) (y128_4 : Int32) (Eg128 : Nat → va_E) (H : Heap) (locs : List Loc) (ls : Array Slot), 0 ≤ y128_4.toInt → y128_4.toInt ≤ 1 → (y128_4.toInt = 0 → t1_ok Eg128 a0 13) → (rt_size (rw_h Eg128 a0 13) : Int) + y128_4.toInt ≤ (n128 : Int) → tw_fr kp L [] [326] Eg3 Eg128 → rd_ok Eg128 a0 → ot_ok Eg128 a0 (13) E → sx_ok Eg128 a0 E (x1.toInt) (x2.toInt) (150) → tw_H D cs kp L Eg128 A H → va_S A s.heap H locs → lv_has ls 6 [(4, .int y128_4), (0, .ref a0)] → W p l e { frames := 3, cells := 0, slots := 0, locals := 73 } s m [.ref a0, .int x1, .int x2, .int x3].toArray below meth c H locs 0 0 (MQ below (tw_Q D cs kp0 L0 (fun v kq Lq Eq => v = none ∧ kp = kq ∧ L = Lq ∧ tw_fr kp L [] [326, 327, 328] E Eq ∧ (t1_ok Eq a0 13) ∧ (sx_ok Eq a0 E x1.toInt x2.toInt 150) ∧ (ot_ok Eq a0 13 E) ∧ rd_ok Eq a0) A) [.ref a0, .int x1, .int x2, .int x3].toArray s 0 0 A) (F0 m 128 ls []) := by
          intro n128
          induction n128 using Nat.strongRecOn with
          | _ n128 ih128 =>
            intro y128_4 Eg128 H locs ls hy128_4a hy128_4b hin128_0 hmeas128 hG128 hcg128_0 hcg128_1 hcg128_2 TH hS hl
            have hF := hF.tr hG128 (fun _ h => ⟨h, rfl⟩) (by decide) (by decide)
            have hG3 := hG3.tr hG128 (fun _ h => ⟨h, rfl⟩) (by decide) (by decide)
            refine lv_iload hx hb dX12_stacks_128 (lv_at hl 0 rfl) ?_
            refine lv_if_eq (tgt := 221) hx hb dX12_stacks_130 (by decide) (fun hc3 => ?_) (fun hc3 => ?_)
            · have hf4 : y128_4.toInt = 0 := by have z := (fa_eq _ _).mp hc3; have : ((0 : Int32).toInt) = 0 := (by decide); omega
              exact tw_vret hx hb hr hlocks TH hS hex ⟨rfl, rfl, rfl, hF, (by  exact hin128_0 (by omega)), (by  exact hcg128_2), (by  exact hcg128_1), hcg128_0⟩ (Nat.le_of_ble_eq_true rfl) (Nat.le_of_ble_eq_true rfl) dX12_stacks_221
            · have hf5 : ¬ (y128_4.toInt = 0) := fun q => hc3 ((fa_eq _ _).mpr (by have : ((0 : Int32).toInt) = 0 := (by decide); omega))
              refine lv_iconst (v := 0) hx hb dX12_stacks_133 (by decide) ?_
              refine lv_istore (lv' := [(4, .int 0), (0, .ref a0)]) hx hb dX12_stacks_134 hl (by decide) rfl (fun ls hl => ?_)
              refine lv_iconst (v := 0) hx hb dX12_stacks_136 (by decide) ?_
              refine lv_istore (lv' := [(5, .int 0), (4, .int 0), (0, .ref a0)]) hx hb dX12_stacks_137 hl (by decide) rfl (fun ls hl => ?_)
              have hJ139 : ∀ (n139 : Nat) (y139_5 : Int32) (y139_4 : Int32) (Eg139 : Nat → va_E) (H : Heap) (locs : List Loc) (ls : Array Slot), 0 ≤ y139_5.toInt → y139_5.toInt ≤ 150 → 0 ≤ y139_4.toInt → y139_4.toInt ≤ 1 → (y139_4.toInt = 0 → tk_ok Eg139 a0 (y139_5.toInt)) → ((rt_size (rw_h Eg139 a0 13) : Int) + y139_4.toInt + 1 ≤ (n128 : Int)) → 150 - y139_5.toInt ≤ (n139 : Int) → tw_fr kp L [] [326] Eg128 Eg139 → rd_ok Eg139 a0 → ot_ok Eg139 a0 (13) E → sx_ok Eg139 a0 E (x1.toInt) (x2.toInt) (150) → tw_H D cs kp L Eg139 A H → va_S A s.heap H locs → lv_has ls 6 [(5, .int y139_5), (4, .int y139_4), (0, .ref a0)] → W p l e { frames := 3, cells := 0, slots := 0, locals := 73 } s m [.ref a0, .int x1, .int x2, .int x3].toArray below meth c H locs 0 0 (MQ below (tw_Q D cs kp0 L0 (fun v kq Lq Eq => v = none ∧ kp = kq ∧ L = Lq ∧ tw_fr kp L [] [326, 327, 328] E Eq ∧ (t1_ok Eq a0 13) ∧ (sx_ok Eq a0 E x1.toInt x2.toInt 150) ∧ (ot_ok Eq a0 13 E) ∧ rd_ok Eq a0) A) [.ref a0, .int x1, .int x2, .int x3].toArray s 0 0 A) (F0 m 139 ls []) := by
                intro n139
                induction n139 using Nat.strongRecOn with
                | _ n139 ih139 =>
                  intro y139_5 y139_4 Eg139 H locs ls hy139_5a hy139_5b hy139_4a hy139_4b hin139_0 hin139_1 hmeas139 hG139 hcg139_0 hcg139_1 hcg139_2 TH hS hl
                  have hF := hF.tr hG139 (fun _ h => ⟨h, rfl⟩) (by decide) (by decide)
                  have hG3 := hG3.tr hG139 (fun _ h => ⟨h, rfl⟩) (by decide) (by decide)
                  have hG128 := hG128.tr hG139 (fun _ h => ⟨h, rfl⟩) (by decide) (by decide)
                  refine lv_iload hx hb dX12_stacks_139 (lv_at hl 0 rfl) ?_
                  refine lv_sipush (v := 150) hx hb dX12_stacks_141 (by decide) ?_
                  refine lv_icmp_ge (tgt := 218) hx hb dX12_stacks_144 (by decide) (fun hc6 => ?_) (fun hc6 => ?_)
                  · have hf7 : 150 ≤ y139_5.toInt := by have z := (fa_le _ _).mp hc6; have : ((150 : Int32).toInt) = 150 := (by decide); omega
                    refine lv_goto (tgt := 128) hx hb dX12_stacks_218 (by decide) ?_
                    exact ih128 (n128 - 1) (by   omega) y139_4 _ _ _ ls (by omega) (by omega) (by  intro q; exact tk_done (hin139_0 q) (by omega)) (by   omega) hG128 hcg139_0 hcg139_1 hcg139_2 TH hS (lv_sub hl [1, 2] rfl)
                  · have hf8 : ¬ (150 ≤ y139_5.toInt) := fun q => hc6 ((fa_le _ _).mpr (by have : ((150 : Int32).toInt) = 150 := (by decide); omega))
                    refine lv_aload_n hx hb dX12_stacks_147 rfl (lv_at hl 2 rfl) ?_
                    refine tw_get (ci := 12) (C := RX12) (T := TX12) (N := 64) hx hb hB cx_inX12 hown hK TH hm0 hk0 rfl ⟨by decide, rfl⟩ 16 (by decide) cw_1209 (fun _ h9 => h9) dX12_stacks_148 (fun hv => ?_)
                    obtain ⟨xr9, hxr9, hmxr9, hkxr9⟩ : ∃ a : Nat, tw_fv Eg139 a0 16 = .ref a ∧ a ∈ L ∧ kp a = 316 := hv
                    rw [hxr9]
                    refine lv_bipush (v := 13) hx hb dX12_stacks_151 (by decide) ?_
                    refine tw_aald (k := 316) (t0 := 5) (n := 16) (lo := 326) (hi := 0) (ty := .boolean) hx hb hK TH hmxr9 hkxr9 (by decide) rfl rfl (i := 13) (vp_in_iff.mpr ⟨by have : ((13 : Int32).toInt) = 13 := (by decide); omega, by have : ((13 : Int32).toInt) = 13 := (by decide); omega⟩) dX12_stacks_153 (fun xr10 exr10 hmxr10 hkxr10 => ?_)
                    have hkxr10 : kp xr10 = 326 := hkxr10
                    refine lv_iload hx hb dX12_stacks_154 (lv_at hl 0 rfl) ?_
                    refine tw_zald (k := 326) (t0 := 3) (n := 150) (lo := 0) (hi := 1) hx hb hK TH hmxr10 hkxr10 (by decide) rfl rfl (i := y139_5) (vp_in_iff.mpr ⟨by  omega, by  omega⟩) dX12_stacks_156 (fun hxe11a hxe11b => ?_)
                    obtain ⟨xe11, exe11⟩ : ∃ z : Int32, tw_iv Eg139 xr10 (Int32.toNatClampNeg y139_5) = z := ⟨_, rfl⟩
                    rw [exe11] at hxe11a hxe11b ⊢
                    have hJ212 : ∀ (y212_4 : Int32) (Eg212 : Nat → va_E) (H : Heap) (locs : List Loc) (ls : Array Slot), 0 ≤ y212_4.toInt → y212_4.toInt ≤ 1 → (y212_4.toInt = 0 → tk_ok Eg212 a0 (y139_5.toInt + 1)) → ((rt_size (rw_h Eg212 a0 13) : Int) + y212_4.toInt + 1 ≤ (n128 : Int)) → tw_fr kp L [] [326] Eg139 Eg212 → rd_ok Eg212 a0 → ot_ok Eg212 a0 (13) E → sx_ok Eg212 a0 E (x1.toInt) (x2.toInt) (150) → tw_H D cs kp L Eg212 A H → va_S A s.heap H locs → lv_has ls 6 [(5, .int y139_5), (4, .int y212_4), (0, .ref a0)] → W p l e { frames := 3, cells := 0, slots := 0, locals := 73 } s m [.ref a0, .int x1, .int x2, .int x3].toArray below meth c H locs 0 0 (MQ below (tw_Q D cs kp0 L0 (fun v kq Lq Eq => v = none ∧ kp = kq ∧ L = Lq ∧ tw_fr kp L [] [326, 327, 328] E Eq ∧ (t1_ok Eq a0 13) ∧ (sx_ok Eq a0 E x1.toInt x2.toInt 150) ∧ (ot_ok Eq a0 13 E) ∧ rd_ok Eq a0) A) [.ref a0, .int x1, .int x2, .int x3].toArray s 0 0 A) (F0 m 212 ls []) := by
                      intro y212_4 Eg212 H locs ls hy212_4a hy212_4b hin212_0 hin212_1 hG212 hcg212_0 hcg212_1 hcg212_2 TH hS hl
                      have hF := hF.tr hG212 (fun _ h => ⟨h, rfl⟩) (by decide) (by decide)
                      have hG3 := hG3.tr hG212 (fun _ h => ⟨h, rfl⟩) (by decide) (by decide)
                      have hG128 := hG128.tr hG212 (fun _ h => ⟨h, rfl⟩) (by decide) (by decide)
                      have hG139 := hG139.tr hG212 (fun _ h => ⟨h, rfl⟩) (by decide) (by decide)
                      have hmf12 : tw_fv Eg212 a0 16 = .ref xr9 := (hG212.1 a0 16 hm0 (by rw [hk0]; decide)).trans hxr9
                      obtain ⟨zi13, ezi13⟩ : ∃ z : Int32, z = y139_5 + Int32.ofInt 1 := ⟨_, rfl⟩
                      have hzi13 : zi13.toInt = y139_5.toInt + 1 := by rw [ezi13]; have : ((Int32.ofInt 1).toInt) = 1 := (by decide);  exact (ia_add (by omega) (by omega)).trans (by omega)
                      refine lv_iinc (v := zi13) (lv' := [(5, .int zi13), (4, .int y212_4), (0, .ref a0)]) hx hb dX12_stacks_212 hl (k := 0) rfl ezi13.symm (by decide) rfl (fun ls hl => ?_)
                      refine lv_goto (tgt := 139) hx hb dX12_stacks_215 (by decide) ?_
                      exact ih139 (n139 - 1) (by   omega) zi13 y212_4 _ _ _ ls (by omega) (by omega) (by omega) (by omega) (by  intro q; rw [show (zi13.toInt) = y139_5.toInt + 1 by omega]; exact hin212_0 q) (by  omega) (by   omega) hG139 hcg212_0 hcg212_1 hcg212_2 TH hS (lv_sub hl [0, 1, 2] rfl)
                    have hG212 : tw_fr kp L [] [326] Eg139 Eg139 := tw_fr.rf
                    refine lv_if_eq (tgt := 212) hx hb dX12_stacks_157 (by decide) (fun hc14 => ?_) (fun hc14 => ?_)
                    · have hf15 : xe11.toInt = 0 := by have z := (fa_eq _ _).mp hc14; have : ((0 : Int32).toInt) = 0 := (by decide); omega
                      exact hJ212 y139_4 _ _ _ ls (by omega) (by omega) (by  intro q; have rf_xe11 : rw_h Eg139 a0 (13) (y139_5.toInt).toNat = xe11.toInt := (by have q := rw_h_of (m := a0) (i := (13 : Int32)) (c := y139_5) hxr9 exr10 exe11; rw [show ((13 : Int32).toInt) = 13 from (by decide)] at q; exact q); refine tk_step (hin139_0 q) rfl (fun hz => ?_); exact absurd (rf_xe11.trans (by omega)) hz) (by  omega) hG212 hcg139_0 hcg139_1 hcg139_2 TH hS (lv_sub hl [0, 1, 2] rfl)
                    · have hf16 : ¬ (xe11.toInt = 0) := fun q => hc14 ((fa_eq _ _).mpr (by have : ((0 : Int32).toInt) = 0 := (by decide); omega))
                      refine lv_aload_n hx hb dX12_stacks_160 rfl (lv_at hl 2 rfl) ?_
                      refine tw_get (ci := 12) (C := RX12) (T := TX12) (N := 64) hx hb hB cx_inX12 hown hK TH hm0 hk0 rfl ⟨by decide, rfl⟩ 18 (by decide) cw_1211 (fun _ h9 => h9) dX12_stacks_161 (fun hv => ?_)
                      obtain ⟨xr17, hxr17, hmxr17, hkxr17⟩ : ∃ a : Nat, tw_fv Eg139 a0 18 = .ref a ∧ a ∈ L ∧ kp a = 318 := hv
                      rw [hxr17]
                      refine lv_bipush (v := 13) hx hb dX12_stacks_164 (by decide) ?_
                      refine tw_aald (k := 318) (t0 := 4) (n := 16) (lo := 328) (hi := 0) (ty := .int) hx hb hK TH hmxr17 hkxr17 (by decide) rfl rfl (i := 13) (vp_in_iff.mpr ⟨by have : ((13 : Int32).toInt) = 13 := (by decide); omega, by have : ((13 : Int32).toInt) = 13 := (by decide); omega⟩) dX12_stacks_166 (fun xr18 exr18 hmxr18 hkxr18 => ?_)
                      have hkxr18 : kp xr18 = 328 := hkxr18
                      refine lv_iload hx hb dX12_stacks_167 (lv_at hl 0 rfl) ?_
                      refine tw_iald (k := 328) (t0 := 0) (n := 150) (lo := (-1)) (hi := 149) hx hb hK TH hmxr18 hkxr18 (by decide) rfl rfl (i := y139_5) (vp_in_iff.mpr ⟨by  omega, by  omega⟩) dX12_stacks_169 (fun hxe19a hxe19b => ?_)
                      obtain ⟨xe19, exe19⟩ : ∃ z : Int32, tw_iv Eg139 xr18 (Int32.toNatClampNeg y139_5) = z := ⟨_, rfl⟩
                      rw [exe19] at hxe19a hxe19b ⊢
                      refine lv_iconst (v := (-1)) hx hb dX12_stacks_170 (by decide) ?_
                      refine lv_icmp_eq (tgt := 212) hx hb dX12_stacks_171 (by decide) (fun hc20 => ?_) (fun hc20 => ?_)
                      · have hf21 : xe19.toInt = (-1) := by have z := (fa_eq _ _).mp hc20; have : (((-1) : Int32).toInt) = (-1) := (by decide); omega
                        exact hJ212 y139_4 _ _ _ ls (by omega) (by omega) (by  intro q; have rf_xe11 : rw_h Eg139 a0 (13) (y139_5.toInt).toNat = xe11.toInt := (by have q := rw_h_of (m := a0) (i := (13 : Int32)) (c := y139_5) hxr9 exr10 exe11; rw [show ((13 : Int32).toInt) = 13 from (by decide)] at q; exact q); have rf_xe19 : rw_p Eg139 a0 (13) (y139_5.toInt).toNat = xe19.toInt := (by have q := rw_p_of (m := a0) (i := (13 : Int32)) (c := y139_5) hxr17 exr18 exe19; rw [show ((13 : Int32).toInt) = 13 from (by decide)] at q; exact q); refine tk_step (hin139_0 q) rfl (fun hz => ?_); refine Or.inl ?_; rw [rf_xe19]; omega) (by  omega) hG212 hcg139_0 hcg139_1 hcg139_2 TH hS (lv_sub hl [0, 1, 2] rfl)
                      · have hf22 : ¬ (xe19.toInt = (-1)) := fun q => hc20 ((fa_eq _ _).mpr (by have : (((-1) : Int32).toInt) = (-1) := (by decide); omega))
                        refine lv_aload_n hx hb dX12_stacks_174 rfl (lv_at hl 2 rfl) ?_
                        refine tw_get (ci := 12) (C := RX12) (T := TX12) (N := 64) hx hb hB cx_inX12 hown hK TH hm0 hk0 rfl ⟨by decide, rfl⟩ 16 (by decide) cw_1209 (fun _ h9 => h9) dX12_stacks_175 (fun hv => ?_)
                        rw [hxr9]
                        refine lv_bipush (v := 13) hx hb dX12_stacks_178 (by decide) ?_
                        refine tw_aald (k := 316) (t0 := 5) (n := 16) (lo := 326) (hi := 0) (ty := .boolean) hx hb hK TH hmxr9 hkxr9 (by decide) rfl rfl (i := 13) (vp_in_iff.mpr ⟨by have : ((13 : Int32).toInt) = 13 := (by decide); omega, by have : ((13 : Int32).toInt) = 13 := (by decide); omega⟩) dX12_stacks_180 (fun xr23 exr23 hmxr23 hkxr23 => ?_)
                        have ezxr23 : xr10 = xr23 := exr10.symm.trans exr23
                        subst ezxr23
                        refine lv_aload_n hx hb dX12_stacks_181 rfl (lv_at hl 2 rfl) ?_
                        refine tw_get (ci := 12) (C := RX12) (T := TX12) (N := 64) hx hb hB cx_inX12 hown hK TH hm0 hk0 rfl ⟨by decide, rfl⟩ 18 (by decide) cw_1211 (fun _ h9 => h9) dX12_stacks_182 (fun hv => ?_)
                        rw [hxr17]
                        refine lv_bipush (v := 13) hx hb dX12_stacks_185 (by decide) ?_
                        refine tw_aald (k := 318) (t0 := 4) (n := 16) (lo := 328) (hi := 0) (ty := .int) hx hb hK TH hmxr17 hkxr17 (by decide) rfl rfl (i := 13) (vp_in_iff.mpr ⟨by have : ((13 : Int32).toInt) = 13 := (by decide); omega, by have : ((13 : Int32).toInt) = 13 := (by decide); omega⟩) dX12_stacks_187 (fun xr24 exr24 hmxr24 hkxr24 => ?_)
                        have ezxr24 : xr18 = xr24 := exr18.symm.trans exr24
                        subst ezxr24
                        refine lv_iload hx hb dX12_stacks_188 (lv_at hl 0 rfl) ?_
                        refine tw_iald (k := 328) (t0 := 0) (n := 150) (lo := (-1)) (hi := 149) hx hb hK TH hmxr18 hkxr18 (by decide) rfl rfl (i := y139_5) (vp_in_iff.mpr ⟨by  omega, by  omega⟩) dX12_stacks_190 (fun hxe25a hxe25b => ?_)
                        rw [exe19]
                        refine tw_zald (k := 326) (t0 := 3) (n := 150) (lo := 0) (hi := 1) hx hb hK TH hmxr10 hkxr10 (by decide) rfl rfl (i := xe19) (vp_in_iff.mpr ⟨by  omega, by  omega⟩) dX12_stacks_191 (fun hxe26a hxe26b => ?_)
                        obtain ⟨xe26, exe26⟩ : ∃ z : Int32, tw_iv Eg139 xr10 (Int32.toNatClampNeg xe19) = z := ⟨_, rfl⟩
                        rw [exe26] at hxe26a hxe26b ⊢
                        refine lv_if_eq (tgt := 198) hx hb dX12_stacks_192 (by decide) (fun hc27 => ?_) (fun hc27 => ?_)
                        · have hf28 : xe26.toInt = 0 := by have z := (fa_eq _ _).mp hc27; have : ((0 : Int32).toInt) = 0 := (by decide); omega
                          refine lv_aload_n hx hb dX12_stacks_198 rfl (lv_at hl 2 rfl) ?_
                          refine tw_get (ci := 12) (C := RX12) (T := TX12) (N := 64) hx hb hB cx_inX12 hown hK TH hm0 hk0 rfl ⟨by decide, rfl⟩ 16 (by decide) cw_1209 (fun _ h9 => h9) dX12_stacks_199 (fun hv => ?_)
                          rw [hxr9]
                          refine lv_bipush (v := 13) hx hb dX12_stacks_202 (by decide) ?_
                          refine tw_aald (k := 316) (t0 := 5) (n := 16) (lo := 326) (hi := 0) (ty := .boolean) hx hb hK TH hmxr9 hkxr9 (by decide) rfl rfl (i := 13) (vp_in_iff.mpr ⟨by have : ((13 : Int32).toInt) = 13 := (by decide); omega, by have : ((13 : Int32).toInt) = 13 := (by decide); omega⟩) dX12_stacks_204 (fun xr29 exr29 hmxr29 hkxr29 => ?_)
                          have ezxr29 : xr10 = xr29 := exr10.symm.trans exr29
                          subst ezxr29
                          refine lv_iload hx hb dX12_stacks_205 (lv_at hl 0 rfl) ?_
                          refine lv_iconst (v := 0) hx hb dX12_stacks_207 (by decide) ?_
                          refine tw_zast (k := 326) (n := 150) (lo := 0) (hi := 1) hx hb hK TH hS hmxr10 hkxr10 (by decide) rfl (i := y139_5) (x := 0) (vp_in_iff.mpr ⟨by  omega, by  omega⟩) (by have : ((0 : Int32).toInt) = 0 := (by decide); omega) (by have : ((0 : Int32).toInt) = 0 := (by decide); omega) (by have : ((0 : Int32).toInt) = 0 := (by decide); omega) (by have : ((0 : Int32).toInt) = 0 := (by decide); omega) dX12_stacks_208 (fun H locs E30 TH hS hp31 hp32 hp33 => ?_)
                          have hst34 : tw_fr kp L [] [326] Eg139 E30 := tw_fr.ast tw_fr.rf (fun _ => hkxr10) hp31 hp32 (by decide)
                          have hF := hF.tr hst34 (fun _ h => ⟨h, rfl⟩) (by decide) (by decide)
                          have hG3 := hG3.tr hst34 (fun _ h => ⟨h, rfl⟩) (by decide) (by decide)
                          have hG128 := hG128.tr hst34 (fun _ h => ⟨h, rfl⟩) (by decide) (by decide)
                          have hG139 := hG139.tr hst34 (fun _ h => ⟨h, rfl⟩) (by decide) (by decide)
                          have hG212 := hG212.tr hst34 (fun _ h => ⟨h, rfl⟩) (by decide) (by decide)
                          have hmf35 : tw_fv E30 a0 16 = .ref xr9 := (hst34.1 a0 16 hm0 (by rw [hk0]; decide)).trans hxr9
                          have hmf36 : tw_fv E30 a0 18 = .ref xr17 := (hst34.1 a0 18 hm0 (by rw [hk0]; decide)).trans hxr17
                          have hcg139_0_o := hcg139_0
                          have hcg139_1_o := hcg139_1
                          have hcg139_2_o := hcg139_2
                          have hcg139_0 : rd_ok E30 a0 := rd_ok_fr TH hst34 hm0 hk0 (by decide) (by decide) hcg139_0
                          have hcg139_1 : ot_ok E30 a0 (13) E := (by have e13 : ((13 : Int32).toInt) = 13 := (by decide); have q := ot_ok_h (i := 13) TH hm0 hk0 hcg139_0_o hxr9 exr10 hkxr9 hkxr10 hp31 hp32 (by omega) (by omega) (show ot_ok _ _ _ _ from (by rw [e13]; exact hcg139_1_o)); rw [e13] at q; exact q)
                          have hcg139_2 : sx_ok E30 a0 E (x1.toInt) (x2.toInt) (150) := (by have e13 : ((13 : Int32).toInt) = 13 := (by decide); have e0 : ((0 : Int32).toInt) = 0 := (by decide); have rf_xe11 : rw_h Eg139 a0 (13) (y139_5.toInt).toNat = xe11.toInt := (by have q := rw_h_of (m := a0) (i := (13 : Int32)) (c := y139_5) hxr9 exr10 exe11; rw [show ((13 : Int32).toInt) = 13 from (by decide)] at q; exact q); have rf_xe19 : rw_p Eg139 a0 (13) (y139_5.toInt).toNat = xe19.toInt := (by have q := rw_p_of (m := a0) (i := (13 : Int32)) (c := y139_5) hxr17 exr18 exe19; rw [show ((13 : Int32).toInt) = 13 from (by decide)] at q; exact q); have rf_xe26 : rw_h Eg139 a0 (13) (xe19.toInt).toNat = xe26.toInt := (by have q := rw_h_of (m := a0) (i := (13 : Int32)) (c := xe19) hxr9 exr10 exe26; rw [show ((13 : Int32).toInt) = 13 from (by decide)] at q; exact q); have q := rw_h_st (m := a0) (i := 13) (c := y139_5) hxr9 exr10 hkxr9 hkxr10 hp31 hp32 hp33; rw [e13, e0] at q; exact sx_rem hcg139_2_o q (rw_p_hst TH hm0 hk0 hkxr10 hp31 hp32 (i := 13) (by decide)) (by rw [rf_xe19]; omega))
                          refine lv_iconst (v := 1) hx hb dX12_stacks_209 (by decide) ?_
                          refine lv_istore (lv' := [(4, .int 1), (5, .int y139_5), (0, .ref a0)]) hx hb dX12_stacks_210 hl (by decide) rfl (fun ls hl => ?_)
                          exact hJ212 (1 : Int32) _ _ _ ls (by have : ((1 : Int32).toInt) = 1 := (by decide); omega) (by have : ((1 : Int32).toInt) = 1 := (by decide); omega) (by have : ((1 : Int32).toInt) = 1 := (by decide); intro q; exact absurd q (by decide)) (by have : ((1 : Int32).toInt) = 1 := (by decide); have e13 : ((13 : Int32).toInt) = 13 := (by decide); have e0 : ((0 : Int32).toInt) = 0 := (by decide); have rf_xe11 : rw_h Eg139 a0 (13) (y139_5.toInt).toNat = xe11.toInt := (by have q := rw_h_of (m := a0) (i := (13 : Int32)) (c := y139_5) hxr9 exr10 exe11; rw [show ((13 : Int32).toInt) = 13 from (by decide)] at q; exact q); have rf_xe19 : rw_p Eg139 a0 (13) (y139_5.toInt).toNat = xe19.toInt := (by have q := rw_p_of (m := a0) (i := (13 : Int32)) (c := y139_5) hxr17 exr18 exe19; rw [show ((13 : Int32).toInt) = 13 from (by decide)] at q; exact q); have rf_xe26 : rw_h Eg139 a0 (13) (xe19.toInt).toNat = xe26.toInt := (by have q := rw_h_of (m := a0) (i := (13 : Int32)) (c := xe19) hxr9 exr10 exe26; rw [show ((13 : Int32).toInt) = 13 from (by decide)] at q; exact q); have q := rw_h_st (m := a0) (i := 13) (c := y139_5) hxr9 exr10 hkxr9 hkxr10 hp31 hp32 hp33; rw [e13, e0] at q; have rm := rt_size_rem q (by omega) (by omega) (by rw [rf_xe11]; omega); omega) hG212 hcg139_0 hcg139_1 hcg139_2 TH hS (lv_sub hl [1, 0, 2] rfl)
                        · have hf37 : ¬ (xe26.toInt = 0) := fun q => hc27 ((fa_eq _ _).mpr (by have : ((0 : Int32).toInt) = 0 := (by decide); omega))
                          refine lv_goto (tgt := 212) hx hb dX12_stacks_195 (by decide) ?_
                          exact hJ212 y139_4 _ _ _ ls (by omega) (by omega) (by  intro q; have rf_xe11 : rw_h Eg139 a0 (13) (y139_5.toInt).toNat = xe11.toInt := (by have q := rw_h_of (m := a0) (i := (13 : Int32)) (c := y139_5) hxr9 exr10 exe11; rw [show ((13 : Int32).toInt) = 13 from (by decide)] at q; exact q); have rf_xe19 : rw_p Eg139 a0 (13) (y139_5.toInt).toNat = xe19.toInt := (by have q := rw_p_of (m := a0) (i := (13 : Int32)) (c := y139_5) hxr17 exr18 exe19; rw [show ((13 : Int32).toInt) = 13 from (by decide)] at q; exact q); have rf_xe26 : rw_h Eg139 a0 (13) (xe19.toInt).toNat = xe26.toInt := (by have q := rw_h_of (m := a0) (i := (13 : Int32)) (c := xe19) hxr9 exr10 exe26; rw [show ((13 : Int32).toInt) = 13 from (by decide)] at q; exact q); refine tk_step (hin139_0 q) rfl (fun hz => ?_); refine Or.inr ?_; rw [rf_xe19]; refine ⟨by omega, by omega, ?_⟩; rw [rf_xe26]; omega) (by  omega) hG212 hcg139_0 hcg139_1 hcg139_2 TH hS (lv_sub hl [0, 1, 2] rfl)
              exact hJ139 151 (0 : Int32) (0 : Int32) _ _ _ ls (by have : ((0 : Int32).toInt) = 0 := (by decide); omega) (by have : ((0 : Int32).toInt) = 0 := (by decide); omega) (by have : ((0 : Int32).toInt) = 0 := (by decide); omega) (by have : ((0 : Int32).toInt) = 0 := (by decide); omega) (by have : ((0 : Int32).toInt) = 0 := (by decide); intro _ c hc; exact absurd hc (by have e0 : ((0 : Int32).toInt) = 0 := (by decide); omega)) (by have : ((0 : Int32).toInt) = 0 := (by decide); omega) (by have : ((0 : Int32).toInt) = 0 := (by decide);  omega) tw_fr.rf hcg128_0 hcg128_1 hcg128_2 TH hS (lv_sub hl [0, 1, 2] rfl)
        exact hJ128 152 (1 : Int32) _ _ _ ls (by have : ((1 : Int32).toInt) = 1 := (by decide); omega) (by have : ((1 : Int32).toInt) = 1 := (by decide); omega) (by have : ((1 : Int32).toInt) = 1 := (by decide); intro q; exact absurd q (by decide)) (by have : ((1 : Int32).toInt) = 1 := (by decide); have := rt_cnt_k (P := fun m => decide (rw_h Eg3 a0 13 m ≠ 0)) 150; unfold rt_size; omega) tw_fr.rf hcg3_0 hcg3_1 (sx_ok_cast (by have : ((1 : Int32).toInt) = 1 := (by decide); omega) hcg3_3) TH hS (lv_sub hl [0, 1] rfl)
      · have hf38 : ¬ (150 ≤ y3_4.toInt) := fun q => hc1 ((fa_le _ _).mpr (by have : ((150 : Int32).toInt) = 150 := (by decide); omega))
        have hn0 := trivial
        refine lv_aload_n hx hb dX12_stacks_11 rfl (lv_at hl 1 rfl) ?_
        refine tw_get (ci := 12) (C := RX12) (T := TX12) (N := 64) hx hb hB cx_inX12 hown hK TH hm0 hk0 rfl ⟨by decide, rfl⟩ 16 (by decide) cw_1209 (fun _ h9 => h9) dX12_stacks_12 (fun hv => ?_)
        obtain ⟨xr39, hxr39, hmxr39, hkxr39⟩ : ∃ a : Nat, tw_fv Eg3 a0 16 = .ref a ∧ a ∈ L ∧ kp a = 316 := hv
        rw [hxr39]
        refine lv_bipush (v := 13) hx hb dX12_stacks_15 (by decide) ?_
        refine tw_aald (k := 316) (t0 := 5) (n := 16) (lo := 326) (hi := 0) (ty := .boolean) hx hb hK TH hmxr39 hkxr39 (by decide) rfl rfl (i := 13) (vp_in_iff.mpr ⟨by have : ((13 : Int32).toInt) = 13 := (by decide); omega, by have : ((13 : Int32).toInt) = 13 := (by decide); omega⟩) dX12_stacks_17 (fun xr40 exr40 hmxr40 hkxr40 => ?_)
        have hkxr40 : kp xr40 = 326 := hkxr40
        refine lv_iload hx hb dX12_stacks_18 (lv_at hl 0 rfl) ?_
        refine lv_iload hx hb dX12_stacks_20 (lv_at hl 0 rfl) ?_
        refine lv_aload_n hx hb dX12_stacks_22 rfl (lv_at hl 1 rfl) ?_
        refine tw_get (ci := 12) (C := RX12) (T := TX12) (N := 64) hx hb hB cx_inX12 hown hK TH hm0 hk0 rfl ⟨by decide, rfl⟩ 26 (by decide) cw_1219 (fun _ h9 => h9) dX12_stacks_23 (fun hv => ?_)
        obtain ⟨xi41, hxi41, hxi41a, hxi41b⟩ : ∃ x : Int32, tw_fv Eg3 a0 26 = .int x ∧ 0 ≤ x.toInt ∧ x.toInt ≤ 150 := hv
        rw [hxi41]
        refine lv_icmp_ge (tgt := 45) hx hb dX12_stacks_26 (by decide) (fun hc42 => ?_) (fun hc42 => ?_)
        · have hf43 : xi41.toInt ≤ y3_4.toInt := by have z := (fa_le _ _).mp hc42;  omega
          refine lv_iconst (v := 0) hx hb dX12_stacks_45 (by decide) ?_
          refine tw_zast (k := 326) (n := 150) (lo := 0) (hi := 1) hx hb hK TH hS hmxr40 hkxr40 (by decide) rfl (i := y3_4) (x := 0) (vp_in_iff.mpr ⟨by  omega, by  omega⟩) (by have : ((0 : Int32).toInt) = 0 := (by decide); omega) (by have : ((0 : Int32).toInt) = 0 := (by decide); omega) (by have : ((0 : Int32).toInt) = 0 := (by decide); omega) (by have : ((0 : Int32).toInt) = 0 := (by decide); omega) dX12_stacks_46 (fun H locs E44 TH hS hp45 hp46 hp47 => ?_)
          have hst48 : tw_fr kp L [] [326] Eg3 E44 := tw_fr.ast tw_fr.rf (fun _ => hkxr40) hp45 hp46 (by decide)
          have hF := hF.tr hst48 (fun _ h => ⟨h, rfl⟩) (by decide) (by decide)
          have hG3 := hG3.tr hst48 (fun _ h => ⟨h, rfl⟩) (by decide) (by decide)
          have hmf49 : tw_fv E44 a0 16 = .ref xr39 := (hst48.1 a0 16 hm0 (by rw [hk0]; decide)).trans hxr39
          have hmf50 : tw_fv E44 a0 26 = .int xi41 := (hst48.1 a0 26 hm0 (by rw [hk0]; decide)).trans hxi41
          have hcg3_0_o := hcg3_0
          have hcg3_1_o := hcg3_1
          have hcg3_2_o := hcg3_2
          have hcg3_3_o := hcg3_3
          have hcg3_0 : rd_ok E44 a0 := rd_ok_fr TH hst48 hm0 hk0 (by decide) (by decide) hcg3_0
          have hcg3_1 : ot_ok E44 a0 (13) E := (by have e13 : ((13 : Int32).toInt) = 13 := (by decide); have q := ot_ok_h (i := 13) TH hm0 hk0 hcg3_0_o hxr39 exr40 hkxr39 hkxr40 hp45 hp46 (by omega) (by omega) (show ot_ok _ _ _ _ from (by rw [e13]; exact hcg3_1_o)); rw [e13] at q; exact q)
          have hcg3_2 : ww_ok E44 a0 E (y3_4.toInt) := ww_ok_fr TH hst48 hm0 hk0 (by decide) (by decide) hcg3_2
          have hcg3_3 : sx_ok E44 a0 E (x1.toInt) (x2.toInt) (y3_4.toInt) := (by have e13 : ((13 : Int32).toInt) = 13 := (by decide); have q := rw_h_st (m := a0) (i := 13) (c := y3_4) hxr39 exr40 hkxr39 hkxr40 hp45 hp46 hp47; rw [e13] at q; exact sx_keep hcg3_3_o (by omega) q (rw_p_hst TH hm0 hk0 hkxr40 hp45 hp46 (i := 13) (by decide)))
          have h13n : rw_h E44 a0 13 (y3_4.toInt).toNat = (0 : Int32).toInt := (by have e13 : ((13 : Int32).toInt) = 13 := (by decide); have q := rw_h_st (m := a0) (i := 13) (c := y3_4) hxr39 exr40 hkxr39 hkxr40 hp45 hp46 hp47 (y3_4.toInt).toNat; rw [e13, if_pos rfl] at q; exact q)
          have hnb : ¬ (rw_h E a0 (x1.toInt) (y3_4.toInt).toNat ≠ 0 ∧ rw_h E a0 (x2.toInt) (y3_4.toInt).toNat ≠ 0) := (by intro z; have w := hra.2.2.2 (y3_4.toInt).toNat (by omega) z.1; rw [← tw_fi_fr hF hm0 hk0 (k := 26) (by decide), tw_fi_of hmf50] at w; omega)
          refine lv_aload_n hx hb dX12_stacks_47 rfl (lv_at hl 1 rfl) ?_
          refine tw_get (ci := 12) (C := RX12) (T := TX12) (N := 64) hx hb hB cx_inX12 hown hK TH hm0 hk0 rfl ⟨by decide, rfl⟩ 16 (by decide) cw_1209 (fun _ h9 => h9) dX12_stacks_48 (fun hv => ?_)
          rw [hmf49]
          refine lv_bipush (v := 13) hx hb dX12_stacks_51 (by decide) ?_
          refine tw_aald (k := 316) (t0 := 5) (n := 16) (lo := 326) (hi := 0) (ty := .boolean) hx hb hK TH hmxr39 hkxr39 (by decide) rfl rfl (i := 13) (vp_in_iff.mpr ⟨by have : ((13 : Int32).toInt) = 13 := (by decide); omega, by have : ((13 : Int32).toInt) = 13 := (by decide); omega⟩) dX12_stacks_53 (fun xr51 exr51 hmxr51 hkxr51 => ?_)
          have hkxr51 : kp xr51 = 326 := hkxr51
          refine lv_iload hx hb dX12_stacks_54 (lv_at hl 0 rfl) ?_
          refine tw_zald (k := 326) (t0 := 3) (n := 150) (lo := 0) (hi := 1) hx hb hK TH hmxr51 hkxr51 (by decide) rfl rfl (i := y3_4) (vp_in_iff.mpr ⟨by  omega, by  omega⟩) dX12_stacks_56 (fun hxe52a hxe52b => ?_)
          obtain ⟨xe52, exe52⟩ : ∃ z : Int32, tw_iv E44 xr51 (Int32.toNatClampNeg y3_4) = z := ⟨_, rfl⟩
          rw [exe52] at hxe52a hxe52b ⊢
          have hJ119 : ∀  (Eg119 : Nat → va_E) (H : Heap) (locs : List Loc) (ls : Array Slot), tw_fr kp L [] [327, 328] E44 Eg119 → rd_ok Eg119 a0 → ot_ok Eg119 a0 (13) E → ww_ok Eg119 a0 E (y3_4.toInt + 1) → sx_ok Eg119 a0 E (x1.toInt) (x2.toInt) (y3_4.toInt + 1) → tw_H D cs kp L Eg119 A H → va_S A s.heap H locs → lv_has ls 6 [(4, .int y3_4), (0, .ref a0), (1, .int x1), (2, .int x2), (3, .int x3)] → W p l e { frames := 3, cells := 0, slots := 0, locals := 73 } s m [.ref a0, .int x1, .int x2, .int x3].toArray below meth c H locs 0 0 (MQ below (tw_Q D cs kp0 L0 (fun v kq Lq Eq => v = none ∧ kp = kq ∧ L = Lq ∧ tw_fr kp L [] [326, 327, 328] E Eq ∧ (t1_ok Eq a0 13) ∧ (sx_ok Eq a0 E x1.toInt x2.toInt 150) ∧ (ot_ok Eq a0 13 E) ∧ rd_ok Eq a0) A) [.ref a0, .int x1, .int x2, .int x3].toArray s 0 0 A) (F0 m 119 ls []) := by
            intro Eg119 H locs ls hG119 hcg119_0 hcg119_1 hcg119_2 hcg119_3 TH hS hl
            have hF := hF.tr hG119 (fun _ h => ⟨h, rfl⟩) (by decide) (by decide)
            have hG3 := hG3.tr hG119 (fun _ h => ⟨h, rfl⟩) (by decide) (by decide)
            have hmf53 : tw_fv Eg119 a0 16 = .ref xr39 := (hG119.1 a0 16 hm0 (by rw [hk0]; decide)).trans hmf49
            have hmf54 : tw_fv Eg119 a0 26 = .int xi41 := (hG119.1 a0 26 hm0 (by rw [hk0]; decide)).trans hmf50
            obtain ⟨zi55, ezi55⟩ : ∃ z : Int32, z = y3_4 + Int32.ofInt 1 := ⟨_, rfl⟩
            have hzi55 : zi55.toInt = y3_4.toInt + 1 := by rw [ezi55]; have : ((Int32.ofInt 1).toInt) = 1 := (by decide);  exact (ia_add (by omega) (by omega)).trans (by omega)
            refine lv_iinc (v := zi55) (lv' := [(4, .int zi55), (0, .ref a0), (1, .int x1), (2, .int x2), (3, .int x3)]) hx hb dX12_stacks_119 hl (k := 0) rfl ezi55.symm (by decide) rfl (fun ls hl => ?_)
            refine lv_goto (tgt := 3) hx hb dX12_stacks_122 (by decide) ?_
            exact ih3 (n3 - 1) (by   omega) zi55 _ _ _ ls (by omega) (by omega) (by   omega) hG3 hcg119_0 hcg119_1 (ww_ok_cast (by  omega) hcg119_2) (sx_ok_cast (by  omega) hcg119_3) TH hS (lv_sub hl [0, 1, 2, 3, 4] rfl)
          have hG119 : tw_fr kp L [] [327, 328] E44 E44 := tw_fr.rf
          refine lv_if_ne (tgt := 63) hx hb dX12_stacks_57 (by decide) (fun hc56 => ?_) (fun hc56 => ?_)
          · have hf57 : ¬ (xe52.toInt = 0) := fun q => hc56 ((fa_eq _ _).mpr (by have : ((0 : Int32).toInt) = 0 := (by decide); omega))
            have rf_xe52 : rw_h E44 a0 (13) (y3_4.toInt).toNat = xe52.toInt := (by have q := rw_h_of (m := a0) (i := (13 : Int32)) (c := y3_4) hmf49 exr51 exe52; rw [show ((13 : Int32).toInt) = 13 from (by decide)] at q; exact q)
            exfalso
            have e1 : ((1 : Int32).toInt) = 1 := (by decide)
            have e0 : ((0 : Int32).toInt) = 0 := (by decide)
            (try rw [h13n] at rf_xe52)
            omega
          · have hf58 : xe52.toInt = 0 := by have z := (fa_eq _ _).mp hc56; have : ((0 : Int32).toInt) = 0 := (by decide); omega
            have hsx60 : sx_ok E44 a0 E (x1.toInt) (x2.toInt) (y3_4.toInt + 1) := sx_push0 hcg3_3 (h13n.trans (by decide)) hnb
            have hww60 : ww_ok E44 a0 E (y3_4.toInt + 1) := ww_ok_mono (by omega) hcg3_2
            refine lv_goto (tgt := 119) hx hb dX12_stacks_60 (by decide) ?_
            exact hJ119  _ _ _ ls hG119 hcg3_0 hcg3_1 hww60 hsx60 TH hS (lv_sub hl [0, 1, 2, 3, 4] rfl)
        · have hf59 : ¬ (xi41.toInt ≤ y3_4.toInt) := fun q => hc42 ((fa_le _ _).mpr (by  omega))
          refine lv_aload_n hx hb dX12_stacks_29 rfl (lv_at hl 1 rfl) ?_
          refine lv_iload hx hb dX12_stacks_30 (lv_at hl 0 rfl) ?_
          refine lv_iload_n hx hb dX12_stacks_32 rfl (lv_at hl 2 rfl) ?_
          refine lv_iload_n hx hb dX12_stacks_33 rfl (lv_at hl 3 rfl) ?_
          refine lv_iload_n hx hb dX12_stacks_34 rfl (lv_at hl 4 rfl) ?_
          refine tw_Vc (o := a0) (ci := 12) (n := 4) (post := (fun v kq Lq Eq => (∃ x : Int32, v = some (.int x) ∧ 0 ≤ x.toInt ∧ x.toInt ≤ 1 ∧ (rw_h Eg3 a0 x1.toInt (y3_4.toInt).toNat ≠ 0 → rw_h Eg3 a0 x2.toInt (y3_4.toInt).toNat ≠ 0 → x.toInt ≠ 0)) ∧ kp = kq ∧ L = Lq ∧ Eg3 = Eq)) (As := [.int y3_4, .int x1, .int x2, .int x3]) (rest := [.int y3_4, .ref xr40]) ⟨hx, hb, hml, hown, hB⟩ (fun sz => tX12_stands l D cs a0 y3_4 x1 x2 x3 hm0 hk0 (by omega) (by omega) (by omega) (by omega) (by omega) (by omega) (by omega) (by omega) (by have oa := hcg3_1 (x1.toInt) (by omega) (by omega) (by omega); unfold rw_ok; rw [oa.1, oa.2]; exact hra.1) (by have oa := hcg3_1 (x2.toInt) (by omega) (by omega) (by omega); unfold rw_ok; rw [oa.1, oa.2]; exact hrb.1) sz) cg_12_474_X12_stands rfl rfl (by decide +kernel) ⟨Nat.le_of_ble_eq_true rfl, Nat.le_of_ble_eq_true rfl⟩ hK hN TH hS hA rfl hm0 hk0 (by decide) rfl hl.1 rfl (Nat.le_of_ble_eq_true rfl) dX12_stacks_35 ⟨Nat.le_of_ble_eq_true rfl, Nat.le_of_ble_eq_true rfl⟩ (fun v60 kp60 L60 E60 H locs hq60 hx60 TH hS => ?_)
          obtain ⟨⟨xc61, rfl, hxc61a, hxc61b, hpoxc61_0⟩, rfl, rfl, rfl⟩ := hq60
          refine W.eq (g2 := F0 m 38 ls [.int xc61, .int y3_4, .ref xr40]) rfl ?_
          have oa := hcg3_1 (x1.toInt) (by omega) (by omega) (by omega)
          have ob := hcg3_1 (x2.toInt) (by omega) (by omega) (by omega)
          have oo := hcg3_1 (x3.toInt) (by omega) (by omega) (by omega)
          have hoa38 := oa.1
          have hob38 := ob.1
          refine lv_if_eq (tgt := 45) hx hb dX12_stacks_38 (by decide) (fun hc62 => ?_) (fun hc62 => ?_)
          · have hf63 : xc61.toInt = 0 := by have z := (fa_eq _ _).mp hc62; have : ((0 : Int32).toInt) = 0 := (by decide); omega
            refine lv_iconst (v := 0) hx hb dX12_stacks_45 (by decide) ?_
            refine tw_zast (k := 326) (n := 150) (lo := 0) (hi := 1) hx hb hK TH hS hmxr40 hkxr40 (by decide) rfl (i := y3_4) (x := 0) (vp_in_iff.mpr ⟨by  omega, by  omega⟩) (by have : ((0 : Int32).toInt) = 0 := (by decide); omega) (by have : ((0 : Int32).toInt) = 0 := (by decide); omega) (by have : ((0 : Int32).toInt) = 0 := (by decide); omega) (by have : ((0 : Int32).toInt) = 0 := (by decide); omega) dX12_stacks_46 (fun H locs E64 TH hS hp65 hp66 hp67 => ?_)
            have hst68 : tw_fr kp L [] [326] Eg3 E64 := tw_fr.ast tw_fr.rf (fun _ => hkxr40) hp65 hp66 (by decide)
            have hF := hF.tr hst68 (fun _ h => ⟨h, rfl⟩) (by decide) (by decide)
            have hG3 := hG3.tr hst68 (fun _ h => ⟨h, rfl⟩) (by decide) (by decide)
            have hmf69 : tw_fv E64 a0 16 = .ref xr39 := (hst68.1 a0 16 hm0 (by rw [hk0]; decide)).trans hxr39
            have hmf70 : tw_fv E64 a0 26 = .int xi41 := (hst68.1 a0 26 hm0 (by rw [hk0]; decide)).trans hxi41
            have hcg3_0_o := hcg3_0
            have hcg3_1_o := hcg3_1
            have hcg3_2_o := hcg3_2
            have hcg3_3_o := hcg3_3
            have hcg3_0 : rd_ok E64 a0 := rd_ok_fr TH hst68 hm0 hk0 (by decide) (by decide) hcg3_0
            have hcg3_1 : ot_ok E64 a0 (13) E := (by have e13 : ((13 : Int32).toInt) = 13 := (by decide); have q := ot_ok_h (i := 13) TH hm0 hk0 hcg3_0_o hxr39 exr40 hkxr39 hkxr40 hp65 hp66 (by omega) (by omega) (show ot_ok _ _ _ _ from (by rw [e13]; exact hcg3_1_o)); rw [e13] at q; exact q)
            have hcg3_2 : ww_ok E64 a0 E (y3_4.toInt) := ww_ok_fr TH hst68 hm0 hk0 (by decide) (by decide) hcg3_2
            have hcg3_3 : sx_ok E64 a0 E (x1.toInt) (x2.toInt) (y3_4.toInt) := (by have e13 : ((13 : Int32).toInt) = 13 := (by decide); have q := rw_h_st (m := a0) (i := 13) (c := y3_4) hxr39 exr40 hkxr39 hkxr40 hp65 hp66 hp67; rw [e13] at q; exact sx_keep hcg3_3_o (by omega) q (rw_p_hst TH hm0 hk0 hkxr40 hp65 hp66 (i := 13) (by decide)))
            have h13n : rw_h E64 a0 13 (y3_4.toInt).toNat = (0 : Int32).toInt := (by have e13 : ((13 : Int32).toInt) = 13 := (by decide); have q := rw_h_st (m := a0) (i := 13) (c := y3_4) hxr39 exr40 hkxr39 hkxr40 hp65 hp66 hp67 (y3_4.toInt).toNat; rw [e13, if_pos rfl] at q; exact q)
            have hnb : ¬ (rw_h E a0 (x1.toInt) (y3_4.toInt).toNat ≠ 0 ∧ rw_h E a0 (x2.toInt) (y3_4.toInt).toNat ≠ 0) := (by intro z; exact absurd (hpoxc61_0 (by rw [hoa38]; exact z.1) (by rw [hob38]; exact z.2)) (by omega))
            refine lv_aload_n hx hb dX12_stacks_47 rfl (lv_at hl 1 rfl) ?_
            refine tw_get (ci := 12) (C := RX12) (T := TX12) (N := 64) hx hb hB cx_inX12 hown hK TH hm0 hk0 rfl ⟨by decide, rfl⟩ 16 (by decide) cw_1209 (fun _ h9 => h9) dX12_stacks_48 (fun hv => ?_)
            rw [hmf69]
            refine lv_bipush (v := 13) hx hb dX12_stacks_51 (by decide) ?_
            refine tw_aald (k := 316) (t0 := 5) (n := 16) (lo := 326) (hi := 0) (ty := .boolean) hx hb hK TH hmxr39 hkxr39 (by decide) rfl rfl (i := 13) (vp_in_iff.mpr ⟨by have : ((13 : Int32).toInt) = 13 := (by decide); omega, by have : ((13 : Int32).toInt) = 13 := (by decide); omega⟩) dX12_stacks_53 (fun xr71 exr71 hmxr71 hkxr71 => ?_)
            have hkxr71 : kp xr71 = 326 := hkxr71
            refine lv_iload hx hb dX12_stacks_54 (lv_at hl 0 rfl) ?_
            refine tw_zald (k := 326) (t0 := 3) (n := 150) (lo := 0) (hi := 1) hx hb hK TH hmxr71 hkxr71 (by decide) rfl rfl (i := y3_4) (vp_in_iff.mpr ⟨by  omega, by  omega⟩) dX12_stacks_56 (fun hxe72a hxe72b => ?_)
            obtain ⟨xe72, exe72⟩ : ∃ z : Int32, tw_iv E64 xr71 (Int32.toNatClampNeg y3_4) = z := ⟨_, rfl⟩
            rw [exe72] at hxe72a hxe72b ⊢
            have hJ119 : ∀  (Eg119 : Nat → va_E) (H : Heap) (locs : List Loc) (ls : Array Slot), tw_fr kp L [] [327, 328] E64 Eg119 → rd_ok Eg119 a0 → ot_ok Eg119 a0 (13) E → ww_ok Eg119 a0 E (y3_4.toInt + 1) → sx_ok Eg119 a0 E (x1.toInt) (x2.toInt) (y3_4.toInt + 1) → tw_H D cs kp L Eg119 A H → va_S A s.heap H locs → lv_has ls 6 [(4, .int y3_4), (0, .ref a0), (1, .int x1), (2, .int x2), (3, .int x3)] → W p l e { frames := 3, cells := 0, slots := 0, locals := 73 } s m [.ref a0, .int x1, .int x2, .int x3].toArray below meth c H locs 0 0 (MQ below (tw_Q D cs kp0 L0 (fun v kq Lq Eq => v = none ∧ kp = kq ∧ L = Lq ∧ tw_fr kp L [] [326, 327, 328] E Eq ∧ (t1_ok Eq a0 13) ∧ (sx_ok Eq a0 E x1.toInt x2.toInt 150) ∧ (ot_ok Eq a0 13 E) ∧ rd_ok Eq a0) A) [.ref a0, .int x1, .int x2, .int x3].toArray s 0 0 A) (F0 m 119 ls []) := by
              intro Eg119 H locs ls hG119 hcg119_0 hcg119_1 hcg119_2 hcg119_3 TH hS hl
              have hF := hF.tr hG119 (fun _ h => ⟨h, rfl⟩) (by decide) (by decide)
              have hG3 := hG3.tr hG119 (fun _ h => ⟨h, rfl⟩) (by decide) (by decide)
              have hmf73 : tw_fv Eg119 a0 16 = .ref xr39 := (hG119.1 a0 16 hm0 (by rw [hk0]; decide)).trans hmf69
              have hmf74 : tw_fv Eg119 a0 26 = .int xi41 := (hG119.1 a0 26 hm0 (by rw [hk0]; decide)).trans hmf70
              obtain ⟨zi75, ezi75⟩ : ∃ z : Int32, z = y3_4 + Int32.ofInt 1 := ⟨_, rfl⟩
              have hzi75 : zi75.toInt = y3_4.toInt + 1 := by rw [ezi75]; have : ((Int32.ofInt 1).toInt) = 1 := (by decide);  exact (ia_add (by omega) (by omega)).trans (by omega)
              refine lv_iinc (v := zi75) (lv' := [(4, .int zi75), (0, .ref a0), (1, .int x1), (2, .int x2), (3, .int x3)]) hx hb dX12_stacks_119 hl (k := 0) rfl ezi75.symm (by decide) rfl (fun ls hl => ?_)
              refine lv_goto (tgt := 3) hx hb dX12_stacks_122 (by decide) ?_
              exact ih3 (n3 - 1) (by   omega) zi75 _ _ _ ls (by omega) (by omega) (by   omega) hG3 hcg119_0 hcg119_1 (ww_ok_cast (by  omega) hcg119_2) (sx_ok_cast (by  omega) hcg119_3) TH hS (lv_sub hl [0, 1, 2, 3, 4] rfl)
            have hG119 : tw_fr kp L [] [327, 328] E64 E64 := tw_fr.rf
            refine lv_if_ne (tgt := 63) hx hb dX12_stacks_57 (by decide) (fun hc76 => ?_) (fun hc76 => ?_)
            · have hf77 : ¬ (xe72.toInt = 0) := fun q => hc76 ((fa_eq _ _).mpr (by have : ((0 : Int32).toInt) = 0 := (by decide); omega))
              have rf_xe72 : rw_h E64 a0 (13) (y3_4.toInt).toNat = xe72.toInt := (by have q := rw_h_of (m := a0) (i := (13 : Int32)) (c := y3_4) hmf69 exr71 exe72; rw [show ((13 : Int32).toInt) = 13 from (by decide)] at q; exact q)
              exfalso
              have e1 : ((1 : Int32).toInt) = 1 := (by decide)
              have e0 : ((0 : Int32).toInt) = 0 := (by decide)
              (try rw [h13n] at rf_xe72)
              omega
            · have hf78 : xe72.toInt = 0 := by have z := (fa_eq _ _).mp hc76; have : ((0 : Int32).toInt) = 0 := (by decide); omega
              have hsx60 : sx_ok E64 a0 E (x1.toInt) (x2.toInt) (y3_4.toInt + 1) := sx_push0 hcg3_3 (h13n.trans (by decide)) hnb
              have hww60 : ww_ok E64 a0 E (y3_4.toInt + 1) := ww_ok_mono (by omega) hcg3_2
              refine lv_goto (tgt := 119) hx hb dX12_stacks_60 (by decide) ?_
              exact hJ119  _ _ _ ls hG119 hcg3_0 hcg3_1 hww60 hsx60 TH hS (lv_sub hl [0, 1, 2, 3, 4] rfl)
          · have hf79 : ¬ (xc61.toInt = 0) := fun q => hc62 ((fa_eq _ _).mpr (by have : ((0 : Int32).toInt) = 0 := (by decide); omega))
            refine lv_iconst (v := 1) hx hb dX12_stacks_41 (by decide) ?_
            refine lv_goto (tgt := 46) hx hb dX12_stacks_42 (by decide) ?_
            refine tw_zast (k := 326) (n := 150) (lo := 0) (hi := 1) hx hb hK TH hS hmxr40 hkxr40 (by decide) rfl (i := y3_4) (x := 1) (vp_in_iff.mpr ⟨by  omega, by  omega⟩) (by have : ((1 : Int32).toInt) = 1 := (by decide); omega) (by have : ((1 : Int32).toInt) = 1 := (by decide); omega) (by have : ((1 : Int32).toInt) = 1 := (by decide); omega) (by have : ((1 : Int32).toInt) = 1 := (by decide); omega) dX12_stacks_46 (fun H locs E80 TH hS hp81 hp82 hp83 => ?_)
            have hst84 : tw_fr kp L [] [326] Eg3 E80 := tw_fr.ast tw_fr.rf (fun _ => hkxr40) hp81 hp82 (by decide)
            have hF := hF.tr hst84 (fun _ h => ⟨h, rfl⟩) (by decide) (by decide)
            have hG3 := hG3.tr hst84 (fun _ h => ⟨h, rfl⟩) (by decide) (by decide)
            have hmf85 : tw_fv E80 a0 16 = .ref xr39 := (hst84.1 a0 16 hm0 (by rw [hk0]; decide)).trans hxr39
            have hmf86 : tw_fv E80 a0 26 = .int xi41 := (hst84.1 a0 26 hm0 (by rw [hk0]; decide)).trans hxi41
            have hcg3_0_o := hcg3_0
            have hcg3_1_o := hcg3_1
            have hcg3_2_o := hcg3_2
            have hcg3_3_o := hcg3_3
            have hcg3_0 : rd_ok E80 a0 := rd_ok_fr TH hst84 hm0 hk0 (by decide) (by decide) hcg3_0
            have hcg3_1 : ot_ok E80 a0 (13) E := (by have e13 : ((13 : Int32).toInt) = 13 := (by decide); have q := ot_ok_h (i := 13) TH hm0 hk0 hcg3_0_o hxr39 exr40 hkxr39 hkxr40 hp81 hp82 (by omega) (by omega) (show ot_ok _ _ _ _ from (by rw [e13]; exact hcg3_1_o)); rw [e13] at q; exact q)
            have hcg3_2 : ww_ok E80 a0 E (y3_4.toInt) := ww_ok_fr TH hst84 hm0 hk0 (by decide) (by decide) hcg3_2
            have hcg3_3 : sx_ok E80 a0 E (x1.toInt) (x2.toInt) (y3_4.toInt) := (by have e13 : ((13 : Int32).toInt) = 13 := (by decide); have q := rw_h_st (m := a0) (i := 13) (c := y3_4) hxr39 exr40 hkxr39 hkxr40 hp81 hp82 hp83; rw [e13] at q; exact sx_keep hcg3_3_o (by omega) q (rw_p_hst TH hm0 hk0 hkxr40 hp81 hp82 (i := 13) (by decide)))
            have h13n : rw_h E80 a0 13 (y3_4.toInt).toNat = (1 : Int32).toInt := (by have e13 : ((13 : Int32).toInt) = 13 := (by decide); have q := rw_h_st (m := a0) (i := 13) (c := y3_4) hxr39 exr40 hkxr39 hkxr40 hp81 hp82 hp83 (y3_4.toInt).toNat; rw [e13, if_pos rfl] at q; exact q)
            have hn26 := (show y3_4.toInt < tw_fi E a0 26 from (by rw [← tw_fi_fr hF hm0 hk0 (k := 26) (by decide), tw_fi_of hmf86]; omega))
            refine lv_aload_n hx hb dX12_stacks_47 rfl (lv_at hl 1 rfl) ?_
            refine tw_get (ci := 12) (C := RX12) (T := TX12) (N := 64) hx hb hB cx_inX12 hown hK TH hm0 hk0 rfl ⟨by decide, rfl⟩ 16 (by decide) cw_1209 (fun _ h9 => h9) dX12_stacks_48 (fun hv => ?_)
            rw [hmf85]
            refine lv_bipush (v := 13) hx hb dX12_stacks_51 (by decide) ?_
            refine tw_aald (k := 316) (t0 := 5) (n := 16) (lo := 326) (hi := 0) (ty := .boolean) hx hb hK TH hmxr39 hkxr39 (by decide) rfl rfl (i := 13) (vp_in_iff.mpr ⟨by have : ((13 : Int32).toInt) = 13 := (by decide); omega, by have : ((13 : Int32).toInt) = 13 := (by decide); omega⟩) dX12_stacks_53 (fun xr87 exr87 hmxr87 hkxr87 => ?_)
            have hkxr87 : kp xr87 = 326 := hkxr87
            refine lv_iload hx hb dX12_stacks_54 (lv_at hl 0 rfl) ?_
            refine tw_zald (k := 326) (t0 := 3) (n := 150) (lo := 0) (hi := 1) hx hb hK TH hmxr87 hkxr87 (by decide) rfl rfl (i := y3_4) (vp_in_iff.mpr ⟨by  omega, by  omega⟩) dX12_stacks_56 (fun hxe88a hxe88b => ?_)
            obtain ⟨xe88, exe88⟩ : ∃ z : Int32, tw_iv E80 xr87 (Int32.toNatClampNeg y3_4) = z := ⟨_, rfl⟩
            rw [exe88] at hxe88a hxe88b ⊢
            have hJ119 : ∀  (Eg119 : Nat → va_E) (H : Heap) (locs : List Loc) (ls : Array Slot), tw_fr kp L [] [327, 328] E80 Eg119 → rd_ok Eg119 a0 → ot_ok Eg119 a0 (13) E → ww_ok Eg119 a0 E (y3_4.toInt + 1) → sx_ok Eg119 a0 E (x1.toInt) (x2.toInt) (y3_4.toInt + 1) → tw_H D cs kp L Eg119 A H → va_S A s.heap H locs → lv_has ls 6 [(4, .int y3_4), (0, .ref a0), (1, .int x1), (2, .int x2), (3, .int x3)] → W p l e { frames := 3, cells := 0, slots := 0, locals := 73 } s m [.ref a0, .int x1, .int x2, .int x3].toArray below meth c H locs 0 0 (MQ below (tw_Q D cs kp0 L0 (fun v kq Lq Eq => v = none ∧ kp = kq ∧ L = Lq ∧ tw_fr kp L [] [326, 327, 328] E Eq ∧ (t1_ok Eq a0 13) ∧ (sx_ok Eq a0 E x1.toInt x2.toInt 150) ∧ (ot_ok Eq a0 13 E) ∧ rd_ok Eq a0) A) [.ref a0, .int x1, .int x2, .int x3].toArray s 0 0 A) (F0 m 119 ls []) := by
              intro Eg119 H locs ls hG119 hcg119_0 hcg119_1 hcg119_2 hcg119_3 TH hS hl
              have hF := hF.tr hG119 (fun _ h => ⟨h, rfl⟩) (by decide) (by decide)
              have hG3 := hG3.tr hG119 (fun _ h => ⟨h, rfl⟩) (by decide) (by decide)
              have hmf89 : tw_fv Eg119 a0 16 = .ref xr39 := (hG119.1 a0 16 hm0 (by rw [hk0]; decide)).trans hmf85
              have hmf90 : tw_fv Eg119 a0 26 = .int xi41 := (hG119.1 a0 26 hm0 (by rw [hk0]; decide)).trans hmf86
              obtain ⟨zi91, ezi91⟩ : ∃ z : Int32, z = y3_4 + Int32.ofInt 1 := ⟨_, rfl⟩
              have hzi91 : zi91.toInt = y3_4.toInt + 1 := by rw [ezi91]; have : ((Int32.ofInt 1).toInt) = 1 := (by decide);  exact (ia_add (by omega) (by omega)).trans (by omega)
              refine lv_iinc (v := zi91) (lv' := [(4, .int zi91), (0, .ref a0), (1, .int x1), (2, .int x2), (3, .int x3)]) hx hb dX12_stacks_119 hl (k := 0) rfl ezi91.symm (by decide) rfl (fun ls hl => ?_)
              refine lv_goto (tgt := 3) hx hb dX12_stacks_122 (by decide) ?_
              exact ih3 (n3 - 1) (by   omega) zi91 _ _ _ ls (by omega) (by omega) (by   omega) hG3 hcg119_0 hcg119_1 (ww_ok_cast (by  omega) hcg119_2) (sx_ok_cast (by  omega) hcg119_3) TH hS (lv_sub hl [0, 1, 2, 3, 4] rfl)
            have hG119 : tw_fr kp L [] [327, 328] E80 E80 := tw_fr.rf
            refine lv_if_ne (tgt := 63) hx hb dX12_stacks_57 (by decide) (fun hc92 => ?_) (fun hc92 => ?_)
            · have hf93 : ¬ (xe88.toInt = 0) := fun q => hc92 ((fa_eq _ _).mpr (by have : ((0 : Int32).toInt) = 0 := (by decide); omega))
              have hlive := trivial
              refine lv_aload_n hx hb dX12_stacks_63 rfl (lv_at hl 1 rfl) ?_
              refine tw_get (ci := 12) (C := RX12) (T := TX12) (N := 64) hx hb hB cx_inX12 hown hK TH hm0 hk0 rfl ⟨by decide, rfl⟩ 17 (by decide) cw_1210 (fun _ h9 => h9) dX12_stacks_64 (fun hv => ?_)
              obtain ⟨xr94, hxr94, hmxr94, hkxr94⟩ : ∃ a : Nat, tw_fv E80 a0 17 = .ref a ∧ a ∈ L ∧ kp a = 317 := hv
              rw [hxr94]
              refine lv_bipush (v := 13) hx hb dX12_stacks_67 (by decide) ?_
              refine tw_aald (k := 317) (t0 := 6) (n := 16) (lo := 327) (hi := 0) (ty := .long) hx hb hK TH hmxr94 hkxr94 (by decide) rfl rfl (i := 13) (vp_in_iff.mpr ⟨by have : ((13 : Int32).toInt) = 13 := (by decide); omega, by have : ((13 : Int32).toInt) = 13 := (by decide); omega⟩) dX12_stacks_69 (fun xr95 exr95 hmxr95 hkxr95 => ?_)
              have hkxr95 : kp xr95 = 327 := hkxr95
              refine lv_iload hx hb dX12_stacks_70 (lv_at hl 0 rfl) ?_
              refine lv_aload_n hx hb dX12_stacks_72 rfl (lv_at hl 1 rfl) ?_
              refine tw_get (ci := 12) (C := RX12) (T := TX12) (N := 64) hx hb hB cx_inX12 hown hK TH hm0 hk0 rfl ⟨by decide, rfl⟩ 17 (by decide) cw_1210 (fun _ h9 => h9) dX12_stacks_73 (fun hv => ?_)
              rw [hxr94]
              refine lv_aload_n hx hb dX12_stacks_76 rfl (lv_at hl 1 rfl) ?_
              refine lv_iload hx hb dX12_stacks_77 (lv_at hl 0 rfl) ?_
              refine lv_iload_n hx hb dX12_stacks_79 rfl (lv_at hl 2 rfl) ?_
              refine lv_iload_n hx hb dX12_stacks_80 rfl (lv_at hl 3 rfl) ?_
              refine lv_iload_n hx hb dX12_stacks_81 rfl (lv_at hl 4 rfl) ?_
              refine lv_iconst (v := 1) hx hb dX12_stacks_82 (by decide) ?_
              refine tw_Vc (o := a0) (ci := 12) (n := 5) (post := (fun v kq Lq Eq => (∃ x : Int32, v = some (.int x) ∧ (-2) ≤ x.toInt ∧ x.toInt ≤ 15 ∧ (x.toInt ≠ -1 ∧ ((1 : Int32).toInt ≠ 0 → (x.toInt = -2 ↔ un_w E80 a0 y3_4.toInt x1.toInt x2.toInt x3.toInt)) ∧ ((1 : Int32).toInt = 0 → (x.toInt = -2 ↔ un_p E80 a0 y3_4.toInt x1.toInt x2.toInt x3.toInt))) ∧ (rw_h E80 a0 x1.toInt (y3_4.toInt).toNat ≠ 0 → rw_h E80 a0 x2.toInt (y3_4.toInt).toNat ≠ 0 → (1 : Int32).toInt = 0 → rw_p E80 a0 x1.toInt (y3_4.toInt).toNat = rw_p E80 a0 x2.toInt (y3_4.toInt).toNat → x.toInt = x1.toInt)) ∧ kp = kq ∧ L = Lq ∧ E80 = Eq)) (As := [.int y3_4, .int x1, .int x2, .int x3, .int 1]) (rest := [.ref xr94, .int y3_4, .ref xr95]) ⟨hx, hb, hml, hown, hB⟩ (fun sz => tX12_sideOf l D cs a0 y3_4 x1 x2 x3 (1 : Int32) hm0 hk0 (by omega) (by omega) (by omega) (by omega) (by omega) (by omega) (by omega) (by omega) (by have : ((1 : Int32).toInt) = 1 := (by decide); omega) (by have : ((1 : Int32).toInt) = 1 := (by decide); omega) sz) cg_12_470_X12_sideOf rfl rfl (by decide +kernel) ⟨Nat.le_of_ble_eq_true rfl, Nat.le_of_ble_eq_true rfl⟩ hK hN TH hS hA rfl hm0 hk0 (by decide) rfl hl.1 rfl (Nat.le_of_ble_eq_true rfl) dX12_stacks_83 ⟨Nat.le_of_ble_eq_true rfl, Nat.le_of_ble_eq_true rfl⟩ (fun v96 kp96 L96 E96 H locs hq96 hx96 TH hS => ?_)
              obtain ⟨⟨xc97, rfl, hxc97a, hxc97b, hpoxc97_0, hpoxc97_1⟩, rfl, rfl, rfl⟩ := hq96
              refine W.eq (g2 := F0 m 86 ls [.int xc97, .ref xr94, .int y3_4, .ref xr95]) rfl ?_
              have hsd2 : 0 ≤ xc97.toInt := (by have e1 : ((1 : Int32).toInt) = 1 := (by decide); have e0 : ((0 : Int32).toInt) = 0 := (by decide); have oa := hcg3_1 (x1.toInt) (by omega) (by omega) (by omega); have ob := hcg3_1 (x2.toInt) (by omega) (by omega) (by omega); have oo := hcg3_1 (x3.toInt) (by omega) (by omega) (by omega); have hu := un_w_same oa.1 ob.1 oo.1 (hcg3_2 (x1.toInt) (by omega) (by omega) _ (by omega)) (hcg3_2 (x2.toInt) (by omega) (by omega) _ (by omega)) (hcg3_2 (x3.toInt) (by omega) (by omega) _ (by omega)) (st_ns_fr TH hF hm0 hk0 (by decide) (by decide) (n := y3_4.toInt) (kd := 2) (a := x1.toInt) (b := x2.toInt)); have z := hpoxc97_0.2.1 (by omega); have nu := hpre3.1 (y3_4.toInt) (by omega) hn26 (fun z => absurd z (by decide)); rw [← hu, ← z] at nu; have n1 := hpoxc97_0.1; omega)
              refine tw_aald (k := 317) (t0 := 6) (n := 16) (lo := 327) (hi := 0) (ty := .long) hx hb hK TH hmxr94 hkxr94 (by decide) rfl rfl (i := xc97) (vp_in_iff.mpr ⟨by  omega, by  omega⟩) dX12_stacks_86 (fun xr98 exr98 hmxr98 hkxr98 => ?_)
              have hkxr98 : kp xr98 = 327 := hkxr98
              refine lv_iload hx hb dX12_stacks_87 (lv_at hl 0 rfl) ?_
              refine tw_lald2 (k := 327) (n := 150) (lo := 0) (hi := 0) hx hb hK TH hmxr98 hkxr98 (by decide) rfl (i := y3_4) (vp_in_iff.mpr ⟨by  omega, by  omega⟩) dX12_stacks_89 (fun xl99 exl99 => ?_)
              refine tw_last2 (k := 327) (n := 150) (lo := 0) (hi := 0) hx hb hK TH hS hmxr95 hkxr95 (by decide) rfl (i := y3_4) (x := xl99) (vp_in_iff.mpr ⟨by  omega, by  omega⟩) dX12_stacks_90 (fun H locs E100 TH hS hp101 hp102 hp104 => ?_)
              have hst103 : tw_fr kp L [] [327] E80 E100 := tw_fr.ast tw_fr.rf (fun _ => hkxr95) hp101 hp102 (by decide)
              have hF := hF.tr hst103 (fun _ h => ⟨h, rfl⟩) (by decide) (by decide)
              have hG3 := hG3.tr hst103 (fun _ h => ⟨h, rfl⟩) (by decide) (by decide)
              have hG119 := hG119.tr hst103 (fun _ h => ⟨h, rfl⟩) (by decide) (by decide)
              have hmf105 : tw_fv E100 a0 16 = .ref xr39 := (hst103.1 a0 16 hm0 (by rw [hk0]; decide)).trans hmf85
              have hmf106 : tw_fv E100 a0 26 = .int xi41 := (hst103.1 a0 26 hm0 (by rw [hk0]; decide)).trans hmf86
              have hmf107 : tw_fv E100 a0 17 = .ref xr94 := (hst103.1 a0 17 hm0 (by rw [hk0]; decide)).trans hxr94
              have hcg3_0_o := hcg3_0
              have hcg3_1_o := hcg3_1
              have hcg3_2_o := hcg3_2
              have hcg3_3_o := hcg3_3
              have hcg3_0 : rd_ok E100 a0 := rd_ok_fr TH hst103 hm0 hk0 (by decide) (by decide) hcg3_0
              have hcg3_1 : ot_ok E100 a0 (13) E := ot_ok_fr TH hst103 hm0 hk0 (by decide) (by decide) hcg3_1
              have hcg3_2 : ww_ok E100 a0 E (y3_4.toInt + 1) := (fun i h0 h3 j hj => (rw_w_col TH hm0 hk0 hkxr95 hp101 hp102 hp104 (c := y3_4) (by omega)).trans (hcg3_2_o i h0 h3 j (by omega)))
              have hcg3_3 : sx_ok E100 a0 E (x1.toInt) (x2.toInt) (y3_4.toInt) := sx_ok_fr TH hst103 hm0 hk0 (by decide) (by decide) hcg3_3
              have h13w : rw_h E100 a0 13 (y3_4.toInt).toNat = ((1 : Int32).toInt) := (by rw [rw_h_fr TH hst103 hm0 hk0 (by decide) (by decide) (by decide) (i := 13) (by decide)]; exact h13n)
              refine lv_aload_n hx hb dX12_stacks_91 rfl (lv_at hl 1 rfl) ?_
              refine tw_get (ci := 12) (C := RX12) (T := TX12) (N := 64) hx hb hB cx_inX12 hown hK TH hm0 hk0 rfl ⟨by decide, rfl⟩ 18 (by decide) cw_1211 (fun _ h9 => h9) dX12_stacks_92 (fun hv => ?_)
              obtain ⟨xr108, hxr108, hmxr108, hkxr108⟩ : ∃ a : Nat, tw_fv E100 a0 18 = .ref a ∧ a ∈ L ∧ kp a = 318 := hv
              rw [hxr108]
              refine lv_bipush (v := 13) hx hb dX12_stacks_95 (by decide) ?_
              refine tw_aald (k := 318) (t0 := 4) (n := 16) (lo := 328) (hi := 0) (ty := .int) hx hb hK TH hmxr108 hkxr108 (by decide) rfl rfl (i := 13) (vp_in_iff.mpr ⟨by have : ((13 : Int32).toInt) = 13 := (by decide); omega, by have : ((13 : Int32).toInt) = 13 := (by decide); omega⟩) dX12_stacks_97 (fun xr109 exr109 hmxr109 hkxr109 => ?_)
              have hkxr109 : kp xr109 = 328 := hkxr109
              refine lv_iload hx hb dX12_stacks_98 (lv_at hl 0 rfl) ?_
              refine lv_aload_n hx hb dX12_stacks_100 rfl (lv_at hl 1 rfl) ?_
              refine tw_get (ci := 12) (C := RX12) (T := TX12) (N := 64) hx hb hB cx_inX12 hown hK TH hm0 hk0 rfl ⟨by decide, rfl⟩ 18 (by decide) cw_1211 (fun _ h9 => h9) dX12_stacks_101 (fun hv => ?_)
              rw [hxr108]
              refine lv_aload_n hx hb dX12_stacks_104 rfl (lv_at hl 1 rfl) ?_
              refine lv_iload hx hb dX12_stacks_105 (lv_at hl 0 rfl) ?_
              refine lv_iload_n hx hb dX12_stacks_107 rfl (lv_at hl 2 rfl) ?_
              refine lv_iload_n hx hb dX12_stacks_108 rfl (lv_at hl 3 rfl) ?_
              refine lv_iload_n hx hb dX12_stacks_109 rfl (lv_at hl 4 rfl) ?_
              refine lv_iconst (v := 0) hx hb dX12_stacks_110 (by decide) ?_
              refine tw_Vc (o := a0) (ci := 12) (n := 5) (post := (fun v kq Lq Eq => (∃ x : Int32, v = some (.int x) ∧ (-2) ≤ x.toInt ∧ x.toInt ≤ 15 ∧ (x.toInt ≠ -1 ∧ ((0 : Int32).toInt ≠ 0 → (x.toInt = -2 ↔ un_w E100 a0 y3_4.toInt x1.toInt x2.toInt x3.toInt)) ∧ ((0 : Int32).toInt = 0 → (x.toInt = -2 ↔ un_p E100 a0 y3_4.toInt x1.toInt x2.toInt x3.toInt))) ∧ (rw_h E100 a0 x1.toInt (y3_4.toInt).toNat ≠ 0 → rw_h E100 a0 x2.toInt (y3_4.toInt).toNat ≠ 0 → (0 : Int32).toInt = 0 → rw_p E100 a0 x1.toInt (y3_4.toInt).toNat = rw_p E100 a0 x2.toInt (y3_4.toInt).toNat → x.toInt = x1.toInt)) ∧ kp = kq ∧ L = Lq ∧ E100 = Eq)) (As := [.int y3_4, .int x1, .int x2, .int x3, .int 0]) (rest := [.ref xr108, .int y3_4, .ref xr109]) ⟨hx, hb, hml, hown, hB⟩ (fun sz => tX12_sideOf l D cs a0 y3_4 x1 x2 x3 (0 : Int32) hm0 hk0 (by omega) (by omega) (by omega) (by omega) (by omega) (by omega) (by omega) (by omega) (by have : ((0 : Int32).toInt) = 0 := (by decide); omega) (by have : ((0 : Int32).toInt) = 0 := (by decide); omega) sz) cg_12_470_X12_sideOf rfl rfl (by decide +kernel) ⟨Nat.le_of_ble_eq_true rfl, Nat.le_of_ble_eq_true rfl⟩ hK hN TH hS hA rfl hm0 hk0 (by decide) rfl hl.1 rfl (Nat.le_of_ble_eq_true rfl) dX12_stacks_111 ⟨Nat.le_of_ble_eq_true rfl, Nat.le_of_ble_eq_true rfl⟩ (fun v110 kp110 L110 E110 H locs hq110 hx110 TH hS => ?_)
              obtain ⟨⟨xc111, rfl, hxc111a, hxc111b, hpoxc111_0, hpoxc111_1⟩, rfl, rfl, rfl⟩ := hq110
              refine W.eq (g2 := F0 m 114 ls [.int xc111, .ref xr108, .int y3_4, .ref xr109]) rfl ?_
              have hsd3 : 0 ≤ xc111.toInt := (by have e1 : ((1 : Int32).toInt) = 1 := (by decide); have e0 : ((0 : Int32).toInt) = 0 := (by decide); have oa := hcg3_1 (x1.toInt) (by omega) (by omega) (by omega); have ob := hcg3_1 (x2.toInt) (by omega) (by omega) (by omega); have oo := hcg3_1 (x3.toInt) (by omega) (by omega) (by omega); have hu := un_p_same oa.1 ob.1 oo.1 oa.2 ob.2 oo.2 (st_ns_fr TH hF hm0 hk0 (by decide) (by decide) (n := y3_4.toInt) (kd := 3) (a := x1.toInt) (b := x2.toInt)); have z := hpoxc111_0.2.2 (by omega); have nu := hpre3.2 (y3_4.toInt) (by omega) hn26 (by decide) (fun z => absurd z (by decide)); rw [← hu, ← z] at nu; have n1 := hpoxc111_0.1; omega)
              refine tw_aald (k := 318) (t0 := 4) (n := 16) (lo := 328) (hi := 0) (ty := .int) hx hb hK TH hmxr108 hkxr108 (by decide) rfl rfl (i := xc111) (vp_in_iff.mpr ⟨by  omega, by  omega⟩) dX12_stacks_114 (fun xr112 exr112 hmxr112 hkxr112 => ?_)
              have hkxr112 : kp xr112 = 328 := hkxr112
              refine lv_iload hx hb dX12_stacks_115 (lv_at hl 0 rfl) ?_
              refine tw_iald (k := 328) (t0 := 0) (n := 150) (lo := (-1)) (hi := 149) hx hb hK TH hmxr112 hkxr112 (by decide) rfl rfl (i := y3_4) (vp_in_iff.mpr ⟨by  omega, by  omega⟩) dX12_stacks_117 (fun hxe113a hxe113b => ?_)
              obtain ⟨xe113, exe113⟩ : ∃ z : Int32, tw_iv E100 xr112 (Int32.toNatClampNeg y3_4) = z := ⟨_, rfl⟩
              rw [exe113] at hxe113a hxe113b ⊢
              refine tw_iast (k := 328) (n := 150) (lo := (-1)) (hi := 149) hx hb hK TH hS hmxr109 hkxr109 (by decide) rfl (i := y3_4) (x := xe113) (vp_in_iff.mpr ⟨by  omega, by  omega⟩) (by omega) (by omega) dX12_stacks_118 (fun H locs E114 TH hS hp115 hp116 hp117 => ?_)
              have hst118 : tw_fr kp L [] [328] E100 E114 := tw_fr.ast tw_fr.rf (fun _ => hkxr109) hp115 hp116 (by decide)
              have hF := hF.tr hst118 (fun _ h => ⟨h, rfl⟩) (by decide) (by decide)
              have hG3 := hG3.tr hst118 (fun _ h => ⟨h, rfl⟩) (by decide) (by decide)
              have hG119 := hG119.tr hst118 (fun _ h => ⟨h, rfl⟩) (by decide) (by decide)
              have hmf119 : tw_fv E114 a0 16 = .ref xr39 := (hst118.1 a0 16 hm0 (by rw [hk0]; decide)).trans hmf105
              have hmf120 : tw_fv E114 a0 26 = .int xi41 := (hst118.1 a0 26 hm0 (by rw [hk0]; decide)).trans hmf106
              have hmf121 : tw_fv E114 a0 17 = .ref xr94 := (hst118.1 a0 17 hm0 (by rw [hk0]; decide)).trans hmf107
              have hmf122 : tw_fv E114 a0 18 = .ref xr108 := (hst118.1 a0 18 hm0 (by rw [hk0]; decide)).trans hxr108
              have hcg3_0_o := hcg3_0
              have hcg3_1_o := hcg3_1
              have hcg3_2_o := hcg3_2
              have hcg3_3_o := hcg3_3
              have hcg3_0 : rd_ok E114 a0 := rd_ok_fr TH hst118 hm0 hk0 (by decide) (by decide) hcg3_0
              have hcg3_1 : ot_ok E114 a0 (13) E := (by have e13 : ((13 : Int32).toInt) = 13 := (by decide); have q := ot_ok_p (i := 13) TH hm0 hk0 hcg3_0_o hxr108 exr109 hkxr108 hkxr109 hp115 hp116 (by omega) (by omega) (show ot_ok _ _ _ _ from (by rw [e13]; exact hcg3_1_o)); rw [e13] at q; exact q)
              have hcg3_2 : ww_ok E114 a0 E (y3_4.toInt + 1) := ww_ok_fr TH hst118 hm0 hk0 (by decide) (by decide) hcg3_2
              have hcg3_3 : sx_ok E114 a0 E (x1.toInt) (x2.toInt) (y3_4.toInt + 1) := (by have e13 : ((13 : Int32).toInt) = 13 := (by decide); have e0 : ((0 : Int32).toInt) = 0 := (by decide); have oa := hcg3_1_o (x1.toInt) (by omega) (by omega) (by omega); have ob := hcg3_1_o (x2.toInt) (by omega) (by omega) (by omega); have oo := hcg3_1_o (x3.toInt) (by omega) (by omega) (by omega); have rf_xe113 : rw_p E100 a0 (xc111.toInt) (y3_4.toInt).toNat = xe113.toInt := rw_p_of (m := a0) (i := xc111) (c := y3_4) hxr108 exr112 exe113; have q := rw_p_st (m := a0) (i := 13) (c := y3_4) hxr108 exr109 hkxr108 hkxr109 hp115 hp116 hp117; rw [e13] at q; refine sx_push1 hcg3_3_o (by omega) hn26 ?_ (rw_h_pst TH hm0 hk0 hkxr109 hp115 hp116 (i := 13) (by decide)) q (fun z1 z2 z3 z4 => ?_); (rw [h13w]; decide); (rw [← oa.1] at z1; rw [← ob.1] at z2; rw [← oa.2] at z3; rw [← ob.2] at z4; have zz := hpoxc111_1 z1 z2 (by omega) (z3.trans z4.symm); rw [zz, z3] at rf_xe113; omega))
              exact hJ119  _ _ _ ls hG119 hcg3_0 hcg3_1 hcg3_2 hcg3_3 TH hS (lv_sub hl [0, 1, 2, 3, 4] rfl)
            · have hf123 : xe88.toInt = 0 := by have z := (fa_eq _ _).mp hc92; have : ((0 : Int32).toInt) = 0 := (by decide); omega
              have rf_xe88 : rw_h E80 a0 (13) (y3_4.toInt).toNat = xe88.toInt := (by have q := rw_h_of (m := a0) (i := (13 : Int32)) (c := y3_4) hmf85 exr87 exe88; rw [show ((13 : Int32).toInt) = 13 from (by decide)] at q; exact q)
              exfalso
              have e1 : ((1 : Int32).toInt) = 1 := (by decide)
              have e0 : ((0 : Int32).toInt) = 0 := (by decide)
              (try rw [h13n] at rf_xe88)
              omega
  exact hJ3 151 (0 : Int32) _ _ _ ls (by have : ((0 : Int32).toInt) = 0 := (by decide); omega) (by have : ((0 : Int32).toInt) = 0 := (by decide); omega) (by have : ((0 : Int32).toInt) = 0 := (by decide);  omega) tw_fr.rf hg2 hot (ww_ok_cast (by have : ((0 : Int32).toInt) = 0 := (by decide); omega) hww) (sx_ok_cast (by have : ((0 : Int32).toInt) = 0 := (by decide); omega) hsx) TH hS (lv_sub hl [0, 1, 2, 3, 4] rfl)
