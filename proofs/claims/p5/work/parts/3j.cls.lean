set_option maxHeartbeats 4000000 in
set_option maxRecDepth 100000 in
theorem tX12_lays (l : Launch) (D : va_G) (cs : Nat → ClassId) {kp : Nat → Nat} {L : List Nat} {E : Nat → va_E} (a0 : Nat) (x1 : Int32) (x2 : Int32) (x3 : Int32) (hm0 : a0 ∈ L) (hk0 : kp a0 = 12) (hp1a : 0 ≤ x1.toInt) (hp1b : x1.toInt ≤ 149) (hp2a : 0 ≤ x2.toInt) (hp2b : x2.toInt ≤ 149) (hg0 : lyw_ok E a0 (x1.toInt) (x2.toInt)) (hg1 : rd_ok E a0) (hg2 : eo_ok E a0) (hg3 : ht_ok E a0) (sz : Nat) : Met l yX12_lays (.code yX12_lays cX12_lays 5 none :: cx_big) { frames := 4, cells := 0, slots := 0, locals := 98 } (tw_P D cs kp L E [.ref a0, .int x1, .int x2, .int x3] sz) (tw_Q D cs kp L (fun v kq Lq Eq => v = none ∧ kp = kq ∧ L = Lq ∧ tw_fr kp L [] [326, 328, 329] E Eq ∧ (∀ c : Nat, rw_h Eq a0 12 c = if c = (x1.toInt).toNat then 1 else rw_h E a0 12 c) ∧ (∀ c : Nat, rw_p Eq a0 12 c = if c = (x1.toInt).toNat then x2.toInt else rw_p E a0 12 c) ∧ (ot_ok Eq a0 12 E) ∧ rw_ok Eq a0 (12) ∧ rd_ok Eq a0 ∧ eo_ok Eq a0 ∧ ht_ok Eq a0) (va_A (va_pl L E) sz)) 0 0 (va_A (va_pl L E) sz) := by
  refine tw_ofW (by decide) (Nat.le_of_ble_eq_true rfl) ?_
  intro p e s m below meth c A ls hx hb hr hml hB hown hlocks hK hN hA TH hS hl
  have hown : s.vm.findClass "TreeMergeModel" = some m.cls := hown
  have hl : lv_has ls 5 [(0, .ref a0), (1, .int x1), (2, .int x2), (3, .int x3)] := hl
  obtain ⟨kp0, ekp⟩ : ∃ z, z = kp := ⟨_, rfl⟩
  obtain ⟨L0, eL⟩ : ∃ z, z = L := ⟨_, rfl⟩
  rw [show tw_Q D cs kp L = tw_Q D cs kp0 L0 by rw [ekp, eL]]
  have hex : ∀ a : Nat, a ∈ L0 → a ∈ L ∧ kp a = kp0 a := fun a h => ⟨by rw [← eL]; exact h, by rw [ekp]⟩
  have hF : tw_fr kp L [] [326, 328, 329] E E := tw_fr.rf
  have hh12 : h12_ok E a0 (rw_h E a0 12) := rfl
  have hp12 : p12_ok E a0 (rw_p E a0 12) := rfl
  have hot : ot_ok E a0 12 E := ot_ok_rf
  refine lv_aload_n hx hb dX12_lays_0 rfl (lv_at hl 0 rfl) ?_
  refine lv_iload_n hx hb dX12_lays_1 rfl (lv_at hl 2 rfl) ?_
  refine tw_Vc (o := a0) (ci := 12) (n := 1) (post := (fun v kq Lq Eq => v = none ∧ kp = kq ∧ L = Lq ∧ tw_fr kp L [] [329] E Eq)) (As := [.int x2]) (rest := []) ⟨hx, hb, hml, hown, hB⟩ (fun sz => tX12_shrinks l D cs a0 x2 hm0 hk0 sz) cg_12_422_X12_shrinks rfl rfl (by decide +kernel) ⟨Nat.le_of_ble_eq_true rfl, Nat.le_of_ble_eq_true rfl⟩ hK hN TH hS hA rfl hm0 hk0 (by decide) rfl hl.1 rfl (Nat.le_of_ble_eq_true rfl) dX12_lays_2 ⟨Nat.le_of_ble_eq_true rfl, Nat.le_of_ble_eq_true rfl⟩ (fun v1 kp1 L1 E1 H locs hq1 hx1 TH hS => ?_)
  obtain ⟨rfl, rfl, rfl, hst1⟩ := hq1
  have hF := hF.tr hst1 (fun _ h => ⟨h, rfl⟩) (by decide) (by decide)
  have hg0 : lyw_ok E1 a0 (x1.toInt) (x2.toInt) := lyw_ok_fr TH hst1 hm0 hk0 (by decide) (by decide) hg0
  have hg1 : rd_ok E1 a0 := rd_ok_fr TH hst1 hm0 hk0 (by decide) (by decide) hg1
  have hg2 : eo_ok E1 a0 := eo_ok_fr TH hst1 hm0 hk0 (by decide) (by decide) hg2
  have hg3 : ht_ok E1 a0 := ht_ok_fr TH hst1 hm0 hk0 (by decide) (by decide) hg3
  have hh12 : h12_ok E1 a0 (rw_h E a0 12) := h12_ok_fr TH hst1 hm0 hk0 (by decide) (by decide) hh12
  have hp12 : p12_ok E1 a0 (rw_p E a0 12) := p12_ok_fr TH hst1 hm0 hk0 (by decide) (by decide) hp12
  have hot : ot_ok E1 a0 (12) E := ot_ok_fr TH hst1 hm0 hk0 (by decide) (by decide) hot
  refine W.eq (g2 := F0 m 5 ls []) rfl ?_
  refine lv_iconst (v := 0) hx hb dX12_lays_5 (by decide) ?_
  refine lv_istore (lv' := [(4, .int 0), (0, .ref a0), (1, .int x1), (2, .int x2), (3, .int x3)]) hx hb dX12_lays_6 hl (by decide) rfl (fun ls hl => ?_)
  have hJ8 : ∀ (n8 : Nat) (y8_4 : Int32) (Eg8 : Nat → va_E) (H : Heap) (locs : List Loc) (ls : Array Slot), 0 ≤ y8_4.toInt → y8_4.toInt ≤ 150 → 150 - y8_4.toInt ≤ (n8 : Int) → tw_fr kp L [] [329] E1 Eg8 → lyw_ok Eg8 a0 (x1.toInt) (x2.toInt) → rd_ok Eg8 a0 → eo_ok Eg8 a0 → ht_ok Eg8 a0 → h12_ok Eg8 a0 (rw_h E a0 12) → p12_ok Eg8 a0 (rw_p E a0 12) → ot_ok Eg8 a0 (12) E → tw_H D cs kp L Eg8 A H → va_S A s.heap H locs → lv_has ls 5 [(4, .int y8_4), (0, .ref a0), (1, .int x1), (2, .int x2), (3, .int x3)] → W p l e { frames := 4, cells := 0, slots := 0, locals := 98 } s m [.ref a0, .int x1, .int x2, .int x3].toArray below meth c H locs 0 0 (MQ below (tw_Q D cs kp0 L0 (fun v kq Lq Eq => v = none ∧ kp = kq ∧ L = Lq ∧ tw_fr kp L [] [326, 328, 329] E Eq ∧ (∀ c : Nat, rw_h Eq a0 12 c = if c = (x1.toInt).toNat then 1 else rw_h E a0 12 c) ∧ (∀ c : Nat, rw_p Eq a0 12 c = if c = (x1.toInt).toNat then x2.toInt else rw_p E a0 12 c) ∧ (ot_ok Eq a0 12 E) ∧ rw_ok Eq a0 (12) ∧ rd_ok Eq a0 ∧ eo_ok Eq a0 ∧ ht_ok Eq a0) A) [.ref a0, .int x1, .int x2, .int x3].toArray s 0 0 A) (F0 m 8 ls []) := by
    intro n8
    induction n8 using Nat.strongRecOn with
    | _ n8 ih8 =>
      intro y8_4 Eg8 H locs ls hy8_4a hy8_4b hmeas8 hG8 hg0 hg1 hg2 hg3 hh12 hp12 hot TH hS hl
      have hF := hF.tr hG8 (fun _ h => ⟨h, rfl⟩) (by decide) (by decide)
      refine lv_iload hx hb dX12_lays_8 (lv_at hl 0 rfl) ?_
      refine lv_sipush (v := 150) hx hb dX12_lays_10 (by decide) ?_
      refine lv_icmp_ge (tgt := 77) hx hb dX12_lays_13 (by decide) (fun hc3 => ?_) (fun hc3 => ?_)
      · have hf4 : 150 ≤ y8_4.toInt := by have z := (fa_le _ _).mp hc3; have : ((150 : Int32).toInt) = 150 := (by decide); omega
        refine lv_aload_n hx hb dX12_lays_77 rfl (lv_at hl 1 rfl) ?_
        refine tw_get (ci := 12) (C := RX12) (T := TX12) (N := 64) hx hb hB cx_inX12 hown hK TH hm0 hk0 rfl ⟨by decide, rfl⟩ 16 (by decide) cw_1209 (fun _ h9 => h9) dX12_lays_78 (fun hv => ?_)
        obtain ⟨xr5, hxr5, hmxr5, hkxr5⟩ : ∃ a : Nat, tw_fv Eg8 a0 16 = .ref a ∧ a ∈ L ∧ kp a = 316 := hv
        rw [hxr5]
        refine lv_bipush (v := 12) hx hb dX12_lays_81 (by decide) ?_
        refine tw_aald (k := 316) (t0 := 5) (n := 16) (lo := 326) (hi := 0) (ty := .boolean) hx hb hK TH hmxr5 hkxr5 (by decide) rfl rfl (i := 12) (vp_in_iff.mpr ⟨by have : ((12 : Int32).toInt) = 12 := (by decide); omega, by have : ((12 : Int32).toInt) = 12 := (by decide); omega⟩) dX12_lays_83 (fun xr6 exr6 hmxr6 hkxr6 => ?_)
        have hkxr6 : kp xr6 = 326 := hkxr6
        refine lv_iload_n hx hb dX12_lays_84 rfl (lv_at hl 2 rfl) ?_
        refine lv_iconst (v := 1) hx hb dX12_lays_85 (by decide) ?_
        have hlyo := hg0
        refine tw_zast (k := 326) (n := 150) (lo := 0) (hi := 1) hx hb hK TH hS hmxr6 hkxr6 (by decide) rfl (i := x1) (x := 1) (vp_in_iff.mpr ⟨by  omega, by  omega⟩) (by have : ((1 : Int32).toInt) = 1 := (by decide); omega) (by have : ((1 : Int32).toInt) = 1 := (by decide); omega) (by have : ((1 : Int32).toInt) = 1 := (by decide); omega) (by have : ((1 : Int32).toInt) = 1 := (by decide); omega) dX12_lays_86 (fun H locs E7 TH hS hp8 hp9 hp10 => ?_)
        have hst11 : tw_fr kp L [] [326] Eg8 E7 := tw_fr.ast tw_fr.rf (fun _ => hkxr6) hp8 hp9 (by decide)
        have hF := hF.tr hst11 (fun _ h => ⟨h, rfl⟩) (by decide) (by decide)
        have hmf12 : tw_fv E7 a0 16 = .ref xr5 := (hst11.1 a0 16 hm0 (by rw [hk0]; decide)).trans hxr5
        have hg0_o := hg0
        have hg1_o := hg1
        have hg2_o := hg2
        have hg3_o := hg3
        have hh12_o := hh12
        have hp12_o := hp12
        have hot_o := hot
        have hg1 : rd_ok E7 a0 := rd_ok_fr TH hst11 hm0 hk0 (by decide) (by decide) hg1
        have hg2 : eo_ok E7 a0 := eo_ok_h (i := 12) TH hm0 hk0 hg1_o hxr5 exr6 hkxr5 hkxr6 hp8 hp9 (by have e : ((12 : Int32).toInt) = 12 := (by decide); omega) (by have e : ((12 : Int32).toInt) = 12 := (by decide); omega) (by have := tw_fi_ed TH hm0 hk0; have e : ((12 : Int32).toInt) = 12 := (by decide); omega) hg2_o
        have hg3 : ht_ok E7 a0 := ht_ok_h (i := 12) hg1_o hxr5 exr6 hkxr5 hkxr6 hp8 hp9 (by have e : ((12 : Int32).toInt) = 12 := (by decide); omega) (by have e : ((12 : Int32).toInt) = 12 := (by decide); omega) hg3_o
        have hh12 : h12_ok E7 a0 (fun c => if c = (x1.toInt).toNat then 1 else (rw_h E a0 12) c) := (by have e12 : ((12 : Int32).toInt) = 12 := (by decide); have ev : ((1 : Int32).toInt) = 1 := (by decide); have q := rw_h_st (m := a0) (i := 12) (c := x1) hxr5 exr6 hkxr5 hkxr6 hp8 hp9 hp10; rw [e12, ev] at q; exact h12_st hh12_o q)
        have hp12 : p12_ok E7 a0 (rw_p E a0 12) := p12_ok_fr TH hst11 hm0 hk0 (by decide) (by decide) hp12
        have hot : ot_ok E7 a0 (12) E := (by have e12 : ((12 : Int32).toInt) = 12 := (by decide); have q := ot_ok_h (i := 12) TH hm0 hk0 hg1_o hxr5 exr6 hkxr5 hkxr6 hp8 hp9 (by omega) (by omega) (show ot_ok _ _ _ _ from (by rw [e12]; exact hot_o)); rw [e12] at q; exact q)
        have hgn13 : lyx_ok E7 a0 (x1.toInt) (x2.toInt) := (by have e12 : ((12 : Int32).toInt) = 12 := (by decide); have e1 : ((1 : Int32).toInt) = 1 := (by decide); have q := rw_h_st (m := a0) (i := 12) (c := x1) hxr5 exr6 hkxr5 hkxr6 hp8 hp9 hp10; rw [e12, e1] at q; exact lyx_of hlyo q (rw_p_hst TH hm0 hk0 hkxr6 hp8 hp9 (i := 12) (by decide)))
        refine lv_aload_n hx hb dX12_lays_87 rfl (lv_at hl 1 rfl) ?_
        refine tw_get (ci := 12) (C := RX12) (T := TX12) (N := 64) hx hb hB cx_inX12 hown hK TH hm0 hk0 rfl ⟨by decide, rfl⟩ 18 (by decide) cw_1211 (fun _ h9 => h9) dX12_lays_88 (fun hv => ?_)
        obtain ⟨xr14, hxr14, hmxr14, hkxr14⟩ : ∃ a : Nat, tw_fv E7 a0 18 = .ref a ∧ a ∈ L ∧ kp a = 318 := hv
        rw [hxr14]
        refine lv_bipush (v := 12) hx hb dX12_lays_91 (by decide) ?_
        refine tw_aald (k := 318) (t0 := 4) (n := 16) (lo := 328) (hi := 0) (ty := .int) hx hb hK TH hmxr14 hkxr14 (by decide) rfl rfl (i := 12) (vp_in_iff.mpr ⟨by have : ((12 : Int32).toInt) = 12 := (by decide); omega, by have : ((12 : Int32).toInt) = 12 := (by decide); omega⟩) dX12_lays_93 (fun xr15 exr15 hmxr15 hkxr15 => ?_)
        have hkxr15 : kp xr15 = 328 := hkxr15
        refine lv_iload_n hx hb dX12_lays_94 rfl (lv_at hl 2 rfl) ?_
        refine lv_iload_n hx hb dX12_lays_95 rfl (lv_at hl 3 rfl) ?_
        have hlxo := hgn13
        refine tw_iast (k := 328) (n := 150) (lo := (-1)) (hi := 149) hx hb hK TH hS hmxr15 hkxr15 (by decide) rfl (i := x1) (x := x2) (vp_in_iff.mpr ⟨by  omega, by  omega⟩) (by omega) (by omega) dX12_lays_96 (fun H locs E16 TH hS hp17 hp18 hp19 => ?_)
        have hst20 : tw_fr kp L [] [328] E7 E16 := tw_fr.ast tw_fr.rf (fun _ => hkxr15) hp17 hp18 (by decide)
        have hF := hF.tr hst20 (fun _ h => ⟨h, rfl⟩) (by decide) (by decide)
        have hmf21 : tw_fv E16 a0 16 = .ref xr5 := (hst20.1 a0 16 hm0 (by rw [hk0]; decide)).trans hmf12
        have hmf22 : tw_fv E16 a0 18 = .ref xr14 := (hst20.1 a0 18 hm0 (by rw [hk0]; decide)).trans hxr14
        have hg1_o := hg1
        have hg2_o := hg2
        have hg3_o := hg3
        have hh12_o := hh12
        have hp12_o := hp12
        have hot_o := hot
        have hgn13_o := hgn13
        have hg1 : rd_ok E16 a0 := rd_ok_fr TH hst20 hm0 hk0 (by decide) (by decide) hg1
        have hg2 : eo_ok E16 a0 := eo_ok_p (i := 12) TH hm0 hk0 hg1_o hxr14 exr15 hkxr14 hkxr15 hp17 hp18 (by have e : ((12 : Int32).toInt) = 12 := (by decide); omega) (by have e : ((12 : Int32).toInt) = 12 := (by decide); omega) (by have := tw_fi_ed TH hm0 hk0; have e : ((12 : Int32).toInt) = 12 := (by decide); omega) hg2_o
        have hg3 : ht_ok E16 a0 := ht_ok_fr TH hst20 hm0 hk0 (by decide) (by decide) hg3
        have hh12 : h12_ok E16 a0 (fun c => if c = (x1.toInt).toNat then 1 else (rw_h E a0 12) c) := h12_ok_fr TH hst20 hm0 hk0 (by decide) (by decide) hh12
        have hp12 : p12_ok E16 a0 (fun c => if c = (x1.toInt).toNat then x2.toInt else (rw_p E a0 12) c) := (by have e12 : ((12 : Int32).toInt) = 12 := (by decide); have q := rw_p_st (m := a0) (i := 12) (c := x1) hxr14 exr15 hkxr14 hkxr15 hp17 hp18 hp19; rw [e12] at q; exact p12_st hp12_o q)
        have hot : ot_ok E16 a0 (12) E := (by have e12 : ((12 : Int32).toInt) = 12 := (by decide); have q := ot_ok_p (i := 12) TH hm0 hk0 hg1_o hxr14 exr15 hkxr14 hkxr15 hp17 hp18 (by omega) (by omega) (show ot_ok _ _ _ _ from (by rw [e12]; exact hot_o)); rw [e12] at q; exact q)
        have hgn23 : rw_ok E16 a0 (12) := (by have e12 : ((12 : Int32).toInt) = 12 := (by decide); have q := rw_p_st (m := a0) (i := 12) (c := x1) hxr14 exr15 hkxr14 hkxr15 hp17 hp18 hp19; rw [e12] at q; exact rw_of_lyx hlxo (rw_h_pst TH hm0 hk0 hkxr15 hp17 hp18 (i := 12) (by decide)) q)
        refine lv_aload_n hx hb dX12_lays_97 rfl (lv_at hl 1 rfl) ?_
        refine tw_get (ci := 12) (C := RX12) (T := TX12) (N := 64) hx hb hB cx_inX12 hown hK TH hm0 hk0 rfl ⟨by decide, rfl⟩ 19 (by decide) cw_1212 (fun _ h9 => h9) dX12_lays_98 (fun hv => ?_)
        obtain ⟨xr24, hxr24, hmxr24, hkxr24⟩ : ∃ a : Nat, tw_fv E16 a0 19 = .ref a ∧ a ∈ L ∧ kp a = 319 := hv
        rw [hxr24]
        refine lv_bipush (v := 12) hx hb dX12_lays_101 (by decide) ?_
        refine tw_aald (k := 319) (t0 := 4) (n := 16) (lo := 329) (hi := 0) (ty := .int) hx hb hK TH hmxr24 hkxr24 (by decide) rfl rfl (i := 12) (vp_in_iff.mpr ⟨by have : ((12 : Int32).toInt) = 12 := (by decide); omega, by have : ((12 : Int32).toInt) = 12 := (by decide); omega⟩) dX12_lays_103 (fun xr25 exr25 hmxr25 hkxr25 => ?_)
        have hkxr25 : kp xr25 = 329 := hkxr25
        refine lv_iload_n hx hb dX12_lays_104 rfl (lv_at hl 2 rfl) ?_
        refine lv_iload_n hx hb dX12_lays_105 rfl (lv_at hl 4 rfl) ?_
        refine tw_iast (k := 329) (n := 150) (lo := (-2147483648)) (hi := 2147483647) hx hb hK TH hS hmxr25 hkxr25 (by decide) rfl (i := x1) (x := x3) (vp_in_iff.mpr ⟨by  omega, by  omega⟩) (ia_lo _) (ia_hi _) dX12_lays_106 (fun H locs E26 TH hS hp27 hp28 hp29 => ?_)
        have hst30 : tw_fr kp L [] [329] E16 E26 := tw_fr.ast tw_fr.rf (fun _ => hkxr25) hp27 hp28 (by decide)
        have hF := hF.tr hst30 (fun _ h => ⟨h, rfl⟩) (by decide) (by decide)
        have hmf31 : tw_fv E26 a0 16 = .ref xr5 := (hst30.1 a0 16 hm0 (by rw [hk0]; decide)).trans hmf21
        have hmf32 : tw_fv E26 a0 18 = .ref xr14 := (hst30.1 a0 18 hm0 (by rw [hk0]; decide)).trans hmf22
        have hmf33 : tw_fv E26 a0 19 = .ref xr24 := (hst30.1 a0 19 hm0 (by rw [hk0]; decide)).trans hxr24
        have hg1 : rd_ok E26 a0 := rd_ok_fr TH hst30 hm0 hk0 (by decide) (by decide) hg1
        have hg2 : eo_ok E26 a0 := eo_ok_fr TH hst30 hm0 hk0 (by decide) (by decide) hg2
        have hg3 : ht_ok E26 a0 := ht_ok_fr TH hst30 hm0 hk0 (by decide) (by decide) hg3
        have hh12 : h12_ok E26 a0 (fun c => if c = (x1.toInt).toNat then 1 else (rw_h E a0 12) c) := h12_ok_fr TH hst30 hm0 hk0 (by decide) (by decide) hh12
        have hp12 : p12_ok E26 a0 (fun c => if c = (x1.toInt).toNat then x2.toInt else (rw_p E a0 12) c) := p12_ok_fr TH hst30 hm0 hk0 (by decide) (by decide) hp12
        have hot : ot_ok E26 a0 (12) E := ot_ok_fr TH hst30 hm0 hk0 (by decide) (by decide) hot
        have hgn23 : rw_ok E26 a0 (12) := rw_ok_fr TH hst30 hm0 hk0 (by decide) (by decide) (by omega) hgn23
        refine lv_aload_n hx hb dX12_lays_107 rfl (lv_at hl 1 rfl) ?_
        refine lv_bipush (v := 12) hx hb dX12_lays_108 (by decide) ?_
        refine tw_Vc (o := a0) (ci := 12) (n := 1) (post := (fun v kq Lq Eq => v = none ∧ kp = kq ∧ L = Lq ∧ tw_fr kp L [] [329] E26 Eq ∧ ht_ok Eq a0 ∧ t1_ok Eq a0 ((12 : Int32).toInt))) (As := [.int 12]) (rest := []) ⟨hx, hb, hml, hown, hB⟩ (fun sz => tX12_orders l D cs a0 (12 : Int32) hm0 hk0 (by have : ((12 : Int32).toInt) = 12 := (by decide); omega) (by have : ((12 : Int32).toInt) = 12 := (by decide); omega) hg3 (t1_ok_cast (i := 12) (by decide) (hgn23).1) sz) cg_12_275_X12_orders rfl rfl (by decide +kernel) ⟨Nat.le_of_ble_eq_true rfl, Nat.le_of_ble_eq_true rfl⟩ hK hN TH hS hA rfl hm0 hk0 (by decide) rfl hl.1 rfl (Nat.le_of_ble_eq_true rfl) dX12_lays_110 ⟨Nat.le_of_ble_eq_true rfl, Nat.le_of_ble_eq_true rfl⟩ (fun v34 kp34 L34 E34 H locs hq34 hx34 TH hS => ?_)
        obtain ⟨rfl, rfl, rfl, hst34, hgpxc35_0, hgpxc35_1⟩ := hq34
        have hF := hF.tr hst34 (fun _ h => ⟨h, rfl⟩) (by decide) (by decide)
        have hmf36 : tw_fv E34 a0 16 = .ref xr5 := (hst34.1 a0 16 hm0 (by rw [hk0]; decide)).trans hmf31
        have hmf37 : tw_fv E34 a0 18 = .ref xr14 := (hst34.1 a0 18 hm0 (by rw [hk0]; decide)).trans hmf32
        have hmf38 : tw_fv E34 a0 19 = .ref xr24 := (hst34.1 a0 19 hm0 (by rw [hk0]; decide)).trans hmf33
        have hg1 : rd_ok E34 a0 := rd_ok_fr TH hst34 hm0 hk0 (by decide) (by decide) hg1
        have hg2 : eo_ok E34 a0 := eo_ok_fr TH hst34 hm0 hk0 (by decide) (by decide) hg2
        have hh12 : h12_ok E34 a0 (fun c => if c = (x1.toInt).toNat then 1 else (rw_h E a0 12) c) := h12_ok_fr TH hst34 hm0 hk0 (by decide) (by decide) hh12
        have hp12 : p12_ok E34 a0 (fun c => if c = (x1.toInt).toNat then x2.toInt else (rw_p E a0 12) c) := p12_ok_fr TH hst34 hm0 hk0 (by decide) (by decide) hp12
        have hot : ot_ok E34 a0 (12) E := ot_ok_fr TH hst34 hm0 hk0 (by decide) (by decide) hot
        have hgn23 : rw_ok E34 a0 (12) := rw_ok_fr TH hst34 hm0 hk0 (by decide) (by decide) (by omega) hgn23
        refine W.eq (g2 := F0 m 113 ls []) rfl ?_
        exact tw_vret hx hb hr hlocks TH hS hex ⟨rfl, rfl, rfl, hF, (by  intro c; exact congrFun hh12 c), (by  intro c; exact congrFun hp12 c), (by  exact hot), hgn23, hg1, hg2, hgpxc35_0⟩ (Nat.le_of_ble_eq_true rfl) (Nat.le_of_ble_eq_true rfl) dX12_lays_113
      · have hf39 : ¬ (150 ≤ y8_4.toInt) := fun q => hc3 ((fa_le _ _).mpr (by have : ((150 : Int32).toInt) = 150 := (by decide); omega))
        refine lv_aload_n hx hb dX12_lays_16 rfl (lv_at hl 1 rfl) ?_
        refine tw_get (ci := 12) (C := RX12) (T := TX12) (N := 64) hx hb hB cx_inX12 hown hK TH hm0 hk0 rfl ⟨by decide, rfl⟩ 16 (by decide) cw_1209 (fun _ h9 => h9) dX12_lays_17 (fun hv => ?_)
        obtain ⟨xr40, hxr40, hmxr40, hkxr40⟩ : ∃ a : Nat, tw_fv Eg8 a0 16 = .ref a ∧ a ∈ L ∧ kp a = 316 := hv
        rw [hxr40]
        refine lv_bipush (v := 12) hx hb dX12_lays_20 (by decide) ?_
        refine tw_aald (k := 316) (t0 := 5) (n := 16) (lo := 326) (hi := 0) (ty := .boolean) hx hb hK TH hmxr40 hkxr40 (by decide) rfl rfl (i := 12) (vp_in_iff.mpr ⟨by have : ((12 : Int32).toInt) = 12 := (by decide); omega, by have : ((12 : Int32).toInt) = 12 := (by decide); omega⟩) dX12_lays_22 (fun xr41 exr41 hmxr41 hkxr41 => ?_)
        have hkxr41 : kp xr41 = 326 := hkxr41
        refine lv_iload hx hb dX12_lays_23 (lv_at hl 0 rfl) ?_
        refine tw_zald (k := 326) (t0 := 3) (n := 150) (lo := 0) (hi := 1) hx hb hK TH hmxr41 hkxr41 (by decide) rfl rfl (i := y8_4) (vp_in_iff.mpr ⟨by  omega, by  omega⟩) dX12_lays_25 (fun hxe42a hxe42b => ?_)
        obtain ⟨xe42, exe42⟩ : ∃ z : Int32, tw_iv Eg8 xr41 (Int32.toNatClampNeg y8_4) = z := ⟨_, rfl⟩
        rw [exe42] at hxe42a hxe42b ⊢
        have hJ71 : ∀  (Eg71 : Nat → va_E) (H : Heap) (locs : List Loc) (ls : Array Slot), tw_fr kp L [] [329] Eg8 Eg71 → lyw_ok Eg71 a0 (x1.toInt) (x2.toInt) → rd_ok Eg71 a0 → eo_ok Eg71 a0 → ht_ok Eg71 a0 → h12_ok Eg71 a0 (rw_h E a0 12) → p12_ok Eg71 a0 (rw_p E a0 12) → ot_ok Eg71 a0 (12) E → tw_H D cs kp L Eg71 A H → va_S A s.heap H locs → lv_has ls 5 [(4, .int y8_4), (0, .ref a0), (1, .int x1), (2, .int x2), (3, .int x3)] → W p l e { frames := 4, cells := 0, slots := 0, locals := 98 } s m [.ref a0, .int x1, .int x2, .int x3].toArray below meth c H locs 0 0 (MQ below (tw_Q D cs kp0 L0 (fun v kq Lq Eq => v = none ∧ kp = kq ∧ L = Lq ∧ tw_fr kp L [] [326, 328, 329] E Eq ∧ (∀ c : Nat, rw_h Eq a0 12 c = if c = (x1.toInt).toNat then 1 else rw_h E a0 12 c) ∧ (∀ c : Nat, rw_p Eq a0 12 c = if c = (x1.toInt).toNat then x2.toInt else rw_p E a0 12 c) ∧ (ot_ok Eq a0 12 E) ∧ rw_ok Eq a0 (12) ∧ rd_ok Eq a0 ∧ eo_ok Eq a0 ∧ ht_ok Eq a0) A) [.ref a0, .int x1, .int x2, .int x3].toArray s 0 0 A) (F0 m 71 ls []) := by
          intro Eg71 H locs ls hG71 hg0 hg1 hg2 hg3 hh12 hp12 hot TH hS hl
          have hF := hF.tr hG71 (fun _ h => ⟨h, rfl⟩) (by decide) (by decide)
          have hG8 := hG8.tr hG71 (fun _ h => ⟨h, rfl⟩) (by decide) (by decide)
          have hmf43 : tw_fv Eg71 a0 16 = .ref xr40 := (hG71.1 a0 16 hm0 (by rw [hk0]; decide)).trans hxr40
          obtain ⟨zi44, ezi44⟩ : ∃ z : Int32, z = y8_4 + Int32.ofInt 1 := ⟨_, rfl⟩
          have hzi44 : zi44.toInt = y8_4.toInt + 1 := by rw [ezi44]; have : ((Int32.ofInt 1).toInt) = 1 := (by decide);  exact (ia_add (by omega) (by omega)).trans (by omega)
          refine lv_iinc (v := zi44) (lv' := [(4, .int zi44), (0, .ref a0), (1, .int x1), (2, .int x2), (3, .int x3)]) hx hb dX12_lays_71 hl (k := 0) rfl ezi44.symm (by decide) rfl (fun ls hl => ?_)
          refine lv_goto (tgt := 8) hx hb dX12_lays_74 (by decide) ?_
          exact ih8 (n8 - 1) (by   omega) zi44 _ _ _ ls (by omega) (by omega) (by   omega) hG8 hg0 hg1 hg2 hg3 hh12 hp12 hot TH hS (lv_sub hl [0, 1, 2, 3, 4] rfl)
        have hG71 : tw_fr kp L [] [329] Eg8 Eg8 := tw_fr.rf
        refine lv_if_eq (tgt := 71) hx hb dX12_lays_26 (by decide) (fun hc45 => ?_) (fun hc45 => ?_)
        · have hf46 : xe42.toInt = 0 := by have z := (fa_eq _ _).mp hc45; have : ((0 : Int32).toInt) = 0 := (by decide); omega
          exact hJ71  _ _ _ ls hG71 hg0 hg1 hg2 hg3 hh12 hp12 hot TH hS (lv_sub hl [0, 1, 2, 3, 4] rfl)
        · have hf47 : ¬ (xe42.toInt = 0) := fun q => hc45 ((fa_eq _ _).mpr (by have : ((0 : Int32).toInt) = 0 := (by decide); omega))
          refine lv_aload_n hx hb dX12_lays_29 rfl (lv_at hl 1 rfl) ?_
          refine tw_get (ci := 12) (C := RX12) (T := TX12) (N := 64) hx hb hB cx_inX12 hown hK TH hm0 hk0 rfl ⟨by decide, rfl⟩ 18 (by decide) cw_1211 (fun _ h9 => h9) dX12_lays_30 (fun hv => ?_)
          obtain ⟨xr48, hxr48, hmxr48, hkxr48⟩ : ∃ a : Nat, tw_fv Eg8 a0 18 = .ref a ∧ a ∈ L ∧ kp a = 318 := hv
          rw [hxr48]
          refine lv_bipush (v := 12) hx hb dX12_lays_33 (by decide) ?_
          refine tw_aald (k := 318) (t0 := 4) (n := 16) (lo := 328) (hi := 0) (ty := .int) hx hb hK TH hmxr48 hkxr48 (by decide) rfl rfl (i := 12) (vp_in_iff.mpr ⟨by have : ((12 : Int32).toInt) = 12 := (by decide); omega, by have : ((12 : Int32).toInt) = 12 := (by decide); omega⟩) dX12_lays_35 (fun xr49 exr49 hmxr49 hkxr49 => ?_)
          have hkxr49 : kp xr49 = 328 := hkxr49
          refine lv_iload hx hb dX12_lays_36 (lv_at hl 0 rfl) ?_
          refine tw_iald (k := 328) (t0 := 0) (n := 150) (lo := (-1)) (hi := 149) hx hb hK TH hmxr49 hkxr49 (by decide) rfl rfl (i := y8_4) (vp_in_iff.mpr ⟨by  omega, by  omega⟩) dX12_lays_38 (fun hxe50a hxe50b => ?_)
          obtain ⟨xe50, exe50⟩ : ∃ z : Int32, tw_iv Eg8 xr49 (Int32.toNatClampNeg y8_4) = z := ⟨_, rfl⟩
          rw [exe50] at hxe50a hxe50b ⊢
          refine lv_iload_n hx hb dX12_lays_39 rfl (lv_at hl 3 rfl) ?_
          refine lv_icmp_ne (tgt := 71) hx hb dX12_lays_40 (by decide) (fun hc51 => ?_) (fun hc51 => ?_)
          · have hf52 : ¬ (xe50.toInt = x2.toInt) := fun q => hc51 ((fa_eq _ _).mpr (by  omega))
            exact hJ71  _ _ _ ls hG71 hg0 hg1 hg2 hg3 hh12 hp12 hot TH hS (lv_sub hl [0, 1, 2, 3, 4] rfl)
          · have hf53 : xe50.toInt = x2.toInt := by have z := (fa_eq _ _).mp hc51;  omega
            refine lv_aload_n hx hb dX12_lays_43 rfl (lv_at hl 1 rfl) ?_
            refine tw_get (ci := 12) (C := RX12) (T := TX12) (N := 64) hx hb hB cx_inX12 hown hK TH hm0 hk0 rfl ⟨by decide, rfl⟩ 19 (by decide) cw_1212 (fun _ h9 => h9) dX12_lays_44 (fun hv => ?_)
            obtain ⟨xr54, hxr54, hmxr54, hkxr54⟩ : ∃ a : Nat, tw_fv Eg8 a0 19 = .ref a ∧ a ∈ L ∧ kp a = 319 := hv
            rw [hxr54]
            refine lv_bipush (v := 12) hx hb dX12_lays_47 (by decide) ?_
            refine tw_aald (k := 319) (t0 := 4) (n := 16) (lo := 329) (hi := 0) (ty := .int) hx hb hK TH hmxr54 hkxr54 (by decide) rfl rfl (i := 12) (vp_in_iff.mpr ⟨by have : ((12 : Int32).toInt) = 12 := (by decide); omega, by have : ((12 : Int32).toInt) = 12 := (by decide); omega⟩) dX12_lays_49 (fun xr55 exr55 hmxr55 hkxr55 => ?_)
            have hkxr55 : kp xr55 = 329 := hkxr55
            refine lv_iload hx hb dX12_lays_50 (lv_at hl 0 rfl) ?_
            refine tw_iald (k := 329) (t0 := 0) (n := 150) (lo := (-2147483648)) (hi := 2147483647) hx hb hK TH hmxr55 hkxr55 (by decide) rfl rfl (i := y8_4) (vp_in_iff.mpr ⟨by  omega, by  omega⟩) dX12_lays_52 (fun hxe56a hxe56b => ?_)
            obtain ⟨xe56, exe56⟩ : ∃ z : Int32, tw_iv Eg8 xr55 (Int32.toNatClampNeg y8_4) = z := ⟨_, rfl⟩
            rw [exe56] at hxe56a hxe56b ⊢
            refine lv_iload_n hx hb dX12_lays_53 rfl (lv_at hl 4 rfl) ?_
            refine lv_icmp_lt (tgt := 71) hx hb dX12_lays_54 (by decide) (fun hc57 => ?_) (fun hc57 => ?_)
            · have hf58 : xe56.toInt < x3.toInt := by have z := (fa_lt _ _).mp hc57;  omega
              exact hJ71  _ _ _ ls hG71 hg0 hg1 hg2 hg3 hh12 hp12 hot TH hS (lv_sub hl [0, 1, 2, 3, 4] rfl)
            · have hf59 : ¬ (xe56.toInt < x3.toInt) := fun q => hc57 ((fa_lt _ _).mpr (by  omega))
              refine lv_aload_n hx hb dX12_lays_57 rfl (lv_at hl 1 rfl) ?_
              refine tw_get (ci := 12) (C := RX12) (T := TX12) (N := 64) hx hb hB cx_inX12 hown hK TH hm0 hk0 rfl ⟨by decide, rfl⟩ 19 (by decide) cw_1212 (fun _ h9 => h9) dX12_lays_58 (fun hv => ?_)
              rw [hxr54]
              refine lv_bipush (v := 12) hx hb dX12_lays_61 (by decide) ?_
              refine tw_aald (k := 319) (t0 := 4) (n := 16) (lo := 329) (hi := 0) (ty := .int) hx hb hK TH hmxr54 hkxr54 (by decide) rfl rfl (i := 12) (vp_in_iff.mpr ⟨by have : ((12 : Int32).toInt) = 12 := (by decide); omega, by have : ((12 : Int32).toInt) = 12 := (by decide); omega⟩) dX12_lays_63 (fun xr60 exr60 hmxr60 hkxr60 => ?_)
              have ezxr60 : xr55 = xr60 := exr55.symm.trans exr60
              subst ezxr60
              refine lv_iload hx hb dX12_lays_64 (lv_at hl 0 rfl) ?_
              refine lv_dup2_11 hx hb dX12_lays_66 rfl rfl ?_
              refine tw_iald (k := 329) (t0 := 0) (n := 150) (lo := (-2147483648)) (hi := 2147483647) hx hb hK TH hmxr55 hkxr55 (by decide) rfl rfl (i := y8_4) (vp_in_iff.mpr ⟨by  omega, by  omega⟩) dX12_lays_67 (fun hxe61a hxe61b => ?_)
              rw [exe56]
              refine lv_iconst (v := 1) hx hb dX12_lays_68 (by decide) ?_
              refine lv_iadd hx hb dX12_lays_69 ?_
              refine lv_topi (fun zi62 ezi62 => ?_)
              refine tw_iast (k := 329) (n := 150) (lo := (-2147483648)) (hi := 2147483647) hx hb hK TH hS hmxr55 hkxr55 (by decide) rfl (i := y8_4) (x := zi62) (vp_in_iff.mpr ⟨by  omega, by  omega⟩) (ia_lo _) (ia_hi _) dX12_lays_70 (fun H locs E63 TH hS hp64 hp65 hp66 => ?_)
              have hst67 : tw_fr kp L [] [329] Eg8 E63 := tw_fr.ast tw_fr.rf (fun _ => hkxr55) hp64 hp65 (by decide)
              have hF := hF.tr hst67 (fun _ h => ⟨h, rfl⟩) (by decide) (by decide)
              have hG8 := hG8.tr hst67 (fun _ h => ⟨h, rfl⟩) (by decide) (by decide)
              have hG71 := hG71.tr hst67 (fun _ h => ⟨h, rfl⟩) (by decide) (by decide)
              have hmf68 : tw_fv E63 a0 16 = .ref xr40 := (hst67.1 a0 16 hm0 (by rw [hk0]; decide)).trans hxr40
              have hmf69 : tw_fv E63 a0 18 = .ref xr48 := (hst67.1 a0 18 hm0 (by rw [hk0]; decide)).trans hxr48
              have hmf70 : tw_fv E63 a0 19 = .ref xr54 := (hst67.1 a0 19 hm0 (by rw [hk0]; decide)).trans hxr54
              have hg0 : lyw_ok E63 a0 (x1.toInt) (x2.toInt) := lyw_ok_fr TH hst67 hm0 hk0 (by decide) (by decide) hg0
              have hg1 : rd_ok E63 a0 := rd_ok_fr TH hst67 hm0 hk0 (by decide) (by decide) hg1
              have hg2 : eo_ok E63 a0 := eo_ok_fr TH hst67 hm0 hk0 (by decide) (by decide) hg2
              have hg3 : ht_ok E63 a0 := ht_ok_fr TH hst67 hm0 hk0 (by decide) (by decide) hg3
              have hh12 : h12_ok E63 a0 (rw_h E a0 12) := h12_ok_fr TH hst67 hm0 hk0 (by decide) (by decide) hh12
              have hp12 : p12_ok E63 a0 (rw_p E a0 12) := p12_ok_fr TH hst67 hm0 hk0 (by decide) (by decide) hp12
              have hot : ot_ok E63 a0 (12) E := ot_ok_fr TH hst67 hm0 hk0 (by decide) (by decide) hot
              exact hJ71  _ _ _ ls hG71 hg0 hg1 hg2 hg3 hh12 hp12 hot TH hS (lv_sub hl [0, 1, 2, 3, 4] rfl)
  exact hJ8 151 (0 : Int32) _ _ _ ls (by have : ((0 : Int32).toInt) = 0 := (by decide); omega) (by have : ((0 : Int32).toInt) = 0 := (by decide); omega) (by have : ((0 : Int32).toInt) = 0 := (by decide);  omega) tw_fr.rf hg0 hg1 hg2 hg3 hh12 hp12 hot TH hS (lv_sub hl [0, 1, 2, 3, 4] rfl)
set_option maxHeartbeats 4000000 in
set_option maxRecDepth 100000 in
theorem tX12_stacks (l : Launch) (D : va_G) (cs : Nat → ClassId) {kp : Nat → Nat} {L : List Nat} {E : Nat → va_E} (a0 : Nat) (x1 : Int32) (x2 : Int32) (x3 : Int32) (hm0 : a0 ∈ L) (hk0 : kp a0 = 12) (hp1a : 0 ≤ x1.toInt) (hp1b : x1.toInt ≤ 15) (hp2a : 0 ≤ x2.toInt) (hp2b : x2.toInt ≤ 15) (hp3a : 0 ≤ x3.toInt) (hp3b : x3.toInt ≤ 15) (hpre0 : x1.toInt ≠ 13) (hpre1 : x2.toInt ≠ 13) (hpre2 : x3.toInt ≠ 13) (hpre3 : fq_ok E a0 x1.toInt x2.toInt x3.toInt 4 0) (hg0 : row_ok E a0 (x1.toInt)) (hg1 : row_ok E a0 (x2.toInt)) (hg2 : rd_ok E a0) (sz : Nat) : Met l yX12_stacks (.code yX12_stacks cX12_stacks 6 none :: cx_big) { frames := 3, cells := 0, slots := 0, locals := 73 } (tw_P D cs kp L E [.ref a0, .int x1, .int x2, .int x3] sz) (tw_Q D cs kp L (fun v kq Lq Eq => v = none ∧ kp = kq ∧ L = Lq ∧ tw_fr kp L [] [326, 327, 328] E Eq ∧ (t1_ok Eq a0 13) ∧ (sx_ok Eq a0 E x1.toInt x2.toInt 150) ∧ (ot_ok Eq a0 13 E) ∧ rd_ok Eq a0) (va_A (va_pl L E) sz)) 0 0 (va_A (va_pl L E) sz) := by
  refine tw_ofW (by decide) (Nat.le_of_ble_eq_true rfl) ?_
  intro p e s m below meth c A ls hx hb hr hml hB hown hlocks hK hN hA TH hS hl
  have hown : s.vm.findClass "TreeMergeModel" = some m.cls := hown
  have hl : lv_has ls 6 [(0, .ref a0), (1, .int x1), (2, .int x2), (3, .int x3)] := hl
  obtain ⟨kp0, ekp⟩ : ∃ z, z = kp := ⟨_, rfl⟩
  obtain ⟨L0, eL⟩ : ∃ z, z = L := ⟨_, rfl⟩
  rw [show tw_Q D cs kp L = tw_Q D cs kp0 L0 by rw [ekp, eL]]
  have hex : ∀ a : Nat, a ∈ L0 → a ∈ L ∧ kp a = kp0 a := fun a h => ⟨by rw [← eL]; exact h, by rw [ekp]⟩
  have hF : tw_fr kp L [] [326, 327, 328] E E := tw_fr.rf
  have hot : ot_ok E a0 13 E := ot_ok_rf
  have hww : ww_ok E a0 E (0) := ww_ok_rf
  have hsx : sx_ok E a0 E (x1.toInt) (x2.toInt) (0) := sx_zero rfl
  have hra := hg0
  have hrb := hg1
  refine lv_iconst (v := 0) hx hb dX12_stacks_0 (by decide) ?_
  refine lv_istore (lv' := [(4, .int 0), (0, .ref a0), (1, .int x1), (2, .int x2), (3, .int x3)]) hx hb dX12_stacks_1 hl (by decide) rfl (fun ls hl => ?_)
  have hJ3 : ∀ (n3 : Nat) (y3_4 : Int32) (Eg3 : Nat → va_E) (H : Heap) (locs : List Loc) (ls : Array Slot), 0 ≤ y3_4.toInt → y3_4.toInt ≤ 150 → 150 - y3_4.toInt ≤ (n3 : Int) → tw_fr kp L [] [326, 327, 328] E Eg3 → rd_ok Eg3 a0 → ot_ok Eg3 a0 (13) E → ww_ok Eg3 a0 E (y3_4.toInt) → sx_ok Eg3 a0 E (x1.toInt) (x2.toInt) (y3_4.toInt) → tw_H D cs kp L Eg3 A H → va_S A s.heap H locs → lv_has ls 6 [(4, .int y3_4), (0, .ref a0), (1, .int x1), (2, .int x2), (3, .int x3)] → W p l e { frames := 3, cells := 0, slots := 0, locals := 73 } s m [.ref a0, .int x1, .int x2, .int x3].toArray below meth c H locs 0 0 (MQ below (tw_Q D cs kp0 L0 (fun v kq Lq Eq => v = none ∧ kp = kq ∧ L = Lq ∧ tw_fr kp L [] [326, 327, 328] E Eq ∧ (t1_ok Eq a0 13) ∧ (sx_ok Eq a0 E x1.toInt x2.toInt 150) ∧ (ot_ok Eq a0 13 E) ∧ rd_ok Eq a0) A) [.ref a0, .int x1, .int x2, .int x3].toArray s 0 0 A) (F0 m 3 ls []) := by
    intro n3
    induction n3 using Nat.strongRecOn with
    | _ n3 ih3 =>
      intro y3_4 Eg3 H locs ls hy3_4a hy3_4b hmeas3 hG3 hcg3_0 hcg3_1 hcg3_2 hcg3_3 TH hS hl
      have hF := hF.tr hG3 (fun _ h => ⟨h, rfl⟩) (by decide) (by decide)
      refine lv_iload hx hb dX12_stacks_3 (lv_at hl 0 rfl) ?_
      refine lv_sipush (v := 150) hx hb dX12_stacks_5 (by decide) ?_
      refine lv_icmp_ge (tgt := 125) hx hb dX12_stacks_8 (by decide) (fun hc1 => ?_) (fun hc1 => ?_)
      · have hf2 : 150 ≤ y3_4.toInt := by have z := (fa_le _ _).mp hc1; have : ((150 : Int32).toInt) = 150 := (by decide); omega
        refine lv_iconst (v := 1) hx hb dX12_stacks_125 (by decide) ?_
        refine lv_istore (lv' := [(4, .int 1), (0, .ref a0), (1, .int x1), (2, .int x2), (3, .int x3)]) hx hb dX12_stacks_126 hl (by decide) rfl (fun ls hl => ?_)
        have hJ128 : ∀ (n128 : Nat) (y128_4 : Int32) (Eg128 : Nat → va_E) (H : Heap) (locs : List Loc) (ls : Array Slot), 0 ≤ y128_4.toInt → y128_4.toInt ≤ 1 → (y128_4.toInt = 0 → t1_ok Eg128 a0 13) → (rt_size (rw_h Eg128 a0 13) : Int) + y128_4.toInt ≤ (n128 : Int) → tw_fr kp L [] [326] Eg3 Eg128 → rd_ok Eg128 a0 → ot_ok Eg128 a0 (13) E → sx_ok Eg128 a0 E (x1.toInt) (x2.toInt) (150) → tw_H D cs kp L Eg128 A H → va_S A s.heap H locs → lv_has ls 6 [(4, .int y128_4), (0, .ref a0)] → W p l e { frames := 3, cells := 0, slots := 0, locals := 73 } s m [.ref a0, .int x1, .int x2, .int x3].toArray below meth c H locs 0 0 (MQ below (tw_Q D cs kp0 L0 (fun v kq Lq Eq => v = none ∧ kp = kq ∧ L = Lq ∧ tw_fr kp L [] [326, 327, 328] E Eq ∧ (t1_ok Eq a0 13) ∧ (sx_ok Eq a0 E x1.toInt x2.toInt 150) ∧ (ot_ok Eq a0 13 E) ∧ rd_ok Eq a0) A) [.ref a0, .int x1, .int x2, .int x3].toArray s 0 0 A) (F0 m 128 ls []) := by
          intro n128
          induction n128 using Nat.strongRecOn with
          | _ n128 ih128 =>
            intro y128_4 Eg128 H locs ls hy128_4a hy128_4b hin128_0 hmeas128 hG128 hcg128_0 hcg128_1 hcg128_2 TH hS hl
            have hF := hF.tr hG128 (fun _ h => ⟨h, rfl⟩) (by decide) (by decide)
            have hG3 := hG3.tr hG128 (fun _ h => ⟨h, rfl⟩) (by decide) (by decide)
            refine lv_iload hx hb dX12_stacks_128 (lv_at hl 0 rfl) ?_
            refine lv_if_eq (tgt := 221) hx hb dX12_stacks_130 (by decide) (fun hc3 => ?_) (fun hc3 => ?_)
            · have hf4 : y128_4.toInt = 0 := by have z := (fa_eq _ _).mp hc3; have : ((0 : Int32).toInt) = 0 := (by decide); omega
              exact tw_vret hx hb hr hlocks TH hS hex ⟨rfl, rfl, rfl, hF, (by  exact hin128_0 (by omega)), (by  exact hcg128_2), (by  exact hcg128_1), hcg128_0⟩ (Nat.le_of_ble_eq_true rfl) (Nat.le_of_ble_eq_true rfl) dX12_stacks_221
            · have hf5 : ¬ (y128_4.toInt = 0) := fun q => hc3 ((fa_eq _ _).mpr (by have : ((0 : Int32).toInt) = 0 := (by decide); omega))
              refine lv_iconst (v := 0) hx hb dX12_stacks_133 (by decide) ?_
              refine lv_istore (lv' := [(4, .int 0), (0, .ref a0)]) hx hb dX12_stacks_134 hl (by decide) rfl (fun ls hl => ?_)
              refine lv_iconst (v := 0) hx hb dX12_stacks_136 (by decide) ?_
              refine lv_istore (lv' := [(5, .int 0), (4, .int 0), (0, .ref a0)]) hx hb dX12_stacks_137 hl (by decide) rfl (fun ls hl => ?_)
              have hJ139 : ∀ (n139 : Nat) (y139_5 : Int32) (y139_4 : Int32) (Eg139 : Nat → va_E) (H : Heap) (locs : List Loc) (ls : Array Slot), 0 ≤ y139_5.toInt → y139_5.toInt ≤ 150 → 0 ≤ y139_4.toInt → y139_4.toInt ≤ 1 → (y139_4.toInt = 0 → tk_ok Eg139 a0 (y139_5.toInt)) → ((rt_size (rw_h Eg139 a0 13) : Int) + y139_4.toInt + 1 ≤ (n128 : Int)) → 150 - y139_5.toInt ≤ (n139 : Int) → tw_fr kp L [] [326] Eg128 Eg139 → rd_ok Eg139 a0 → ot_ok Eg139 a0 (13) E → sx_ok Eg139 a0 E (x1.toInt) (x2.toInt) (150) → tw_H D cs kp L Eg139 A H → va_S A s.heap H locs → lv_has ls 6 [(5, .int y139_5), (4, .int y139_4), (0, .ref a0)] → W p l e { frames := 3, cells := 0, slots := 0, locals := 73 } s m [.ref a0, .int x1, .int x2, .int x3].toArray below meth c H locs 0 0 (MQ below (tw_Q D cs kp0 L0 (fun v kq Lq Eq => v = none ∧ kp = kq ∧ L = Lq ∧ tw_fr kp L [] [326, 327, 328] E Eq ∧ (t1_ok Eq a0 13) ∧ (sx_ok Eq a0 E x1.toInt x2.toInt 150) ∧ (ot_ok Eq a0 13 E) ∧ rd_ok Eq a0) A) [.ref a0, .int x1, .int x2, .int x3].toArray s 0 0 A) (F0 m 139 ls []) := by
                intro n139
                induction n139 using Nat.strongRecOn with
                | _ n139 ih139 =>
                  intro y139_5 y139_4 Eg139 H locs ls hy139_5a hy139_5b hy139_4a hy139_4b hin139_0 hin139_1 hmeas139 hG139 hcg139_0 hcg139_1 hcg139_2 TH hS hl
                  have hF := hF.tr hG139 (fun _ h => ⟨h, rfl⟩) (by decide) (by decide)
                  have hG3 := hG3.tr hG139 (fun _ h => ⟨h, rfl⟩) (by decide) (by decide)
                  have hG128 := hG128.tr hG139 (fun _ h => ⟨h, rfl⟩) (by decide) (by decide)
                  refine lv_iload hx hb dX12_stacks_139 (lv_at hl 0 rfl) ?_
                  refine lv_sipush (v := 150) hx hb dX12_stacks_141 (by decide) ?_
                  refine lv_icmp_ge (tgt := 218) hx hb dX12_stacks_144 (by decide) (fun hc6 => ?_) (fun hc6 => ?_)
                  · have hf7 : 150 ≤ y139_5.toInt := by have z := (fa_le _ _).mp hc6; have : ((150 : Int32).toInt) = 150 := (by decide); omega
                    refine lv_goto (tgt := 128) hx hb dX12_stacks_218 (by decide) ?_
                    exact ih128 (n128 - 1) (by   omega) y139_4 _ _ _ ls (by omega) (by omega) (by  intro q; exact tk_done (hin139_0 q) (by omega)) (by   omega) hG128 hcg139_0 hcg139_1 hcg139_2 TH hS (lv_sub hl [1, 2] rfl)
                  · have hf8 : ¬ (150 ≤ y139_5.toInt) := fun q => hc6 ((fa_le _ _).mpr (by have : ((150 : Int32).toInt) = 150 := (by decide); omega))
                    refine lv_aload_n hx hb dX12_stacks_147 rfl (lv_at hl 2 rfl) ?_
                    refine tw_get (ci := 12) (C := RX12) (T := TX12) (N := 64) hx hb hB cx_inX12 hown hK TH hm0 hk0 rfl ⟨by decide, rfl⟩ 16 (by decide) cw_1209 (fun _ h9 => h9) dX12_stacks_148 (fun hv => ?_)
                    obtain ⟨xr9, hxr9, hmxr9, hkxr9⟩ : ∃ a : Nat, tw_fv Eg139 a0 16 = .ref a ∧ a ∈ L ∧ kp a = 316 := hv
                    rw [hxr9]
                    refine lv_bipush (v := 13) hx hb dX12_stacks_151 (by decide) ?_
                    refine tw_aald (k := 316) (t0 := 5) (n := 16) (lo := 326) (hi := 0) (ty := .boolean) hx hb hK TH hmxr9 hkxr9 (by decide) rfl rfl (i := 13) (vp_in_iff.mpr ⟨by have : ((13 : Int32).toInt) = 13 := (by decide); omega, by have : ((13 : Int32).toInt) = 13 := (by decide); omega⟩) dX12_stacks_153 (fun xr10 exr10 hmxr10 hkxr10 => ?_)
                    have hkxr10 : kp xr10 = 326 := hkxr10
                    refine lv_iload hx hb dX12_stacks_154 (lv_at hl 0 rfl) ?_
                    refine tw_zald (k := 326) (t0 := 3) (n := 150) (lo := 0) (hi := 1) hx hb hK TH hmxr10 hkxr10 (by decide) rfl rfl (i := y139_5) (vp_in_iff.mpr ⟨by  omega, by  omega⟩) dX12_stacks_156 (fun hxe11a hxe11b => ?_)
                    obtain ⟨xe11, exe11⟩ : ∃ z : Int32, tw_iv Eg139 xr10 (Int32.toNatClampNeg y139_5) = z := ⟨_, rfl⟩
                    rw [exe11] at hxe11a hxe11b ⊢
                    have hJ212 : ∀ (y212_4 : Int32) (Eg212 : Nat → va_E) (H : Heap) (locs : List Loc) (ls : Array Slot), 0 ≤ y212_4.toInt → y212_4.toInt ≤ 1 → (y212_4.toInt = 0 → tk_ok Eg212 a0 (y139_5.toInt + 1)) → ((rt_size (rw_h Eg212 a0 13) : Int) + y212_4.toInt + 1 ≤ (n128 : Int)) → tw_fr kp L [] [326] Eg139 Eg212 → rd_ok Eg212 a0 → ot_ok Eg212 a0 (13) E → sx_ok Eg212 a0 E (x1.toInt) (x2.toInt) (150) → tw_H D cs kp L Eg212 A H → va_S A s.heap H locs → lv_has ls 6 [(5, .int y139_5), (4, .int y212_4), (0, .ref a0)] → W p l e { frames := 3, cells := 0, slots := 0, locals := 73 } s m [.ref a0, .int x1, .int x2, .int x3].toArray below meth c H locs 0 0 (MQ below (tw_Q D cs kp0 L0 (fun v kq Lq Eq => v = none ∧ kp = kq ∧ L = Lq ∧ tw_fr kp L [] [326, 327, 328] E Eq ∧ (t1_ok Eq a0 13) ∧ (sx_ok Eq a0 E x1.toInt x2.toInt 150) ∧ (ot_ok Eq a0 13 E) ∧ rd_ok Eq a0) A) [.ref a0, .int x1, .int x2, .int x3].toArray s 0 0 A) (F0 m 212 ls []) := by
                      intro y212_4 Eg212 H locs ls hy212_4a hy212_4b hin212_0 hin212_1 hG212 hcg212_0 hcg212_1 hcg212_2 TH hS hl
                      have hF := hF.tr hG212 (fun _ h => ⟨h, rfl⟩) (by decide) (by decide)
                      have hG3 := hG3.tr hG212 (fun _ h => ⟨h, rfl⟩) (by decide) (by decide)
                      have hG128 := hG128.tr hG212 (fun _ h => ⟨h, rfl⟩) (by decide) (by decide)
                      have hG139 := hG139.tr hG212 (fun _ h => ⟨h, rfl⟩) (by decide) (by decide)
                      have hmf12 : tw_fv Eg212 a0 16 = .ref xr9 := (hG212.1 a0 16 hm0 (by rw [hk0]; decide)).trans hxr9
                      obtain ⟨zi13, ezi13⟩ : ∃ z : Int32, z = y139_5 + Int32.ofInt 1 := ⟨_, rfl⟩
                      have hzi13 : zi13.toInt = y139_5.toInt + 1 := by rw [ezi13]; have : ((Int32.ofInt 1).toInt) = 1 := (by decide);  exact (ia_add (by omega) (by omega)).trans (by omega)
                      refine lv_iinc (v := zi13) (lv' := [(5, .int zi13), (4, .int y212_4), (0, .ref a0)]) hx hb dX12_stacks_212 hl (k := 0) rfl ezi13.symm (by decide) rfl (fun ls hl => ?_)
                      refine lv_goto (tgt := 139) hx hb dX12_stacks_215 (by decide) ?_
                      exact ih139 (n139 - 1) (by   omega) zi13 y212_4 _ _ _ ls (by omega) (by omega) (by omega) (by omega) (by  intro q; rw [show (zi13.toInt) = y139_5.toInt + 1 by omega]; exact hin212_0 q) (by  omega) (by   omega) hG139 hcg212_0 hcg212_1 hcg212_2 TH hS (lv_sub hl [0, 1, 2] rfl)
                    have hG212 : tw_fr kp L [] [326] Eg139 Eg139 := tw_fr.rf
                    refine lv_if_eq (tgt := 212) hx hb dX12_stacks_157 (by decide) (fun hc14 => ?_) (fun hc14 => ?_)
                    · have hf15 : xe11.toInt = 0 := by have z := (fa_eq _ _).mp hc14; have : ((0 : Int32).toInt) = 0 := (by decide); omega
                      exact hJ212 y139_4 _ _ _ ls (by omega) (by omega) (by  intro q; have rf_xe11 : rw_h Eg139 a0 (13) (y139_5.toInt).toNat = xe11.toInt := (by have q := rw_h_of (m := a0) (i := (13 : Int32)) (c := y139_5) hxr9 exr10 exe11; rw [show ((13 : Int32).toInt) = 13 from (by decide)] at q; exact q); refine tk_step (hin139_0 q) rfl (fun hz => ?_); exact absurd (rf_xe11.trans (by omega)) hz) (by  omega) hG212 hcg139_0 hcg139_1 hcg139_2 TH hS (lv_sub hl [0, 1, 2] rfl)
                    · have hf16 : ¬ (xe11.toInt = 0) := fun q => hc14 ((fa_eq _ _).mpr (by have : ((0 : Int32).toInt) = 0 := (by decide); omega))
                      refine lv_aload_n hx hb dX12_stacks_160 rfl (lv_at hl 2 rfl) ?_
                      refine tw_get (ci := 12) (C := RX12) (T := TX12) (N := 64) hx hb hB cx_inX12 hown hK TH hm0 hk0 rfl ⟨by decide, rfl⟩ 18 (by decide) cw_1211 (fun _ h9 => h9) dX12_stacks_161 (fun hv => ?_)
                      obtain ⟨xr17, hxr17, hmxr17, hkxr17⟩ : ∃ a : Nat, tw_fv Eg139 a0 18 = .ref a ∧ a ∈ L ∧ kp a = 318 := hv
                      rw [hxr17]
                      refine lv_bipush (v := 13) hx hb dX12_stacks_164 (by decide) ?_
                      refine tw_aald (k := 318) (t0 := 4) (n := 16) (lo := 328) (hi := 0) (ty := .int) hx hb hK TH hmxr17 hkxr17 (by decide) rfl rfl (i := 13) (vp_in_iff.mpr ⟨by have : ((13 : Int32).toInt) = 13 := (by decide); omega, by have : ((13 : Int32).toInt) = 13 := (by decide); omega⟩) dX12_stacks_166 (fun xr18 exr18 hmxr18 hkxr18 => ?_)
                      have hkxr18 : kp xr18 = 328 := hkxr18
                      refine lv_iload hx hb dX12_stacks_167 (lv_at hl 0 rfl) ?_
                      refine tw_iald (k := 328) (t0 := 0) (n := 150) (lo := (-1)) (hi := 149) hx hb hK TH hmxr18 hkxr18 (by decide) rfl rfl (i := y139_5) (vp_in_iff.mpr ⟨by  omega, by  omega⟩) dX12_stacks_169 (fun hxe19a hxe19b => ?_)
                      obtain ⟨xe19, exe19⟩ : ∃ z : Int32, tw_iv Eg139 xr18 (Int32.toNatClampNeg y139_5) = z := ⟨_, rfl⟩
                      rw [exe19] at hxe19a hxe19b ⊢
                      refine lv_iconst (v := (-1)) hx hb dX12_stacks_170 (by decide) ?_
                      refine lv_icmp_eq (tgt := 212) hx hb dX12_stacks_171 (by decide) (fun hc20 => ?_) (fun hc20 => ?_)
                      · have hf21 : xe19.toInt = (-1) := by have z := (fa_eq _ _).mp hc20; have : (((-1) : Int32).toInt) = (-1) := (by decide); omega
                        exact hJ212 y139_4 _ _ _ ls (by omega) (by omega) (by  intro q; have rf_xe11 : rw_h Eg139 a0 (13) (y139_5.toInt).toNat = xe11.toInt := (by have q := rw_h_of (m := a0) (i := (13 : Int32)) (c := y139_5) hxr9 exr10 exe11; rw [show ((13 : Int32).toInt) = 13 from (by decide)] at q; exact q); have rf_xe19 : rw_p Eg139 a0 (13) (y139_5.toInt).toNat = xe19.toInt := (by have q := rw_p_of (m := a0) (i := (13 : Int32)) (c := y139_5) hxr17 exr18 exe19; rw [show ((13 : Int32).toInt) = 13 from (by decide)] at q; exact q); refine tk_step (hin139_0 q) rfl (fun hz => ?_); refine Or.inl ?_; rw [rf_xe19]; omega) (by  omega) hG212 hcg139_0 hcg139_1 hcg139_2 TH hS (lv_sub hl [0, 1, 2] rfl)
                      · have hf22 : ¬ (xe19.toInt = (-1)) := fun q => hc20 ((fa_eq _ _).mpr (by have : (((-1) : Int32).toInt) = (-1) := (by decide); omega))
                        refine lv_aload_n hx hb dX12_stacks_174 rfl (lv_at hl 2 rfl) ?_
                        refine tw_get (ci := 12) (C := RX12) (T := TX12) (N := 64) hx hb hB cx_inX12 hown hK TH hm0 hk0 rfl ⟨by decide, rfl⟩ 16 (by decide) cw_1209 (fun _ h9 => h9) dX12_stacks_175 (fun hv => ?_)
                        rw [hxr9]
                        refine lv_bipush (v := 13) hx hb dX12_stacks_178 (by decide) ?_
                        refine tw_aald (k := 316) (t0 := 5) (n := 16) (lo := 326) (hi := 0) (ty := .boolean) hx hb hK TH hmxr9 hkxr9 (by decide) rfl rfl (i := 13) (vp_in_iff.mpr ⟨by have : ((13 : Int32).toInt) = 13 := (by decide); omega, by have : ((13 : Int32).toInt) = 13 := (by decide); omega⟩) dX12_stacks_180 (fun xr23 exr23 hmxr23 hkxr23 => ?_)
                        have ezxr23 : xr10 = xr23 := exr10.symm.trans exr23
                        subst ezxr23
                        refine lv_aload_n hx hb dX12_stacks_181 rfl (lv_at hl 2 rfl) ?_
                        refine tw_get (ci := 12) (C := RX12) (T := TX12) (N := 64) hx hb hB cx_inX12 hown hK TH hm0 hk0 rfl ⟨by decide, rfl⟩ 18 (by decide) cw_1211 (fun _ h9 => h9) dX12_stacks_182 (fun hv => ?_)
                        rw [hxr17]
                        refine lv_bipush (v := 13) hx hb dX12_stacks_185 (by decide) ?_
                        refine tw_aald (k := 318) (t0 := 4) (n := 16) (lo := 328) (hi := 0) (ty := .int) hx hb hK TH hmxr17 hkxr17 (by decide) rfl rfl (i := 13) (vp_in_iff.mpr ⟨by have : ((13 : Int32).toInt) = 13 := (by decide); omega, by have : ((13 : Int32).toInt) = 13 := (by decide); omega⟩) dX12_stacks_187 (fun xr24 exr24 hmxr24 hkxr24 => ?_)
                        have ezxr24 : xr18 = xr24 := exr18.symm.trans exr24
                        subst ezxr24
                        refine lv_iload hx hb dX12_stacks_188 (lv_at hl 0 rfl) ?_
                        refine tw_iald (k := 328) (t0 := 0) (n := 150) (lo := (-1)) (hi := 149) hx hb hK TH hmxr18 hkxr18 (by decide) rfl rfl (i := y139_5) (vp_in_iff.mpr ⟨by  omega, by  omega⟩) dX12_stacks_190 (fun hxe25a hxe25b => ?_)
                        rw [exe19]
                        refine tw_zald (k := 326) (t0 := 3) (n := 150) (lo := 0) (hi := 1) hx hb hK TH hmxr10 hkxr10 (by decide) rfl rfl (i := xe19) (vp_in_iff.mpr ⟨by  omega, by  omega⟩) dX12_stacks_191 (fun hxe26a hxe26b => ?_)
                        obtain ⟨xe26, exe26⟩ : ∃ z : Int32, tw_iv Eg139 xr10 (Int32.toNatClampNeg xe19) = z := ⟨_, rfl⟩
                        rw [exe26] at hxe26a hxe26b ⊢
                        refine lv_if_eq (tgt := 198) hx hb dX12_stacks_192 (by decide) (fun hc27 => ?_) (fun hc27 => ?_)
                        · have hf28 : xe26.toInt = 0 := by have z := (fa_eq _ _).mp hc27; have : ((0 : Int32).toInt) = 0 := (by decide); omega
                          refine lv_aload_n hx hb dX12_stacks_198 rfl (lv_at hl 2 rfl) ?_
                          refine tw_get (ci := 12) (C := RX12) (T := TX12) (N := 64) hx hb hB cx_inX12 hown hK TH hm0 hk0 rfl ⟨by decide, rfl⟩ 16 (by decide) cw_1209 (fun _ h9 => h9) dX12_stacks_199 (fun hv => ?_)
                          rw [hxr9]
                          refine lv_bipush (v := 13) hx hb dX12_stacks_202 (by decide) ?_
                          refine tw_aald (k := 316) (t0 := 5) (n := 16) (lo := 326) (hi := 0) (ty := .boolean) hx hb hK TH hmxr9 hkxr9 (by decide) rfl rfl (i := 13) (vp_in_iff.mpr ⟨by have : ((13 : Int32).toInt) = 13 := (by decide); omega, by have : ((13 : Int32).toInt) = 13 := (by decide); omega⟩) dX12_stacks_204 (fun xr29 exr29 hmxr29 hkxr29 => ?_)
                          have ezxr29 : xr10 = xr29 := exr10.symm.trans exr29
                          subst ezxr29
                          refine lv_iload hx hb dX12_stacks_205 (lv_at hl 0 rfl) ?_
                          refine lv_iconst (v := 0) hx hb dX12_stacks_207 (by decide) ?_
                          refine tw_zast (k := 326) (n := 150) (lo := 0) (hi := 1) hx hb hK TH hS hmxr10 hkxr10 (by decide) rfl (i := y139_5) (x := 0) (vp_in_iff.mpr ⟨by  omega, by  omega⟩) (by have : ((0 : Int32).toInt) = 0 := (by decide); omega) (by have : ((0 : Int32).toInt) = 0 := (by decide); omega) (by have : ((0 : Int32).toInt) = 0 := (by decide); omega) (by have : ((0 : Int32).toInt) = 0 := (by decide); omega) dX12_stacks_208 (fun H locs E30 TH hS hp31 hp32 hp33 => ?_)
                          have hst34 : tw_fr kp L [] [326] Eg139 E30 := tw_fr.ast tw_fr.rf (fun _ => hkxr10) hp31 hp32 (by decide)
                          have hF := hF.tr hst34 (fun _ h => ⟨h, rfl⟩) (by decide) (by decide)
                          have hG3 := hG3.tr hst34 (fun _ h => ⟨h, rfl⟩) (by decide) (by decide)
                          have hG128 := hG128.tr hst34 (fun _ h => ⟨h, rfl⟩) (by decide) (by decide)
                          have hG139 := hG139.tr hst34 (fun _ h => ⟨h, rfl⟩) (by decide) (by decide)
                          have hG212 := hG212.tr hst34 (fun _ h => ⟨h, rfl⟩) (by decide) (by decide)
                          have hmf35 : tw_fv E30 a0 16 = .ref xr9 := (hst34.1 a0 16 hm0 (by rw [hk0]; decide)).trans hxr9
                          have hmf36 : tw_fv E30 a0 18 = .ref xr17 := (hst34.1 a0 18 hm0 (by rw [hk0]; decide)).trans hxr17
                          have hcg139_0_o := hcg139_0
                          have hcg139_1_o := hcg139_1
                          have hcg139_2_o := hcg139_2
                          have hcg139_0 : rd_ok E30 a0 := rd_ok_fr TH hst34 hm0 hk0 (by decide) (by decide) hcg139_0
                          have hcg139_1 : ot_ok E30 a0 (13) E := (by have e13 : ((13 : Int32).toInt) = 13 := (by decide); have q := ot_ok_h (i := 13) TH hm0 hk0 hcg139_0_o hxr9 exr10 hkxr9 hkxr10 hp31 hp32 (by omega) (by omega) (show ot_ok _ _ _ _ from (by rw [e13]; exact hcg139_1_o)); rw [e13] at q; exact q)
                          have hcg139_2 : sx_ok E30 a0 E (x1.toInt) (x2.toInt) (150) := (by have e13 : ((13 : Int32).toInt) = 13 := (by decide); have e0 : ((0 : Int32).toInt) = 0 := (by decide); have rf_xe11 : rw_h Eg139 a0 (13) (y139_5.toInt).toNat = xe11.toInt := (by have q := rw_h_of (m := a0) (i := (13 : Int32)) (c := y139_5) hxr9 exr10 exe11; rw [show ((13 : Int32).toInt) = 13 from (by decide)] at q; exact q); have rf_xe19 : rw_p Eg139 a0 (13) (y139_5.toInt).toNat = xe19.toInt := (by have q := rw_p_of (m := a0) (i := (13 : Int32)) (c := y139_5) hxr17 exr18 exe19; rw [show ((13 : Int32).toInt) = 13 from (by decide)] at q; exact q); have rf_xe26 : rw_h Eg139 a0 (13) (xe19.toInt).toNat = xe26.toInt := (by have q := rw_h_of (m := a0) (i := (13 : Int32)) (c := xe19) hxr9 exr10 exe26; rw [show ((13 : Int32).toInt) = 13 from (by decide)] at q; exact q); have q := rw_h_st (m := a0) (i := 13) (c := y139_5) hxr9 exr10 hkxr9 hkxr10 hp31 hp32 hp33; rw [e13, e0] at q; exact sx_rem hcg139_2_o q (rw_p_hst TH hm0 hk0 hkxr10 hp31 hp32 (i := 13) (by decide)) (by rw [rf_xe19]; omega))
                          refine lv_iconst (v := 1) hx hb dX12_stacks_209 (by decide) ?_
                          refine lv_istore (lv' := [(4, .int 1), (5, .int y139_5), (0, .ref a0)]) hx hb dX12_stacks_210 hl (by decide) rfl (fun ls hl => ?_)
                          exact hJ212 (1 : Int32) _ _ _ ls (by have : ((1 : Int32).toInt) = 1 := (by decide); omega) (by have : ((1 : Int32).toInt) = 1 := (by decide); omega) (by have : ((1 : Int32).toInt) = 1 := (by decide); intro q; exact absurd q (by decide)) (by have : ((1 : Int32).toInt) = 1 := (by decide); have e13 : ((13 : Int32).toInt) = 13 := (by decide); have e0 : ((0 : Int32).toInt) = 0 := (by decide); have rf_xe11 : rw_h Eg139 a0 (13) (y139_5.toInt).toNat = xe11.toInt := (by have q := rw_h_of (m := a0) (i := (13 : Int32)) (c := y139_5) hxr9 exr10 exe11; rw [show ((13 : Int32).toInt) = 13 from (by decide)] at q; exact q); have rf_xe19 : rw_p Eg139 a0 (13) (y139_5.toInt).toNat = xe19.toInt := (by have q := rw_p_of (m := a0) (i := (13 : Int32)) (c := y139_5) hxr17 exr18 exe19; rw [show ((13 : Int32).toInt) = 13 from (by decide)] at q; exact q); have rf_xe26 : rw_h Eg139 a0 (13) (xe19.toInt).toNat = xe26.toInt := (by have q := rw_h_of (m := a0) (i := (13 : Int32)) (c := xe19) hxr9 exr10 exe26; rw [show ((13 : Int32).toInt) = 13 from (by decide)] at q; exact q); have q := rw_h_st (m := a0) (i := 13) (c := y139_5) hxr9 exr10 hkxr9 hkxr10 hp31 hp32 hp33; rw [e13, e0] at q; have rm := rt_size_rem q (by omega) (by omega) (by rw [rf_xe11]; omega); omega) hG212 hcg139_0 hcg139_1 hcg139_2 TH hS (lv_sub hl [1, 0, 2] rfl)
                        · have hf37 : ¬ (xe26.toInt = 0) := fun q => hc27 ((fa_eq _ _).mpr (by have : ((0 : Int32).toInt) = 0 := (by decide); omega))
                          refine lv_goto (tgt := 212) hx hb dX12_stacks_195 (by decide) ?_
                          exact hJ212 y139_4 _ _ _ ls (by omega) (by omega) (by  intro q; have rf_xe11 : rw_h Eg139 a0 (13) (y139_5.toInt).toNat = xe11.toInt := (by have q := rw_h_of (m := a0) (i := (13 : Int32)) (c := y139_5) hxr9 exr10 exe11; rw [show ((13 : Int32).toInt) = 13 from (by decide)] at q; exact q); have rf_xe19 : rw_p Eg139 a0 (13) (y139_5.toInt).toNat = xe19.toInt := (by have q := rw_p_of (m := a0) (i := (13 : Int32)) (c := y139_5) hxr17 exr18 exe19; rw [show ((13 : Int32).toInt) = 13 from (by decide)] at q; exact q); have rf_xe26 : rw_h Eg139 a0 (13) (xe19.toInt).toNat = xe26.toInt := (by have q := rw_h_of (m := a0) (i := (13 : Int32)) (c := xe19) hxr9 exr10 exe26; rw [show ((13 : Int32).toInt) = 13 from (by decide)] at q; exact q); refine tk_step (hin139_0 q) rfl (fun hz => ?_); refine Or.inr ?_; rw [rf_xe19]; refine ⟨by omega, by omega, ?_⟩; rw [rf_xe26]; omega) (by  omega) hG212 hcg139_0 hcg139_1 hcg139_2 TH hS (lv_sub hl [0, 1, 2] rfl)
              exact hJ139 151 (0 : Int32) (0 : Int32) _ _ _ ls (by have : ((0 : Int32).toInt) = 0 := (by decide); omega) (by have : ((0 : Int32).toInt) = 0 := (by decide); omega) (by have : ((0 : Int32).toInt) = 0 := (by decide); omega) (by have : ((0 : Int32).toInt) = 0 := (by decide); omega) (by have : ((0 : Int32).toInt) = 0 := (by decide); intro _ c hc; exact absurd hc (by have e0 : ((0 : Int32).toInt) = 0 := (by decide); omega)) (by have : ((0 : Int32).toInt) = 0 := (by decide); omega) (by have : ((0 : Int32).toInt) = 0 := (by decide);  omega) tw_fr.rf hcg128_0 hcg128_1 hcg128_2 TH hS (lv_sub hl [0, 1, 2] rfl)
        exact hJ128 152 (1 : Int32) _ _ _ ls (by have : ((1 : Int32).toInt) = 1 := (by decide); omega) (by have : ((1 : Int32).toInt) = 1 := (by decide); omega) (by have : ((1 : Int32).toInt) = 1 := (by decide); intro q; exact absurd q (by decide)) (by have : ((1 : Int32).toInt) = 1 := (by decide); have := rt_cnt_k (P := fun m => decide (rw_h Eg3 a0 13 m ≠ 0)) 150; unfold rt_size; omega) tw_fr.rf hcg3_0 hcg3_1 (sx_ok_cast (by have : ((1 : Int32).toInt) = 1 := (by decide); omega) hcg3_3) TH hS (lv_sub hl [0, 1] rfl)
      · have hf38 : ¬ (150 ≤ y3_4.toInt) := fun q => hc1 ((fa_le _ _).mpr (by have : ((150 : Int32).toInt) = 150 := (by decide); omega))
        have hn0 := trivial
        refine lv_aload_n hx hb dX12_stacks_11 rfl (lv_at hl 1 rfl) ?_
        refine tw_get (ci := 12) (C := RX12) (T := TX12) (N := 64) hx hb hB cx_inX12 hown hK TH hm0 hk0 rfl ⟨by decide, rfl⟩ 16 (by decide) cw_1209 (fun _ h9 => h9) dX12_stacks_12 (fun hv => ?_)
        obtain ⟨xr39, hxr39, hmxr39, hkxr39⟩ : ∃ a : Nat, tw_fv Eg3 a0 16 = .ref a ∧ a ∈ L ∧ kp a = 316 := hv
        rw [hxr39]
        refine lv_bipush (v := 13) hx hb dX12_stacks_15 (by decide) ?_
        refine tw_aald (k := 316) (t0 := 5) (n := 16) (lo := 326) (hi := 0) (ty := .boolean) hx hb hK TH hmxr39 hkxr39 (by decide) rfl rfl (i := 13) (vp_in_iff.mpr ⟨by have : ((13 : Int32).toInt) = 13 := (by decide); omega, by have : ((13 : Int32).toInt) = 13 := (by decide); omega⟩) dX12_stacks_17 (fun xr40 exr40 hmxr40 hkxr40 => ?_)
        have hkxr40 : kp xr40 = 326 := hkxr40
        refine lv_iload hx hb dX12_stacks_18 (lv_at hl 0 rfl) ?_
        refine lv_iload hx hb dX12_stacks_20 (lv_at hl 0 rfl) ?_
        refine lv_aload_n hx hb dX12_stacks_22 rfl (lv_at hl 1 rfl) ?_
        refine tw_get (ci := 12) (C := RX12) (T := TX12) (N := 64) hx hb hB cx_inX12 hown hK TH hm0 hk0 rfl ⟨by decide, rfl⟩ 26 (by decide) cw_1219 (fun _ h9 => h9) dX12_stacks_23 (fun hv => ?_)
        obtain ⟨xi41, hxi41, hxi41a, hxi41b⟩ : ∃ x : Int32, tw_fv Eg3 a0 26 = .int x ∧ 0 ≤ x.toInt ∧ x.toInt ≤ 150 := hv
        rw [hxi41]
        refine lv_icmp_ge (tgt := 45) hx hb dX12_stacks_26 (by decide) (fun hc42 => ?_) (fun hc42 => ?_)
        · have hf43 : xi41.toInt ≤ y3_4.toInt := by have z := (fa_le _ _).mp hc42;  omega
          refine lv_iconst (v := 0) hx hb dX12_stacks_45 (by decide) ?_
          refine tw_zast (k := 326) (n := 150) (lo := 0) (hi := 1) hx hb hK TH hS hmxr40 hkxr40 (by decide) rfl (i := y3_4) (x := 0) (vp_in_iff.mpr ⟨by  omega, by  omega⟩) (by have : ((0 : Int32).toInt) = 0 := (by decide); omega) (by have : ((0 : Int32).toInt) = 0 := (by decide); omega) (by have : ((0 : Int32).toInt) = 0 := (by decide); omega) (by have : ((0 : Int32).toInt) = 0 := (by decide); omega) dX12_stacks_46 (fun H locs E44 TH hS hp45 hp46 hp47 => ?_)
          have hst48 : tw_fr kp L [] [326] Eg3 E44 := tw_fr.ast tw_fr.rf (fun _ => hkxr40) hp45 hp46 (by decide)
          have hF := hF.tr hst48 (fun _ h => ⟨h, rfl⟩) (by decide) (by decide)
          have hG3 := hG3.tr hst48 (fun _ h => ⟨h, rfl⟩) (by decide) (by decide)
          have hmf49 : tw_fv E44 a0 16 = .ref xr39 := (hst48.1 a0 16 hm0 (by rw [hk0]; decide)).trans hxr39
          have hmf50 : tw_fv E44 a0 26 = .int xi41 := (hst48.1 a0 26 hm0 (by rw [hk0]; decide)).trans hxi41
          have hcg3_0_o := hcg3_0
          have hcg3_1_o := hcg3_1
          have hcg3_2_o := hcg3_2
          have hcg3_3_o := hcg3_3
          have hcg3_0 : rd_ok E44 a0 := rd_ok_fr TH hst48 hm0 hk0 (by decide) (by decide) hcg3_0
          have hcg3_1 : ot_ok E44 a0 (13) E := (by have e13 : ((13 : Int32).toInt) = 13 := (by decide); have q := ot_ok_h (i := 13) TH hm0 hk0 hcg3_0_o hxr39 exr40 hkxr39 hkxr40 hp45 hp46 (by omega) (by omega) (show ot_ok _ _ _ _ from (by rw [e13]; exact hcg3_1_o)); rw [e13] at q; exact q)
          have hcg3_2 : ww_ok E44 a0 E (y3_4.toInt) := ww_ok_fr TH hst48 hm0 hk0 (by decide) (by decide) hcg3_2
          have hcg3_3 : sx_ok E44 a0 E (x1.toInt) (x2.toInt) (y3_4.toInt) := (by have e13 : ((13 : Int32).toInt) = 13 := (by decide); have q := rw_h_st (m := a0) (i := 13) (c := y3_4) hxr39 exr40 hkxr39 hkxr40 hp45 hp46 hp47; rw [e13] at q; exact sx_keep hcg3_3_o (by omega) q (rw_p_hst TH hm0 hk0 hkxr40 hp45 hp46 (i := 13) (by decide)))
          have h13n : rw_h E44 a0 13 (y3_4.toInt).toNat = (0 : Int32).toInt := (by have e13 : ((13 : Int32).toInt) = 13 := (by decide); have q := rw_h_st (m := a0) (i := 13) (c := y3_4) hxr39 exr40 hkxr39 hkxr40 hp45 hp46 hp47 (y3_4.toInt).toNat; rw [e13, if_pos rfl] at q; exact q)
          have hnb : ¬ (rw_h E a0 (x1.toInt) (y3_4.toInt).toNat ≠ 0 ∧ rw_h E a0 (x2.toInt) (y3_4.toInt).toNat ≠ 0) := (by intro z; have w := hra.2.2.2 (y3_4.toInt).toNat (by omega) z.1; rw [← tw_fi_fr hF hm0 hk0 (k := 26) (by decide), tw_fi_of hmf50] at w; omega)
          refine lv_aload_n hx hb dX12_stacks_47 rfl (lv_at hl 1 rfl) ?_
          refine tw_get (ci := 12) (C := RX12) (T := TX12) (N := 64) hx hb hB cx_inX12 hown hK TH hm0 hk0 rfl ⟨by decide, rfl⟩ 16 (by decide) cw_1209 (fun _ h9 => h9) dX12_stacks_48 (fun hv => ?_)
          rw [hmf49]
          refine lv_bipush (v := 13) hx hb dX12_stacks_51 (by decide) ?_
          refine tw_aald (k := 316) (t0 := 5) (n := 16) (lo := 326) (hi := 0) (ty := .boolean) hx hb hK TH hmxr39 hkxr39 (by decide) rfl rfl (i := 13) (vp_in_iff.mpr ⟨by have : ((13 : Int32).toInt) = 13 := (by decide); omega, by have : ((13 : Int32).toInt) = 13 := (by decide); omega⟩) dX12_stacks_53 (fun xr51 exr51 hmxr51 hkxr51 => ?_)
          have hkxr51 : kp xr51 = 326 := hkxr51
          refine lv_iload hx hb dX12_stacks_54 (lv_at hl 0 rfl) ?_
          refine tw_zald (k := 326) (t0 := 3) (n := 150) (lo := 0) (hi := 1) hx hb hK TH hmxr51 hkxr51 (by decide) rfl rfl (i := y3_4) (vp_in_iff.mpr ⟨by  omega, by  omega⟩) dX12_stacks_56 (fun hxe52a hxe52b => ?_)
          obtain ⟨xe52, exe52⟩ : ∃ z : Int32, tw_iv E44 xr51 (Int32.toNatClampNeg y3_4) = z := ⟨_, rfl⟩
          rw [exe52] at hxe52a hxe52b ⊢
          have hJ119 : ∀  (Eg119 : Nat → va_E) (H : Heap) (locs : List Loc) (ls : Array Slot), tw_fr kp L [] [327, 328] E44 Eg119 → rd_ok Eg119 a0 → ot_ok Eg119 a0 (13) E → ww_ok Eg119 a0 E (y3_4.toInt + 1) → sx_ok Eg119 a0 E (x1.toInt) (x2.toInt) (y3_4.toInt + 1) → tw_H D cs kp L Eg119 A H → va_S A s.heap H locs → lv_has ls 6 [(4, .int y3_4), (0, .ref a0), (1, .int x1), (2, .int x2), (3, .int x3)] → W p l e { frames := 3, cells := 0, slots := 0, locals := 73 } s m [.ref a0, .int x1, .int x2, .int x3].toArray below meth c H locs 0 0 (MQ below (tw_Q D cs kp0 L0 (fun v kq Lq Eq => v = none ∧ kp = kq ∧ L = Lq ∧ tw_fr kp L [] [326, 327, 328] E Eq ∧ (t1_ok Eq a0 13) ∧ (sx_ok Eq a0 E x1.toInt x2.toInt 150) ∧ (ot_ok Eq a0 13 E) ∧ rd_ok Eq a0) A) [.ref a0, .int x1, .int x2, .int x3].toArray s 0 0 A) (F0 m 119 ls []) := by
            intro Eg119 H locs ls hG119 hcg119_0 hcg119_1 hcg119_2 hcg119_3 TH hS hl
            have hF := hF.tr hG119 (fun _ h => ⟨h, rfl⟩) (by decide) (by decide)
            have hG3 := hG3.tr hG119 (fun _ h => ⟨h, rfl⟩) (by decide) (by decide)
            have hmf53 : tw_fv Eg119 a0 16 = .ref xr39 := (hG119.1 a0 16 hm0 (by rw [hk0]; decide)).trans hmf49
            have hmf54 : tw_fv Eg119 a0 26 = .int xi41 := (hG119.1 a0 26 hm0 (by rw [hk0]; decide)).trans hmf50
            obtain ⟨zi55, ezi55⟩ : ∃ z : Int32, z = y3_4 + Int32.ofInt 1 := ⟨_, rfl⟩
            have hzi55 : zi55.toInt = y3_4.toInt + 1 := by rw [ezi55]; have : ((Int32.ofInt 1).toInt) = 1 := (by decide);  exact (ia_add (by omega) (by omega)).trans (by omega)
            refine lv_iinc (v := zi55) (lv' := [(4, .int zi55), (0, .ref a0), (1, .int x1), (2, .int x2), (3, .int x3)]) hx hb dX12_stacks_119 hl (k := 0) rfl ezi55.symm (by decide) rfl (fun ls hl => ?_)
            refine lv_goto (tgt := 3) hx hb dX12_stacks_122 (by decide) ?_
            exact ih3 (n3 - 1) (by   omega) zi55 _ _ _ ls (by omega) (by omega) (by   omega) hG3 hcg119_0 hcg119_1 (ww_ok_cast (by  omega) hcg119_2) (sx_ok_cast (by  omega) hcg119_3) TH hS (lv_sub hl [0, 1, 2, 3, 4] rfl)
          have hG119 : tw_fr kp L [] [327, 328] E44 E44 := tw_fr.rf
          refine lv_if_ne (tgt := 63) hx hb dX12_stacks_57 (by decide) (fun hc56 => ?_) (fun hc56 => ?_)
          · have hf57 : ¬ (xe52.toInt = 0) := fun q => hc56 ((fa_eq _ _).mpr (by have : ((0 : Int32).toInt) = 0 := (by decide); omega))
            have rf_xe52 : rw_h E44 a0 (13) (y3_4.toInt).toNat = xe52.toInt := (by have q := rw_h_of (m := a0) (i := (13 : Int32)) (c := y3_4) hmf49 exr51 exe52; rw [show ((13 : Int32).toInt) = 13 from (by decide)] at q; exact q)
            exfalso
            have e1 : ((1 : Int32).toInt) = 1 := (by decide)
            have e0 : ((0 : Int32).toInt) = 0 := (by decide)
            (try rw [h13n] at rf_xe52)
            omega
          · have hf58 : xe52.toInt = 0 := by have z := (fa_eq _ _).mp hc56; have : ((0 : Int32).toInt) = 0 := (by decide); omega
            have hsx60 : sx_ok E44 a0 E (x1.toInt) (x2.toInt) (y3_4.toInt + 1) := sx_push0 hcg3_3 (h13n.trans (by decide)) hnb
            have hww60 : ww_ok E44 a0 E (y3_4.toInt + 1) := ww_ok_mono (by omega) hcg3_2
            refine lv_goto (tgt := 119) hx hb dX12_stacks_60 (by decide) ?_
            exact hJ119  _ _ _ ls hG119 hcg3_0 hcg3_1 hww60 hsx60 TH hS (lv_sub hl [0, 1, 2, 3, 4] rfl)
        · have hf59 : ¬ (xi41.toInt ≤ y3_4.toInt) := fun q => hc42 ((fa_le _ _).mpr (by  omega))
          refine lv_aload_n hx hb dX12_stacks_29 rfl (lv_at hl 1 rfl) ?_
          refine lv_iload hx hb dX12_stacks_30 (lv_at hl 0 rfl) ?_
          refine lv_iload_n hx hb dX12_stacks_32 rfl (lv_at hl 2 rfl) ?_
          refine lv_iload_n hx hb dX12_stacks_33 rfl (lv_at hl 3 rfl) ?_
          refine lv_iload_n hx hb dX12_stacks_34 rfl (lv_at hl 4 rfl) ?_
          refine tw_Vc (o := a0) (ci := 12) (n := 4) (post := (fun v kq Lq Eq => (∃ x : Int32, v = some (.int x) ∧ 0 ≤ x.toInt ∧ x.toInt ≤ 1 ∧ (rw_h Eg3 a0 x1.toInt (y3_4.toInt).toNat ≠ 0 → rw_h Eg3 a0 x2.toInt (y3_4.toInt).toNat ≠ 0 → x.toInt ≠ 0)) ∧ kp = kq ∧ L = Lq ∧ Eg3 = Eq)) (As := [.int y3_4, .int x1, .int x2, .int x3]) (rest := [.int y3_4, .ref xr40]) ⟨hx, hb, hml, hown, hB⟩ (fun sz => tX12_stands l D cs a0 y3_4 x1 x2 x3 hm0 hk0 (by omega) (by omega) (by omega) (by omega) (by omega) (by omega) (by omega) (by omega) (by have oa := hcg3_1 (x1.toInt) (by omega) (by omega) (by omega); unfold rw_ok; rw [oa.1, oa.2]; exact hra.1) (by have oa := hcg3_1 (x2.toInt) (by omega) (by omega) (by omega); unfold rw_ok; rw [oa.1, oa.2]; exact hrb.1) sz) cg_12_474_X12_stands rfl rfl (by decide +kernel) ⟨Nat.le_of_ble_eq_true rfl, Nat.le_of_ble_eq_true rfl⟩ hK hN TH hS hA rfl hm0 hk0 (by decide) rfl hl.1 rfl (Nat.le_of_ble_eq_true rfl) dX12_stacks_35 ⟨Nat.le_of_ble_eq_true rfl, Nat.le_of_ble_eq_true rfl⟩ (fun v60 kp60 L60 E60 H locs hq60 hx60 TH hS => ?_)
          obtain ⟨⟨xc61, rfl, hxc61a, hxc61b, hpoxc61_0⟩, rfl, rfl, rfl⟩ := hq60
          refine W.eq (g2 := F0 m 38 ls [.int xc61, .int y3_4, .ref xr40]) rfl ?_
          have oa := hcg3_1 (x1.toInt) (by omega) (by omega) (by omega)
          have ob := hcg3_1 (x2.toInt) (by omega) (by omega) (by omega)
          have oo := hcg3_1 (x3.toInt) (by omega) (by omega) (by omega)
          have hoa38 := oa.1
          have hob38 := ob.1
          refine lv_if_eq (tgt := 45) hx hb dX12_stacks_38 (by decide) (fun hc62 => ?_) (fun hc62 => ?_)
          · have hf63 : xc61.toInt = 0 := by have z := (fa_eq _ _).mp hc62; have : ((0 : Int32).toInt) = 0 := (by decide); omega
            refine lv_iconst (v := 0) hx hb dX12_stacks_45 (by decide) ?_
            refine tw_zast (k := 326) (n := 150) (lo := 0) (hi := 1) hx hb hK TH hS hmxr40 hkxr40 (by decide) rfl (i := y3_4) (x := 0) (vp_in_iff.mpr ⟨by  omega, by  omega⟩) (by have : ((0 : Int32).toInt) = 0 := (by decide); omega) (by have : ((0 : Int32).toInt) = 0 := (by decide); omega) (by have : ((0 : Int32).toInt) = 0 := (by decide); omega) (by have : ((0 : Int32).toInt) = 0 := (by decide); omega) dX12_stacks_46 (fun H locs E64 TH hS hp65 hp66 hp67 => ?_)
            have hst68 : tw_fr kp L [] [326] Eg3 E64 := tw_fr.ast tw_fr.rf (fun _ => hkxr40) hp65 hp66 (by decide)
            have hF := hF.tr hst68 (fun _ h => ⟨h, rfl⟩) (by decide) (by decide)
            have hG3 := hG3.tr hst68 (fun _ h => ⟨h, rfl⟩) (by decide) (by decide)
            have hmf69 : tw_fv E64 a0 16 = .ref xr39 := (hst68.1 a0 16 hm0 (by rw [hk0]; decide)).trans hxr39
            have hmf70 : tw_fv E64 a0 26 = .int xi41 := (hst68.1 a0 26 hm0 (by rw [hk0]; decide)).trans hxi41
            have hcg3_0_o := hcg3_0
            have hcg3_1_o := hcg3_1
            have hcg3_2_o := hcg3_2
            have hcg3_3_o := hcg3_3
            have hcg3_0 : rd_ok E64 a0 := rd_ok_fr TH hst68 hm0 hk0 (by decide) (by decide) hcg3_0
            have hcg3_1 : ot_ok E64 a0 (13) E := (by have e13 : ((13 : Int32).toInt) = 13 := (by decide); have q := ot_ok_h (i := 13) TH hm0 hk0 hcg3_0_o hxr39 exr40 hkxr39 hkxr40 hp65 hp66 (by omega) (by omega) (show ot_ok _ _ _ _ from (by rw [e13]; exact hcg3_1_o)); rw [e13] at q; exact q)
            have hcg3_2 : ww_ok E64 a0 E (y3_4.toInt) := ww_ok_fr TH hst68 hm0 hk0 (by decide) (by decide) hcg3_2
            have hcg3_3 : sx_ok E64 a0 E (x1.toInt) (x2.toInt) (y3_4.toInt) := (by have e13 : ((13 : Int32).toInt) = 13 := (by decide); have q := rw_h_st (m := a0) (i := 13) (c := y3_4) hxr39 exr40 hkxr39 hkxr40 hp65 hp66 hp67; rw [e13] at q; exact sx_keep hcg3_3_o (by omega) q (rw_p_hst TH hm0 hk0 hkxr40 hp65 hp66 (i := 13) (by decide)))
            have h13n : rw_h E64 a0 13 (y3_4.toInt).toNat = (0 : Int32).toInt := (by have e13 : ((13 : Int32).toInt) = 13 := (by decide); have q := rw_h_st (m := a0) (i := 13) (c := y3_4) hxr39 exr40 hkxr39 hkxr40 hp65 hp66 hp67 (y3_4.toInt).toNat; rw [e13, if_pos rfl] at q; exact q)
            have hnb : ¬ (rw_h E a0 (x1.toInt) (y3_4.toInt).toNat ≠ 0 ∧ rw_h E a0 (x2.toInt) (y3_4.toInt).toNat ≠ 0) := (by intro z; exact absurd (hpoxc61_0 (by rw [hoa38]; exact z.1) (by rw [hob38]; exact z.2)) (by omega))
            refine lv_aload_n hx hb dX12_stacks_47 rfl (lv_at hl 1 rfl) ?_
            refine tw_get (ci := 12) (C := RX12) (T := TX12) (N := 64) hx hb hB cx_inX12 hown hK TH hm0 hk0 rfl ⟨by decide, rfl⟩ 16 (by decide) cw_1209 (fun _ h9 => h9) dX12_stacks_48 (fun hv => ?_)
            rw [hmf69]
            refine lv_bipush (v := 13) hx hb dX12_stacks_51 (by decide) ?_
            refine tw_aald (k := 316) (t0 := 5) (n := 16) (lo := 326) (hi := 0) (ty := .boolean) hx hb hK TH hmxr39 hkxr39 (by decide) rfl rfl (i := 13) (vp_in_iff.mpr ⟨by have : ((13 : Int32).toInt) = 13 := (by decide); omega, by have : ((13 : Int32).toInt) = 13 := (by decide); omega⟩) dX12_stacks_53 (fun xr71 exr71 hmxr71 hkxr71 => ?_)
            have hkxr71 : kp xr71 = 326 := hkxr71
            refine lv_iload hx hb dX12_stacks_54 (lv_at hl 0 rfl) ?_
            refine tw_zald (k := 326) (t0 := 3) (n := 150) (lo := 0) (hi := 1) hx hb hK TH hmxr71 hkxr71 (by decide) rfl rfl (i := y3_4) (vp_in_iff.mpr ⟨by  omega, by  omega⟩) dX12_stacks_56 (fun hxe72a hxe72b => ?_)
            obtain ⟨xe72, exe72⟩ : ∃ z : Int32, tw_iv E64 xr71 (Int32.toNatClampNeg y3_4) = z := ⟨_, rfl⟩
            rw [exe72] at hxe72a hxe72b ⊢
            have hJ119 : ∀  (Eg119 : Nat → va_E) (H : Heap) (locs : List Loc) (ls : Array Slot), tw_fr kp L [] [327, 328] E64 Eg119 → rd_ok Eg119 a0 → ot_ok Eg119 a0 (13) E → ww_ok Eg119 a0 E (y3_4.toInt + 1) → sx_ok Eg119 a0 E (x1.toInt) (x2.toInt) (y3_4.toInt + 1) → tw_H D cs kp L Eg119 A H → va_S A s.heap H locs → lv_has ls 6 [(4, .int y3_4), (0, .ref a0), (1, .int x1), (2, .int x2), (3, .int x3)] → W p l e { frames := 3, cells := 0, slots := 0, locals := 73 } s m [.ref a0, .int x1, .int x2, .int x3].toArray below meth c H locs 0 0 (MQ below (tw_Q D cs kp0 L0 (fun v kq Lq Eq => v = none ∧ kp = kq ∧ L = Lq ∧ tw_fr kp L [] [326, 327, 328] E Eq ∧ (t1_ok Eq a0 13) ∧ (sx_ok Eq a0 E x1.toInt x2.toInt 150) ∧ (ot_ok Eq a0 13 E) ∧ rd_ok Eq a0) A) [.ref a0, .int x1, .int x2, .int x3].toArray s 0 0 A) (F0 m 119 ls []) := by
              intro Eg119 H locs ls hG119 hcg119_0 hcg119_1 hcg119_2 hcg119_3 TH hS hl
              have hF := hF.tr hG119 (fun _ h => ⟨h, rfl⟩) (by decide) (by decide)
              have hG3 := hG3.tr hG119 (fun _ h => ⟨h, rfl⟩) (by decide) (by decide)
              have hmf73 : tw_fv Eg119 a0 16 = .ref xr39 := (hG119.1 a0 16 hm0 (by rw [hk0]; decide)).trans hmf69
              have hmf74 : tw_fv Eg119 a0 26 = .int xi41 := (hG119.1 a0 26 hm0 (by rw [hk0]; decide)).trans hmf70
              obtain ⟨zi75, ezi75⟩ : ∃ z : Int32, z = y3_4 + Int32.ofInt 1 := ⟨_, rfl⟩
              have hzi75 : zi75.toInt = y3_4.toInt + 1 := by rw [ezi75]; have : ((Int32.ofInt 1).toInt) = 1 := (by decide);  exact (ia_add (by omega) (by omega)).trans (by omega)
              refine lv_iinc (v := zi75) (lv' := [(4, .int zi75), (0, .ref a0), (1, .int x1), (2, .int x2), (3, .int x3)]) hx hb dX12_stacks_119 hl (k := 0) rfl ezi75.symm (by decide) rfl (fun ls hl => ?_)
              refine lv_goto (tgt := 3) hx hb dX12_stacks_122 (by decide) ?_
              exact ih3 (n3 - 1) (by   omega) zi75 _ _ _ ls (by omega) (by omega) (by   omega) hG3 hcg119_0 hcg119_1 (ww_ok_cast (by  omega) hcg119_2) (sx_ok_cast (by  omega) hcg119_3) TH hS (lv_sub hl [0, 1, 2, 3, 4] rfl)
            have hG119 : tw_fr kp L [] [327, 328] E64 E64 := tw_fr.rf
            refine lv_if_ne (tgt := 63) hx hb dX12_stacks_57 (by decide) (fun hc76 => ?_) (fun hc76 => ?_)
            · have hf77 : ¬ (xe72.toInt = 0) := fun q => hc76 ((fa_eq _ _).mpr (by have : ((0 : Int32).toInt) = 0 := (by decide); omega))
              have rf_xe72 : rw_h E64 a0 (13) (y3_4.toInt).toNat = xe72.toInt := (by have q := rw_h_of (m := a0) (i := (13 : Int32)) (c := y3_4) hmf69 exr71 exe72; rw [show ((13 : Int32).toInt) = 13 from (by decide)] at q; exact q)
              exfalso
              have e1 : ((1 : Int32).toInt) = 1 := (by decide)
              have e0 : ((0 : Int32).toInt) = 0 := (by decide)
              (try rw [h13n] at rf_xe72)
              omega
            · have hf78 : xe72.toInt = 0 := by have z := (fa_eq _ _).mp hc76; have : ((0 : Int32).toInt) = 0 := (by decide); omega
              have hsx60 : sx_ok E64 a0 E (x1.toInt) (x2.toInt) (y3_4.toInt + 1) := sx_push0 hcg3_3 (h13n.trans (by decide)) hnb
              have hww60 : ww_ok E64 a0 E (y3_4.toInt + 1) := ww_ok_mono (by omega) hcg3_2
              refine lv_goto (tgt := 119) hx hb dX12_stacks_60 (by decide) ?_
              exact hJ119  _ _ _ ls hG119 hcg3_0 hcg3_1 hww60 hsx60 TH hS (lv_sub hl [0, 1, 2, 3, 4] rfl)
          · have hf79 : ¬ (xc61.toInt = 0) := fun q => hc62 ((fa_eq _ _).mpr (by have : ((0 : Int32).toInt) = 0 := (by decide); omega))
            refine lv_iconst (v := 1) hx hb dX12_stacks_41 (by decide) ?_
            refine lv_goto (tgt := 46) hx hb dX12_stacks_42 (by decide) ?_
            refine tw_zast (k := 326) (n := 150) (lo := 0) (hi := 1) hx hb hK TH hS hmxr40 hkxr40 (by decide) rfl (i := y3_4) (x := 1) (vp_in_iff.mpr ⟨by  omega, by  omega⟩) (by have : ((1 : Int32).toInt) = 1 := (by decide); omega) (by have : ((1 : Int32).toInt) = 1 := (by decide); omega) (by have : ((1 : Int32).toInt) = 1 := (by decide); omega) (by have : ((1 : Int32).toInt) = 1 := (by decide); omega) dX12_stacks_46 (fun H locs E80 TH hS hp81 hp82 hp83 => ?_)
            have hst84 : tw_fr kp L [] [326] Eg3 E80 := tw_fr.ast tw_fr.rf (fun _ => hkxr40) hp81 hp82 (by decide)
            have hF := hF.tr hst84 (fun _ h => ⟨h, rfl⟩) (by decide) (by decide)
            have hG3 := hG3.tr hst84 (fun _ h => ⟨h, rfl⟩) (by decide) (by decide)
            have hmf85 : tw_fv E80 a0 16 = .ref xr39 := (hst84.1 a0 16 hm0 (by rw [hk0]; decide)).trans hxr39
            have hmf86 : tw_fv E80 a0 26 = .int xi41 := (hst84.1 a0 26 hm0 (by rw [hk0]; decide)).trans hxi41
            have hcg3_0_o := hcg3_0
            have hcg3_1_o := hcg3_1
            have hcg3_2_o := hcg3_2
            have hcg3_3_o := hcg3_3
            have hcg3_0 : rd_ok E80 a0 := rd_ok_fr TH hst84 hm0 hk0 (by decide) (by decide) hcg3_0
            have hcg3_1 : ot_ok E80 a0 (13) E := (by have e13 : ((13 : Int32).toInt) = 13 := (by decide); have q := ot_ok_h (i := 13) TH hm0 hk0 hcg3_0_o hxr39 exr40 hkxr39 hkxr40 hp81 hp82 (by omega) (by omega) (show ot_ok _ _ _ _ from (by rw [e13]; exact hcg3_1_o)); rw [e13] at q; exact q)
            have hcg3_2 : ww_ok E80 a0 E (y3_4.toInt) := ww_ok_fr TH hst84 hm0 hk0 (by decide) (by decide) hcg3_2
            have hcg3_3 : sx_ok E80 a0 E (x1.toInt) (x2.toInt) (y3_4.toInt) := (by have e13 : ((13 : Int32).toInt) = 13 := (by decide); have q := rw_h_st (m := a0) (i := 13) (c := y3_4) hxr39 exr40 hkxr39 hkxr40 hp81 hp82 hp83; rw [e13] at q; exact sx_keep hcg3_3_o (by omega) q (rw_p_hst TH hm0 hk0 hkxr40 hp81 hp82 (i := 13) (by decide)))
            have h13n : rw_h E80 a0 13 (y3_4.toInt).toNat = (1 : Int32).toInt := (by have e13 : ((13 : Int32).toInt) = 13 := (by decide); have q := rw_h_st (m := a0) (i := 13) (c := y3_4) hxr39 exr40 hkxr39 hkxr40 hp81 hp82 hp83 (y3_4.toInt).toNat; rw [e13, if_pos rfl] at q; exact q)
            have hn26 := (show y3_4.toInt < tw_fi E a0 26 from (by rw [← tw_fi_fr hF hm0 hk0 (k := 26) (by decide), tw_fi_of hmf86]; omega))
            refine lv_aload_n hx hb dX12_stacks_47 rfl (lv_at hl 1 rfl) ?_
            refine tw_get (ci := 12) (C := RX12) (T := TX12) (N := 64) hx hb hB cx_inX12 hown hK TH hm0 hk0 rfl ⟨by decide, rfl⟩ 16 (by decide) cw_1209 (fun _ h9 => h9) dX12_stacks_48 (fun hv => ?_)
            rw [hmf85]
            refine lv_bipush (v := 13) hx hb dX12_stacks_51 (by decide) ?_
            refine tw_aald (k := 316) (t0 := 5) (n := 16) (lo := 326) (hi := 0) (ty := .boolean) hx hb hK TH hmxr39 hkxr39 (by decide) rfl rfl (i := 13) (vp_in_iff.mpr ⟨by have : ((13 : Int32).toInt) = 13 := (by decide); omega, by have : ((13 : Int32).toInt) = 13 := (by decide); omega⟩) dX12_stacks_53 (fun xr87 exr87 hmxr87 hkxr87 => ?_)
            have hkxr87 : kp xr87 = 326 := hkxr87
            refine lv_iload hx hb dX12_stacks_54 (lv_at hl 0 rfl) ?_
            refine tw_zald (k := 326) (t0 := 3) (n := 150) (lo := 0) (hi := 1) hx hb hK TH hmxr87 hkxr87 (by decide) rfl rfl (i := y3_4) (vp_in_iff.mpr ⟨by  omega, by  omega⟩) dX12_stacks_56 (fun hxe88a hxe88b => ?_)
            obtain ⟨xe88, exe88⟩ : ∃ z : Int32, tw_iv E80 xr87 (Int32.toNatClampNeg y3_4) = z := ⟨_, rfl⟩
            rw [exe88] at hxe88a hxe88b ⊢
            have hJ119 : ∀  (Eg119 : Nat → va_E) (H : Heap) (locs : List Loc) (ls : Array Slot), tw_fr kp L [] [327, 328] E80 Eg119 → rd_ok Eg119 a0 → ot_ok Eg119 a0 (13) E → ww_ok Eg119 a0 E (y3_4.toInt + 1) → sx_ok Eg119 a0 E (x1.toInt) (x2.toInt) (y3_4.toInt + 1) → tw_H D cs kp L Eg119 A H → va_S A s.heap H locs → lv_has ls 6 [(4, .int y3_4), (0, .ref a0), (1, .int x1), (2, .int x2), (3, .int x3)] → W p l e { frames := 3, cells := 0, slots := 0, locals := 73 } s m [.ref a0, .int x1, .int x2, .int x3].toArray below meth c H locs 0 0 (MQ below (tw_Q D cs kp0 L0 (fun v kq Lq Eq => v = none ∧ kp = kq ∧ L = Lq ∧ tw_fr kp L [] [326, 327, 328] E Eq ∧ (t1_ok Eq a0 13) ∧ (sx_ok Eq a0 E x1.toInt x2.toInt 150) ∧ (ot_ok Eq a0 13 E) ∧ rd_ok Eq a0) A) [.ref a0, .int x1, .int x2, .int x3].toArray s 0 0 A) (F0 m 119 ls []) := by
              intro Eg119 H locs ls hG119 hcg119_0 hcg119_1 hcg119_2 hcg119_3 TH hS hl
              have hF := hF.tr hG119 (fun _ h => ⟨h, rfl⟩) (by decide) (by decide)
              have hG3 := hG3.tr hG119 (fun _ h => ⟨h, rfl⟩) (by decide) (by decide)
              have hmf89 : tw_fv Eg119 a0 16 = .ref xr39 := (hG119.1 a0 16 hm0 (by rw [hk0]; decide)).trans hmf85
              have hmf90 : tw_fv Eg119 a0 26 = .int xi41 := (hG119.1 a0 26 hm0 (by rw [hk0]; decide)).trans hmf86
              obtain ⟨zi91, ezi91⟩ : ∃ z : Int32, z = y3_4 + Int32.ofInt 1 := ⟨_, rfl⟩
              have hzi91 : zi91.toInt = y3_4.toInt + 1 := by rw [ezi91]; have : ((Int32.ofInt 1).toInt) = 1 := (by decide);  exact (ia_add (by omega) (by omega)).trans (by omega)
              refine lv_iinc (v := zi91) (lv' := [(4, .int zi91), (0, .ref a0), (1, .int x1), (2, .int x2), (3, .int x3)]) hx hb dX12_stacks_119 hl (k := 0) rfl ezi91.symm (by decide) rfl (fun ls hl => ?_)
              refine lv_goto (tgt := 3) hx hb dX12_stacks_122 (by decide) ?_
              exact ih3 (n3 - 1) (by   omega) zi91 _ _ _ ls (by omega) (by omega) (by   omega) hG3 hcg119_0 hcg119_1 (ww_ok_cast (by  omega) hcg119_2) (sx_ok_cast (by  omega) hcg119_3) TH hS (lv_sub hl [0, 1, 2, 3, 4] rfl)
            have hG119 : tw_fr kp L [] [327, 328] E80 E80 := tw_fr.rf
            refine lv_if_ne (tgt := 63) hx hb dX12_stacks_57 (by decide) (fun hc92 => ?_) (fun hc92 => ?_)
            · have hf93 : ¬ (xe88.toInt = 0) := fun q => hc92 ((fa_eq _ _).mpr (by have : ((0 : Int32).toInt) = 0 := (by decide); omega))
              have hlive := trivial
              refine lv_aload_n hx hb dX12_stacks_63 rfl (lv_at hl 1 rfl) ?_
              refine tw_get (ci := 12) (C := RX12) (T := TX12) (N := 64) hx hb hB cx_inX12 hown hK TH hm0 hk0 rfl ⟨by decide, rfl⟩ 17 (by decide) cw_1210 (fun _ h9 => h9) dX12_stacks_64 (fun hv => ?_)
              obtain ⟨xr94, hxr94, hmxr94, hkxr94⟩ : ∃ a : Nat, tw_fv E80 a0 17 = .ref a ∧ a ∈ L ∧ kp a = 317 := hv
              rw [hxr94]
              refine lv_bipush (v := 13) hx hb dX12_stacks_67 (by decide) ?_
              refine tw_aald (k := 317) (t0 := 6) (n := 16) (lo := 327) (hi := 0) (ty := .long) hx hb hK TH hmxr94 hkxr94 (by decide) rfl rfl (i := 13) (vp_in_iff.mpr ⟨by have : ((13 : Int32).toInt) = 13 := (by decide); omega, by have : ((13 : Int32).toInt) = 13 := (by decide); omega⟩) dX12_stacks_69 (fun xr95 exr95 hmxr95 hkxr95 => ?_)
              have hkxr95 : kp xr95 = 327 := hkxr95
              refine lv_iload hx hb dX12_stacks_70 (lv_at hl 0 rfl) ?_
              refine lv_aload_n hx hb dX12_stacks_72 rfl (lv_at hl 1 rfl) ?_
              refine tw_get (ci := 12) (C := RX12) (T := TX12) (N := 64) hx hb hB cx_inX12 hown hK TH hm0 hk0 rfl ⟨by decide, rfl⟩ 17 (by decide) cw_1210 (fun _ h9 => h9) dX12_stacks_73 (fun hv => ?_)
              rw [hxr94]
              refine lv_aload_n hx hb dX12_stacks_76 rfl (lv_at hl 1 rfl) ?_
              refine lv_iload hx hb dX12_stacks_77 (lv_at hl 0 rfl) ?_
              refine lv_iload_n hx hb dX12_stacks_79 rfl (lv_at hl 2 rfl) ?_
              refine lv_iload_n hx hb dX12_stacks_80 rfl (lv_at hl 3 rfl) ?_
              refine lv_iload_n hx hb dX12_stacks_81 rfl (lv_at hl 4 rfl) ?_
              refine lv_iconst (v := 1) hx hb dX12_stacks_82 (by decide) ?_
              refine tw_Vc (o := a0) (ci := 12) (n := 5) (post := (fun v kq Lq Eq => (∃ x : Int32, v = some (.int x) ∧ (-2) ≤ x.toInt ∧ x.toInt ≤ 15 ∧ (x.toInt ≠ -1 ∧ ((1 : Int32).toInt ≠ 0 → (x.toInt = -2 ↔ un_w E80 a0 y3_4.toInt x1.toInt x2.toInt x3.toInt)) ∧ ((1 : Int32).toInt = 0 → (x.toInt = -2 ↔ un_p E80 a0 y3_4.toInt x1.toInt x2.toInt x3.toInt))) ∧ (rw_h E80 a0 x1.toInt (y3_4.toInt).toNat ≠ 0 → rw_h E80 a0 x2.toInt (y3_4.toInt).toNat ≠ 0 → (1 : Int32).toInt = 0 → rw_p E80 a0 x1.toInt (y3_4.toInt).toNat = rw_p E80 a0 x2.toInt (y3_4.toInt).toNat → x.toInt = x1.toInt)) ∧ kp = kq ∧ L = Lq ∧ E80 = Eq)) (As := [.int y3_4, .int x1, .int x2, .int x3, .int 1]) (rest := [.ref xr94, .int y3_4, .ref xr95]) ⟨hx, hb, hml, hown, hB⟩ (fun sz => tX12_sideOf l D cs a0 y3_4 x1 x2 x3 (1 : Int32) hm0 hk0 (by omega) (by omega) (by omega) (by omega) (by omega) (by omega) (by omega) (by omega) (by have : ((1 : Int32).toInt) = 1 := (by decide); omega) (by have : ((1 : Int32).toInt) = 1 := (by decide); omega) sz) cg_12_470_X12_sideOf rfl rfl (by decide +kernel) ⟨Nat.le_of_ble_eq_true rfl, Nat.le_of_ble_eq_true rfl⟩ hK hN TH hS hA rfl hm0 hk0 (by decide) rfl hl.1 rfl (Nat.le_of_ble_eq_true rfl) dX12_stacks_83 ⟨Nat.le_of_ble_eq_true rfl, Nat.le_of_ble_eq_true rfl⟩ (fun v96 kp96 L96 E96 H locs hq96 hx96 TH hS => ?_)
              obtain ⟨⟨xc97, rfl, hxc97a, hxc97b, hpoxc97_0, hpoxc97_1⟩, rfl, rfl, rfl⟩ := hq96
              refine W.eq (g2 := F0 m 86 ls [.int xc97, .ref xr94, .int y3_4, .ref xr95]) rfl ?_
              have hsd2 : 0 ≤ xc97.toInt := (by have e1 : ((1 : Int32).toInt) = 1 := (by decide); have e0 : ((0 : Int32).toInt) = 0 := (by decide); have oa := hcg3_1 (x1.toInt) (by omega) (by omega) (by omega); have ob := hcg3_1 (x2.toInt) (by omega) (by omega) (by omega); have oo := hcg3_1 (x3.toInt) (by omega) (by omega) (by omega); have hu := un_w_same oa.1 ob.1 oo.1 (hcg3_2 (x1.toInt) (by omega) (by omega) _ (by omega)) (hcg3_2 (x2.toInt) (by omega) (by omega) _ (by omega)) (hcg3_2 (x3.toInt) (by omega) (by omega) _ (by omega)) (st_ns_fr TH hF hm0 hk0 (by decide) (by decide) (n := y3_4.toInt) (kd := 2) (a := x1.toInt) (b := x2.toInt)); have z := hpoxc97_0.2.1 (by omega); have nu := hpre3.1 (y3_4.toInt) (by omega) hn26 (fun z => absurd z (by decide)); rw [← hu, ← z] at nu; have n1 := hpoxc97_0.1; omega)
              refine tw_aald (k := 317) (t0 := 6) (n := 16) (lo := 327) (hi := 0) (ty := .long) hx hb hK TH hmxr94 hkxr94 (by decide) rfl rfl (i := xc97) (vp_in_iff.mpr ⟨by  omega, by  omega⟩) dX12_stacks_86 (fun xr98 exr98 hmxr98 hkxr98 => ?_)
              have hkxr98 : kp xr98 = 327 := hkxr98
              refine lv_iload hx hb dX12_stacks_87 (lv_at hl 0 rfl) ?_
              refine tw_lald2 (k := 327) (n := 150) (lo := 0) (hi := 0) hx hb hK TH hmxr98 hkxr98 (by decide) rfl (i := y3_4) (vp_in_iff.mpr ⟨by  omega, by  omega⟩) dX12_stacks_89 (fun xl99 exl99 => ?_)
              refine tw_last2 (k := 327) (n := 150) (lo := 0) (hi := 0) hx hb hK TH hS hmxr95 hkxr95 (by decide) rfl (i := y3_4) (x := xl99) (vp_in_iff.mpr ⟨by  omega, by  omega⟩) dX12_stacks_90 (fun H locs E100 TH hS hp101 hp102 hp104 => ?_)
              have hst103 : tw_fr kp L [] [327] E80 E100 := tw_fr.ast tw_fr.rf (fun _ => hkxr95) hp101 hp102 (by decide)
              have hF := hF.tr hst103 (fun _ h => ⟨h, rfl⟩) (by decide) (by decide)
              have hG3 := hG3.tr hst103 (fun _ h => ⟨h, rfl⟩) (by decide) (by decide)
              have hG119 := hG119.tr hst103 (fun _ h => ⟨h, rfl⟩) (by decide) (by decide)
              have hmf105 : tw_fv E100 a0 16 = .ref xr39 := (hst103.1 a0 16 hm0 (by rw [hk0]; decide)).trans hmf85
              have hmf106 : tw_fv E100 a0 26 = .int xi41 := (hst103.1 a0 26 hm0 (by rw [hk0]; decide)).trans hmf86
              have hmf107 : tw_fv E100 a0 17 = .ref xr94 := (hst103.1 a0 17 hm0 (by rw [hk0]; decide)).trans hxr94
              have hcg3_0_o := hcg3_0
              have hcg3_1_o := hcg3_1
              have hcg3_2_o := hcg3_2
              have hcg3_3_o := hcg3_3
              have hcg3_0 : rd_ok E100 a0 := rd_ok_fr TH hst103 hm0 hk0 (by decide) (by decide) hcg3_0
              have hcg3_1 : ot_ok E100 a0 (13) E := ot_ok_fr TH hst103 hm0 hk0 (by decide) (by decide) hcg3_1
              have hcg3_2 : ww_ok E100 a0 E (y3_4.toInt + 1) := (fun i h0 h3 j hj => (rw_w_col TH hm0 hk0 hkxr95 hp101 hp102 hp104 (c := y3_4) (by omega)).trans (hcg3_2_o i h0 h3 j (by omega)))
              have hcg3_3 : sx_ok E100 a0 E (x1.toInt) (x2.toInt) (y3_4.toInt) := sx_ok_fr TH hst103 hm0 hk0 (by decide) (by decide) hcg3_3
              have h13w : rw_h E100 a0 13 (y3_4.toInt).toNat = ((1 : Int32).toInt) := (by rw [rw_h_fr TH hst103 hm0 hk0 (by decide) (by decide) (by decide) (i := 13) (by decide)]; exact h13n)
              refine lv_aload_n hx hb dX12_stacks_91 rfl (lv_at hl 1 rfl) ?_
              refine tw_get (ci := 12) (C := RX12) (T := TX12) (N := 64) hx hb hB cx_inX12 hown hK TH hm0 hk0 rfl ⟨by decide, rfl⟩ 18 (by decide) cw_1211 (fun _ h9 => h9) dX12_stacks_92 (fun hv => ?_)
              obtain ⟨xr108, hxr108, hmxr108, hkxr108⟩ : ∃ a : Nat, tw_fv E100 a0 18 = .ref a ∧ a ∈ L ∧ kp a = 318 := hv
              rw [hxr108]
              refine lv_bipush (v := 13) hx hb dX12_stacks_95 (by decide) ?_
              refine tw_aald (k := 318) (t0 := 4) (n := 16) (lo := 328) (hi := 0) (ty := .int) hx hb hK TH hmxr108 hkxr108 (by decide) rfl rfl (i := 13) (vp_in_iff.mpr ⟨by have : ((13 : Int32).toInt) = 13 := (by decide); omega, by have : ((13 : Int32).toInt) = 13 := (by decide); omega⟩) dX12_stacks_97 (fun xr109 exr109 hmxr109 hkxr109 => ?_)
              have hkxr109 : kp xr109 = 328 := hkxr109
              refine lv_iload hx hb dX12_stacks_98 (lv_at hl 0 rfl) ?_
              refine lv_aload_n hx hb dX12_stacks_100 rfl (lv_at hl 1 rfl) ?_
              refine tw_get (ci := 12) (C := RX12) (T := TX12) (N := 64) hx hb hB cx_inX12 hown hK TH hm0 hk0 rfl ⟨by decide, rfl⟩ 18 (by decide) cw_1211 (fun _ h9 => h9) dX12_stacks_101 (fun hv => ?_)
              rw [hxr108]
              refine lv_aload_n hx hb dX12_stacks_104 rfl (lv_at hl 1 rfl) ?_
              refine lv_iload hx hb dX12_stacks_105 (lv_at hl 0 rfl) ?_
              refine lv_iload_n hx hb dX12_stacks_107 rfl (lv_at hl 2 rfl) ?_
              refine lv_iload_n hx hb dX12_stacks_108 rfl (lv_at hl 3 rfl) ?_
              refine lv_iload_n hx hb dX12_stacks_109 rfl (lv_at hl 4 rfl) ?_
              refine lv_iconst (v := 0) hx hb dX12_stacks_110 (by decide) ?_
              refine tw_Vc (o := a0) (ci := 12) (n := 5) (post := (fun v kq Lq Eq => (∃ x : Int32, v = some (.int x) ∧ (-2) ≤ x.toInt ∧ x.toInt ≤ 15 ∧ (x.toInt ≠ -1 ∧ ((0 : Int32).toInt ≠ 0 → (x.toInt = -2 ↔ un_w E100 a0 y3_4.toInt x1.toInt x2.toInt x3.toInt)) ∧ ((0 : Int32).toInt = 0 → (x.toInt = -2 ↔ un_p E100 a0 y3_4.toInt x1.toInt x2.toInt x3.toInt))) ∧ (rw_h E100 a0 x1.toInt (y3_4.toInt).toNat ≠ 0 → rw_h E100 a0 x2.toInt (y3_4.toInt).toNat ≠ 0 → (0 : Int32).toInt = 0 → rw_p E100 a0 x1.toInt (y3_4.toInt).toNat = rw_p E100 a0 x2.toInt (y3_4.toInt).toNat → x.toInt = x1.toInt)) ∧ kp = kq ∧ L = Lq ∧ E100 = Eq)) (As := [.int y3_4, .int x1, .int x2, .int x3, .int 0]) (rest := [.ref xr108, .int y3_4, .ref xr109]) ⟨hx, hb, hml, hown, hB⟩ (fun sz => tX12_sideOf l D cs a0 y3_4 x1 x2 x3 (0 : Int32) hm0 hk0 (by omega) (by omega) (by omega) (by omega) (by omega) (by omega) (by omega) (by omega) (by have : ((0 : Int32).toInt) = 0 := (by decide); omega) (by have : ((0 : Int32).toInt) = 0 := (by decide); omega) sz) cg_12_470_X12_sideOf rfl rfl (by decide +kernel) ⟨Nat.le_of_ble_eq_true rfl, Nat.le_of_ble_eq_true rfl⟩ hK hN TH hS hA rfl hm0 hk0 (by decide) rfl hl.1 rfl (Nat.le_of_ble_eq_true rfl) dX12_stacks_111 ⟨Nat.le_of_ble_eq_true rfl, Nat.le_of_ble_eq_true rfl⟩ (fun v110 kp110 L110 E110 H locs hq110 hx110 TH hS => ?_)
              obtain ⟨⟨xc111, rfl, hxc111a, hxc111b, hpoxc111_0, hpoxc111_1⟩, rfl, rfl, rfl⟩ := hq110
              refine W.eq (g2 := F0 m 114 ls [.int xc111, .ref xr108, .int y3_4, .ref xr109]) rfl ?_
              have hsd3 : 0 ≤ xc111.toInt := (by have e1 : ((1 : Int32).toInt) = 1 := (by decide); have e0 : ((0 : Int32).toInt) = 0 := (by decide); have oa := hcg3_1 (x1.toInt) (by omega) (by omega) (by omega); have ob := hcg3_1 (x2.toInt) (by omega) (by omega) (by omega); have oo := hcg3_1 (x3.toInt) (by omega) (by omega) (by omega); have hu := un_p_same oa.1 ob.1 oo.1 oa.2 ob.2 oo.2 (st_ns_fr TH hF hm0 hk0 (by decide) (by decide) (n := y3_4.toInt) (kd := 3) (a := x1.toInt) (b := x2.toInt)); have z := hpoxc111_0.2.2 (by omega); have nu := hpre3.2 (y3_4.toInt) (by omega) hn26 (by decide) (fun z => absurd z (by decide)); rw [← hu, ← z] at nu; have n1 := hpoxc111_0.1; omega)
              refine tw_aald (k := 318) (t0 := 4) (n := 16) (lo := 328) (hi := 0) (ty := .int) hx hb hK TH hmxr108 hkxr108 (by decide) rfl rfl (i := xc111) (vp_in_iff.mpr ⟨by  omega, by  omega⟩) dX12_stacks_114 (fun xr112 exr112 hmxr112 hkxr112 => ?_)
              have hkxr112 : kp xr112 = 328 := hkxr112
              refine lv_iload hx hb dX12_stacks_115 (lv_at hl 0 rfl) ?_
              refine tw_iald (k := 328) (t0 := 0) (n := 150) (lo := (-1)) (hi := 149) hx hb hK TH hmxr112 hkxr112 (by decide) rfl rfl (i := y3_4) (vp_in_iff.mpr ⟨by  omega, by  omega⟩) dX12_stacks_117 (fun hxe113a hxe113b => ?_)
              obtain ⟨xe113, exe113⟩ : ∃ z : Int32, tw_iv E100 xr112 (Int32.toNatClampNeg y3_4) = z := ⟨_, rfl⟩
              rw [exe113] at hxe113a hxe113b ⊢
              refine tw_iast (k := 328) (n := 150) (lo := (-1)) (hi := 149) hx hb hK TH hS hmxr109 hkxr109 (by decide) rfl (i := y3_4) (x := xe113) (vp_in_iff.mpr ⟨by  omega, by  omega⟩) (by omega) (by omega) dX12_stacks_118 (fun H locs E114 TH hS hp115 hp116 hp117 => ?_)
              have hst118 : tw_fr kp L [] [328] E100 E114 := tw_fr.ast tw_fr.rf (fun _ => hkxr109) hp115 hp116 (by decide)
              have hF := hF.tr hst118 (fun _ h => ⟨h, rfl⟩) (by decide) (by decide)
              have hG3 := hG3.tr hst118 (fun _ h => ⟨h, rfl⟩) (by decide) (by decide)
              have hG119 := hG119.tr hst118 (fun _ h => ⟨h, rfl⟩) (by decide) (by decide)
              have hmf119 : tw_fv E114 a0 16 = .ref xr39 := (hst118.1 a0 16 hm0 (by rw [hk0]; decide)).trans hmf105
              have hmf120 : tw_fv E114 a0 26 = .int xi41 := (hst118.1 a0 26 hm0 (by rw [hk0]; decide)).trans hmf106
              have hmf121 : tw_fv E114 a0 17 = .ref xr94 := (hst118.1 a0 17 hm0 (by rw [hk0]; decide)).trans hmf107
              have hmf122 : tw_fv E114 a0 18 = .ref xr108 := (hst118.1 a0 18 hm0 (by rw [hk0]; decide)).trans hxr108
              have hcg3_0_o := hcg3_0
              have hcg3_1_o := hcg3_1
              have hcg3_2_o := hcg3_2
              have hcg3_3_o := hcg3_3
              have hcg3_0 : rd_ok E114 a0 := rd_ok_fr TH hst118 hm0 hk0 (by decide) (by decide) hcg3_0
              have hcg3_1 : ot_ok E114 a0 (13) E := (by have e13 : ((13 : Int32).toInt) = 13 := (by decide); have q := ot_ok_p (i := 13) TH hm0 hk0 hcg3_0_o hxr108 exr109 hkxr108 hkxr109 hp115 hp116 (by omega) (by omega) (show ot_ok _ _ _ _ from (by rw [e13]; exact hcg3_1_o)); rw [e13] at q; exact q)
              have hcg3_2 : ww_ok E114 a0 E (y3_4.toInt + 1) := ww_ok_fr TH hst118 hm0 hk0 (by decide) (by decide) hcg3_2
              have hcg3_3 : sx_ok E114 a0 E (x1.toInt) (x2.toInt) (y3_4.toInt + 1) := (by have e13 : ((13 : Int32).toInt) = 13 := (by decide); have e0 : ((0 : Int32).toInt) = 0 := (by decide); have oa := hcg3_1_o (x1.toInt) (by omega) (by omega) (by omega); have ob := hcg3_1_o (x2.toInt) (by omega) (by omega) (by omega); have oo := hcg3_1_o (x3.toInt) (by omega) (by omega) (by omega); have rf_xe113 : rw_p E100 a0 (xc111.toInt) (y3_4.toInt).toNat = xe113.toInt := rw_p_of (m := a0) (i := xc111) (c := y3_4) hxr108 exr112 exe113; have q := rw_p_st (m := a0) (i := 13) (c := y3_4) hxr108 exr109 hkxr108 hkxr109 hp115 hp116 hp117; rw [e13] at q; refine sx_push1 hcg3_3_o (by omega) hn26 ?_ (rw_h_pst TH hm0 hk0 hkxr109 hp115 hp116 (i := 13) (by decide)) q (fun z1 z2 z3 z4 => ?_); (rw [h13w]; decide); (rw [← oa.1] at z1; rw [← ob.1] at z2; rw [← oa.2] at z3; rw [← ob.2] at z4; have zz := hpoxc111_1 z1 z2 (by omega) (z3.trans z4.symm); rw [zz, z3] at rf_xe113; omega))
              exact hJ119  _ _ _ ls hG119 hcg3_0 hcg3_1 hcg3_2 hcg3_3 TH hS (lv_sub hl [0, 1, 2, 3, 4] rfl)
            · have hf123 : xe88.toInt = 0 := by have z := (fa_eq _ _).mp hc92; have : ((0 : Int32).toInt) = 0 := (by decide); omega
              have rf_xe88 : rw_h E80 a0 (13) (y3_4.toInt).toNat = xe88.toInt := (by have q := rw_h_of (m := a0) (i := (13 : Int32)) (c := y3_4) hmf85 exr87 exe88; rw [show ((13 : Int32).toInt) = 13 from (by decide)] at q; exact q)
              exfalso
              have e1 : ((1 : Int32).toInt) = 1 := (by decide)
              have e0 : ((0 : Int32).toInt) = 0 := (by decide)
              (try rw [h13n] at rf_xe88)
              omega
  exact hJ3 151 (0 : Int32) _ _ _ ls (by have : ((0 : Int32).toInt) = 0 := (by decide); omega) (by have : ((0 : Int32).toInt) = 0 := (by decide); omega) (by have : ((0 : Int32).toInt) = 0 := (by decide);  omega) tw_fr.rf hg2 hot (ww_ok_cast (by have : ((0 : Int32).toInt) = 0 := (by decide); omega) hww) (sx_ok_cast (by have : ((0 : Int32).toInt) = 0 := (by decide); omega) hsx) TH hS (lv_sub hl [0, 1, 2, 3, 4] rfl)
set_option maxHeartbeats 4000000 in
set_option maxRecDepth 100000 in
theorem tX12_secondQuarrels (l : Launch) (D : va_G) (cs : Nat → ClassId) {kp : Nat → Nat} {L : List Nat} {E : Nat → va_E} (a0 : Nat) (fv0_57 : Int32) (hm0 : a0 ∈ L) (hk0 : kp a0 = 12) (hfv0_57 : tw_fv E a0 57 = .int fv0_57) (hpre0 : fv0_57.toInt = 0) (sz : Nat) : Met l yX12_secondQuarrels (.code yX12_secondQuarrels cX12_secondQuarrels 2 none :: cx_big) { frames := 2, cells := 0, slots := 0, locals := 46 } (tw_P D cs kp L E [.ref a0] sz) (tw_Q D cs kp L (fun v kq Lq Eq => v = none ∧ kp = kq ∧ L = Lq ∧ tw_fr kp L [(12, 57)] [359] E Eq ∧ (tw_fi Eq a0 57 = 0 → lr_all (rw_h E a0 13) (rw_p E a0 13) 150 ∧ rt_size (rw_h E a0 13) ≤ 40) ∧ (∃ z0 : Int32, tw_fv Eq a0 57 = .int z0 ∧ (z0.toInt ≤ 151))) (va_A (va_pl L E) sz)) 0 0 (va_A (va_pl L E) sz) := by
  refine tw_ofW (by decide) (Nat.le_of_ble_eq_true rfl) ?_
  intro p e s m below meth c A ls hx hb hr hml hB hown hlocks hK hN hA TH hS hl
  have hown : s.vm.findClass "TreeMergeModel" = some m.cls := hown
  have hl : lv_has ls 2 [(0, .ref a0)] := hl
  obtain ⟨kp0, ekp⟩ : ∃ z, z = kp := ⟨_, rfl⟩
  obtain ⟨L0, eL⟩ : ∃ z, z = L := ⟨_, rfl⟩
  rw [show tw_Q D cs kp L = tw_Q D cs kp0 L0 by rw [ekp, eL]]
  have hex : ∀ a : Nat, a ∈ L0 → a ∈ L ∧ kp a = kp0 a := fun a h => ⟨by rw [← eL]; exact h, by rw [ekp]⟩
  have hF : tw_fr kp L [(12, 57)] [359] E E := tw_fr.rf
  obtain ⟨qfv0_57, hqfv0_57, hqfv0_57a, hqfv0_57b⟩ := tw_rd TH hm0 hk0 (by decide) (by decide) (k := 57) rfl
  have eqfv0_57 : qfv0_57 = fv0_57 := by have q := hqfv0_57.symm.trans hfv0_57; injection q
  rw [eqfv0_57] at hqfv0_57a hqfv0_57b
  refine lv_iconst (v := 0) hx hb dX12_secondQuarrels_0 (by decide) ?_
  refine lv_istore_n (lv' := [(1, .int 0), (0, .ref a0)]) hx hb dX12_secondQuarrels_1 rfl hl (by decide) rfl (fun ls hl => ?_)
  have hJ2 : ∀ (n2 : Nat) (y2_1 : Int32) (u2_0_57 : Int32) (Eg2 : Nat → va_E) (H : Heap) (locs : List Loc) (ls : Array Slot), 0 ≤ y2_1.toInt → y2_1.toInt ≤ 150 → 0 ≤ u2_0_57.toInt → u2_0_57.toInt ≤ 1200 → (u2_0_57.toInt ≤ y2_1.toInt) → (u2_0_57.toInt = 0 → lr_all (rw_h E a0 13) (rw_p E a0 13) (y2_1.toInt)) → 150 - y2_1.toInt ≤ (n2 : Int) → tw_fv Eg2 a0 57 = .int u2_0_57 → tw_fr kp L [(12, 57)] [359] E Eg2 → tw_H D cs kp L Eg2 A H → va_S A s.heap H locs → lv_has ls 2 [(1, .int y2_1), (0, .ref a0)] → W p l e { frames := 2, cells := 0, slots := 0, locals := 46 } s m [.ref a0].toArray below meth c H locs 0 0 (MQ below (tw_Q D cs kp0 L0 (fun v kq Lq Eq => v = none ∧ kp = kq ∧ L = Lq ∧ tw_fr kp L [(12, 57)] [359] E Eq ∧ (tw_fi Eq a0 57 = 0 → lr_all (rw_h E a0 13) (rw_p E a0 13) 150 ∧ rt_size (rw_h E a0 13) ≤ 40) ∧ (∃ z0 : Int32, tw_fv Eq a0 57 = .int z0 ∧ (z0.toInt ≤ 151))) A) [.ref a0].toArray s 0 0 A) (F0 m 2 ls []) := by
    intro n2
    induction n2 using Nat.strongRecOn with
    | _ n2 ih2 =>
      intro y2_1 u2_0_57 Eg2 H locs ls hy2_1a hy2_1b hu2_0_57a hu2_0_57b hin2_0 hin2_1 hmeas2 hfm2_0 hG2 TH hS hl
      have hF := hF.tr hG2 (fun _ h => ⟨h, rfl⟩) (by decide) (by decide)
      refine lv_iload_n hx hb dX12_secondQuarrels_2 rfl (lv_at hl 0 rfl) ?_
      refine lv_sipush (v := 150) hx hb dX12_secondQuarrels_3 (by decide) ?_
      refine lv_icmp_ge (tgt := 41) hx hb dX12_secondQuarrels_6 (by decide) (fun hc1 => ?_) (fun hc1 => ?_)
      · have hf2 : 150 ≤ y2_1.toInt := by have z := (fa_le _ _).mp hc1; have : ((150 : Int32).toInt) = 150 := (by decide); omega
        refine lv_aload_n hx hb dX12_secondQuarrels_41 rfl (lv_at hl 1 rfl) ?_
        refine lv_bipush (v := 13) hx hb dX12_secondQuarrels_42 (by decide) ?_
        refine tw_Vc (o := a0) (ci := 12) (n := 1) (post := (fun v kq Lq Eq => (∃ x : Int32, v = some (.int x) ∧ 0 ≤ x.toInt ∧ x.toInt ≤ 150 ∧ (x.toInt = (rt_size (rw_h Eg2 a0 (13 : Int32).toInt) : Int))) ∧ kp = kq ∧ L = Lq ∧ Eg2 = Eq)) (As := [.int 13]) (rest := []) ⟨hx, hb, hml, hown, hB⟩ (fun sz => tX12_size l D cs a0 (13 : Int32) hm0 hk0 (by have : ((13 : Int32).toInt) = 13 := (by decide); omega) (by have : ((13 : Int32).toInt) = 13 := (by decide); omega) sz) cg_12_432_X12_size rfl rfl (by decide +kernel) ⟨Nat.le_of_ble_eq_true rfl, Nat.le_of_ble_eq_true rfl⟩ hK hN TH hS hA rfl hm0 hk0 (by decide) rfl hl.1 rfl (Nat.le_of_ble_eq_true rfl) dX12_secondQuarrels_44 ⟨Nat.le_of_ble_eq_true rfl, Nat.le_of_ble_eq_true rfl⟩ (fun v3 kp3 L3 E3 H locs hq3 hx3 TH hS => ?_)
        obtain ⟨⟨xc4, rfl, hxc4a, hxc4b, hpoxc4_0⟩, rfl, rfl, rfl⟩ := hq3
        refine W.eq (g2 := F0 m 47 ls [.int xc4]) rfl ?_
        refine lv_bipush (v := 40) hx hb dX12_secondQuarrels_47 (by decide) ?_
        refine lv_icmp_le (tgt := 62) hx hb dX12_secondQuarrels_49 (by decide) (fun hc5 => ?_) (fun hc5 => ?_)
        · have hf6 : xc4.toInt ≤ 40 := by have z := (fa_le _ _).mp hc5; have : ((40 : Int32).toInt) = 40 := (by decide); omega
          exact tw_vret hx hb hr hlocks TH hS hex ⟨rfl, rfl, rfl, hF, (by  intro q0; rw [tw_fi_of hfm2_0] at q0; have fh := rw_h_fr TH hF hm0 hk0 (by decide) (by decide) (by decide) (i := 13) (by decide); have fp := rw_p_fr TH hF hm0 hk0 (by decide) (by decide) (by decide) (i := 13) (by decide); have e13 : ((13 : Int32).toInt) = 13 := (by decide); have sz := hpoxc4_0; rw [e13, fh] at sz; have la := hin2_1 q0; rw [show y2_1.toInt = 150 by omega] at la; exact ⟨la, by omega⟩), ⟨u2_0_57, hfm2_0, by  omega⟩⟩ (Nat.le_of_ble_eq_true rfl) (Nat.le_of_ble_eq_true rfl) dX12_secondQuarrels_62
        · have hf7 : ¬ (xc4.toInt ≤ 40) := fun q => hc5 ((fa_le _ _).mpr (by have : ((40 : Int32).toInt) = 40 := (by decide); omega))
          refine lv_aload_n hx hb dX12_secondQuarrels_52 rfl (lv_at hl 1 rfl) ?_
          refine lv_bipush (v := 8) hx hb dX12_secondQuarrels_53 (by decide) ?_
          refine lv_aload_n hx hb dX12_secondQuarrels_55 rfl (lv_at hl 1 rfl) ?_
          refine tw_Vc (o := a0) (ci := 12) (n := 0) (post := (fun v kq Lq Eq => (∃ x : Int32, v = some (.int x) ∧ 0 ≤ x.toInt ∧ x.toInt ≤ 149) ∧ kp = kq ∧ L = Lq ∧ Eg2 = Eq)) (As := []) (rest := [.int 8, .ref a0]) ⟨hx, hb, hml, hown, hB⟩ (fun sz => tX12_outermost l D cs a0 hm0 hk0 sz) cg_12_483_X12_outermost rfl rfl (by decide +kernel) ⟨Nat.le_of_ble_eq_true rfl, Nat.le_of_ble_eq_true rfl⟩ hK hN TH hS hA rfl hm0 hk0 (by decide) rfl hl.1 rfl (Nat.le_of_ble_eq_true rfl) dX12_secondQuarrels_56 ⟨Nat.le_of_ble_eq_true rfl, Nat.le_of_ble_eq_true rfl⟩ (fun v8 kp8 L8 E8 H locs hq8 hx8 TH hS => ?_)
          obtain ⟨⟨xc9, rfl, hxc9a, hxc9b⟩, rfl, rfl, rfl⟩ := hq8
          refine W.eq (g2 := F0 m 59 ls [.int xc9, .int 8, .ref a0]) rfl ?_
          refine tw_Vc (o := a0) (ci := 12) (n := 2) (post := (fun v kq Lq Eq => v = none ∧ kp = kq ∧ L = Lq ∧ tw_fr kp L [(12, 57)] [359] Eg2 Eq ∧ (∃ z0 : Int32, tw_fv Eq a0 57 = .int z0 ∧ (z0.toInt = u2_0_57.toInt + 1)))) (As := [.int 8, .int xc9]) (rest := []) ⟨hx, hb, hml, hown, hB⟩ (fun sz => tX12_quarrels l D cs a0 (8 : Int32) xc9 u2_0_57 hm0 hk0 hfm2_0 (by have : ((8 : Int32).toInt) = 8 := (by decide); omega) sz) cg_12_468_X12_quarrels rfl rfl (by decide +kernel) ⟨Nat.le_of_ble_eq_true rfl, Nat.le_of_ble_eq_true rfl⟩ hK hN TH hS hA rfl hm0 hk0 (by decide) rfl hl.1 rfl (Nat.le_of_ble_eq_true rfl) dX12_secondQuarrels_59 ⟨Nat.le_of_ble_eq_true rfl, Nat.le_of_ble_eq_true rfl⟩ (fun v10 kp10 L10 E10 H locs hq10 hx10 TH hS => ?_)
          obtain ⟨rfl, rfl, rfl, hst10, ⟨zfxc11_0_0, hzfxc11_0_0, hzpxc11_0⟩⟩ := hq10
          have hF := hF.tr hst10 (fun _ h => ⟨h, rfl⟩) (by decide) (by decide)
          have hG2 := hG2.tr hst10 (fun _ h => ⟨h, rfl⟩) (by decide) (by decide)
          obtain ⟨qzfxc11_0_0, hqzfxc11_0_0, hqzfxc11_0_0a, hqzfxc11_0_0b⟩ := tw_rd TH hm0 hk0 (by decide) (by decide) (k := 57) rfl
          have eqzfxc11_0_0 : qzfxc11_0_0 = zfxc11_0_0 := by have q := hqzfxc11_0_0.symm.trans hzfxc11_0_0; injection q
          rw [eqzfxc11_0_0] at hqzfxc11_0_0a hqzfxc11_0_0b
          refine W.eq (g2 := F0 m 62 ls []) rfl ?_
          exact tw_vret hx hb hr hlocks TH hS hex ⟨rfl, rfl, rfl, hF, (by  intro q0; rw [tw_fi_of hzfxc11_0_0] at q0; exfalso; omega), ⟨zfxc11_0_0, hzfxc11_0_0, by  omega⟩⟩ (Nat.le_of_ble_eq_true rfl) (Nat.le_of_ble_eq_true rfl) dX12_secondQuarrels_62
      · have hf12 : ¬ (150 ≤ y2_1.toInt) := fun q => hc1 ((fa_le _ _).mpr (by have : ((150 : Int32).toInt) = 150 := (by decide); omega))
        refine lv_aload_n hx hb dX12_secondQuarrels_9 rfl (lv_at hl 1 rfl) ?_
        refine tw_get (ci := 12) (C := RX12) (T := TX12) (N := 64) hx hb hB cx_inX12 hown hK TH hm0 hk0 rfl ⟨by decide, rfl⟩ 16 (by decide) cw_1209 (fun _ h9 => h9) dX12_secondQuarrels_10 (fun hv => ?_)
        obtain ⟨xr13, hxr13, hmxr13, hkxr13⟩ : ∃ a : Nat, tw_fv Eg2 a0 16 = .ref a ∧ a ∈ L ∧ kp a = 316 := hv
        rw [hxr13]
        refine lv_bipush (v := 13) hx hb dX12_secondQuarrels_13 (by decide) ?_
        refine tw_aald (k := 316) (t0 := 5) (n := 16) (lo := 326) (hi := 0) (ty := .boolean) hx hb hK TH hmxr13 hkxr13 (by decide) rfl rfl (i := 13) (vp_in_iff.mpr ⟨by have : ((13 : Int32).toInt) = 13 := (by decide); omega, by have : ((13 : Int32).toInt) = 13 := (by decide); omega⟩) dX12_secondQuarrels_15 (fun xr14 exr14 hmxr14 hkxr14 => ?_)
        have hkxr14 : kp xr14 = 326 := hkxr14
        refine lv_iload_n hx hb dX12_secondQuarrels_16 rfl (lv_at hl 0 rfl) ?_
        refine tw_zald (k := 326) (t0 := 3) (n := 150) (lo := 0) (hi := 1) hx hb hK TH hmxr14 hkxr14 (by decide) rfl rfl (i := y2_1) (vp_in_iff.mpr ⟨by  omega, by  omega⟩) dX12_secondQuarrels_17 (fun hxe15a hxe15b => ?_)
        obtain ⟨xe15, exe15⟩ : ∃ z : Int32, tw_iv Eg2 xr14 (Int32.toNatClampNeg y2_1) = z := ⟨_, rfl⟩
        rw [exe15] at hxe15a hxe15b ⊢
        have hJ35 : ∀ (u35_0_57 : Int32) (Eg35 : Nat → va_E) (H : Heap) (locs : List Loc) (ls : Array Slot), 0 ≤ u35_0_57.toInt → u35_0_57.toInt ≤ 1200 → (u35_0_57.toInt ≤ y2_1.toInt + 1) → (u35_0_57.toInt = 0 → lr_all (rw_h E a0 13) (rw_p E a0 13) (y2_1.toInt + 1)) → tw_fv Eg35 a0 57 = .int u35_0_57 → tw_fr kp L [(12, 57)] [359] Eg2 Eg35 → tw_H D cs kp L Eg35 A H → va_S A s.heap H locs → lv_has ls 2 [(1, .int y2_1), (0, .ref a0)] → W p l e { frames := 2, cells := 0, slots := 0, locals := 46 } s m [.ref a0].toArray below meth c H locs 0 0 (MQ below (tw_Q D cs kp0 L0 (fun v kq Lq Eq => v = none ∧ kp = kq ∧ L = Lq ∧ tw_fr kp L [(12, 57)] [359] E Eq ∧ (tw_fi Eq a0 57 = 0 → lr_all (rw_h E a0 13) (rw_p E a0 13) 150 ∧ rt_size (rw_h E a0 13) ≤ 40) ∧ (∃ z0 : Int32, tw_fv Eq a0 57 = .int z0 ∧ (z0.toInt ≤ 151))) A) [.ref a0].toArray s 0 0 A) (F0 m 35 ls []) := by
          intro u35_0_57 Eg35 H locs ls hu35_0_57a hu35_0_57b hin35_0 hin35_1 hfm35_0 hG35 TH hS hl
          have hF := hF.tr hG35 (fun _ h => ⟨h, rfl⟩) (by decide) (by decide)
          have hG2 := hG2.tr hG35 (fun _ h => ⟨h, rfl⟩) (by decide) (by decide)
          have hmf16 : tw_fv Eg35 a0 16 = .ref xr13 := (hG35.1 a0 16 hm0 (by rw [hk0]; decide)).trans hxr13
          obtain ⟨zi17, ezi17⟩ : ∃ z : Int32, z = y2_1 + Int32.ofInt 1 := ⟨_, rfl⟩
          have hzi17 : zi17.toInt = y2_1.toInt + 1 := by rw [ezi17]; have : ((Int32.ofInt 1).toInt) = 1 := (by decide);  exact (ia_add (by omega) (by omega)).trans (by omega)
          refine lv_iinc (v := zi17) (lv' := [(1, .int zi17), (0, .ref a0)]) hx hb dX12_secondQuarrels_35 hl (k := 0) rfl ezi17.symm (by decide) rfl (fun ls hl => ?_)
          refine lv_goto (tgt := 2) hx hb dX12_secondQuarrels_38 (by decide) ?_
          exact ih2 (n2 - 1) (by   omega) zi17 u35_0_57 _ _ _ ls (by omega) (by omega) (by omega) (by omega) (by  omega) (by  intro q0; rw [show (zi17.toInt) = y2_1.toInt + 1 by omega]; exact hin35_1 q0) (by   omega) hfm35_0 hG2 TH hS (lv_sub hl [0, 1] rfl)
        have hG35 : tw_fr kp L [(12, 57)] [359] Eg2 Eg2 := tw_fr.rf
        refine lv_if_eq (tgt := 35) hx hb dX12_secondQuarrels_18 (by decide) (fun hc18 => ?_) (fun hc18 => ?_)
        · have hf19 : xe15.toInt = 0 := by have z := (fa_eq _ _).mp hc18; have : ((0 : Int32).toInt) = 0 := (by decide); omega
          exact hJ35 u2_0_57 _ _ _ ls (by omega) (by omega) (by  omega) (by  intro q0; have fh := rw_h_fr TH hF hm0 hk0 (by decide) (by decide) (by decide) (i := 13) (by decide); have fp := rw_p_fr TH hF hm0 hk0 (by decide) (by decide) (by decide) (i := 13) (by decide); have rf_xe15 : rw_h Eg2 a0 (13) (y2_1.toInt).toNat = xe15.toInt := (by have q := rw_h_of (m := a0) (i := (13 : Int32)) (c := y2_1) hxr13 exr14 exe15; rw [show ((13 : Int32).toInt) = 13 from (by decide)] at q; exact q); refine lr_all_step (hin2_1 (by omega)) (by omega) rfl (fun hz => ?_); (exfalso; rw [← fh, rf_xe15] at hz; omega)) hfm2_0 hG35 TH hS (lv_sub hl [0, 1] rfl)
        · have hf20 : ¬ (xe15.toInt = 0) := fun q => hc18 ((fa_eq _ _).mpr (by have : ((0 : Int32).toInt) = 0 := (by decide); omega))
          refine lv_aload_n hx hb dX12_secondQuarrels_21 rfl (lv_at hl 1 rfl) ?_
          refine lv_iload_n hx hb dX12_secondQuarrels_22 rfl (lv_at hl 0 rfl) ?_
          refine tw_Vc (o := a0) (ci := 12) (n := 1) (post := (fun v kq Lq Eq => (∃ x : Int32, v = some (.int x) ∧ 0 ≤ x.toInt ∧ x.toInt ≤ 1 ∧ (x.toInt = 0 → ¬ lr_ring (rw_p Eg2 a0 13) y2_1.toInt)) ∧ kp = kq ∧ L = Lq ∧ Eg2 = Eq)) (As := [.int y2_1]) (rest := []) ⟨hx, hb, hml, hown, hB⟩ (fun sz => tX12_isLeastOfRing l D cs a0 y2_1 hm0 hk0 (by omega) (by omega) sz) cg_12_480_X12_isLeastOfRing rfl rfl (by decide +kernel) ⟨Nat.le_of_ble_eq_true rfl, Nat.le_of_ble_eq_true rfl⟩ hK hN TH hS hA rfl hm0 hk0 (by decide) rfl hl.1 rfl (Nat.le_of_ble_eq_true rfl) dX12_secondQuarrels_23 ⟨Nat.le_of_ble_eq_true rfl, Nat.le_of_ble_eq_true rfl⟩ (fun v21 kp21 L21 E21 H locs hq21 hx21 TH hS => ?_)
          obtain ⟨⟨xc22, rfl, hxc22a, hxc22b, hpoxc22_0⟩, rfl, rfl, rfl⟩ := hq21
          refine W.eq (g2 := F0 m 26 ls [.int xc22]) rfl ?_
          refine lv_if_eq (tgt := 35) hx hb dX12_secondQuarrels_26 (by decide) (fun hc23 => ?_) (fun hc23 => ?_)
          · have hf24 : xc22.toInt = 0 := by have z := (fa_eq _ _).mp hc23; have : ((0 : Int32).toInt) = 0 := (by decide); omega
            exact hJ35 u2_0_57 _ _ _ ls (by omega) (by omega) (by  omega) (by  intro q0; have fh := rw_h_fr TH hF hm0 hk0 (by decide) (by decide) (by decide) (i := 13) (by decide); have fp := rw_p_fr TH hF hm0 hk0 (by decide) (by decide) (by decide) (i := 13) (by decide); have rf_xe15 : rw_h Eg2 a0 (13) (y2_1.toInt).toNat = xe15.toInt := (by have q := rw_h_of (m := a0) (i := (13 : Int32)) (c := y2_1) hxr13 exr14 exe15; rw [show ((13 : Int32).toInt) = 13 from (by decide)] at q; exact q); refine lr_all_step (hin2_1 (by omega)) (by omega) rfl (fun hz => ?_); (have z := hpoxc22_0 (by omega); rw [fp] at z; exact z)) hfm2_0 hG35 TH hS (lv_sub hl [0, 1] rfl)
          · have hf25 : ¬ (xc22.toInt = 0) := fun q => hc23 ((fa_eq _ _).mpr (by have : ((0 : Int32).toInt) = 0 := (by decide); omega))
            refine lv_aload_n hx hb dX12_secondQuarrels_29 rfl (lv_at hl 1 rfl) ?_
            refine lv_iconst (v := 4) hx hb dX12_secondQuarrels_30 (by decide) ?_
            refine lv_iload_n hx hb dX12_secondQuarrels_31 rfl (lv_at hl 0 rfl) ?_
            refine tw_Vc (o := a0) (ci := 12) (n := 2) (post := (fun v kq Lq Eq => v = none ∧ kp = kq ∧ L = Lq ∧ tw_fr kp L [(12, 57)] [359] Eg2 Eq ∧ (∃ z0 : Int32, tw_fv Eq a0 57 = .int z0 ∧ (z0.toInt = u2_0_57.toInt + 1)))) (As := [.int 4, .int y2_1]) (rest := []) ⟨hx, hb, hml, hown, hB⟩ (fun sz => tX12_quarrels l D cs a0 (4 : Int32) y2_1 u2_0_57 hm0 hk0 hfm2_0 (by have : ((4 : Int32).toInt) = 4 := (by decide); omega) sz) cg_12_468_X12_quarrels rfl rfl (by decide +kernel) ⟨Nat.le_of_ble_eq_true rfl, Nat.le_of_ble_eq_true rfl⟩ hK hN TH hS hA rfl hm0 hk0 (by decide) rfl hl.1 rfl (Nat.le_of_ble_eq_true rfl) dX12_secondQuarrels_32 ⟨Nat.le_of_ble_eq_true rfl, Nat.le_of_ble_eq_true rfl⟩ (fun v26 kp26 L26 E26 H locs hq26 hx26 TH hS => ?_)
            obtain ⟨rfl, rfl, rfl, hst26, ⟨zfxc27_0_0, hzfxc27_0_0, hzpxc27_0⟩⟩ := hq26
            have hF := hF.tr hst26 (fun _ h => ⟨h, rfl⟩) (by decide) (by decide)
            have hG2 := hG2.tr hst26 (fun _ h => ⟨h, rfl⟩) (by decide) (by decide)
            have hG35 := hG35.tr hst26 (fun _ h => ⟨h, rfl⟩) (by decide) (by decide)
            have hmf28 : tw_fv E26 a0 16 = .ref xr13 := (hst26.1 a0 16 hm0 (by rw [hk0]; decide)).trans hxr13
            obtain ⟨qzfxc27_0_0, hqzfxc27_0_0, hqzfxc27_0_0a, hqzfxc27_0_0b⟩ := tw_rd TH hm0 hk0 (by decide) (by decide) (k := 57) rfl
            have eqzfxc27_0_0 : qzfxc27_0_0 = zfxc27_0_0 := by have q := hqzfxc27_0_0.symm.trans hzfxc27_0_0; injection q
            rw [eqzfxc27_0_0] at hqzfxc27_0_0a hqzfxc27_0_0b
            refine W.eq (g2 := F0 m 35 ls []) rfl ?_
            exact hJ35 zfxc27_0_0 _ _ _ ls (by omega) (by omega) (by  omega) (by  intro q0; exfalso; omega) hzfxc27_0_0 hG35 TH hS (lv_sub hl [0, 1] rfl)
  exact hJ2 151 (0 : Int32) fv0_57 _ _ _ ls (by have : ((0 : Int32).toInt) = 0 := (by decide); omega) (by have : ((0 : Int32).toInt) = 0 := (by decide); omega) (by omega) (by omega) (by have : ((0 : Int32).toInt) = 0 := (by decide); omega) (by have : ((0 : Int32).toInt) = 0 := (by decide); intro _ c hc; exact absurd hc (by have e0 : ((0 : Int32).toInt) = 0 := (by decide); omega)) (by have : ((0 : Int32).toInt) = 0 := (by decide);  omega) hfv0_57 tw_fr.rf TH hS (lv_sub hl [0, 1] rfl)
set_option maxHeartbeats 4000000 in
set_option maxRecDepth 100000 in
theorem tX12_thirdQuarrels (l : Launch) (D : va_G) (cs : Nat → ClassId) {kp : Nat → Nat} {L : List Nat} {E : Nat → va_E} (a0 : Nat) (x1 : Int32) (x2 : Int32) (x3 : Int32) (fv0_57 : Int32) (hm0 : a0 ∈ L) (hk0 : kp a0 = 12) (hp1a : 0 ≤ x1.toInt) (hp1b : x1.toInt ≤ 15) (hp2a : 0 ≤ x2.toInt) (hp2b : x2.toInt ≤ 15) (hp3a : 0 ≤ x3.toInt) (hp3b : x3.toInt ≤ 15) (hfv0_57 : tw_fv E a0 57 = .int fv0_57) (hpre0 : fv0_57.toInt = 0) (hg0 : t1_ok E a0 (13)) (hg1 : ht_ok E a0) (sz : Nat) : Met l yX12_thirdQuarrels (.code yX12_thirdQuarrels cX12_thirdQuarrels 6 none :: cx_big) { frames := 4, cells := 0, slots := 0, locals := 107 } (tw_P D cs kp L E [.ref a0, .int x1, .int x2, .int x3] sz) (tw_Q D cs kp L (fun v kq Lq Eq => v = none ∧ kp = kq ∧ L = Lq ∧ tw_fr kp L [(12, 57)] [329, 348, 349, 359, 363, 364] E Eq ∧ (tw_fi Eq a0 57 = 0 → rt_T3 (rw_h E a0 13) (rw_p E a0 13)) ∧ (∃ z0 : Int32, tw_fv Eq a0 57 = .int z0 ∧ (z0.toInt ≤ 450)) ∧ ht_ok Eq a0) (va_A (va_pl L E) sz)) 0 0 (va_A (va_pl L E) sz) := by
  refine tw_ofW (by decide) (Nat.le_of_ble_eq_true rfl) ?_
  intro p e s m below meth c A ls hx hb hr hml hB hown hlocks hK hN hA TH hS hl
  have hown : s.vm.findClass "TreeMergeModel" = some m.cls := hown
  have hl : lv_has ls 6 [(0, .ref a0), (1, .int x1), (2, .int x2), (3, .int x3)] := hl
  obtain ⟨kp0, ekp⟩ : ∃ z, z = kp := ⟨_, rfl⟩
  obtain ⟨L0, eL⟩ : ∃ z, z = L := ⟨_, rfl⟩
  rw [show tw_Q D cs kp L = tw_Q D cs kp0 L0 by rw [ekp, eL]]
  have hex : ∀ a : Nat, a ∈ L0 → a ∈ L ∧ kp a = kp0 a := fun a h => ⟨by rw [← eL]; exact h, by rw [ekp]⟩
  have hF : tw_fr kp L [(12, 57)] [329, 348, 349, 359, 363, 364] E E := tw_fr.rf
  obtain ⟨qfv0_57, hqfv0_57, hqfv0_57a, hqfv0_57b⟩ := tw_rd TH hm0 hk0 (by decide) (by decide) (k := 57) rfl
  have eqfv0_57 : qfv0_57 = fv0_57 := by have q := hqfv0_57.symm.trans hfv0_57; injection q
  rw [eqfv0_57] at hqfv0_57a hqfv0_57b
  have hnc : nc_ok E a0 (0) := fun _ c hc => absurd hc (by omega)
  refine lv_iconst (v := 0) hx hb dX12_thirdQuarrels_0 (by decide) ?_
  refine lv_istore (lv' := [(4, .int 0), (0, .ref a0), (1, .int x1), (2, .int x2), (3, .int x3)]) hx hb dX12_thirdQuarrels_1 hl (by decide) rfl (fun ls hl => ?_)
  have hJ3 : ∀ (n3 : Nat) (y3_4 : Int32) (Eg3 : Nat → va_E) (H : Heap) (locs : List Loc) (ls : Array Slot), 0 ≤ y3_4.toInt → y3_4.toInt ≤ 150 → (fv0_57.toInt = 0) → 150 - y3_4.toInt ≤ (n3 : Int) → tw_fr kp L [] [329] E Eg3 → ht_ok Eg3 a0 → t1_ok Eg3 a0 (13) → nc_ok Eg3 a0 (0) → tw_H D cs kp L Eg3 A H → va_S A s.heap H locs → lv_has ls 6 [(4, .int y3_4), (0, .ref a0), (1, .int x1), (2, .int x2), (3, .int x3)] → W p l e { frames := 4, cells := 0, slots := 0, locals := 107 } s m [.ref a0, .int x1, .int x2, .int x3].toArray below meth c H locs 0 0 (MQ below (tw_Q D cs kp0 L0 (fun v kq Lq Eq => v = none ∧ kp = kq ∧ L = Lq ∧ tw_fr kp L [(12, 57)] [329, 348, 349, 359, 363, 364] E Eq ∧ (tw_fi Eq a0 57 = 0 → rt_T3 (rw_h E a0 13) (rw_p E a0 13)) ∧ (∃ z0 : Int32, tw_fv Eq a0 57 = .int z0 ∧ (z0.toInt ≤ 450)) ∧ ht_ok Eq a0) A) [.ref a0, .int x1, .int x2, .int x3].toArray s 0 0 A) (F0 m 3 ls []) := by
    intro n3
    induction n3 using Nat.strongRecOn with
    | _ n3 ih3 =>
      intro y3_4 Eg3 H locs ls hy3_4a hy3_4b hin3_0 hmeas3 hG3 hcg3_0 hcg3_1 hcg3_2 TH hS hl
      have hF := hF.tr hG3 (fun _ h => ⟨h, rfl⟩) (by decide) (by decide)
      have hmf1 : tw_fv Eg3 a0 57 = .int fv0_57 := (hG3.1 a0 57 hm0 (by rw [hk0]; decide)).trans hfv0_57
      refine lv_iload hx hb dX12_thirdQuarrels_3 (lv_at hl 0 rfl) ?_
      refine lv_sipush (v := 150) hx hb dX12_thirdQuarrels_5 (by decide) ?_
      refine lv_icmp_ge (tgt := 29) hx hb dX12_thirdQuarrels_8 (by decide) (fun hc2 => ?_) (fun hc2 => ?_)
      · have hf3 : 150 ≤ y3_4.toInt := by have z := (fa_le _ _).mp hc2; have : ((150 : Int32).toInt) = 150 := (by decide); omega
        refine lv_iconst (v := 0) hx hb dX12_thirdQuarrels_29 (by decide) ?_
        refine lv_istore (lv' := [(4, .int 0), (0, .ref a0), (1, .int x1), (2, .int x2), (3, .int x3)]) hx hb dX12_thirdQuarrels_30 hl (by decide) rfl (fun ls hl => ?_)
        have hJ32 : ∀ (n32 : Nat) (y32_4 : Int32) (u32_0_57 : Int32) (Eg32 : Nat → va_E) (H : Heap) (locs : List Loc) (ls : Array Slot), 0 ≤ y32_4.toInt → y32_4.toInt ≤ 150 → 0 ≤ u32_0_57.toInt → u32_0_57.toInt ≤ 1200 → (u32_0_57.toInt ≤ y32_4.toInt) → 150 - y32_4.toInt ≤ (n32 : Int) → tw_fv Eg32 a0 57 = .int u32_0_57 → tw_fr kp L [(12, 57)] [329, 359, 363, 364] Eg3 Eg32 → ht_ok Eg32 a0 → t1_ok Eg32 a0 (13) → nc_ok Eg32 a0 (y32_4.toInt) → tw_H D cs kp L Eg32 A H → va_S A s.heap H locs → lv_has ls 6 [(4, .int y32_4), (0, .ref a0), (1, .int x1), (2, .int x2), (3, .int x3)] → W p l e { frames := 4, cells := 0, slots := 0, locals := 107 } s m [.ref a0, .int x1, .int x2, .int x3].toArray below meth c H locs 0 0 (MQ below (tw_Q D cs kp0 L0 (fun v kq Lq Eq => v = none ∧ kp = kq ∧ L = Lq ∧ tw_fr kp L [(12, 57)] [329, 348, 349, 359, 363, 364] E Eq ∧ (tw_fi Eq a0 57 = 0 → rt_T3 (rw_h E a0 13) (rw_p E a0 13)) ∧ (∃ z0 : Int32, tw_fv Eq a0 57 = .int z0 ∧ (z0.toInt ≤ 450)) ∧ ht_ok Eq a0) A) [.ref a0, .int x1, .int x2, .int x3].toArray s 0 0 A) (F0 m 32 ls []) := by
          intro n32
          induction n32 using Nat.strongRecOn with
          | _ n32 ih32 =>
            intro y32_4 u32_0_57 Eg32 H locs ls hy32_4a hy32_4b hu32_0_57a hu32_0_57b hin32_0 hmeas32 hfm32_0 hG32 hcg32_0 hcg32_1 hcg32_2 TH hS hl
            have hF := hF.tr hG32 (fun _ h => ⟨h, rfl⟩) (by decide) (by decide)
            refine lv_iload hx hb dX12_thirdQuarrels_32 (lv_at hl 0 rfl) ?_
            refine lv_sipush (v := 150) hx hb dX12_thirdQuarrels_34 (by decide) ?_
            refine lv_icmp_ge (tgt := 116) hx hb dX12_thirdQuarrels_37 (by decide) (fun hc4 => ?_) (fun hc4 => ?_)
            · have hf5 : 150 ≤ y32_4.toInt := by have z := (fa_le _ _).mp hc4; have : ((150 : Int32).toInt) = 150 := (by decide); omega
              have he13 : ((13 : Int32).toInt) = 13 := (by decide)
              refine lv_aload_n hx hb dX12_thirdQuarrels_116 rfl (lv_at hl 1 rfl) ?_
              refine lv_bipush (v := 13) hx hb dX12_thirdQuarrels_117 (by decide) ?_
              refine tw_Vc (o := a0) (ci := 12) (n := 1) (post := (fun v kq Lq Eq => v = none ∧ kp = kq ∧ L = Lq ∧ tw_fr kp L [] [329] Eg32 Eq ∧ ht_ok Eq a0 ∧ t1_ok Eq a0 ((13 : Int32).toInt))) (As := [.int 13]) (rest := []) ⟨hx, hb, hml, hown, hB⟩ (fun sz => tX12_orders l D cs a0 (13 : Int32) hm0 hk0 (by have : ((13 : Int32).toInt) = 13 := (by decide); omega) (by have : ((13 : Int32).toInt) = 13 := (by decide); omega) hcg32_0 (t1_ok_cast (by have : ((13 : Int32).toInt) = 13 := (by decide); omega) hcg32_1) sz) cg_12_275_X12_orders rfl rfl (by decide +kernel) ⟨Nat.le_of_ble_eq_true rfl, Nat.le_of_ble_eq_true rfl⟩ hK hN TH hS hA rfl hm0 hk0 (by decide) rfl hl.1 rfl (Nat.le_of_ble_eq_true rfl) dX12_thirdQuarrels_119 ⟨Nat.le_of_ble_eq_true rfl, Nat.le_of_ble_eq_true rfl⟩ (fun v6 kp6 L6 E6 H locs hq6 hx6 TH hS => ?_)
              obtain ⟨rfl, rfl, rfl, hst6, hgpxc7_0, hgpxc7_1⟩ := hq6
              have hF := hF.tr hst6 (fun _ h => ⟨h, rfl⟩) (by decide) (by decide)
              have hG32 := hG32.tr hst6 (fun _ h => ⟨h, rfl⟩) (by decide) (by decide)
              have hmf8 : tw_fv E6 a0 57 = .int u32_0_57 := (hst6.1 a0 57 hm0 (by rw [hk0]; decide)).trans hfm32_0
              have hcg32_2 : nc_ok E6 a0 (y32_4.toInt) := nc_ok_fr TH hst6 hm0 hk0 (by decide) (by decide) hcg32_2
              refine W.eq (g2 := F0 m 122 ls []) rfl ?_
              refine lv_aload_n hx hb dX12_thirdQuarrels_122 rfl (lv_at hl 1 rfl) ?_
              refine lv_bipush (v := 13) hx hb dX12_thirdQuarrels_123 (by decide) ?_
              refine tw_Vc (o := a0) (ci := 12) (n := 1) (post := (fun v kq Lq Eq => (∃ x : Int32, v = some (.int x) ∧ (-1) ≤ x.toInt ∧ x.toInt ≤ 149 ∧ ((x.toInt = -1 ∧ rt_nr (rw_h E6 a0 (13 : Int32).toInt) (rw_p E6 a0 (13 : Int32).toInt) 150) ∨ (0 ≤ x.toInt ∧ x.toInt < 150 ∧ rw_h E6 a0 (13 : Int32).toInt (x.toInt).toNat ≠ 0 ∧ rw_p E6 a0 (13 : Int32).toInt (x.toInt).toNat = -1))) ∧ kp = kq ∧ L = Lq ∧ E6 = Eq)) (As := [.int 13]) (rest := []) ⟨hx, hb, hml, hown, hB⟩ (fun sz => tX12_root l D cs a0 (13 : Int32) hm0 hk0 (by have : ((13 : Int32).toInt) = 13 := (by decide); omega) (by have : ((13 : Int32).toInt) = 13 := (by decide); omega) sz) cg_12_324_X12_root rfl rfl (by decide +kernel) ⟨Nat.le_of_ble_eq_true rfl, Nat.le_of_ble_eq_true rfl⟩ hK hN TH hS hA rfl hm0 hk0 (by decide) rfl hl.1 rfl (Nat.le_of_ble_eq_true rfl) dX12_thirdQuarrels_125 ⟨Nat.le_of_ble_eq_true rfl, Nat.le_of_ble_eq_true rfl⟩ (fun v9 kp9 L9 E9 H locs hq9 hx9 TH hS => ?_)
              obtain ⟨⟨xc10, rfl, hxc10a, hxc10b, hpoxc10_0⟩, rfl, rfl, rfl⟩ := hq9
              refine W.eq (g2 := F0 m 128 ls [.int xc10]) rfl ?_
              refine lv_istore (lv' := [(4, .int xc10), (0, .ref a0), (1, .int x1), (2, .int x2), (3, .int x3)]) hx hb dX12_thirdQuarrels_128 hl (by decide) rfl (fun ls hl => ?_)
              refine lv_iconst (v := 0) hx hb dX12_thirdQuarrels_130 (by decide) ?_
              refine lv_istore (lv' := [(5, .int 0), (4, .int xc10), (0, .ref a0), (1, .int x1), (2, .int x2), (3, .int x3)]) hx hb dX12_thirdQuarrels_131 hl (by decide) rfl (fun ls hl => ?_)
              have hJ133 : ∀ (n133 : Nat) (y133_5 : Int32) (u133_0_57 : Int32) (Eg133 : Nat → va_E) (H : Heap) (locs : List Loc) (ls : Array Slot), 0 ≤ y133_5.toInt → y133_5.toInt ≤ 150 → 0 ≤ u133_0_57.toInt → u133_0_57.toInt ≤ 1200 → (u133_0_57.toInt ≤ 150 + y133_5.toInt) → (u133_0_57.toInt = 0 → r3_ok (rw_h E a0 13) (rw_p E a0 13) (xc10.toInt) (y133_5.toInt)) → 150 - y133_5.toInt ≤ (n133 : Int) → tw_fv Eg133 a0 57 = .int u133_0_57 → tw_fr kp L [(12, 57)] [348, 349, 359] E6 Eg133 → ht_ok Eg133 a0 → t1_ok Eg133 a0 (13) → nc_ok Eg133 a0 (150) → tw_H D cs kp L Eg133 A H → va_S A s.heap H locs → lv_has ls 6 [(5, .int y133_5), (4, .int xc10), (0, .ref a0)] → W p l e { frames := 4, cells := 0, slots := 0, locals := 107 } s m [.ref a0, .int x1, .int x2, .int x3].toArray below meth c H locs 0 0 (MQ below (tw_Q D cs kp0 L0 (fun v kq Lq Eq => v = none ∧ kp = kq ∧ L = Lq ∧ tw_fr kp L [(12, 57)] [329, 348, 349, 359, 363, 364] E Eq ∧ (tw_fi Eq a0 57 = 0 → rt_T3 (rw_h E a0 13) (rw_p E a0 13)) ∧ (∃ z0 : Int32, tw_fv Eq a0 57 = .int z0 ∧ (z0.toInt ≤ 450)) ∧ ht_ok Eq a0) A) [.ref a0, .int x1, .int x2, .int x3].toArray s 0 0 A) (F0 m 133 ls []) := by
                intro n133
                induction n133 using Nat.strongRecOn with
                | _ n133 ih133 =>
                  intro y133_5 u133_0_57 Eg133 H locs ls hy133_5a hy133_5b hu133_0_57a hu133_0_57b hin133_0 hin133_1 hmeas133 hfm133_0 hG133 hcg133_0 hcg133_1 hcg133_2 TH hS hl
                  have hF := hF.tr hG133 (fun _ h => ⟨h, rfl⟩) (by decide) (by decide)
                  refine lv_iload hx hb dX12_thirdQuarrels_133 (lv_at hl 0 rfl) ?_
                  refine lv_sipush (v := 150) hx hb dX12_thirdQuarrels_135 (by decide) ?_
                  refine lv_icmp_ge (tgt := 220) hx hb dX12_thirdQuarrels_138 (by decide) (fun hc11 => ?_) (fun hc11 => ?_)
                  · have hf12 : 150 ≤ y133_5.toInt := by have z := (fa_le _ _).mp hc11; have : ((150 : Int32).toInt) = 150 := (by decide); omega
                    refine lv_iconst (v := 0) hx hb dX12_thirdQuarrels_220 (by decide) ?_
                    refine lv_istore (lv' := [(5, .int 0), (4, .int xc10), (0, .ref a0)]) hx hb dX12_thirdQuarrels_221 hl (by decide) rfl (fun ls hl => ?_)
                    have hJ223 : ∀ (n223 : Nat) (y223_5 : Int32) (u223_0_57 : Int32) (Eg223 : Nat → va_E) (H : Heap) (locs : List Loc) (ls : Array Slot), 0 ≤ y223_5.toInt → y223_5.toInt ≤ 150 → 0 ≤ u223_0_57.toInt → u223_0_57.toInt ≤ 1200 → (u223_0_57.toInt ≤ 300 + y223_5.toInt) → (u223_0_57.toInt = 0 → r3_ok (rw_h E a0 13) (rw_p E a0 13) (xc10.toInt) 150) → 150 - y223_5.toInt ≤ (n223 : Int) → tw_fv Eg223 a0 57 = .int u223_0_57 → tw_fr kp L [(12, 57)] [359] Eg133 Eg223 → ht_ok Eg223 a0 → t1_ok Eg223 a0 (13) → tw_H D cs kp L Eg223 A H → va_S A s.heap H locs → lv_has ls 6 [(5, .int y223_5), (4, .int xc10), (0, .ref a0)] → W p l e { frames := 4, cells := 0, slots := 0, locals := 107 } s m [.ref a0, .int x1, .int x2, .int x3].toArray below meth c H locs 0 0 (MQ below (tw_Q D cs kp0 L0 (fun v kq Lq Eq => v = none ∧ kp = kq ∧ L = Lq ∧ tw_fr kp L [(12, 57)] [329, 348, 349, 359, 363, 364] E Eq ∧ (tw_fi Eq a0 57 = 0 → rt_T3 (rw_h E a0 13) (rw_p E a0 13)) ∧ (∃ z0 : Int32, tw_fv Eq a0 57 = .int z0 ∧ (z0.toInt ≤ 450)) ∧ ht_ok Eq a0) A) [.ref a0, .int x1, .int x2, .int x3].toArray s 0 0 A) (F0 m 223 ls []) := by
                      intro n223
                      induction n223 using Nat.strongRecOn with
                      | _ n223 ih223 =>
                        intro y223_5 u223_0_57 Eg223 H locs ls hy223_5a hy223_5b hu223_0_57a hu223_0_57b hin223_0 hin223_1 hmeas223 hfm223_0 hG223 hcg223_0 hcg223_1 TH hS hl
                        have hF := hF.tr hG223 (fun _ h => ⟨h, rfl⟩) (by decide) (by decide)
                        have hG133 := hG133.tr hG223 (fun _ h => ⟨h, rfl⟩) (by decide) (by decide)
                        refine lv_iload hx hb dX12_thirdQuarrels_223 (lv_at hl 0 rfl) ?_
                        refine lv_sipush (v := 150) hx hb dX12_thirdQuarrels_225 (by decide) ?_
                        refine lv_icmp_ge (tgt := 269) hx hb dX12_thirdQuarrels_228 (by decide) (fun hc13 => ?_) (fun hc13 => ?_)
                        · have hf14 : 150 ≤ y223_5.toInt := by have z := (fa_le _ _).mp hc13; have : ((150 : Int32).toInt) = 150 := (by decide); omega
                          exact tw_vret hx hb hr hlocks TH hS hex ⟨rfl, rfl, rfl, hF, (by  intro q0; rw [tw_fi_of hfm223_0] at q0; exact r3_T3 (hin223_1 q0) (by decide)), ⟨u223_0_57, hfm223_0, by  omega⟩, hcg223_0⟩ (Nat.le_of_ble_eq_true rfl) (Nat.le_of_ble_eq_true rfl) dX12_thirdQuarrels_269
                        · have hf15 : ¬ (150 ≤ y223_5.toInt) := fun q => hc13 ((fa_le _ _).mpr (by have : ((150 : Int32).toInt) = 150 := (by decide); omega))
                          refine lv_aload_n hx hb dX12_thirdQuarrels_231 rfl (lv_at hl 2 rfl) ?_
                          refine tw_get (ci := 12) (C := RX12) (T := TX12) (N := 64) hx hb hB cx_inX12 hown hK TH hm0 hk0 rfl ⟨by decide, rfl⟩ 16 (by decide) cw_1209 (fun _ h9 => h9) dX12_thirdQuarrels_232 (fun hv => ?_)
                          obtain ⟨xr16, hxr16, hmxr16, hkxr16⟩ : ∃ a : Nat, tw_fv Eg223 a0 16 = .ref a ∧ a ∈ L ∧ kp a = 316 := hv
                          rw [hxr16]
                          refine lv_bipush (v := 13) hx hb dX12_thirdQuarrels_235 (by decide) ?_
                          refine tw_aald (k := 316) (t0 := 5) (n := 16) (lo := 326) (hi := 0) (ty := .boolean) hx hb hK TH hmxr16 hkxr16 (by decide) rfl rfl (i := 13) (vp_in_iff.mpr ⟨by have : ((13 : Int32).toInt) = 13 := (by decide); omega, by have : ((13 : Int32).toInt) = 13 := (by decide); omega⟩) dX12_thirdQuarrels_237 (fun xr17 exr17 hmxr17 hkxr17 => ?_)
                          have hkxr17 : kp xr17 = 326 := hkxr17
                          refine lv_iload hx hb dX12_thirdQuarrels_238 (lv_at hl 0 rfl) ?_
                          refine tw_zald (k := 326) (t0 := 3) (n := 150) (lo := 0) (hi := 1) hx hb hK TH hmxr17 hkxr17 (by decide) rfl rfl (i := y223_5) (vp_in_iff.mpr ⟨by  omega, by  omega⟩) dX12_thirdQuarrels_240 (fun hxe18a hxe18b => ?_)
                          obtain ⟨xe18, exe18⟩ : ∃ z : Int32, tw_iv Eg223 xr17 (Int32.toNatClampNeg y223_5) = z := ⟨_, rfl⟩
                          rw [exe18] at hxe18a hxe18b ⊢
                          have hJ263 : ∀ (u263_0_57 : Int32) (Eg263 : Nat → va_E) (H : Heap) (locs : List Loc) (ls : Array Slot), 0 ≤ u263_0_57.toInt → u263_0_57.toInt ≤ 1200 → (u263_0_57.toInt ≤ 301 + y223_5.toInt) → (u263_0_57.toInt = 0 → r3_ok (rw_h E a0 13) (rw_p E a0 13) (xc10.toInt) 150) → tw_fv Eg263 a0 57 = .int u263_0_57 → tw_fr kp L [(12, 57)] [359] Eg223 Eg263 → ht_ok Eg263 a0 → t1_ok Eg263 a0 (13) → tw_H D cs kp L Eg263 A H → va_S A s.heap H locs → lv_has ls 6 [(5, .int y223_5), (4, .int xc10), (0, .ref a0)] → W p l e { frames := 4, cells := 0, slots := 0, locals := 107 } s m [.ref a0, .int x1, .int x2, .int x3].toArray below meth c H locs 0 0 (MQ below (tw_Q D cs kp0 L0 (fun v kq Lq Eq => v = none ∧ kp = kq ∧ L = Lq ∧ tw_fr kp L [(12, 57)] [329, 348, 349, 359, 363, 364] E Eq ∧ (tw_fi Eq a0 57 = 0 → rt_T3 (rw_h E a0 13) (rw_p E a0 13)) ∧ (∃ z0 : Int32, tw_fv Eq a0 57 = .int z0 ∧ (z0.toInt ≤ 450)) ∧ ht_ok Eq a0) A) [.ref a0, .int x1, .int x2, .int x3].toArray s 0 0 A) (F0 m 263 ls []) := by
                            intro u263_0_57 Eg263 H locs ls hu263_0_57a hu263_0_57b hin263_0 hin263_1 hfm263_0 hG263 hcg223_0 hcg223_1 TH hS hl
                            have hF := hF.tr hG263 (fun _ h => ⟨h, rfl⟩) (by decide) (by decide)
                            have hG133 := hG133.tr hG263 (fun _ h => ⟨h, rfl⟩) (by decide) (by decide)
                            have hG223 := hG223.tr hG263 (fun _ h => ⟨h, rfl⟩) (by decide) (by decide)
                            have hmf19 : tw_fv Eg263 a0 16 = .ref xr16 := (hG263.1 a0 16 hm0 (by rw [hk0]; decide)).trans hxr16
                            obtain ⟨zi20, ezi20⟩ : ∃ z : Int32, z = y223_5 + Int32.ofInt 1 := ⟨_, rfl⟩
                            have hzi20 : zi20.toInt = y223_5.toInt + 1 := by rw [ezi20]; have : ((Int32.ofInt 1).toInt) = 1 := (by decide);  exact (ia_add (by omega) (by omega)).trans (by omega)
                            refine lv_iinc (v := zi20) (lv' := [(5, .int zi20), (4, .int xc10), (0, .ref a0)]) hx hb dX12_thirdQuarrels_263 hl (k := 0) rfl ezi20.symm (by decide) rfl (fun ls hl => ?_)
                            refine lv_goto (tgt := 223) hx hb dX12_thirdQuarrels_266 (by decide) ?_
                            exact ih223 (n223 - 1) (by   omega) zi20 u263_0_57 _ _ _ ls (by omega) (by omega) (by omega) (by omega) (by  omega) (by  exact hin263_1) (by   omega) hfm263_0 hG223 hcg223_0 hcg223_1 TH hS (lv_sub hl [0, 1, 2] rfl)
                          have hG263 : tw_fr kp L [(12, 57)] [359] Eg223 Eg223 := tw_fr.rf
                          refine lv_if_eq (tgt := 263) hx hb dX12_thirdQuarrels_241 (by decide) (fun hc21 => ?_) (fun hc21 => ?_)
                          · have hf22 : xe18.toInt = 0 := by have z := (fa_eq _ _).mp hc21; have : ((0 : Int32).toInt) = 0 := (by decide); omega
                            exact hJ263 u223_0_57 _ _ _ ls (by omega) (by omega) (by  omega) (by  intro q0; exact hin223_1 (by omega)) hfm223_0 hG263 hcg223_0 hcg223_1 TH hS (lv_sub hl [0, 1, 2] rfl)
                          · have hf23 : ¬ (xe18.toInt = 0) := fun q => hc21 ((fa_eq _ _).mpr (by have : ((0 : Int32).toInt) = 0 := (by decide); omega))
                            refine lv_aload_n hx hb dX12_thirdQuarrels_244 rfl (lv_at hl 2 rfl) ?_
                            refine lv_bipush (v := 13) hx hb dX12_thirdQuarrels_245 (by decide) ?_
                            refine lv_iload hx hb dX12_thirdQuarrels_247 (lv_at hl 0 rfl) ?_
                            refine tw_Vc (o := a0) (ci := 12) (n := 2) (post := (fun v kq Lq Eq => (∃ x : Int32, v = some (.int x) ∧ 0 ≤ x.toInt ∧ x.toInt ≤ 1) ∧ kp = kq ∧ L = Lq ∧ Eg223 = Eq)) (As := [.int 13, .int y223_5]) (rest := []) ⟨hx, hb, hml, hown, hB⟩ (fun sz => tX12_hasLike l D cs a0 (13 : Int32) y223_5 hm0 hk0 (by have : ((13 : Int32).toInt) = 13 := (by decide); omega) (by have : ((13 : Int32).toInt) = 13 := (by decide); omega) (by omega) (by omega) (by have : ((13 : Int32).toInt) = 13 := (by decide); omega) hcg223_0 sz) cg_12_330_X12_hasLike rfl rfl (by decide +kernel) ⟨Nat.le_of_ble_eq_true rfl, Nat.le_of_ble_eq_true rfl⟩ hK hN TH hS hA rfl hm0 hk0 (by decide) rfl hl.1 rfl (Nat.le_of_ble_eq_true rfl) dX12_thirdQuarrels_249 ⟨Nat.le_of_ble_eq_true rfl, Nat.le_of_ble_eq_true rfl⟩ (fun v24 kp24 L24 E24 H locs hq24 hx24 TH hS => ?_)
                            obtain ⟨⟨xc25, rfl, hxc25a, hxc25b⟩, rfl, rfl, rfl⟩ := hq24
                            refine W.eq (g2 := F0 m 252 ls [.int xc25]) rfl ?_
                            refine lv_if_eq (tgt := 263) hx hb dX12_thirdQuarrels_252 (by decide) (fun hc26 => ?_) (fun hc26 => ?_)
                            · have hf27 : xc25.toInt = 0 := by have z := (fa_eq _ _).mp hc26; have : ((0 : Int32).toInt) = 0 := (by decide); omega
                              exact hJ263 u223_0_57 _ _ _ ls (by omega) (by omega) (by  omega) (by  intro q0; exact hin223_1 (by omega)) hfm223_0 hG263 hcg223_0 hcg223_1 TH hS (lv_sub hl [0, 1, 2] rfl)
                            · have hf28 : ¬ (xc25.toInt = 0) := fun q => hc26 ((fa_eq _ _).mpr (by have : ((0 : Int32).toInt) = 0 := (by decide); omega))
                              refine lv_aload_n hx hb dX12_thirdQuarrels_255 rfl (lv_at hl 2 rfl) ?_
                              refine lv_bipush (v := 7) hx hb dX12_thirdQuarrels_256 (by decide) ?_
                              refine lv_iload hx hb dX12_thirdQuarrels_258 (lv_at hl 0 rfl) ?_
                              refine tw_Vc (o := a0) (ci := 12) (n := 2) (post := (fun v kq Lq Eq => v = none ∧ kp = kq ∧ L = Lq ∧ tw_fr kp L [(12, 57)] [359] Eg223 Eq ∧ (∃ z0 : Int32, tw_fv Eq a0 57 = .int z0 ∧ (z0.toInt = u223_0_57.toInt + 1)))) (As := [.int 7, .int y223_5]) (rest := []) ⟨hx, hb, hml, hown, hB⟩ (fun sz => tX12_quarrels l D cs a0 (7 : Int32) y223_5 u223_0_57 hm0 hk0 hfm223_0 (by have : ((7 : Int32).toInt) = 7 := (by decide); omega) sz) cg_12_468_X12_quarrels rfl rfl (by decide +kernel) ⟨Nat.le_of_ble_eq_true rfl, Nat.le_of_ble_eq_true rfl⟩ hK hN TH hS hA rfl hm0 hk0 (by decide) rfl hl.1 rfl (Nat.le_of_ble_eq_true rfl) dX12_thirdQuarrels_260 ⟨Nat.le_of_ble_eq_true rfl, Nat.le_of_ble_eq_true rfl⟩ (fun v29 kp29 L29 E29 H locs hq29 hx29 TH hS => ?_)
                              obtain ⟨rfl, rfl, rfl, hst29, ⟨zfxc30_0_0, hzfxc30_0_0, hzpxc30_0⟩⟩ := hq29
                              have hF := hF.tr hst29 (fun _ h => ⟨h, rfl⟩) (by decide) (by decide)
                              have hG133 := hG133.tr hst29 (fun _ h => ⟨h, rfl⟩) (by decide) (by decide)
                              have hG223 := hG223.tr hst29 (fun _ h => ⟨h, rfl⟩) (by decide) (by decide)
                              have hG263 := hG263.tr hst29 (fun _ h => ⟨h, rfl⟩) (by decide) (by decide)
                              have hmf31 : tw_fv E29 a0 16 = .ref xr16 := (hst29.1 a0 16 hm0 (by rw [hk0]; decide)).trans hxr16
                              have hcg223_0 : ht_ok E29 a0 := ht_ok_fr TH hst29 hm0 hk0 (by decide) (by decide) hcg223_0
                              have hcg223_1 : t1_ok E29 a0 (13) := t1_ok_fr TH hst29 hm0 hk0 (by decide) (by decide) (by omega) hcg223_1
                              obtain ⟨qzfxc30_0_0, hqzfxc30_0_0, hqzfxc30_0_0a, hqzfxc30_0_0b⟩ := tw_rd TH hm0 hk0 (by decide) (by decide) (k := 57) rfl
                              have eqzfxc30_0_0 : qzfxc30_0_0 = zfxc30_0_0 := by have q := hqzfxc30_0_0.symm.trans hzfxc30_0_0; injection q
                              rw [eqzfxc30_0_0] at hqzfxc30_0_0a hqzfxc30_0_0b
                              refine W.eq (g2 := F0 m 263 ls []) rfl ?_
                              exact hJ263 zfxc30_0_0 _ _ _ ls (by omega) (by omega) (by  omega) (by  intro q0; exfalso; omega) hzfxc30_0_0 hG263 hcg223_0 hcg223_1 TH hS (lv_sub hl [0, 1, 2] rfl)
                    exact hJ223 151 (0 : Int32) u133_0_57 _ _ _ ls (by have : ((0 : Int32).toInt) = 0 := (by decide); omega) (by have : ((0 : Int32).toInt) = 0 := (by decide); omega) (by omega) (by omega) (by have : ((0 : Int32).toInt) = 0 := (by decide); omega) (by have : ((0 : Int32).toInt) = 0 := (by decide); intro q0; have z := hin133_1 q0; rw [show y133_5.toInt = 150 by omega] at z; exact z) (by have : ((0 : Int32).toInt) = 0 := (by decide);  omega) hfm133_0 tw_fr.rf hcg133_0 hcg133_1 TH hS (lv_sub hl [0, 1, 2] rfl)
                  · have hf32 : ¬ (150 ≤ y133_5.toInt) := fun q => hc11 ((fa_le _ _).mpr (by have : ((150 : Int32).toInt) = 150 := (by decide); omega))
                    refine lv_aload_n hx hb dX12_thirdQuarrels_141 rfl (lv_at hl 2 rfl) ?_
                    refine tw_get (ci := 12) (C := RX12) (T := TX12) (N := 64) hx hb hB cx_inX12 hown hK TH hm0 hk0 rfl ⟨by decide, rfl⟩ 16 (by decide) cw_1209 (fun _ h9 => h9) dX12_thirdQuarrels_142 (fun hv => ?_)
                    obtain ⟨xr33, hxr33, hmxr33, hkxr33⟩ : ∃ a : Nat, tw_fv Eg133 a0 16 = .ref a ∧ a ∈ L ∧ kp a = 316 := hv
                    rw [hxr33]
                    refine lv_bipush (v := 13) hx hb dX12_thirdQuarrels_145 (by decide) ?_
                    refine tw_aald (k := 316) (t0 := 5) (n := 16) (lo := 326) (hi := 0) (ty := .boolean) hx hb hK TH hmxr33 hkxr33 (by decide) rfl rfl (i := 13) (vp_in_iff.mpr ⟨by have : ((13 : Int32).toInt) = 13 := (by decide); omega, by have : ((13 : Int32).toInt) = 13 := (by decide); omega⟩) dX12_thirdQuarrels_147 (fun xr34 exr34 hmxr34 hkxr34 => ?_)
                    have hkxr34 : kp xr34 = 326 := hkxr34
                    refine lv_iload hx hb dX12_thirdQuarrels_148 (lv_at hl 0 rfl) ?_
                    refine tw_zald (k := 326) (t0 := 3) (n := 150) (lo := 0) (hi := 1) hx hb hK TH hmxr34 hkxr34 (by decide) rfl rfl (i := y133_5) (vp_in_iff.mpr ⟨by  omega, by  omega⟩) dX12_thirdQuarrels_150 (fun hxe35a hxe35b => ?_)
                    obtain ⟨xe35, exe35⟩ : ∃ z : Int32, tw_iv Eg133 xr34 (Int32.toNatClampNeg y133_5) = z := ⟨_, rfl⟩
                    rw [exe35] at hxe35a hxe35b ⊢
                    refine lv_if_eq (tgt := 214) hx hb dX12_thirdQuarrels_151 (by decide) (fun hc36 => ?_) (fun hc36 => ?_)
                    · have hf37 : xe35.toInt = 0 := by have z := (fa_eq _ _).mp hc36; have : ((0 : Int32).toInt) = 0 := (by decide); omega
                      obtain ⟨zi38, ezi38⟩ : ∃ z : Int32, z = y133_5 + Int32.ofInt 1 := ⟨_, rfl⟩
                      have hzi38 : zi38.toInt = y133_5.toInt + 1 := by rw [ezi38]; have : ((Int32.ofInt 1).toInt) = 1 := (by decide);  exact (ia_add (by omega) (by omega)).trans (by omega)
                      refine lv_iinc (v := zi38) (lv' := [(5, .int zi38), (4, .int xc10), (0, .ref a0)]) hx hb dX12_thirdQuarrels_214 hl (k := 0) rfl ezi38.symm (by decide) rfl (fun ls hl => ?_)
                      refine lv_goto (tgt := 133) hx hb dX12_thirdQuarrels_217 (by decide) ?_
                      exact ih133 (n133 - 1) (by   omega) zi38 u133_0_57 _ _ _ ls (by omega) (by omega) (by omega) (by omega) (by  omega) (by  intro q0; have fh := rw_h_fr TH hF hm0 hk0 (by decide) (by decide) (by decide) (i := 13) (by decide); have fp := rw_p_fr TH hF hm0 hk0 (by decide) (by decide) (by decide) (i := 13) (by decide); refine r3_step (hin133_1 q0) (show zi38.toInt = y133_5.toInt + 1 by omega) (fun hz hp => ?_) (by omega); exfalso; have rf_xe35 : rw_h Eg133 a0 (13) (y133_5.toInt).toNat = xe35.toInt := (by have q := rw_h_of (m := a0) (i := (13 : Int32)) (c := y133_5) hxr33 exr34 exe35; rw [show ((13 : Int32).toInt) = 13 from (by decide)] at q; exact q); rw [← fh, rf_xe35] at hz; omega) (by   omega) hfm133_0 hG133 hcg133_0 hcg133_1 hcg133_2 TH hS (lv_sub hl [0, 1, 2] rfl)
                    · have hf39 : ¬ (xe35.toInt = 0) := fun q => hc36 ((fa_eq _ _).mpr (by have : ((0 : Int32).toInt) = 0 := (by decide); omega))
                      refine lv_aload_n hx hb dX12_thirdQuarrels_154 rfl (lv_at hl 2 rfl) ?_
                      refine tw_get (ci := 12) (C := RX12) (T := TX12) (N := 64) hx hb hB cx_inX12 hown hK TH hm0 hk0 rfl ⟨by decide, rfl⟩ 60 (by decide) cw_1253 (fun _ h9 => h9) dX12_thirdQuarrels_155 (fun hv => ?_)
                      obtain ⟨xr40, hxr40, hmxr40, hkxr40⟩ : ∃ a : Nat, tw_fv Eg133 a0 60 = .ref a ∧ a ∈ L ∧ kp a = 364 := hv
                      rw [hxr40]
                      refine lv_iload hx hb dX12_thirdQuarrels_158 (lv_at hl 0 rfl) ?_
                      refine tw_zald (k := 364) (t0 := 3) (n := 150) (lo := 0) (hi := 1) hx hb hK TH hmxr40 hkxr40 (by decide) rfl rfl (i := y133_5) (vp_in_iff.mpr ⟨by  omega, by  omega⟩) dX12_thirdQuarrels_160 (fun hxe41a hxe41b => ?_)
                      obtain ⟨xe41, exe41⟩ : ∃ z : Int32, tw_iv Eg133 xr40 (Int32.toNatClampNeg y133_5) = z := ⟨_, rfl⟩
                      rw [exe41] at hxe41a hxe41b ⊢
                      refine lv_if_ne (tgt := 214) hx hb dX12_thirdQuarrels_161 (by decide) (fun hc42 => ?_) (fun hc42 => ?_)
                      · have hf43 : ¬ (xe41.toInt = 0) := fun q => hc42 ((fa_eq _ _).mpr (by have : ((0 : Int32).toInt) = 0 := (by decide); omega))
                        obtain ⟨zi44, ezi44⟩ : ∃ z : Int32, z = y133_5 + Int32.ofInt 1 := ⟨_, rfl⟩
                        have hzi44 : zi44.toInt = y133_5.toInt + 1 := by rw [ezi44]; have : ((Int32.ofInt 1).toInt) = 1 := (by decide);  exact (ia_add (by omega) (by omega)).trans (by omega)
                        refine lv_iinc (v := zi44) (lv' := [(5, .int zi44), (4, .int xc10), (0, .ref a0)]) hx hb dX12_thirdQuarrels_214 hl (k := 0) rfl ezi44.symm (by decide) rfl (fun ls hl => ?_)
                        refine lv_goto (tgt := 133) hx hb dX12_thirdQuarrels_217 (by decide) ?_
                        exact ih133 (n133 - 1) (by   omega) zi44 u133_0_57 _ _ _ ls (by omega) (by omega) (by omega) (by omega) (by  omega) (by  intro q0; have fh := rw_h_fr TH hF hm0 hk0 (by decide) (by decide) (by decide) (i := 13) (by decide); have fp := rw_p_fr TH hF hm0 hk0 (by decide) (by decide) (by decide) (i := 13) (by decide); refine r3_step (hin133_1 q0) (show zi44.toInt = y133_5.toInt + 1 by omega) (fun hz hp => ?_) (by omega); exfalso; have rf_xe41 : tw_el Eg133 a0 60 (y133_5.toInt).toNat = xe41.toInt := (by rw [tw_el_of hxr40]; exact congrArg Int32.toInt exe41); have w := hcg133_2 (by rw [tw_fi_of hfm133_0]; omega) (y133_5.toInt).toNat (by omega); rw [rf_xe41] at w; omega) (by   omega) hfm133_0 hG133 hcg133_0 hcg133_1 hcg133_2 TH hS (lv_sub hl [0, 1, 2] rfl)
                      · have hf45 : xe41.toInt = 0 := by have z := (fa_eq _ _).mp hc42; have : ((0 : Int32).toInt) = 0 := (by decide); omega
                        refine lv_aload_n hx hb dX12_thirdQuarrels_164 rfl (lv_at hl 2 rfl) ?_
                        refine lv_bipush (v := 13) hx hb dX12_thirdQuarrels_165 (by decide) ?_
                        refine lv_iload hx hb dX12_thirdQuarrels_167 (lv_at hl 0 rfl) ?_
                        refine tw_Vc (o := a0) (ci := 12) (n := 2) (post := (fun v kq Lq Eq => (∃ x : Int32, v = some (.int x) ∧ 0 ≤ x.toInt ∧ x.toInt ≤ 1) ∧ kp = kq ∧ L = Lq ∧ tw_fr kp L [] [348, 349] Eg133 Eq)) (As := [.int 13, .int y133_5]) (rest := []) ⟨hx, hb, hml, hown, hB⟩ (fun sz => tX12_fitsBut l D cs a0 (13 : Int32) y133_5 hm0 hk0 (by have : ((13 : Int32).toInt) = 13 := (by decide); omega) (by have : ((13 : Int32).toInt) = 13 := (by decide); omega) (by omega) (by omega) (by have : ((13 : Int32).toInt) = 13 := (by decide); omega) hcg133_0 sz) cg_12_327_X12_fitsBut rfl rfl (by decide +kernel) ⟨Nat.le_of_ble_eq_true rfl, Nat.le_of_ble_eq_true rfl⟩ hK hN TH hS hA rfl hm0 hk0 (by decide) rfl hl.1 rfl (Nat.le_of_ble_eq_true rfl) dX12_thirdQuarrels_169 ⟨Nat.le_of_ble_eq_true rfl, Nat.le_of_ble_eq_true rfl⟩ (fun v46 kp46 L46 E46 H locs hq46 hx46 TH hS => ?_)
                        obtain ⟨⟨xc47, rfl, hxc47a, hxc47b⟩, rfl, rfl, hst46⟩ := hq46
                        have hF := hF.tr hst46 (fun _ h => ⟨h, rfl⟩) (by decide) (by decide)
                        have hG133 := hG133.tr hst46 (fun _ h => ⟨h, rfl⟩) (by decide) (by decide)
                        have hmf48 : tw_fv E46 a0 57 = .int u133_0_57 := (hst46.1 a0 57 hm0 (by rw [hk0]; decide)).trans hfm133_0
                        have hmf49 : tw_fv E46 a0 16 = .ref xr33 := (hst46.1 a0 16 hm0 (by rw [hk0]; decide)).trans hxr33
                        have hmf50 : tw_fv E46 a0 60 = .ref xr40 := (hst46.1 a0 60 hm0 (by rw [hk0]; decide)).trans hxr40
                        have hcg133_0 : ht_ok E46 a0 := ht_ok_fr TH hst46 hm0 hk0 (by decide) (by decide) hcg133_0
                        have hcg133_1 : t1_ok E46 a0 (13) := t1_ok_fr TH hst46 hm0 hk0 (by decide) (by decide) (by omega) hcg133_1
                        have hcg133_2 : nc_ok E46 a0 (150) := nc_ok_fr TH hst46 hm0 hk0 (by decide) (by decide) hcg133_2
                        refine W.eq (g2 := F0 m 172 ls [.int xc47]) rfl ?_
                        refine lv_if_eq (tgt := 206) hx hb dX12_thirdQuarrels_172 (by decide) (fun hc51 => ?_) (fun hc51 => ?_)
                        · have hf52 : xc47.toInt = 0 := by have z := (fa_eq _ _).mp hc51; have : ((0 : Int32).toInt) = 0 := (by decide); omega
                          refine lv_aload_n hx hb dX12_thirdQuarrels_206 rfl (lv_at hl 2 rfl) ?_
                          refine lv_bipush (v := 6) hx hb dX12_thirdQuarrels_207 (by decide) ?_
                          refine lv_iload hx hb dX12_thirdQuarrels_209 (lv_at hl 0 rfl) ?_
                          refine tw_Vc (o := a0) (ci := 12) (n := 2) (post := (fun v kq Lq Eq => v = none ∧ kp = kq ∧ L = Lq ∧ tw_fr kp L [(12, 57)] [359] E46 Eq ∧ (∃ z0 : Int32, tw_fv Eq a0 57 = .int z0 ∧ (z0.toInt = u133_0_57.toInt + 1)))) (As := [.int 6, .int y133_5]) (rest := []) ⟨hx, hb, hml, hown, hB⟩ (fun sz => tX12_quarrels l D cs a0 (6 : Int32) y133_5 u133_0_57 hm0 hk0 hmf48 (by have : ((6 : Int32).toInt) = 6 := (by decide); omega) sz) cg_12_468_X12_quarrels rfl rfl (by decide +kernel) ⟨Nat.le_of_ble_eq_true rfl, Nat.le_of_ble_eq_true rfl⟩ hK hN TH hS hA rfl hm0 hk0 (by decide) rfl hl.1 rfl (Nat.le_of_ble_eq_true rfl) dX12_thirdQuarrels_211 ⟨Nat.le_of_ble_eq_true rfl, Nat.le_of_ble_eq_true rfl⟩ (fun v53 kp53 L53 E53 H locs hq53 hx53 TH hS => ?_)
                          obtain ⟨rfl, rfl, rfl, hst53, ⟨zfxc54_0_0, hzfxc54_0_0, hzpxc54_0⟩⟩ := hq53
                          have hF := hF.tr hst53 (fun _ h => ⟨h, rfl⟩) (by decide) (by decide)
                          have hG133 := hG133.tr hst53 (fun _ h => ⟨h, rfl⟩) (by decide) (by decide)
                          have hmf55 : tw_fv E53 a0 16 = .ref xr33 := (hst53.1 a0 16 hm0 (by rw [hk0]; decide)).trans hmf49
                          have hmf56 : tw_fv E53 a0 60 = .ref xr40 := (hst53.1 a0 60 hm0 (by rw [hk0]; decide)).trans hmf50
                          have hcg133_0_o := hcg133_0
                          have hcg133_1_o := hcg133_1
                          have hcg133_2_o := hcg133_2
                          have hcg133_0 : ht_ok E53 a0 := ht_ok_fr TH hst53 hm0 hk0 (by decide) (by decide) hcg133_0
                          have hcg133_1 : t1_ok E53 a0 (13) := t1_ok_fr TH hst53 hm0 hk0 (by decide) (by decide) (by omega) hcg133_1
                          have hcg133_2 : nc_ok E53 a0 (150) := (fun z => absurd z (by rw [tw_fi_of hzfxc54_0_0]; omega))
                          obtain ⟨qzfxc54_0_0, hqzfxc54_0_0, hqzfxc54_0_0a, hqzfxc54_0_0b⟩ := tw_rd TH hm0 hk0 (by decide) (by decide) (k := 57) rfl
                          have eqzfxc54_0_0 : qzfxc54_0_0 = zfxc54_0_0 := by have q := hqzfxc54_0_0.symm.trans hzfxc54_0_0; injection q
                          rw [eqzfxc54_0_0] at hqzfxc54_0_0a hqzfxc54_0_0b
                          refine W.eq (g2 := F0 m 214 ls []) rfl ?_
                          obtain ⟨zi57, ezi57⟩ : ∃ z : Int32, z = y133_5 + Int32.ofInt 1 := ⟨_, rfl⟩
                          have hzi57 : zi57.toInt = y133_5.toInt + 1 := by rw [ezi57]; have : ((Int32.ofInt 1).toInt) = 1 := (by decide);  exact (ia_add (by omega) (by omega)).trans (by omega)
                          refine lv_iinc (v := zi57) (lv' := [(5, .int zi57), (4, .int xc10), (0, .ref a0)]) hx hb dX12_thirdQuarrels_214 hl (k := 0) rfl ezi57.symm (by decide) rfl (fun ls hl => ?_)
                          refine lv_goto (tgt := 133) hx hb dX12_thirdQuarrels_217 (by decide) ?_
                          exact ih133 (n133 - 1) (by   omega) zi57 zfxc54_0_0 _ _ _ ls (by omega) (by omega) (by omega) (by omega) (by  omega) (by  intro q0; exfalso; omega) (by   omega) hzfxc54_0_0 hG133 hcg133_0 hcg133_1 hcg133_2 TH hS (lv_sub hl [0, 1, 2] rfl)
                        · have hf58 : ¬ (xc47.toInt = 0) := fun q => hc51 ((fa_eq _ _).mpr (by have : ((0 : Int32).toInt) = 0 := (by decide); omega))
                          refine lv_aload_n hx hb dX12_thirdQuarrels_175 rfl (lv_at hl 2 rfl) ?_
                          refine tw_get (ci := 12) (C := RX12) (T := TX12) (N := 64) hx hb hB cx_inX12 hown hK TH hm0 hk0 rfl ⟨by decide, rfl⟩ 18 (by decide) cw_1211 (fun _ h9 => h9) dX12_thirdQuarrels_176 (fun hv => ?_)
                          obtain ⟨xr59, hxr59, hmxr59, hkxr59⟩ : ∃ a : Nat, tw_fv E46 a0 18 = .ref a ∧ a ∈ L ∧ kp a = 318 := hv
                          rw [hxr59]
                          refine lv_bipush (v := 13) hx hb dX12_thirdQuarrels_179 (by decide) ?_
                          refine tw_aald (k := 318) (t0 := 4) (n := 16) (lo := 328) (hi := 0) (ty := .int) hx hb hK TH hmxr59 hkxr59 (by decide) rfl rfl (i := 13) (vp_in_iff.mpr ⟨by have : ((13 : Int32).toInt) = 13 := (by decide); omega, by have : ((13 : Int32).toInt) = 13 := (by decide); omega⟩) dX12_thirdQuarrels_181 (fun xr60 exr60 hmxr60 hkxr60 => ?_)
                          have hkxr60 : kp xr60 = 328 := hkxr60
                          refine lv_iload hx hb dX12_thirdQuarrels_182 (lv_at hl 0 rfl) ?_
                          refine tw_iald (k := 328) (t0 := 0) (n := 150) (lo := (-1)) (hi := 149) hx hb hK TH hmxr60 hkxr60 (by decide) rfl rfl (i := y133_5) (vp_in_iff.mpr ⟨by  omega, by  omega⟩) dX12_thirdQuarrels_184 (fun hxe61a hxe61b => ?_)
                          obtain ⟨xe61, exe61⟩ : ∃ z : Int32, tw_iv E46 xr60 (Int32.toNatClampNeg y133_5) = z := ⟨_, rfl⟩
                          rw [exe61] at hxe61a hxe61b ⊢
                          refine lv_iconst (v := (-1)) hx hb dX12_thirdQuarrels_185 (by decide) ?_
                          refine lv_icmp_ne (tgt := 214) hx hb dX12_thirdQuarrels_186 (by decide) (fun hc62 => ?_) (fun hc62 => ?_)
                          · have hf63 : ¬ (xe61.toInt = (-1)) := fun q => hc62 ((fa_eq _ _).mpr (by have : (((-1) : Int32).toInt) = (-1) := (by decide); omega))
                            obtain ⟨zi64, ezi64⟩ : ∃ z : Int32, z = y133_5 + Int32.ofInt 1 := ⟨_, rfl⟩
                            have hzi64 : zi64.toInt = y133_5.toInt + 1 := by rw [ezi64]; have : ((Int32.ofInt 1).toInt) = 1 := (by decide);  exact (ia_add (by omega) (by omega)).trans (by omega)
                            refine lv_iinc (v := zi64) (lv' := [(5, .int zi64), (4, .int xc10), (0, .ref a0)]) hx hb dX12_thirdQuarrels_214 hl (k := 0) rfl ezi64.symm (by decide) rfl (fun ls hl => ?_)
                            refine lv_goto (tgt := 133) hx hb dX12_thirdQuarrels_217 (by decide) ?_
                            exact ih133 (n133 - 1) (by   omega) zi64 u133_0_57 _ _ _ ls (by omega) (by omega) (by omega) (by omega) (by  omega) (by  intro q0; have fh := rw_h_fr TH hF hm0 hk0 (by decide) (by decide) (by decide) (i := 13) (by decide); have fp := rw_p_fr TH hF hm0 hk0 (by decide) (by decide) (by decide) (i := 13) (by decide); refine r3_step (hin133_1 q0) (show zi64.toInt = y133_5.toInt + 1 by omega) (fun hz hp => ?_) (by omega); have rf_xe61 : rw_p E46 a0 (13) (y133_5.toInt).toNat = xe61.toInt := (by have q := rw_p_of (m := a0) (i := (13 : Int32)) (c := y133_5) hxr59 exr60 exe61; rw [show ((13 : Int32).toInt) = 13 from (by decide)] at q; exact q); rw [← fp, rf_xe61] at hp; omega) (by   omega) hmf48 hG133 hcg133_0 hcg133_1 hcg133_2 TH hS (lv_sub hl [0, 1, 2] rfl)
                          · have hf65 : xe61.toInt = (-1) := by have z := (fa_eq _ _).mp hc62; have : (((-1) : Int32).toInt) = (-1) := (by decide); omega
                            refine lv_iload hx hb dX12_thirdQuarrels_189 (lv_at hl 0 rfl) ?_
                            refine lv_iload hx hb dX12_thirdQuarrels_191 (lv_at hl 1 rfl) ?_
                            refine lv_icmp_ne (tgt := 206) hx hb dX12_thirdQuarrels_193 (by decide) (fun hc66 => ?_) (fun hc66 => ?_)
                            · have hf67 : ¬ (y133_5.toInt = xc10.toInt) := fun q => hc66 ((fa_eq _ _).mpr (by  omega))
                              refine lv_aload_n hx hb dX12_thirdQuarrels_206 rfl (lv_at hl 2 rfl) ?_
                              refine lv_bipush (v := 6) hx hb dX12_thirdQuarrels_207 (by decide) ?_
                              refine lv_iload hx hb dX12_thirdQuarrels_209 (lv_at hl 0 rfl) ?_
                              refine tw_Vc (o := a0) (ci := 12) (n := 2) (post := (fun v kq Lq Eq => v = none ∧ kp = kq ∧ L = Lq ∧ tw_fr kp L [(12, 57)] [359] E46 Eq ∧ (∃ z0 : Int32, tw_fv Eq a0 57 = .int z0 ∧ (z0.toInt = u133_0_57.toInt + 1)))) (As := [.int 6, .int y133_5]) (rest := []) ⟨hx, hb, hml, hown, hB⟩ (fun sz => tX12_quarrels l D cs a0 (6 : Int32) y133_5 u133_0_57 hm0 hk0 hmf48 (by have : ((6 : Int32).toInt) = 6 := (by decide); omega) sz) cg_12_468_X12_quarrels rfl rfl (by decide +kernel) ⟨Nat.le_of_ble_eq_true rfl, Nat.le_of_ble_eq_true rfl⟩ hK hN TH hS hA rfl hm0 hk0 (by decide) rfl hl.1 rfl (Nat.le_of_ble_eq_true rfl) dX12_thirdQuarrels_211 ⟨Nat.le_of_ble_eq_true rfl, Nat.le_of_ble_eq_true rfl⟩ (fun v68 kp68 L68 E68 H locs hq68 hx68 TH hS => ?_)
                              obtain ⟨rfl, rfl, rfl, hst68, ⟨zfxc69_0_0, hzfxc69_0_0, hzpxc69_0⟩⟩ := hq68
                              have hF := hF.tr hst68 (fun _ h => ⟨h, rfl⟩) (by decide) (by decide)
                              have hG133 := hG133.tr hst68 (fun _ h => ⟨h, rfl⟩) (by decide) (by decide)
                              have hmf70 : tw_fv E68 a0 16 = .ref xr33 := (hst68.1 a0 16 hm0 (by rw [hk0]; decide)).trans hmf49
                              have hmf71 : tw_fv E68 a0 60 = .ref xr40 := (hst68.1 a0 60 hm0 (by rw [hk0]; decide)).trans hmf50
                              have hmf72 : tw_fv E68 a0 18 = .ref xr59 := (hst68.1 a0 18 hm0 (by rw [hk0]; decide)).trans hxr59
                              have hcg133_0_o := hcg133_0
                              have hcg133_1_o := hcg133_1
                              have hcg133_2_o := hcg133_2
                              have hcg133_0 : ht_ok E68 a0 := ht_ok_fr TH hst68 hm0 hk0 (by decide) (by decide) hcg133_0
                              have hcg133_1 : t1_ok E68 a0 (13) := t1_ok_fr TH hst68 hm0 hk0 (by decide) (by decide) (by omega) hcg133_1
                              have hcg133_2 : nc_ok E68 a0 (150) := (fun z => absurd z (by rw [tw_fi_of hzfxc69_0_0]; omega))
                              obtain ⟨qzfxc69_0_0, hqzfxc69_0_0, hqzfxc69_0_0a, hqzfxc69_0_0b⟩ := tw_rd TH hm0 hk0 (by decide) (by decide) (k := 57) rfl
                              have eqzfxc69_0_0 : qzfxc69_0_0 = zfxc69_0_0 := by have q := hqzfxc69_0_0.symm.trans hzfxc69_0_0; injection q
                              rw [eqzfxc69_0_0] at hqzfxc69_0_0a hqzfxc69_0_0b
                              refine W.eq (g2 := F0 m 214 ls []) rfl ?_
                              obtain ⟨zi73, ezi73⟩ : ∃ z : Int32, z = y133_5 + Int32.ofInt 1 := ⟨_, rfl⟩
                              have hzi73 : zi73.toInt = y133_5.toInt + 1 := by rw [ezi73]; have : ((Int32.ofInt 1).toInt) = 1 := (by decide);  exact (ia_add (by omega) (by omega)).trans (by omega)
                              refine lv_iinc (v := zi73) (lv' := [(5, .int zi73), (4, .int xc10), (0, .ref a0)]) hx hb dX12_thirdQuarrels_214 hl (k := 0) rfl ezi73.symm (by decide) rfl (fun ls hl => ?_)
                              refine lv_goto (tgt := 133) hx hb dX12_thirdQuarrels_217 (by decide) ?_
                              exact ih133 (n133 - 1) (by   omega) zi73 zfxc69_0_0 _ _ _ ls (by omega) (by omega) (by omega) (by omega) (by  omega) (by  intro q0; exfalso; omega) (by   omega) hzfxc69_0_0 hG133 hcg133_0 hcg133_1 hcg133_2 TH hS (lv_sub hl [0, 1, 2] rfl)
                            · have hf74 : y133_5.toInt = xc10.toInt := by have z := (fa_eq _ _).mp hc66;  omega
                              refine lv_aload_n hx hb dX12_thirdQuarrels_196 rfl (lv_at hl 2 rfl) ?_
                              refine tw_get (ci := 12) (C := RX12) (T := TX12) (N := 64) hx hb hB cx_inX12 hown hK TH hm0 hk0 rfl ⟨by decide, rfl⟩ 20 (by decide) cw_1213 (fun _ h9 => h9) dX12_thirdQuarrels_197 (fun hv => ?_)
                              obtain ⟨xr75, hxr75, hmxr75, hkxr75⟩ : ∃ a : Nat, tw_fv E46 a0 20 = .ref a ∧ a ∈ L ∧ kp a = 330 := hv
                              rw [hxr75]
                              refine lv_iload hx hb dX12_thirdQuarrels_200 (lv_at hl 0 rfl) ?_
                              refine tw_iald (k := 330) (t0 := 0) (n := 150) (lo := 0) (hi := 9) hx hb hK TH hmxr75 hkxr75 (by decide) rfl rfl (i := y133_5) (vp_in_iff.mpr ⟨by  omega, by  omega⟩) dX12_thirdQuarrels_202 (fun hxe76a hxe76b => ?_)
                              obtain ⟨xe76, exe76⟩ : ∃ z : Int32, tw_iv E46 xr75 (Int32.toNatClampNeg y133_5) = z := ⟨_, rfl⟩
                              rw [exe76] at hxe76a hxe76b ⊢
                              refine lv_if_eq (tgt := 214) hx hb dX12_thirdQuarrels_203 (by decide) (fun hc77 => ?_) (fun hc77 => ?_)
                              · have hf78 : xe76.toInt = 0 := by have z := (fa_eq _ _).mp hc77; have : ((0 : Int32).toInt) = 0 := (by decide); omega
                                obtain ⟨zi79, ezi79⟩ : ∃ z : Int32, z = y133_5 + Int32.ofInt 1 := ⟨_, rfl⟩
                                have hzi79 : zi79.toInt = y133_5.toInt + 1 := by rw [ezi79]; have : ((Int32.ofInt 1).toInt) = 1 := (by decide);  exact (ia_add (by omega) (by omega)).trans (by omega)
                                refine lv_iinc (v := zi79) (lv' := [(5, .int zi79), (4, .int xc10), (0, .ref a0)]) hx hb dX12_thirdQuarrels_214 hl (k := 0) rfl ezi79.symm (by decide) rfl (fun ls hl => ?_)
                                refine lv_goto (tgt := 133) hx hb dX12_thirdQuarrels_217 (by decide) ?_
                                exact ih133 (n133 - 1) (by   omega) zi79 u133_0_57 _ _ _ ls (by omega) (by omega) (by omega) (by omega) (by  omega) (by  intro q0; have fh := rw_h_fr TH hF hm0 hk0 (by decide) (by decide) (by decide) (i := 13) (by decide); have fp := rw_p_fr TH hF hm0 hk0 (by decide) (by decide) (by decide) (i := 13) (by decide); refine r3_step (hin133_1 q0) (show zi79.toInt = y133_5.toInt + 1 by omega) (fun hz hp => ?_) (by omega); have rf_xe61 : rw_p E46 a0 (13) (y133_5.toInt).toNat = xe61.toInt := (by have q := rw_p_of (m := a0) (i := (13 : Int32)) (c := y133_5) hxr59 exr60 exe61; rw [show ((13 : Int32).toInt) = 13 from (by decide)] at q; exact q); rw [← fp, rf_xe61] at hp; omega) (by   omega) hmf48 hG133 hcg133_0 hcg133_1 hcg133_2 TH hS (lv_sub hl [0, 1, 2] rfl)
                              · have hf80 : ¬ (xe76.toInt = 0) := fun q => hc77 ((fa_eq _ _).mpr (by have : ((0 : Int32).toInt) = 0 := (by decide); omega))
                                refine lv_aload_n hx hb dX12_thirdQuarrels_206 rfl (lv_at hl 2 rfl) ?_
                                refine lv_bipush (v := 6) hx hb dX12_thirdQuarrels_207 (by decide) ?_
                                refine lv_iload hx hb dX12_thirdQuarrels_209 (lv_at hl 0 rfl) ?_
                                refine tw_Vc (o := a0) (ci := 12) (n := 2) (post := (fun v kq Lq Eq => v = none ∧ kp = kq ∧ L = Lq ∧ tw_fr kp L [(12, 57)] [359] E46 Eq ∧ (∃ z0 : Int32, tw_fv Eq a0 57 = .int z0 ∧ (z0.toInt = u133_0_57.toInt + 1)))) (As := [.int 6, .int y133_5]) (rest := []) ⟨hx, hb, hml, hown, hB⟩ (fun sz => tX12_quarrels l D cs a0 (6 : Int32) y133_5 u133_0_57 hm0 hk0 hmf48 (by have : ((6 : Int32).toInt) = 6 := (by decide); omega) sz) cg_12_468_X12_quarrels rfl rfl (by decide +kernel) ⟨Nat.le_of_ble_eq_true rfl, Nat.le_of_ble_eq_true rfl⟩ hK hN TH hS hA rfl hm0 hk0 (by decide) rfl hl.1 rfl (Nat.le_of_ble_eq_true rfl) dX12_thirdQuarrels_211 ⟨Nat.le_of_ble_eq_true rfl, Nat.le_of_ble_eq_true rfl⟩ (fun v81 kp81 L81 E81 H locs hq81 hx81 TH hS => ?_)
                                obtain ⟨rfl, rfl, rfl, hst81, ⟨zfxc82_0_0, hzfxc82_0_0, hzpxc82_0⟩⟩ := hq81
                                have hF := hF.tr hst81 (fun _ h => ⟨h, rfl⟩) (by decide) (by decide)
                                have hG133 := hG133.tr hst81 (fun _ h => ⟨h, rfl⟩) (by decide) (by decide)
                                have hmf83 : tw_fv E81 a0 16 = .ref xr33 := (hst81.1 a0 16 hm0 (by rw [hk0]; decide)).trans hmf49
                                have hmf84 : tw_fv E81 a0 60 = .ref xr40 := (hst81.1 a0 60 hm0 (by rw [hk0]; decide)).trans hmf50
                                have hmf85 : tw_fv E81 a0 18 = .ref xr59 := (hst81.1 a0 18 hm0 (by rw [hk0]; decide)).trans hxr59
                                have hmf86 : tw_fv E81 a0 20 = .ref xr75 := (hst81.1 a0 20 hm0 (by rw [hk0]; decide)).trans hxr75
                                have hcg133_0_o := hcg133_0
                                have hcg133_1_o := hcg133_1
                                have hcg133_2_o := hcg133_2
                                have hcg133_0 : ht_ok E81 a0 := ht_ok_fr TH hst81 hm0 hk0 (by decide) (by decide) hcg133_0
                                have hcg133_1 : t1_ok E81 a0 (13) := t1_ok_fr TH hst81 hm0 hk0 (by decide) (by decide) (by omega) hcg133_1
                                have hcg133_2 : nc_ok E81 a0 (150) := (fun z => absurd z (by rw [tw_fi_of hzfxc82_0_0]; omega))
                                obtain ⟨qzfxc82_0_0, hqzfxc82_0_0, hqzfxc82_0_0a, hqzfxc82_0_0b⟩ := tw_rd TH hm0 hk0 (by decide) (by decide) (k := 57) rfl
                                have eqzfxc82_0_0 : qzfxc82_0_0 = zfxc82_0_0 := by have q := hqzfxc82_0_0.symm.trans hzfxc82_0_0; injection q
                                rw [eqzfxc82_0_0] at hqzfxc82_0_0a hqzfxc82_0_0b
                                refine W.eq (g2 := F0 m 214 ls []) rfl ?_
                                obtain ⟨zi87, ezi87⟩ : ∃ z : Int32, z = y133_5 + Int32.ofInt 1 := ⟨_, rfl⟩
                                have hzi87 : zi87.toInt = y133_5.toInt + 1 := by rw [ezi87]; have : ((Int32.ofInt 1).toInt) = 1 := (by decide);  exact (ia_add (by omega) (by omega)).trans (by omega)
                                refine lv_iinc (v := zi87) (lv' := [(5, .int zi87), (4, .int xc10), (0, .ref a0)]) hx hb dX12_thirdQuarrels_214 hl (k := 0) rfl ezi87.symm (by decide) rfl (fun ls hl => ?_)
                                refine lv_goto (tgt := 133) hx hb dX12_thirdQuarrels_217 (by decide) ?_
                                exact ih133 (n133 - 1) (by   omega) zi87 zfxc82_0_0 _ _ _ ls (by omega) (by omega) (by omega) (by omega) (by  omega) (by  intro q0; exfalso; omega) (by   omega) hzfxc82_0_0 hG133 hcg133_0 hcg133_1 hcg133_2 TH hS (lv_sub hl [0, 1, 2] rfl)
              exact hJ133 151 (0 : Int32) u32_0_57 _ _ _ ls (by have : ((0 : Int32).toInt) = 0 := (by decide); omega) (by have : ((0 : Int32).toInt) = 0 := (by decide); omega) (by omega) (by omega) (by have : ((0 : Int32).toInt) = 0 := (by decide); omega) (by have : ((0 : Int32).toInt) = 0 := (by decide); intro _ c hc; exact absurd hc (by have e0 : ((0 : Int32).toInt) = 0 := (by decide); omega)) (by have : ((0 : Int32).toInt) = 0 := (by decide);  omega) hmf8 tw_fr.rf hgpxc7_0 (t1_ok_cast (by have : ((0 : Int32).toInt) = 0 := (by decide); omega) hgpxc7_1) (nc_ok_cast (by have : ((0 : Int32).toInt) = 0 := (by decide); omega) hcg32_2) TH hS (lv_sub hl [0, 1, 2] rfl)
            · have hf88 : ¬ (150 ≤ y32_4.toInt) := fun q => hc4 ((fa_le _ _).mpr (by have : ((150 : Int32).toInt) = 150 := (by decide); omega))
              refine lv_aload_n hx hb dX12_thirdQuarrels_40 rfl (lv_at hl 1 rfl) ?_
              refine tw_get (ci := 12) (C := RX12) (T := TX12) (N := 64) hx hb hB cx_inX12 hown hK TH hm0 hk0 rfl ⟨by decide, rfl⟩ 60 (by decide) cw_1253 (fun _ h9 => h9) dX12_thirdQuarrels_41 (fun hv => ?_)
              obtain ⟨xr89, hxr89, hmxr89, hkxr89⟩ : ∃ a : Nat, tw_fv Eg32 a0 60 = .ref a ∧ a ∈ L ∧ kp a = 364 := hv
              rw [hxr89]
              refine lv_iload hx hb dX12_thirdQuarrels_44 (lv_at hl 0 rfl) ?_
              refine lv_aload_n hx hb dX12_thirdQuarrels_46 rfl (lv_at hl 1 rfl) ?_
              refine tw_get (ci := 12) (C := RX12) (T := TX12) (N := 64) hx hb hB cx_inX12 hown hK TH hm0 hk0 rfl ⟨by decide, rfl⟩ 16 (by decide) cw_1209 (fun _ h9 => h9) dX12_thirdQuarrels_47 (fun hv => ?_)
              obtain ⟨xr90, hxr90, hmxr90, hkxr90⟩ : ∃ a : Nat, tw_fv Eg32 a0 16 = .ref a ∧ a ∈ L ∧ kp a = 316 := hv
              rw [hxr90]
              refine lv_bipush (v := 13) hx hb dX12_thirdQuarrels_50 (by decide) ?_
              refine tw_aald (k := 316) (t0 := 5) (n := 16) (lo := 326) (hi := 0) (ty := .boolean) hx hb hK TH hmxr90 hkxr90 (by decide) rfl rfl (i := 13) (vp_in_iff.mpr ⟨by have : ((13 : Int32).toInt) = 13 := (by decide); omega, by have : ((13 : Int32).toInt) = 13 := (by decide); omega⟩) dX12_thirdQuarrels_52 (fun xr91 exr91 hmxr91 hkxr91 => ?_)
              have hkxr91 : kp xr91 = 326 := hkxr91
              refine lv_iload hx hb dX12_thirdQuarrels_53 (lv_at hl 0 rfl) ?_
              refine tw_zald (k := 326) (t0 := 3) (n := 150) (lo := 0) (hi := 1) hx hb hK TH hmxr91 hkxr91 (by decide) rfl rfl (i := y32_4) (vp_in_iff.mpr ⟨by  omega, by  omega⟩) dX12_thirdQuarrels_55 (fun hxe92a hxe92b => ?_)
              obtain ⟨xe92, exe92⟩ : ∃ z : Int32, tw_iv Eg32 xr91 (Int32.toNatClampNeg y32_4) = z := ⟨_, rfl⟩
              rw [exe92] at hxe92a hxe92b ⊢
              refine lv_if_eq (tgt := 91) hx hb dX12_thirdQuarrels_56 (by decide) (fun hc93 => ?_) (fun hc93 => ?_)
              · have hf94 : xe92.toInt = 0 := by have z := (fa_eq _ _).mp hc93; have : ((0 : Int32).toInt) = 0 := (by decide); omega
                refine lv_iconst (v := 0) hx hb dX12_thirdQuarrels_91 (by decide) ?_
                refine tw_zast (k := 364) (n := 150) (lo := 0) (hi := 1) hx hb hK TH hS hmxr89 hkxr89 (by decide) rfl (i := y32_4) (x := 0) (vp_in_iff.mpr ⟨by  omega, by  omega⟩) (by have : ((0 : Int32).toInt) = 0 := (by decide); omega) (by have : ((0 : Int32).toInt) = 0 := (by decide); omega) (by have : ((0 : Int32).toInt) = 0 := (by decide); omega) (by have : ((0 : Int32).toInt) = 0 := (by decide); omega) dX12_thirdQuarrels_92 (fun H locs E95 TH hS hp96 hp97 hp98 => ?_)
                have hst99 : tw_fr kp L [] [364] Eg32 E95 := tw_fr.ast tw_fr.rf (fun _ => hkxr89) hp96 hp97 (by decide)
                have hF := hF.tr hst99 (fun _ h => ⟨h, rfl⟩) (by decide) (by decide)
                have hG32 := hG32.tr hst99 (fun _ h => ⟨h, rfl⟩) (by decide) (by decide)
                have hmf100 : tw_fv E95 a0 57 = .int u32_0_57 := (hst99.1 a0 57 hm0 (by rw [hk0]; decide)).trans hfm32_0
                have hmf101 : tw_fv E95 a0 60 = .ref xr89 := (hst99.1 a0 60 hm0 (by rw [hk0]; decide)).trans hxr89
                have hmf102 : tw_fv E95 a0 16 = .ref xr90 := (hst99.1 a0 16 hm0 (by rw [hk0]; decide)).trans hxr90
                have hcg32_0_o := hcg32_0
                have hcg32_1_o := hcg32_1
                have hcg32_2_o := hcg32_2
                have hcg32_0 : ht_ok E95 a0 := ht_ok_fr TH hst99 hm0 hk0 (by decide) (by decide) hcg32_0
                have hcg32_1 : t1_ok E95 a0 (13) := t1_ok_fr TH hst99 hm0 hk0 (by decide) (by decide) (by omega) hcg32_1
                have hcg32_2 : nc_ok E95 a0 (y32_4.toInt) := (fun z c hc => (by have w := tw_el_st hxr89 hp96 hp97 hp98 c; rw [w, if_neg (fun y => (by have y2 := y.2; have y3 : c = (y32_4.toInt).toNat := y2; omega))]; exact hcg32_2_o (by unfold tw_fi at z ⊢; rw [← hp96]; exact z) c hc))
                refine lv_aload_n hx hb dX12_thirdQuarrels_93 rfl (lv_at hl 1 rfl) ?_
                refine tw_get (ci := 12) (C := RX12) (T := TX12) (N := 64) hx hb hB cx_inX12 hown hK TH hm0 hk0 rfl ⟨by decide, rfl⟩ 60 (by decide) cw_1253 (fun _ h9 => h9) dX12_thirdQuarrels_94 (fun hv => ?_)
                rw [hmf101]
                refine lv_iload hx hb dX12_thirdQuarrels_97 (lv_at hl 0 rfl) ?_
                refine tw_zald (k := 364) (t0 := 3) (n := 150) (lo := 0) (hi := 1) hx hb hK TH hmxr89 hkxr89 (by decide) rfl rfl (i := y32_4) (vp_in_iff.mpr ⟨by  omega, by  omega⟩) dX12_thirdQuarrels_99 (fun hxe103a hxe103b => ?_)
                obtain ⟨xe103, exe103⟩ : ∃ z : Int32, tw_iv E95 xr89 (Int32.toNatClampNeg y32_4) = z := ⟨_, rfl⟩
                rw [exe103] at hxe103a hxe103b ⊢
                refine lv_if_eq (tgt := 110) hx hb dX12_thirdQuarrels_100 (by decide) (fun hc104 => ?_) (fun hc104 => ?_)
                · have hf105 : xe103.toInt = 0 := by have z := (fa_eq _ _).mp hc104; have : ((0 : Int32).toInt) = 0 := (by decide); omega
                  have rf_xe103 : tw_el E95 a0 60 (y32_4.toInt).toNat = xe103.toInt := (by rw [tw_el_of hmf101]; exact congrArg Int32.toInt exe103)
                  have hnc110 : nc_ok E95 a0 (y32_4.toInt + 1) := nc_push hcg32_2 (by rw [rf_xe103]; omega)
                  obtain ⟨zi106, ezi106⟩ : ∃ z : Int32, z = y32_4 + Int32.ofInt 1 := ⟨_, rfl⟩
                  have hzi106 : zi106.toInt = y32_4.toInt + 1 := by rw [ezi106]; have : ((Int32.ofInt 1).toInt) = 1 := (by decide);  exact (ia_add (by omega) (by omega)).trans (by omega)
                  refine lv_iinc (v := zi106) (lv' := [(4, .int zi106), (0, .ref a0), (1, .int x1), (2, .int x2), (3, .int x3)]) hx hb dX12_thirdQuarrels_110 hl (k := 0) rfl ezi106.symm (by decide) rfl (fun ls hl => ?_)
                  refine lv_goto (tgt := 32) hx hb dX12_thirdQuarrels_113 (by decide) ?_
                  exact ih32 (n32 - 1) (by   omega) zi106 u32_0_57 _ _ _ ls (by omega) (by omega) (by omega) (by omega) (by  omega) (by   omega) hmf100 hG32 hcg32_0 hcg32_1 (nc_ok_cast (by  omega) hnc110) TH hS (lv_sub hl [0, 1, 2, 3, 4] rfl)
                · have hf107 : ¬ (xe103.toInt = 0) := fun q => hc104 ((fa_eq _ _).mpr (by have : ((0 : Int32).toInt) = 0 := (by decide); omega))
                  refine lv_aload_n hx hb dX12_thirdQuarrels_103 rfl (lv_at hl 1 rfl) ?_
                  refine lv_iconst (v := 5) hx hb dX12_thirdQuarrels_104 (by decide) ?_
                  refine lv_iload hx hb dX12_thirdQuarrels_105 (lv_at hl 0 rfl) ?_
                  refine tw_Vc (o := a0) (ci := 12) (n := 2) (post := (fun v kq Lq Eq => v = none ∧ kp = kq ∧ L = Lq ∧ tw_fr kp L [(12, 57)] [359] E95 Eq ∧ (∃ z0 : Int32, tw_fv Eq a0 57 = .int z0 ∧ (z0.toInt = u32_0_57.toInt + 1)))) (As := [.int 5, .int y32_4]) (rest := []) ⟨hx, hb, hml, hown, hB⟩ (fun sz => tX12_quarrels l D cs a0 (5 : Int32) y32_4 u32_0_57 hm0 hk0 hmf100 (by have : ((5 : Int32).toInt) = 5 := (by decide); omega) sz) cg_12_468_X12_quarrels rfl rfl (by decide +kernel) ⟨Nat.le_of_ble_eq_true rfl, Nat.le_of_ble_eq_true rfl⟩ hK hN TH hS hA rfl hm0 hk0 (by decide) rfl hl.1 rfl (Nat.le_of_ble_eq_true rfl) dX12_thirdQuarrels_107 ⟨Nat.le_of_ble_eq_true rfl, Nat.le_of_ble_eq_true rfl⟩ (fun v108 kp108 L108 E108 H locs hq108 hx108 TH hS => ?_)
                  obtain ⟨rfl, rfl, rfl, hst108, ⟨zfxc109_0_0, hzfxc109_0_0, hzpxc109_0⟩⟩ := hq108
                  have hF := hF.tr hst108 (fun _ h => ⟨h, rfl⟩) (by decide) (by decide)
                  have hG32 := hG32.tr hst108 (fun _ h => ⟨h, rfl⟩) (by decide) (by decide)
                  have hmf110 : tw_fv E108 a0 60 = .ref xr89 := (hst108.1 a0 60 hm0 (by rw [hk0]; decide)).trans hmf101
                  have hmf111 : tw_fv E108 a0 16 = .ref xr90 := (hst108.1 a0 16 hm0 (by rw [hk0]; decide)).trans hmf102
                  have hcg32_0_o := hcg32_0
                  have hcg32_1_o := hcg32_1
                  have hcg32_2_o := hcg32_2
                  have hcg32_0 : ht_ok E108 a0 := ht_ok_fr TH hst108 hm0 hk0 (by decide) (by decide) hcg32_0
                  have hcg32_1 : t1_ok E108 a0 (13) := t1_ok_fr TH hst108 hm0 hk0 (by decide) (by decide) (by omega) hcg32_1
                  have hcg32_2 : nc_ok E108 a0 (y32_4.toInt + 1) := (fun z => absurd z (by rw [tw_fi_of hzfxc109_0_0]; omega))
                  obtain ⟨qzfxc109_0_0, hqzfxc109_0_0, hqzfxc109_0_0a, hqzfxc109_0_0b⟩ := tw_rd TH hm0 hk0 (by decide) (by decide) (k := 57) rfl
                  have eqzfxc109_0_0 : qzfxc109_0_0 = zfxc109_0_0 := by have q := hqzfxc109_0_0.symm.trans hzfxc109_0_0; injection q
                  rw [eqzfxc109_0_0] at hqzfxc109_0_0a hqzfxc109_0_0b
                  refine W.eq (g2 := F0 m 110 ls []) rfl ?_
                  have hdone := trivial
                  obtain ⟨zi112, ezi112⟩ : ∃ z : Int32, z = y32_4 + Int32.ofInt 1 := ⟨_, rfl⟩
                  have hzi112 : zi112.toInt = y32_4.toInt + 1 := by rw [ezi112]; have : ((Int32.ofInt 1).toInt) = 1 := (by decide);  exact (ia_add (by omega) (by omega)).trans (by omega)
                  refine lv_iinc (v := zi112) (lv' := [(4, .int zi112), (0, .ref a0), (1, .int x1), (2, .int x2), (3, .int x3)]) hx hb dX12_thirdQuarrels_110 hl (k := 0) rfl ezi112.symm (by decide) rfl (fun ls hl => ?_)
                  refine lv_goto (tgt := 32) hx hb dX12_thirdQuarrels_113 (by decide) ?_
                  exact ih32 (n32 - 1) (by   omega) zi112 zfxc109_0_0 _ _ _ ls (by omega) (by omega) (by omega) (by omega) (by  omega) (by   omega) hzfxc109_0_0 hG32 hcg32_0 hcg32_1 (nc_ok_cast (by  omega) hcg32_2) TH hS (lv_sub hl [0, 1, 2, 3, 4] rfl)
              · have hf113 : ¬ (xe92.toInt = 0) := fun q => hc93 ((fa_eq _ _).mpr (by have : ((0 : Int32).toInt) = 0 := (by decide); omega))
                refine lv_aload_n hx hb dX12_thirdQuarrels_59 rfl (lv_at hl 1 rfl) ?_
                refine tw_get (ci := 12) (C := RX12) (T := TX12) (N := 64) hx hb hB cx_inX12 hown hK TH hm0 hk0 rfl ⟨by decide, rfl⟩ 33 (by decide) cw_1226 (fun _ h9 => h9) dX12_thirdQuarrels_60 (fun hv => ?_)
                obtain ⟨xr114, hxr114, hmxr114, hkxr114⟩ : ∃ a : Nat, tw_fv Eg32 a0 33 = .ref a ∧ a ∈ L ∧ kp a = 339 := hv
                rw [hxr114]
                refine lv_aload_n hx hb dX12_thirdQuarrels_63 rfl (lv_at hl 1 rfl) ?_
                refine tw_get (ci := 12) (C := RX12) (T := TX12) (N := 64) hx hb hB cx_inX12 hown hK TH hm0 hk0 rfl ⟨by decide, rfl⟩ 20 (by decide) cw_1213 (fun _ h9 => h9) dX12_thirdQuarrels_64 (fun hv => ?_)
                obtain ⟨xr115, hxr115, hmxr115, hkxr115⟩ : ∃ a : Nat, tw_fv Eg32 a0 20 = .ref a ∧ a ∈ L ∧ kp a = 330 := hv
                rw [hxr115]
                refine lv_iload hx hb dX12_thirdQuarrels_67 (lv_at hl 0 rfl) ?_
                refine tw_iald (k := 330) (t0 := 0) (n := 150) (lo := 0) (hi := 9) hx hb hK TH hmxr115 hkxr115 (by decide) rfl rfl (i := y32_4) (vp_in_iff.mpr ⟨by  omega, by  omega⟩) dX12_thirdQuarrels_69 (fun hxe116a hxe116b => ?_)
                obtain ⟨xe116, exe116⟩ : ∃ z : Int32, tw_iv Eg32 xr115 (Int32.toNatClampNeg y32_4) = z := ⟨_, rfl⟩
                rw [exe116] at hxe116a hxe116b ⊢
                refine tw_iald (k := 339) (t0 := 0) (n := 10) (lo := 0) (hi := 2) hx hb hK TH hmxr114 hkxr114 (by decide) rfl rfl (i := xe116) (vp_in_iff.mpr ⟨by  omega, by  omega⟩) dX12_thirdQuarrels_70 (fun hxe117a hxe117b => ?_)
                obtain ⟨xe117, exe117⟩ : ∃ z : Int32, tw_iv Eg32 xr114 (Int32.toNatClampNeg xe116) = z := ⟨_, rfl⟩
                rw [exe117] at hxe117a hxe117b ⊢
                refine lv_iconst (v := 1) hx hb dX12_thirdQuarrels_71 (by decide) ?_
                refine lv_icmp_eq (tgt := 91) hx hb dX12_thirdQuarrels_72 (by decide) (fun hc118 => ?_) (fun hc118 => ?_)
                · have hf119 : xe117.toInt = 1 := by have z := (fa_eq _ _).mp hc118; have : ((1 : Int32).toInt) = 1 := (by decide); omega
                  refine lv_iconst (v := 0) hx hb dX12_thirdQuarrels_91 (by decide) ?_
                  refine tw_zast (k := 364) (n := 150) (lo := 0) (hi := 1) hx hb hK TH hS hmxr89 hkxr89 (by decide) rfl (i := y32_4) (x := 0) (vp_in_iff.mpr ⟨by  omega, by  omega⟩) (by have : ((0 : Int32).toInt) = 0 := (by decide); omega) (by have : ((0 : Int32).toInt) = 0 := (by decide); omega) (by have : ((0 : Int32).toInt) = 0 := (by decide); omega) (by have : ((0 : Int32).toInt) = 0 := (by decide); omega) dX12_thirdQuarrels_92 (fun H locs E120 TH hS hp121 hp122 hp123 => ?_)
                  have hst124 : tw_fr kp L [] [364] Eg32 E120 := tw_fr.ast tw_fr.rf (fun _ => hkxr89) hp121 hp122 (by decide)
                  have hF := hF.tr hst124 (fun _ h => ⟨h, rfl⟩) (by decide) (by decide)
                  have hG32 := hG32.tr hst124 (fun _ h => ⟨h, rfl⟩) (by decide) (by decide)
                  have hmf125 : tw_fv E120 a0 57 = .int u32_0_57 := (hst124.1 a0 57 hm0 (by rw [hk0]; decide)).trans hfm32_0
                  have hmf126 : tw_fv E120 a0 60 = .ref xr89 := (hst124.1 a0 60 hm0 (by rw [hk0]; decide)).trans hxr89
                  have hmf127 : tw_fv E120 a0 16 = .ref xr90 := (hst124.1 a0 16 hm0 (by rw [hk0]; decide)).trans hxr90
                  have hmf128 : tw_fv E120 a0 33 = .ref xr114 := (hst124.1 a0 33 hm0 (by rw [hk0]; decide)).trans hxr114
                  have hmf129 : tw_fv E120 a0 20 = .ref xr115 := (hst124.1 a0 20 hm0 (by rw [hk0]; decide)).trans hxr115
                  have hcg32_0_o := hcg32_0
                  have hcg32_1_o := hcg32_1
                  have hcg32_2_o := hcg32_2
                  have hcg32_0 : ht_ok E120 a0 := ht_ok_fr TH hst124 hm0 hk0 (by decide) (by decide) hcg32_0
                  have hcg32_1 : t1_ok E120 a0 (13) := t1_ok_fr TH hst124 hm0 hk0 (by decide) (by decide) (by omega) hcg32_1
                  have hcg32_2 : nc_ok E120 a0 (y32_4.toInt) := (fun z c hc => (by have w := tw_el_st hxr89 hp121 hp122 hp123 c; rw [w, if_neg (fun y => (by have y2 := y.2; have y3 : c = (y32_4.toInt).toNat := y2; omega))]; exact hcg32_2_o (by unfold tw_fi at z ⊢; rw [← hp121]; exact z) c hc))
                  refine lv_aload_n hx hb dX12_thirdQuarrels_93 rfl (lv_at hl 1 rfl) ?_
                  refine tw_get (ci := 12) (C := RX12) (T := TX12) (N := 64) hx hb hB cx_inX12 hown hK TH hm0 hk0 rfl ⟨by decide, rfl⟩ 60 (by decide) cw_1253 (fun _ h9 => h9) dX12_thirdQuarrels_94 (fun hv => ?_)
                  rw [hmf126]
                  refine lv_iload hx hb dX12_thirdQuarrels_97 (lv_at hl 0 rfl) ?_
                  refine tw_zald (k := 364) (t0 := 3) (n := 150) (lo := 0) (hi := 1) hx hb hK TH hmxr89 hkxr89 (by decide) rfl rfl (i := y32_4) (vp_in_iff.mpr ⟨by  omega, by  omega⟩) dX12_thirdQuarrels_99 (fun hxe130a hxe130b => ?_)
                  obtain ⟨xe130, exe130⟩ : ∃ z : Int32, tw_iv E120 xr89 (Int32.toNatClampNeg y32_4) = z := ⟨_, rfl⟩
                  rw [exe130] at hxe130a hxe130b ⊢
                  refine lv_if_eq (tgt := 110) hx hb dX12_thirdQuarrels_100 (by decide) (fun hc131 => ?_) (fun hc131 => ?_)
                  · have hf132 : xe130.toInt = 0 := by have z := (fa_eq _ _).mp hc131; have : ((0 : Int32).toInt) = 0 := (by decide); omega
                    have rf_xe130 : tw_el E120 a0 60 (y32_4.toInt).toNat = xe130.toInt := (by rw [tw_el_of hmf126]; exact congrArg Int32.toInt exe130)
                    have hnc110 : nc_ok E120 a0 (y32_4.toInt + 1) := nc_push hcg32_2 (by rw [rf_xe130]; omega)
                    obtain ⟨zi133, ezi133⟩ : ∃ z : Int32, z = y32_4 + Int32.ofInt 1 := ⟨_, rfl⟩
                    have hzi133 : zi133.toInt = y32_4.toInt + 1 := by rw [ezi133]; have : ((Int32.ofInt 1).toInt) = 1 := (by decide);  exact (ia_add (by omega) (by omega)).trans (by omega)
                    refine lv_iinc (v := zi133) (lv' := [(4, .int zi133), (0, .ref a0), (1, .int x1), (2, .int x2), (3, .int x3)]) hx hb dX12_thirdQuarrels_110 hl (k := 0) rfl ezi133.symm (by decide) rfl (fun ls hl => ?_)
                    refine lv_goto (tgt := 32) hx hb dX12_thirdQuarrels_113 (by decide) ?_
                    exact ih32 (n32 - 1) (by   omega) zi133 u32_0_57 _ _ _ ls (by omega) (by omega) (by omega) (by omega) (by  omega) (by   omega) hmf125 hG32 hcg32_0 hcg32_1 (nc_ok_cast (by  omega) hnc110) TH hS (lv_sub hl [0, 1, 2, 3, 4] rfl)
                  · have hf134 : ¬ (xe130.toInt = 0) := fun q => hc131 ((fa_eq _ _).mpr (by have : ((0 : Int32).toInt) = 0 := (by decide); omega))
                    refine lv_aload_n hx hb dX12_thirdQuarrels_103 rfl (lv_at hl 1 rfl) ?_
                    refine lv_iconst (v := 5) hx hb dX12_thirdQuarrels_104 (by decide) ?_
                    refine lv_iload hx hb dX12_thirdQuarrels_105 (lv_at hl 0 rfl) ?_
                    refine tw_Vc (o := a0) (ci := 12) (n := 2) (post := (fun v kq Lq Eq => v = none ∧ kp = kq ∧ L = Lq ∧ tw_fr kp L [(12, 57)] [359] E120 Eq ∧ (∃ z0 : Int32, tw_fv Eq a0 57 = .int z0 ∧ (z0.toInt = u32_0_57.toInt + 1)))) (As := [.int 5, .int y32_4]) (rest := []) ⟨hx, hb, hml, hown, hB⟩ (fun sz => tX12_quarrels l D cs a0 (5 : Int32) y32_4 u32_0_57 hm0 hk0 hmf125 (by have : ((5 : Int32).toInt) = 5 := (by decide); omega) sz) cg_12_468_X12_quarrels rfl rfl (by decide +kernel) ⟨Nat.le_of_ble_eq_true rfl, Nat.le_of_ble_eq_true rfl⟩ hK hN TH hS hA rfl hm0 hk0 (by decide) rfl hl.1 rfl (Nat.le_of_ble_eq_true rfl) dX12_thirdQuarrels_107 ⟨Nat.le_of_ble_eq_true rfl, Nat.le_of_ble_eq_true rfl⟩ (fun v135 kp135 L135 E135 H locs hq135 hx135 TH hS => ?_)
                    obtain ⟨rfl, rfl, rfl, hst135, ⟨zfxc136_0_0, hzfxc136_0_0, hzpxc136_0⟩⟩ := hq135
                    have hF := hF.tr hst135 (fun _ h => ⟨h, rfl⟩) (by decide) (by decide)
                    have hG32 := hG32.tr hst135 (fun _ h => ⟨h, rfl⟩) (by decide) (by decide)
                    have hmf137 : tw_fv E135 a0 60 = .ref xr89 := (hst135.1 a0 60 hm0 (by rw [hk0]; decide)).trans hmf126
                    have hmf138 : tw_fv E135 a0 16 = .ref xr90 := (hst135.1 a0 16 hm0 (by rw [hk0]; decide)).trans hmf127
                    have hmf139 : tw_fv E135 a0 33 = .ref xr114 := (hst135.1 a0 33 hm0 (by rw [hk0]; decide)).trans hmf128
                    have hmf140 : tw_fv E135 a0 20 = .ref xr115 := (hst135.1 a0 20 hm0 (by rw [hk0]; decide)).trans hmf129
                    have hcg32_0_o := hcg32_0
                    have hcg32_1_o := hcg32_1
                    have hcg32_2_o := hcg32_2
                    have hcg32_0 : ht_ok E135 a0 := ht_ok_fr TH hst135 hm0 hk0 (by decide) (by decide) hcg32_0
                    have hcg32_1 : t1_ok E135 a0 (13) := t1_ok_fr TH hst135 hm0 hk0 (by decide) (by decide) (by omega) hcg32_1
                    have hcg32_2 : nc_ok E135 a0 (y32_4.toInt + 1) := (fun z => absurd z (by rw [tw_fi_of hzfxc136_0_0]; omega))
                    obtain ⟨qzfxc136_0_0, hqzfxc136_0_0, hqzfxc136_0_0a, hqzfxc136_0_0b⟩ := tw_rd TH hm0 hk0 (by decide) (by decide) (k := 57) rfl
                    have eqzfxc136_0_0 : qzfxc136_0_0 = zfxc136_0_0 := by have q := hqzfxc136_0_0.symm.trans hzfxc136_0_0; injection q
                    rw [eqzfxc136_0_0] at hqzfxc136_0_0a hqzfxc136_0_0b
                    refine W.eq (g2 := F0 m 110 ls []) rfl ?_
                    have hdone := trivial
                    obtain ⟨zi141, ezi141⟩ : ∃ z : Int32, z = y32_4 + Int32.ofInt 1 := ⟨_, rfl⟩
                    have hzi141 : zi141.toInt = y32_4.toInt + 1 := by rw [ezi141]; have : ((Int32.ofInt 1).toInt) = 1 := (by decide);  exact (ia_add (by omega) (by omega)).trans (by omega)
                    refine lv_iinc (v := zi141) (lv' := [(4, .int zi141), (0, .ref a0), (1, .int x1), (2, .int x2), (3, .int x3)]) hx hb dX12_thirdQuarrels_110 hl (k := 0) rfl ezi141.symm (by decide) rfl (fun ls hl => ?_)
                    refine lv_goto (tgt := 32) hx hb dX12_thirdQuarrels_113 (by decide) ?_
                    exact ih32 (n32 - 1) (by   omega) zi141 zfxc136_0_0 _ _ _ ls (by omega) (by omega) (by omega) (by omega) (by  omega) (by   omega) hzfxc136_0_0 hG32 hcg32_0 hcg32_1 (nc_ok_cast (by  omega) hcg32_2) TH hS (lv_sub hl [0, 1, 2, 3, 4] rfl)
                · have hf142 : ¬ (xe117.toInt = 1) := fun q => hc118 ((fa_eq _ _).mpr (by have : ((1 : Int32).toInt) = 1 := (by decide); omega))
                  refine lv_aload_n hx hb dX12_thirdQuarrels_75 rfl (lv_at hl 1 rfl) ?_
                  refine lv_iload_n hx hb dX12_thirdQuarrels_76 rfl (lv_at hl 2 rfl) ?_
                  refine lv_iload_n hx hb dX12_thirdQuarrels_77 rfl (lv_at hl 3 rfl) ?_
                  refine lv_iload_n hx hb dX12_thirdQuarrels_78 rfl (lv_at hl 4 rfl) ?_
                  refine lv_iload hx hb dX12_thirdQuarrels_79 (lv_at hl 0 rfl) ?_
                  refine tw_Vc (o := a0) (ci := 12) (n := 4) (post := (fun v kq Lq Eq => (∃ x : Int32, v = some (.int x) ∧ 0 ≤ x.toInt ∧ x.toInt ≤ 1) ∧ kp = kq ∧ L = Lq ∧ tw_fr kp L [] [329, 363] Eg32 Eq)) (As := [.int x1, .int x2, .int x3, .int y32_4]) (rest := [.int y32_4, .ref xr89]) ⟨hx, hb, hml, hown, hB⟩ (fun sz => tX12_ordersKids l D cs a0 x1 x2 x3 y32_4 hm0 hk0 (by omega) (by omega) (by omega) (by omega) (by omega) (by omega) (by omega) (by omega) sz) cg_12_497_X12_ordersKids rfl rfl (by decide +kernel) ⟨Nat.le_of_ble_eq_true rfl, Nat.le_of_ble_eq_true rfl⟩ hK hN TH hS hA rfl hm0 hk0 (by decide) rfl hl.1 rfl (Nat.le_of_ble_eq_true rfl) dX12_thirdQuarrels_81 ⟨Nat.le_of_ble_eq_true rfl, Nat.le_of_ble_eq_true rfl⟩ (fun v143 kp143 L143 E143 H locs hq143 hx143 TH hS => ?_)
                  obtain ⟨⟨xc144, rfl, hxc144a, hxc144b⟩, rfl, rfl, hst143⟩ := hq143
                  have hF := hF.tr hst143 (fun _ h => ⟨h, rfl⟩) (by decide) (by decide)
                  have hG32 := hG32.tr hst143 (fun _ h => ⟨h, rfl⟩) (by decide) (by decide)
                  have hmf145 : tw_fv E143 a0 57 = .int u32_0_57 := (hst143.1 a0 57 hm0 (by rw [hk0]; decide)).trans hfm32_0
                  have hmf146 : tw_fv E143 a0 60 = .ref xr89 := (hst143.1 a0 60 hm0 (by rw [hk0]; decide)).trans hxr89
                  have hmf147 : tw_fv E143 a0 16 = .ref xr90 := (hst143.1 a0 16 hm0 (by rw [hk0]; decide)).trans hxr90
                  have hmf148 : tw_fv E143 a0 33 = .ref xr114 := (hst143.1 a0 33 hm0 (by rw [hk0]; decide)).trans hxr114
                  have hmf149 : tw_fv E143 a0 20 = .ref xr115 := (hst143.1 a0 20 hm0 (by rw [hk0]; decide)).trans hxr115
                  have hcg32_0 : ht_ok E143 a0 := ht_ok_fr TH hst143 hm0 hk0 (by decide) (by decide) hcg32_0
                  have hcg32_1 : t1_ok E143 a0 (13) := t1_ok_fr TH hst143 hm0 hk0 (by decide) (by decide) (by omega) hcg32_1
                  have hcg32_2 : nc_ok E143 a0 (y32_4.toInt) := nc_ok_fr TH hst143 hm0 hk0 (by decide) (by decide) hcg32_2
                  refine W.eq (g2 := F0 m 84 ls [.int xc144, .int y32_4, .ref xr89]) rfl ?_
                  refine lv_if_ne (tgt := 91) hx hb dX12_thirdQuarrels_84 (by decide) (fun hc150 => ?_) (fun hc150 => ?_)
                  · have hf151 : ¬ (xc144.toInt = 0) := fun q => hc150 ((fa_eq _ _).mpr (by have : ((0 : Int32).toInt) = 0 := (by decide); omega))
                    refine lv_iconst (v := 0) hx hb dX12_thirdQuarrels_91 (by decide) ?_
                    refine tw_zast (k := 364) (n := 150) (lo := 0) (hi := 1) hx hb hK TH hS hmxr89 hkxr89 (by decide) rfl (i := y32_4) (x := 0) (vp_in_iff.mpr ⟨by  omega, by  omega⟩) (by have : ((0 : Int32).toInt) = 0 := (by decide); omega) (by have : ((0 : Int32).toInt) = 0 := (by decide); omega) (by have : ((0 : Int32).toInt) = 0 := (by decide); omega) (by have : ((0 : Int32).toInt) = 0 := (by decide); omega) dX12_thirdQuarrels_92 (fun H locs E152 TH hS hp153 hp154 hp155 => ?_)
                    have hst156 : tw_fr kp L [] [364] E143 E152 := tw_fr.ast tw_fr.rf (fun _ => hkxr89) hp153 hp154 (by decide)
                    have hF := hF.tr hst156 (fun _ h => ⟨h, rfl⟩) (by decide) (by decide)
                    have hG32 := hG32.tr hst156 (fun _ h => ⟨h, rfl⟩) (by decide) (by decide)
                    have hmf157 : tw_fv E152 a0 57 = .int u32_0_57 := (hst156.1 a0 57 hm0 (by rw [hk0]; decide)).trans hmf145
                    have hmf158 : tw_fv E152 a0 60 = .ref xr89 := (hst156.1 a0 60 hm0 (by rw [hk0]; decide)).trans hmf146
                    have hmf159 : tw_fv E152 a0 16 = .ref xr90 := (hst156.1 a0 16 hm0 (by rw [hk0]; decide)).trans hmf147
                    have hmf160 : tw_fv E152 a0 33 = .ref xr114 := (hst156.1 a0 33 hm0 (by rw [hk0]; decide)).trans hmf148
                    have hmf161 : tw_fv E152 a0 20 = .ref xr115 := (hst156.1 a0 20 hm0 (by rw [hk0]; decide)).trans hmf149
                    have hcg32_0_o := hcg32_0
                    have hcg32_1_o := hcg32_1
                    have hcg32_2_o := hcg32_2
                    have hcg32_0 : ht_ok E152 a0 := ht_ok_fr TH hst156 hm0 hk0 (by decide) (by decide) hcg32_0
                    have hcg32_1 : t1_ok E152 a0 (13) := t1_ok_fr TH hst156 hm0 hk0 (by decide) (by decide) (by omega) hcg32_1
                    have hcg32_2 : nc_ok E152 a0 (y32_4.toInt) := (fun z c hc => (by have w := tw_el_st hmf146 hp153 hp154 hp155 c; rw [w, if_neg (fun y => (by have y2 := y.2; have y3 : c = (y32_4.toInt).toNat := y2; omega))]; exact hcg32_2_o (by unfold tw_fi at z ⊢; rw [← hp153]; exact z) c hc))
                    refine lv_aload_n hx hb dX12_thirdQuarrels_93 rfl (lv_at hl 1 rfl) ?_
                    refine tw_get (ci := 12) (C := RX12) (T := TX12) (N := 64) hx hb hB cx_inX12 hown hK TH hm0 hk0 rfl ⟨by decide, rfl⟩ 60 (by decide) cw_1253 (fun _ h9 => h9) dX12_thirdQuarrels_94 (fun hv => ?_)
                    rw [hmf158]
                    refine lv_iload hx hb dX12_thirdQuarrels_97 (lv_at hl 0 rfl) ?_
                    refine tw_zald (k := 364) (t0 := 3) (n := 150) (lo := 0) (hi := 1) hx hb hK TH hmxr89 hkxr89 (by decide) rfl rfl (i := y32_4) (vp_in_iff.mpr ⟨by  omega, by  omega⟩) dX12_thirdQuarrels_99 (fun hxe162a hxe162b => ?_)
                    obtain ⟨xe162, exe162⟩ : ∃ z : Int32, tw_iv E152 xr89 (Int32.toNatClampNeg y32_4) = z := ⟨_, rfl⟩
                    rw [exe162] at hxe162a hxe162b ⊢
                    refine lv_if_eq (tgt := 110) hx hb dX12_thirdQuarrels_100 (by decide) (fun hc163 => ?_) (fun hc163 => ?_)
                    · have hf164 : xe162.toInt = 0 := by have z := (fa_eq _ _).mp hc163; have : ((0 : Int32).toInt) = 0 := (by decide); omega
                      have rf_xe162 : tw_el E152 a0 60 (y32_4.toInt).toNat = xe162.toInt := (by rw [tw_el_of hmf158]; exact congrArg Int32.toInt exe162)
                      have hnc110 : nc_ok E152 a0 (y32_4.toInt + 1) := nc_push hcg32_2 (by rw [rf_xe162]; omega)
                      obtain ⟨zi165, ezi165⟩ : ∃ z : Int32, z = y32_4 + Int32.ofInt 1 := ⟨_, rfl⟩
                      have hzi165 : zi165.toInt = y32_4.toInt + 1 := by rw [ezi165]; have : ((Int32.ofInt 1).toInt) = 1 := (by decide);  exact (ia_add (by omega) (by omega)).trans (by omega)
                      refine lv_iinc (v := zi165) (lv' := [(4, .int zi165), (0, .ref a0), (1, .int x1), (2, .int x2), (3, .int x3)]) hx hb dX12_thirdQuarrels_110 hl (k := 0) rfl ezi165.symm (by decide) rfl (fun ls hl => ?_)
                      refine lv_goto (tgt := 32) hx hb dX12_thirdQuarrels_113 (by decide) ?_
                      exact ih32 (n32 - 1) (by   omega) zi165 u32_0_57 _ _ _ ls (by omega) (by omega) (by omega) (by omega) (by  omega) (by   omega) hmf157 hG32 hcg32_0 hcg32_1 (nc_ok_cast (by  omega) hnc110) TH hS (lv_sub hl [0, 1, 2, 3, 4] rfl)
                    · have hf166 : ¬ (xe162.toInt = 0) := fun q => hc163 ((fa_eq _ _).mpr (by have : ((0 : Int32).toInt) = 0 := (by decide); omega))
                      refine lv_aload_n hx hb dX12_thirdQuarrels_103 rfl (lv_at hl 1 rfl) ?_
                      refine lv_iconst (v := 5) hx hb dX12_thirdQuarrels_104 (by decide) ?_
                      refine lv_iload hx hb dX12_thirdQuarrels_105 (lv_at hl 0 rfl) ?_
                      refine tw_Vc (o := a0) (ci := 12) (n := 2) (post := (fun v kq Lq Eq => v = none ∧ kp = kq ∧ L = Lq ∧ tw_fr kp L [(12, 57)] [359] E152 Eq ∧ (∃ z0 : Int32, tw_fv Eq a0 57 = .int z0 ∧ (z0.toInt = u32_0_57.toInt + 1)))) (As := [.int 5, .int y32_4]) (rest := []) ⟨hx, hb, hml, hown, hB⟩ (fun sz => tX12_quarrels l D cs a0 (5 : Int32) y32_4 u32_0_57 hm0 hk0 hmf157 (by have : ((5 : Int32).toInt) = 5 := (by decide); omega) sz) cg_12_468_X12_quarrels rfl rfl (by decide +kernel) ⟨Nat.le_of_ble_eq_true rfl, Nat.le_of_ble_eq_true rfl⟩ hK hN TH hS hA rfl hm0 hk0 (by decide) rfl hl.1 rfl (Nat.le_of_ble_eq_true rfl) dX12_thirdQuarrels_107 ⟨Nat.le_of_ble_eq_true rfl, Nat.le_of_ble_eq_true rfl⟩ (fun v167 kp167 L167 E167 H locs hq167 hx167 TH hS => ?_)
                      obtain ⟨rfl, rfl, rfl, hst167, ⟨zfxc168_0_0, hzfxc168_0_0, hzpxc168_0⟩⟩ := hq167
                      have hF := hF.tr hst167 (fun _ h => ⟨h, rfl⟩) (by decide) (by decide)
                      have hG32 := hG32.tr hst167 (fun _ h => ⟨h, rfl⟩) (by decide) (by decide)
                      have hmf169 : tw_fv E167 a0 60 = .ref xr89 := (hst167.1 a0 60 hm0 (by rw [hk0]; decide)).trans hmf158
                      have hmf170 : tw_fv E167 a0 16 = .ref xr90 := (hst167.1 a0 16 hm0 (by rw [hk0]; decide)).trans hmf159
                      have hmf171 : tw_fv E167 a0 33 = .ref xr114 := (hst167.1 a0 33 hm0 (by rw [hk0]; decide)).trans hmf160
                      have hmf172 : tw_fv E167 a0 20 = .ref xr115 := (hst167.1 a0 20 hm0 (by rw [hk0]; decide)).trans hmf161
                      have hcg32_0_o := hcg32_0
                      have hcg32_1_o := hcg32_1
                      have hcg32_2_o := hcg32_2
                      have hcg32_0 : ht_ok E167 a0 := ht_ok_fr TH hst167 hm0 hk0 (by decide) (by decide) hcg32_0
                      have hcg32_1 : t1_ok E167 a0 (13) := t1_ok_fr TH hst167 hm0 hk0 (by decide) (by decide) (by omega) hcg32_1
                      have hcg32_2 : nc_ok E167 a0 (y32_4.toInt + 1) := (fun z => absurd z (by rw [tw_fi_of hzfxc168_0_0]; omega))
                      obtain ⟨qzfxc168_0_0, hqzfxc168_0_0, hqzfxc168_0_0a, hqzfxc168_0_0b⟩ := tw_rd TH hm0 hk0 (by decide) (by decide) (k := 57) rfl
                      have eqzfxc168_0_0 : qzfxc168_0_0 = zfxc168_0_0 := by have q := hqzfxc168_0_0.symm.trans hzfxc168_0_0; injection q
                      rw [eqzfxc168_0_0] at hqzfxc168_0_0a hqzfxc168_0_0b
                      refine W.eq (g2 := F0 m 110 ls []) rfl ?_
                      have hdone := trivial
                      obtain ⟨zi173, ezi173⟩ : ∃ z : Int32, z = y32_4 + Int32.ofInt 1 := ⟨_, rfl⟩
                      have hzi173 : zi173.toInt = y32_4.toInt + 1 := by rw [ezi173]; have : ((Int32.ofInt 1).toInt) = 1 := (by decide);  exact (ia_add (by omega) (by omega)).trans (by omega)
                      refine lv_iinc (v := zi173) (lv' := [(4, .int zi173), (0, .ref a0), (1, .int x1), (2, .int x2), (3, .int x3)]) hx hb dX12_thirdQuarrels_110 hl (k := 0) rfl ezi173.symm (by decide) rfl (fun ls hl => ?_)
                      refine lv_goto (tgt := 32) hx hb dX12_thirdQuarrels_113 (by decide) ?_
                      exact ih32 (n32 - 1) (by   omega) zi173 zfxc168_0_0 _ _ _ ls (by omega) (by omega) (by omega) (by omega) (by  omega) (by   omega) hzfxc168_0_0 hG32 hcg32_0 hcg32_1 (nc_ok_cast (by  omega) hcg32_2) TH hS (lv_sub hl [0, 1, 2, 3, 4] rfl)
                  · have hf174 : xc144.toInt = 0 := by have z := (fa_eq _ _).mp hc150; have : ((0 : Int32).toInt) = 0 := (by decide); omega
                    refine lv_iconst (v := 1) hx hb dX12_thirdQuarrels_87 (by decide) ?_
                    refine lv_goto (tgt := 92) hx hb dX12_thirdQuarrels_88 (by decide) ?_
                    refine tw_zast (k := 364) (n := 150) (lo := 0) (hi := 1) hx hb hK TH hS hmxr89 hkxr89 (by decide) rfl (i := y32_4) (x := 1) (vp_in_iff.mpr ⟨by  omega, by  omega⟩) (by have : ((1 : Int32).toInt) = 1 := (by decide); omega) (by have : ((1 : Int32).toInt) = 1 := (by decide); omega) (by have : ((1 : Int32).toInt) = 1 := (by decide); omega) (by have : ((1 : Int32).toInt) = 1 := (by decide); omega) dX12_thirdQuarrels_92 (fun H locs E175 TH hS hp176 hp177 hp178 => ?_)
                    have hst179 : tw_fr kp L [] [364] E143 E175 := tw_fr.ast tw_fr.rf (fun _ => hkxr89) hp176 hp177 (by decide)
                    have hF := hF.tr hst179 (fun _ h => ⟨h, rfl⟩) (by decide) (by decide)
                    have hG32 := hG32.tr hst179 (fun _ h => ⟨h, rfl⟩) (by decide) (by decide)
                    have hmf180 : tw_fv E175 a0 57 = .int u32_0_57 := (hst179.1 a0 57 hm0 (by rw [hk0]; decide)).trans hmf145
                    have hmf181 : tw_fv E175 a0 60 = .ref xr89 := (hst179.1 a0 60 hm0 (by rw [hk0]; decide)).trans hmf146
                    have hmf182 : tw_fv E175 a0 16 = .ref xr90 := (hst179.1 a0 16 hm0 (by rw [hk0]; decide)).trans hmf147
                    have hmf183 : tw_fv E175 a0 33 = .ref xr114 := (hst179.1 a0 33 hm0 (by rw [hk0]; decide)).trans hmf148
                    have hmf184 : tw_fv E175 a0 20 = .ref xr115 := (hst179.1 a0 20 hm0 (by rw [hk0]; decide)).trans hmf149
                    have hcg32_0_o := hcg32_0
                    have hcg32_1_o := hcg32_1
                    have hcg32_2_o := hcg32_2
                    have hcg32_0 : ht_ok E175 a0 := ht_ok_fr TH hst179 hm0 hk0 (by decide) (by decide) hcg32_0
                    have hcg32_1 : t1_ok E175 a0 (13) := t1_ok_fr TH hst179 hm0 hk0 (by decide) (by decide) (by omega) hcg32_1
                    have hcg32_2 : nc_ok E175 a0 (y32_4.toInt) := (fun z c hc => (by have w := tw_el_st hmf146 hp176 hp177 hp178 c; rw [w, if_neg (fun y => (by have y2 := y.2; have y3 : c = (y32_4.toInt).toNat := y2; omega))]; exact hcg32_2_o (by unfold tw_fi at z ⊢; rw [← hp176]; exact z) c hc))
                    refine lv_aload_n hx hb dX12_thirdQuarrels_93 rfl (lv_at hl 1 rfl) ?_
                    refine tw_get (ci := 12) (C := RX12) (T := TX12) (N := 64) hx hb hB cx_inX12 hown hK TH hm0 hk0 rfl ⟨by decide, rfl⟩ 60 (by decide) cw_1253 (fun _ h9 => h9) dX12_thirdQuarrels_94 (fun hv => ?_)
                    rw [hmf181]
                    refine lv_iload hx hb dX12_thirdQuarrels_97 (lv_at hl 0 rfl) ?_
                    refine tw_zald (k := 364) (t0 := 3) (n := 150) (lo := 0) (hi := 1) hx hb hK TH hmxr89 hkxr89 (by decide) rfl rfl (i := y32_4) (vp_in_iff.mpr ⟨by  omega, by  omega⟩) dX12_thirdQuarrels_99 (fun hxe185a hxe185b => ?_)
                    obtain ⟨xe185, exe185⟩ : ∃ z : Int32, tw_iv E175 xr89 (Int32.toNatClampNeg y32_4) = z := ⟨_, rfl⟩
                    rw [exe185] at hxe185a hxe185b ⊢
                    refine lv_if_eq (tgt := 110) hx hb dX12_thirdQuarrels_100 (by decide) (fun hc186 => ?_) (fun hc186 => ?_)
                    · have hf187 : xe185.toInt = 0 := by have z := (fa_eq _ _).mp hc186; have : ((0 : Int32).toInt) = 0 := (by decide); omega
                      have rf_xe185 : tw_el E175 a0 60 (y32_4.toInt).toNat = xe185.toInt := (by rw [tw_el_of hmf181]; exact congrArg Int32.toInt exe185)
                      have hnc110 : nc_ok E175 a0 (y32_4.toInt + 1) := nc_push hcg32_2 (by rw [rf_xe185]; omega)
                      obtain ⟨zi188, ezi188⟩ : ∃ z : Int32, z = y32_4 + Int32.ofInt 1 := ⟨_, rfl⟩
                      have hzi188 : zi188.toInt = y32_4.toInt + 1 := by rw [ezi188]; have : ((Int32.ofInt 1).toInt) = 1 := (by decide);  exact (ia_add (by omega) (by omega)).trans (by omega)
                      refine lv_iinc (v := zi188) (lv' := [(4, .int zi188), (0, .ref a0), (1, .int x1), (2, .int x2), (3, .int x3)]) hx hb dX12_thirdQuarrels_110 hl (k := 0) rfl ezi188.symm (by decide) rfl (fun ls hl => ?_)
                      refine lv_goto (tgt := 32) hx hb dX12_thirdQuarrels_113 (by decide) ?_
                      exact ih32 (n32 - 1) (by   omega) zi188 u32_0_57 _ _ _ ls (by omega) (by omega) (by omega) (by omega) (by  omega) (by   omega) hmf180 hG32 hcg32_0 hcg32_1 (nc_ok_cast (by  omega) hnc110) TH hS (lv_sub hl [0, 1, 2, 3, 4] rfl)
                    · have hf189 : ¬ (xe185.toInt = 0) := fun q => hc186 ((fa_eq _ _).mpr (by have : ((0 : Int32).toInt) = 0 := (by decide); omega))
                      refine lv_aload_n hx hb dX12_thirdQuarrels_103 rfl (lv_at hl 1 rfl) ?_
                      refine lv_iconst (v := 5) hx hb dX12_thirdQuarrels_104 (by decide) ?_
                      refine lv_iload hx hb dX12_thirdQuarrels_105 (lv_at hl 0 rfl) ?_
                      refine tw_Vc (o := a0) (ci := 12) (n := 2) (post := (fun v kq Lq Eq => v = none ∧ kp = kq ∧ L = Lq ∧ tw_fr kp L [(12, 57)] [359] E175 Eq ∧ (∃ z0 : Int32, tw_fv Eq a0 57 = .int z0 ∧ (z0.toInt = u32_0_57.toInt + 1)))) (As := [.int 5, .int y32_4]) (rest := []) ⟨hx, hb, hml, hown, hB⟩ (fun sz => tX12_quarrels l D cs a0 (5 : Int32) y32_4 u32_0_57 hm0 hk0 hmf180 (by have : ((5 : Int32).toInt) = 5 := (by decide); omega) sz) cg_12_468_X12_quarrels rfl rfl (by decide +kernel) ⟨Nat.le_of_ble_eq_true rfl, Nat.le_of_ble_eq_true rfl⟩ hK hN TH hS hA rfl hm0 hk0 (by decide) rfl hl.1 rfl (Nat.le_of_ble_eq_true rfl) dX12_thirdQuarrels_107 ⟨Nat.le_of_ble_eq_true rfl, Nat.le_of_ble_eq_true rfl⟩ (fun v190 kp190 L190 E190 H locs hq190 hx190 TH hS => ?_)
                      obtain ⟨rfl, rfl, rfl, hst190, ⟨zfxc191_0_0, hzfxc191_0_0, hzpxc191_0⟩⟩ := hq190
                      have hF := hF.tr hst190 (fun _ h => ⟨h, rfl⟩) (by decide) (by decide)
                      have hG32 := hG32.tr hst190 (fun _ h => ⟨h, rfl⟩) (by decide) (by decide)
                      have hmf192 : tw_fv E190 a0 60 = .ref xr89 := (hst190.1 a0 60 hm0 (by rw [hk0]; decide)).trans hmf181
                      have hmf193 : tw_fv E190 a0 16 = .ref xr90 := (hst190.1 a0 16 hm0 (by rw [hk0]; decide)).trans hmf182
                      have hmf194 : tw_fv E190 a0 33 = .ref xr114 := (hst190.1 a0 33 hm0 (by rw [hk0]; decide)).trans hmf183
                      have hmf195 : tw_fv E190 a0 20 = .ref xr115 := (hst190.1 a0 20 hm0 (by rw [hk0]; decide)).trans hmf184
                      have hcg32_0_o := hcg32_0
                      have hcg32_1_o := hcg32_1
                      have hcg32_2_o := hcg32_2
                      have hcg32_0 : ht_ok E190 a0 := ht_ok_fr TH hst190 hm0 hk0 (by decide) (by decide) hcg32_0
                      have hcg32_1 : t1_ok E190 a0 (13) := t1_ok_fr TH hst190 hm0 hk0 (by decide) (by decide) (by omega) hcg32_1
                      have hcg32_2 : nc_ok E190 a0 (y32_4.toInt + 1) := (fun z => absurd z (by rw [tw_fi_of hzfxc191_0_0]; omega))
                      obtain ⟨qzfxc191_0_0, hqzfxc191_0_0, hqzfxc191_0_0a, hqzfxc191_0_0b⟩ := tw_rd TH hm0 hk0 (by decide) (by decide) (k := 57) rfl
                      have eqzfxc191_0_0 : qzfxc191_0_0 = zfxc191_0_0 := by have q := hqzfxc191_0_0.symm.trans hzfxc191_0_0; injection q
                      rw [eqzfxc191_0_0] at hqzfxc191_0_0a hqzfxc191_0_0b
                      refine W.eq (g2 := F0 m 110 ls []) rfl ?_
                      have hdone := trivial
                      obtain ⟨zi196, ezi196⟩ : ∃ z : Int32, z = y32_4 + Int32.ofInt 1 := ⟨_, rfl⟩
                      have hzi196 : zi196.toInt = y32_4.toInt + 1 := by rw [ezi196]; have : ((Int32.ofInt 1).toInt) = 1 := (by decide);  exact (ia_add (by omega) (by omega)).trans (by omega)
                      refine lv_iinc (v := zi196) (lv' := [(4, .int zi196), (0, .ref a0), (1, .int x1), (2, .int x2), (3, .int x3)]) hx hb dX12_thirdQuarrels_110 hl (k := 0) rfl ezi196.symm (by decide) rfl (fun ls hl => ?_)
                      refine lv_goto (tgt := 32) hx hb dX12_thirdQuarrels_113 (by decide) ?_
                      exact ih32 (n32 - 1) (by   omega) zi196 zfxc191_0_0 _ _ _ ls (by omega) (by omega) (by omega) (by omega) (by  omega) (by   omega) hzfxc191_0_0 hG32 hcg32_0 hcg32_1 (nc_ok_cast (by  omega) hcg32_2) TH hS (lv_sub hl [0, 1, 2, 3, 4] rfl)
        exact hJ32 151 (0 : Int32) fv0_57 _ _ _ ls (by have : ((0 : Int32).toInt) = 0 := (by decide); omega) (by have : ((0 : Int32).toInt) = 0 := (by decide); omega) (by omega) (by omega) (by have : ((0 : Int32).toInt) = 0 := (by decide); omega) (by have : ((0 : Int32).toInt) = 0 := (by decide);  omega) hmf1 tw_fr.rf hcg3_0 hcg3_1 (nc_ok_cast (by have : ((0 : Int32).toInt) = 0 := (by decide); omega) hcg3_2) TH hS (lv_sub hl [0, 1, 2, 3, 4] rfl)
      · have hf197 : ¬ (150 ≤ y3_4.toInt) := fun q => hc2 ((fa_le _ _).mpr (by have : ((150 : Int32).toInt) = 150 := (by decide); omega))
        refine lv_aload_n hx hb dX12_thirdQuarrels_11 rfl (lv_at hl 1 rfl) ?_
        refine tw_get (ci := 12) (C := RX12) (T := TX12) (N := 64) hx hb hB cx_inX12 hown hK TH hm0 hk0 rfl ⟨by decide, rfl⟩ 19 (by decide) cw_1212 (fun _ h9 => h9) dX12_thirdQuarrels_12 (fun hv => ?_)
        obtain ⟨xr198, hxr198, hmxr198, hkxr198⟩ : ∃ a : Nat, tw_fv Eg3 a0 19 = .ref a ∧ a ∈ L ∧ kp a = 319 := hv
        rw [hxr198]
        refine lv_bipush (v := 13) hx hb dX12_thirdQuarrels_15 (by decide) ?_
        refine tw_aald (k := 319) (t0 := 4) (n := 16) (lo := 329) (hi := 0) (ty := .int) hx hb hK TH hmxr198 hkxr198 (by decide) rfl rfl (i := 13) (vp_in_iff.mpr ⟨by have : ((13 : Int32).toInt) = 13 := (by decide); omega, by have : ((13 : Int32).toInt) = 13 := (by decide); omega⟩) dX12_thirdQuarrels_17 (fun xr199 exr199 hmxr199 hkxr199 => ?_)
        have hkxr199 : kp xr199 = 329 := hkxr199
        refine lv_iload hx hb dX12_thirdQuarrels_18 (lv_at hl 0 rfl) ?_
        refine lv_iload hx hb dX12_thirdQuarrels_20 (lv_at hl 0 rfl) ?_
        refine tw_iast (k := 329) (n := 150) (lo := (-2147483648)) (hi := 2147483647) hx hb hK TH hS hmxr199 hkxr199 (by decide) rfl (i := y3_4) (x := y3_4) (vp_in_iff.mpr ⟨by  omega, by  omega⟩) (ia_lo _) (ia_hi _) dX12_thirdQuarrels_22 (fun H locs E200 TH hS hp201 hp202 hp203 => ?_)
        have hst204 : tw_fr kp L [] [329] Eg3 E200 := tw_fr.ast tw_fr.rf (fun _ => hkxr199) hp201 hp202 (by decide)
        have hF := hF.tr hst204 (fun _ h => ⟨h, rfl⟩) (by decide) (by decide)
        have hG3 := hG3.tr hst204 (fun _ h => ⟨h, rfl⟩) (by decide) (by decide)
        have hmf205 : tw_fv E200 a0 57 = .int fv0_57 := (hst204.1 a0 57 hm0 (by rw [hk0]; decide)).trans hmf1
        have hmf206 : tw_fv E200 a0 19 = .ref xr198 := (hst204.1 a0 19 hm0 (by rw [hk0]; decide)).trans hxr198
        have hcg3_0 : ht_ok E200 a0 := ht_ok_fr TH hst204 hm0 hk0 (by decide) (by decide) hcg3_0
        have hcg3_1 : t1_ok E200 a0 (13) := t1_ok_fr TH hst204 hm0 hk0 (by decide) (by decide) (by omega) hcg3_1
        have hcg3_2 : nc_ok E200 a0 (0) := nc_ok_fr TH hst204 hm0 hk0 (by decide) (by decide) hcg3_2
        obtain ⟨zi207, ezi207⟩ : ∃ z : Int32, z = y3_4 + Int32.ofInt 1 := ⟨_, rfl⟩
        have hzi207 : zi207.toInt = y3_4.toInt + 1 := by rw [ezi207]; have : ((Int32.ofInt 1).toInt) = 1 := (by decide);  exact (ia_add (by omega) (by omega)).trans (by omega)
        refine lv_iinc (v := zi207) (lv' := [(4, .int zi207), (0, .ref a0), (1, .int x1), (2, .int x2), (3, .int x3)]) hx hb dX12_thirdQuarrels_23 hl (k := 0) rfl ezi207.symm (by decide) rfl (fun ls hl => ?_)
        refine lv_goto (tgt := 3) hx hb dX12_thirdQuarrels_26 (by decide) ?_
        exact ih3 (n3 - 1) (by   omega) zi207 _ _ _ ls (by omega) (by omega) (by  omega) (by   omega) hG3 hcg3_0 hcg3_1 hcg3_2 TH hS (lv_sub hl [0, 1, 2, 3, 4] rfl)
  exact hJ3 151 (0 : Int32) _ _ _ ls (by have : ((0 : Int32).toInt) = 0 := (by decide); omega) (by have : ((0 : Int32).toInt) = 0 := (by decide); omega) (by have : ((0 : Int32).toInt) = 0 := (by decide); omega) (by have : ((0 : Int32).toInt) = 0 := (by decide);  omega) tw_fr.rf hg1 hg0 hnc TH hS (lv_sub hl [0, 1, 2, 3, 4] rfl)
