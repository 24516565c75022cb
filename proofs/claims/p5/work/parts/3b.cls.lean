set_option maxHeartbeats 4000000 in
set_option maxRecDepth 100000 in
theorem tX2_readRule (l : Launch) (D : va_G) (cs : Nat → ClassId) {kp : Nat → Nat} {L : List Nat} {E : Nat → va_E} (a0 : Nat) (a1 : Nat) (g0 : Nat) (fv1_3 : Int32) (fv1_4 : Int32) (hm0 : a0 ∈ L) (hk0 : kp a0 = 2) (hm1 : a1 ∈ L) (hk1 : kp a1 = 9) (hmg0 : g0 ∈ L) (hkg0 : kp g0 = 2) (hfv1_3 : tw_fv E a1 3 = .int fv1_3) (hfv1_4 : tw_fv E a1 4 = .int fv1_4) (hpre0 : fv1_3.toInt ≤ fv1_4.toInt) (hg0 : sp_ok E a0 g0) (hg1 : gm_ok E a0) (hg2 : gm_ok E g0) (sz : Nat) : Met l yX2_readRule (.code yX2_readRule cX2_readRule 3 (some .int) :: cx_big) { frames := 8, cells := 0, slots := 0, locals := 169 } (tw_P D cs kp L E [.ref a0, .ref a1] sz) (tw_Q D cs kp L (fun v kq Lq Eq => (∃ x : Int32, v = some (.int x) ∧ (-1) ≤ x.toInt ∧ x.toInt ≤ 500 ∧ (∃ z0 z1 : Int32, tw_fv Eq a1 3 = .int z0 ∧ tw_fv Eq a1 4 = .int z1 ∧ (z0.toInt ≤ z1.toInt)) ∧ gm_ok Eq a0 ∧ gm_ok Eq g0) ∧ kp = kq ∧ L = Lq ∧ tw_fr kp L [(2, 1), (2, 7), (9, 2), (9, 3), (9, 4)] [130, 131, 132, 134, 136, 137, 138, 139] E Eq) (va_A (va_pl L E) sz)) 0 0 (va_A (va_pl L E) sz) := by
  refine tw_ofW (by decide) (Nat.le_of_ble_eq_true rfl) ?_
  intro p e s m below meth c A ls hx hb hr hml hB hown hlocks hK hN hA TH hS hl
  have hown : s.vm.findClass "TreeMerge$Grammar" = some m.cls := hown
  have hl : lv_has ls 3 [(0, .ref a0), (1, .ref a1)] := hl
  obtain ⟨kp0, ekp⟩ : ∃ z, z = kp := ⟨_, rfl⟩
  obtain ⟨L0, eL⟩ : ∃ z, z = L := ⟨_, rfl⟩
  rw [show tw_Q D cs kp L = tw_Q D cs kp0 L0 by rw [ekp, eL]]
  have hex : ∀ a : Nat, a ∈ L0 → a ∈ L ∧ kp a = kp0 a := fun a h => ⟨by rw [← eL]; exact h, by rw [ekp]⟩
  have hF : tw_fr kp L [(2, 1), (2, 7), (9, 2), (9, 3), (9, 4)] [130, 131, 132, 134, 136, 137, 138, 139] E E := tw_fr.rf
  obtain ⟨qfv1_3, hqfv1_3, hqfv1_3a, hqfv1_3b⟩ := tw_rd TH hm1 hk1 (by decide) (by decide) (k := 3) rfl
  have eqfv1_3 : qfv1_3 = fv1_3 := by have q := hqfv1_3.symm.trans hfv1_3; injection q
  rw [eqfv1_3] at hqfv1_3a hqfv1_3b
  obtain ⟨qfv1_4, hqfv1_4, hqfv1_4a, hqfv1_4b⟩ := tw_rd TH hm1 hk1 (by decide) (by decide) (k := 4) rfl
  have eqfv1_4 : qfv1_4 = fv1_4 := by have q := hqfv1_4.symm.trans hfv1_4; injection q
  rw [eqfv1_4] at hqfv1_4a hqfv1_4b
  refine lv_aload_n hx hb dX2_readRule_0 rfl (lv_at hl 1 rfl) ?_
  refine tw_get (ci := 9) (C := RX9) (T := TX9) (N := 5) hx hb hB cx_inX9 hown hK TH hm1 hk1 rfl ⟨by decide, rfl⟩ 2 (by decide) cw_40 (fun _ h9 => h9) dX2_readRule_1 (fun hv => ?_)
  obtain ⟨xi1, hxi1, hxi1a, hxi1b⟩ : ∃ x : Int32, tw_fv E a1 2 = .int x ∧ 0 ≤ x.toInt ∧ x.toInt ≤ 255 := hv
  rw [hxi1]
  refine lv_iconst (v := 1) hx hb dX2_readRule_4 (by decide) ?_
  refine lv_icmp_ne (tgt := 26) hx hb dX2_readRule_5 (by decide) (fun hc2 => ?_) (fun hc2 => ?_)
  · have hf3 : ¬ (xi1.toInt = 1) := fun q => hc2 ((fa_eq _ _).mpr (by have : ((1 : Int32).toInt) = 1 := (by decide); omega))
    refine lv_aload_n hx hb dX2_readRule_26 rfl (lv_at hl 1 rfl) ?_
    refine tw_get (ci := 9) (C := RX9) (T := TX9) (N := 5) hx hb hB cx_inX9 hown hK TH hm1 hk1 rfl ⟨by decide, rfl⟩ 3 (by decide) cw_44 (fun _ h9 => h9) dX2_readRule_27 (fun hv => ?_)
    rw [hfv1_3]
    exact tw_iret hx hb hr hlocks TH hS hex ⟨⟨_, rfl, (show (-1) ≤ Int32.toInt fv1_3 from by  omega), (show Int32.toInt fv1_3 ≤ 500 from by  omega), ⟨fv1_3, fv1_4, hfv1_3, hfv1_4, by  omega⟩, hg1, hg2⟩, rfl, rfl, hF⟩ (Nat.le_of_ble_eq_true rfl) (Nat.le_of_ble_eq_true rfl) dX2_readRule_30
  · have hf4 : xi1.toInt = 1 := by have z := (fa_eq _ _).mp hc2; have : ((1 : Int32).toInt) = 1 := (by decide); omega
    refine lv_aload_n hx hb dX2_readRule_8 rfl (lv_at hl 0 rfl) ?_
    refine tw_get (ci := 2) (C := RX2) (T := TX2) (N := 13) hx hb hB cx_inX2 hown hK TH hm0 hk0 rfl ⟨by decide, rfl⟩ 1 (by decide) cw_68 (fun _ h9 => h9) dX2_readRule_9 (fun hv => ?_)
    obtain ⟨xi5, hxi5, hxi5a, hxi5b⟩ : ∃ x : Int32, tw_fv E a0 1 = .int x ∧ 0 ≤ x.toInt ∧ x.toInt ≤ 10 := hv
    rw [hxi5]
    refine lv_bipush (v := 10) hx hb dX2_readRule_12 (by decide) ?_
    refine lv_icmp_ge (tgt := 26) hx hb dX2_readRule_14 (by decide) (fun hc6 => ?_) (fun hc6 => ?_)
    · have hf7 : 10 ≤ xi5.toInt := by have z := (fa_le _ _).mp hc6; have : ((10 : Int32).toInt) = 10 := (by decide); omega
      refine lv_aload_n hx hb dX2_readRule_26 rfl (lv_at hl 1 rfl) ?_
      refine tw_get (ci := 9) (C := RX9) (T := TX9) (N := 5) hx hb hB cx_inX9 hown hK TH hm1 hk1 rfl ⟨by decide, rfl⟩ 3 (by decide) cw_44 (fun _ h9 => h9) dX2_readRule_27 (fun hv => ?_)
      rw [hfv1_3]
      exact tw_iret hx hb hr hlocks TH hS hex ⟨⟨_, rfl, (show (-1) ≤ Int32.toInt fv1_3 from by  omega), (show Int32.toInt fv1_3 ≤ 500 from by  omega), ⟨fv1_3, fv1_4, hfv1_3, hfv1_4, by  omega⟩, hg1, hg2⟩, rfl, rfl, hF⟩ (Nat.le_of_ble_eq_true rfl) (Nat.le_of_ble_eq_true rfl) dX2_readRule_30
    · have hf8 : ¬ (10 ≤ xi5.toInt) := fun q => hc6 ((fa_le _ _).mpr (by have : ((10 : Int32).toInt) = 10 := (by decide); omega))
      refine lv_aload_n hx hb dX2_readRule_17 rfl (lv_at hl 0 rfl) ?_
      refine lv_aload_n hx hb dX2_readRule_18 rfl (lv_at hl 1 rfl) ?_
      refine tw_Vc (o := a0) (ci := 2) (n := 1) (post := (fun v kq Lq Eq => (∃ x : Int32, v = some (.int x) ∧ (-1) ≤ x.toInt ∧ x.toInt ≤ 9) ∧ kp = kq ∧ L = Lq ∧ E = Eq)) (As := [.ref a1]) (rest := []) ⟨hx, hb, hml, hown, hB⟩ (fun sz => tX2_kindAt l D cs a0 a1 hm0 hk0 hm1 hk1 sz) cg_2_85_X2_kindAt rfl rfl (by decide +kernel) ⟨Nat.le_of_ble_eq_true rfl, Nat.le_of_ble_eq_true rfl⟩ hK hN TH hS hA rfl hm0 hk0 (by decide) rfl hl.1 rfl (Nat.le_of_ble_eq_true rfl) dX2_readRule_19 ⟨Nat.le_of_ble_eq_true rfl, Nat.le_of_ble_eq_true rfl⟩ (fun v9 kp9 L9 E9 H locs hq9 hx9 TH hS => ?_)
      obtain ⟨⟨xc10, rfl, hxc10a, hxc10b⟩, rfl, rfl, rfl⟩ := hq9
      refine W.eq (g2 := F0 m 22 ls [.int xc10]) rfl ?_
      refine lv_iconst (v := (-1)) hx hb dX2_readRule_22 (by decide) ?_
      refine lv_icmp_eq (tgt := 31) hx hb dX2_readRule_23 (by decide) (fun hc11 => ?_) (fun hc11 => ?_)
      · have hf12 : xc10.toInt = (-1) := by have z := (fa_eq _ _).mp hc11; have : (((-1) : Int32).toInt) = (-1) := (by decide); omega
        refine lv_aload_n hx hb dX2_readRule_31 rfl (lv_at hl 0 rfl) ?_
        refine tw_get (ci := 2) (C := RX2) (T := TX2) (N := 13) hx hb hB cx_inX2 hown hK TH hm0 hk0 rfl ⟨by decide, rfl⟩ 2 (by decide) cw_70 (fun _ h9 => h9) dX2_readRule_32 (fun hv => ?_)
        obtain ⟨xr13, hxr13, hmxr13, hkxr13⟩ : ∃ a : Nat, tw_fv E a0 2 = .ref a ∧ a ∈ L ∧ kp a = 130 := hv
        rw [hxr13]
        refine lv_aload_n hx hb dX2_readRule_35 rfl (lv_at hl 0 rfl) ?_
        refine tw_get (ci := 2) (C := RX2) (T := TX2) (N := 13) hx hb hB cx_inX2 hown hK TH hm0 hk0 rfl ⟨by decide, rfl⟩ 1 (by decide) cw_68 (fun _ h9 => h9) dX2_readRule_36 (fun hv => ?_)
        rw [hxi5]
        refine lv_aload_n hx hb dX2_readRule_39 rfl (lv_at hl 1 rfl) ?_
        refine tw_get (ci := 9) (C := RX9) (T := TX9) (N := 5) hx hb hB cx_inX9 hown hK TH hm1 hk1 rfl ⟨by decide, rfl⟩ 3 (by decide) cw_44 (fun _ h9 => h9) dX2_readRule_40 (fun hv => ?_)
        rw [hfv1_3]
        refine tw_iast (k := 130) (n := 10) (lo := 0) (hi := 500) hx hb hK TH hS hmxr13 hkxr13 (by decide) rfl (i := xi5) (x := fv1_3) (vp_in_iff.mpr ⟨by  omega, by  omega⟩) (by omega) (by omega) dX2_readRule_43 (fun H locs E14 TH hS hp15 hp16 hp17 => ?_)
        have hst18 : tw_fr kp L [] [130] E E14 := tw_fr.ast tw_fr.rf (fun _ => hkxr13) hp15 hp16 (by decide)
        have hF := hF.tr hst18 (fun _ h => ⟨h, rfl⟩) (by decide) (by decide)
        have hmf19 : tw_fv E14 a1 3 = .int fv1_3 := (hst18.1 a1 3 hm1 (by rw [hk1]; decide)).trans hfv1_3
        have hmf20 : tw_fv E14 a1 4 = .int fv1_4 := (hst18.1 a1 4 hm1 (by rw [hk1]; decide)).trans hfv1_4
        have hmf21 : tw_fv E14 a1 2 = .int xi1 := (hst18.1 a1 2 hm1 (by rw [hk1]; decide)).trans hxi1
        have hmf22 : tw_fv E14 a0 1 = .int xi5 := (hst18.1 a0 1 hm0 (by rw [hk0]; decide)).trans hxi5
        have hmf23 : tw_fv E14 a0 2 = .ref xr13 := (hst18.1 a0 2 hm0 (by rw [hk0]; decide)).trans hxr13
        have hg0_o := hg0
        have hg1_o := hg1
        have hg2_o := hg2
        have hg0 : sp_ok E14 a0 g0 := sp_ok_fr TH hst18 hm0 hk0 hmg0 hkg0 (by decide) (by decide) hg0
        have hg1 : gm_ok E14 a0 := gm_ok_st TH hm0 hk0 hp15 hp16 hp17 (by omega) (by rw [tw_fi_of hxi5]; omega) hg1_o
        have hg2 : gm_ok E14 g0 := gm_ok_oth (f := 2) TH hmg0 hkg0 hkxr13 (by decide) hxr13 hp15 hp16 hg0_o hg2_o
        have hgn24 : el_is E14 a0 2 (xi5.toInt) (fv1_3.toInt) := el_is_st hxr13 hp15 hp16 hp17
        refine lv_aload_n hx hb dX2_readRule_44 rfl (lv_at hl 0 rfl) ?_
        refine tw_get (ci := 2) (C := RX2) (T := TX2) (N := 13) hx hb hB cx_inX2 hown hK TH hm0 hk0 rfl ⟨by decide, rfl⟩ 3 (by decide) cw_72 (fun _ h9 => h9) dX2_readRule_45 (fun hv => ?_)
        obtain ⟨xr25, hxr25, hmxr25, hkxr25⟩ : ∃ a : Nat, tw_fv E14 a0 3 = .ref a ∧ a ∈ L ∧ kp a = 137 := hv
        rw [hxr25]
        refine lv_aload_n hx hb dX2_readRule_48 rfl (lv_at hl 0 rfl) ?_
        refine tw_get (ci := 2) (C := RX2) (T := TX2) (N := 13) hx hb hB cx_inX2 hown hK TH hm0 hk0 rfl ⟨by decide, rfl⟩ 1 (by decide) cw_68 (fun _ h9 => h9) dX2_readRule_49 (fun hv => ?_)
        rw [hmf22]
        refine lv_aload_n hx hb dX2_readRule_52 rfl (lv_at hl 1 rfl) ?_
        refine tw_get (ci := 9) (C := RX9) (T := TX9) (N := 5) hx hb hB cx_inX9 hown hK TH hm1 hk1 rfl ⟨by decide, rfl⟩ 4 (by decide) cw_47 (fun _ h9 => h9) dX2_readRule_53 (fun hv => ?_)
        rw [hmf20]
        refine tw_iast (k := 137) (n := 10) (lo := 0) (hi := 500) hx hb hK TH hS hmxr25 hkxr25 (by decide) rfl (i := xi5) (x := fv1_4) (vp_in_iff.mpr ⟨by  omega, by  omega⟩) (by omega) (by omega) dX2_readRule_56 (fun H locs E26 TH hS hp27 hp28 hp29 => ?_)
        have hst30 : tw_fr kp L [] [137] E14 E26 := tw_fr.ast tw_fr.rf (fun _ => hkxr25) hp27 hp28 (by decide)
        have hF := hF.tr hst30 (fun _ h => ⟨h, rfl⟩) (by decide) (by decide)
        have hmf31 : tw_fv E26 a1 3 = .int fv1_3 := (hst30.1 a1 3 hm1 (by rw [hk1]; decide)).trans hmf19
        have hmf32 : tw_fv E26 a1 4 = .int fv1_4 := (hst30.1 a1 4 hm1 (by rw [hk1]; decide)).trans hmf20
        have hmf33 : tw_fv E26 a1 2 = .int xi1 := (hst30.1 a1 2 hm1 (by rw [hk1]; decide)).trans hmf21
        have hmf34 : tw_fv E26 a0 1 = .int xi5 := (hst30.1 a0 1 hm0 (by rw [hk0]; decide)).trans hmf22
        have hmf35 : tw_fv E26 a0 2 = .ref xr13 := (hst30.1 a0 2 hm0 (by rw [hk0]; decide)).trans hmf23
        have hmf36 : tw_fv E26 a0 3 = .ref xr25 := (hst30.1 a0 3 hm0 (by rw [hk0]; decide)).trans hxr25
        have hg0_o := hg0
        have hg1_o := hg1
        have hg2_o := hg2
        have hgn24_o := hgn24
        have hg0 : sp_ok E26 a0 g0 := sp_ok_fr TH hst30 hm0 hk0 hmg0 hkg0 (by decide) (by decide) hg0
        have hg1 : gm_ok E26 a0 := gm_ok_st TH hm0 hk0 hp27 hp28 hp29 (by omega) (by rw [tw_fi_of hmf22]; omega) hg1_o
        have hg2 : gm_ok E26 g0 := gm_ok_oth (f := 3) TH hmg0 hkg0 hkxr25 (by decide) hxr25 hp27 hp28 hg0_o hg2_o
        have hgn24 : el_is E26 a0 2 (xi5.toInt) (fv1_3.toInt) := e2_ok_fr TH hst30 hm0 hk0 (by decide) (by decide) hgn24
        have hgn37 : el_is E26 a0 3 (xi5.toInt) (fv1_4.toInt) := el_is_st hxr25 hp27 hp28 hp29
        refine lv_aload_n hx hb dX2_readRule_57 rfl (lv_at hl 1 rfl) ?_
        refine tw_Vc (o := a1) (ci := 9) (n := 0) (post := (fun v kq Lq Eq => v = none ∧ kp = kq ∧ L = Lq ∧ tw_fr kp L [(9, 2), (9, 3), (9, 4)] [] E26 Eq ∧ (∃ z0 z1 : Int32, tw_fv Eq a1 3 = .int z0 ∧ tw_fv Eq a1 4 = .int z1 ∧ (z0.toInt ≤ z1.toInt)))) (As := []) (rest := []) ⟨hx, hb, hml, hown, hB⟩ (fun sz => tX9_advance l D cs a1 hm1 hk1 sz) cg_2_71_X9_advance rfl rfl (by decide +kernel) ⟨Nat.le_of_ble_eq_true rfl, Nat.le_of_ble_eq_true rfl⟩ hK hN TH hS hA rfl hm1 hk1 (by decide) rfl hl.1 rfl (Nat.le_of_ble_eq_true rfl) dX2_readRule_58 ⟨Nat.le_of_ble_eq_true rfl, Nat.le_of_ble_eq_true rfl⟩ (fun v38 kp38 L38 E38 H locs hq38 hx38 TH hS => ?_)
        obtain ⟨rfl, rfl, rfl, hst38, ⟨zfxc39_0_0, zfxc39_0_1, hzfxc39_0_0, hzfxc39_0_1, hzpxc39_0⟩⟩ := hq38
        have hF := hF.tr hst38 (fun _ h => ⟨h, rfl⟩) (by decide) (by decide)
        have hmf40 : tw_fv E38 a0 1 = .int xi5 := (hst38.1 a0 1 hm0 (by rw [hk0]; decide)).trans hmf34
        have hmf41 : tw_fv E38 a0 2 = .ref xr13 := (hst38.1 a0 2 hm0 (by rw [hk0]; decide)).trans hmf35
        have hmf42 : tw_fv E38 a0 3 = .ref xr25 := (hst38.1 a0 3 hm0 (by rw [hk0]; decide)).trans hmf36
        have hg0 : sp_ok E38 a0 g0 := sp_ok_fr TH hst38 hm0 hk0 hmg0 hkg0 (by decide) (by decide) hg0
        have hg1 : gm_ok E38 a0 := gm_ok_fr TH hst38 hm0 hk0 (by decide) (by decide) hg1
        have hg2 : gm_ok E38 g0 := gm_ok_fr TH hst38 hmg0 hkg0 (by decide) (by decide) hg2
        have hgn24 : el_is E38 a0 2 (xi5.toInt) (fv1_3.toInt) := e2_ok_fr TH hst38 hm0 hk0 (by decide) (by decide) hgn24
        have hgn37 : el_is E38 a0 3 (xi5.toInt) (fv1_4.toInt) := e3_ok_fr TH hst38 hm0 hk0 (by decide) (by decide) hgn37
        obtain ⟨qzfxc39_0_0, hqzfxc39_0_0, hqzfxc39_0_0a, hqzfxc39_0_0b⟩ := tw_rd TH hm1 hk1 (by decide) (by decide) (k := 3) rfl
        have eqzfxc39_0_0 : qzfxc39_0_0 = zfxc39_0_0 := by have q := hqzfxc39_0_0.symm.trans hzfxc39_0_0; injection q
        rw [eqzfxc39_0_0] at hqzfxc39_0_0a hqzfxc39_0_0b
        obtain ⟨qzfxc39_0_1, hqzfxc39_0_1, hqzfxc39_0_1a, hqzfxc39_0_1b⟩ := tw_rd TH hm1 hk1 (by decide) (by decide) (k := 4) rfl
        have eqzfxc39_0_1 : qzfxc39_0_1 = zfxc39_0_1 := by have q := hqzfxc39_0_1.symm.trans hzfxc39_0_1; injection q
        rw [eqzfxc39_0_1] at hqzfxc39_0_1a hqzfxc39_0_1b
        refine W.eq (g2 := F0 m 61 ls []) rfl ?_
        refine lv_aload_n hx hb dX2_readRule_61 rfl (lv_at hl 1 rfl) ?_
        refine tw_get (ci := 9) (C := RX9) (T := TX9) (N := 5) hx hb hB cx_inX9 hown hK TH hm1 hk1 rfl ⟨by decide, rfl⟩ 2 (by decide) cw_40 (fun _ h9 => h9) dX2_readRule_62 (fun hv => ?_)
        obtain ⟨xi43, hxi43, hxi43a, hxi43b⟩ : ∃ x : Int32, tw_fv E38 a1 2 = .int x ∧ 0 ≤ x.toInt ∧ x.toInt ≤ 255 := hv
        rw [hxi43]
        refine lv_istore_n (lv' := [(2, .int xi43), (0, .ref a0), (1, .ref a1)]) hx hb dX2_readRule_65 rfl hl (by decide) rfl (fun ls hl => ?_)
        refine lv_iload_n hx hb dX2_readRule_66 rfl (lv_at hl 0 rfl) ?_
        refine lv_iconst (v := 2) hx hb dX2_readRule_67 (by decide) ?_
        refine lv_icmp_eq (tgt := 87) hx hb dX2_readRule_68 (by decide) (fun hc44 => ?_) (fun hc44 => ?_)
        · have hf45 : xi43.toInt = 2 := by have z := (fa_eq _ _).mp hc44; have : ((2 : Int32).toInt) = 2 := (by decide); omega
          refine lv_aload_n hx hb dX2_readRule_87 rfl (lv_at hl 1 rfl) ?_
          refine tw_get (ci := 2) (C := RX2) (T := TX2) (N := 13) hx hb hB cx_inX2 hown hK TH hm0 hk0 rfl ⟨by decide, rfl⟩ 4 (by decide) cw_74 (fun _ h9 => h9) dX2_readRule_88 (fun hv => ?_)
          obtain ⟨xr46, hxr46, hmxr46, hkxr46⟩ : ∃ a : Nat, tw_fv E38 a0 4 = .ref a ∧ a ∈ L ∧ kp a = 131 := hv
          rw [hxr46]
          refine lv_aload_n hx hb dX2_readRule_91 rfl (lv_at hl 1 rfl) ?_
          refine tw_get (ci := 2) (C := RX2) (T := TX2) (N := 13) hx hb hB cx_inX2 hown hK TH hm0 hk0 rfl ⟨by decide, rfl⟩ 1 (by decide) cw_68 (fun _ h9 => h9) dX2_readRule_92 (fun hv => ?_)
          rw [hmf40]
          refine lv_iload_n hx hb dX2_readRule_95 rfl (lv_at hl 0 rfl) ?_
          refine tw_iast (k := 131) (n := 10) (lo := 0) (hi := 255) hx hb hK TH hS hmxr46 hkxr46 (by decide) rfl (i := xi5) (x := xi43) (vp_in_iff.mpr ⟨by  omega, by  omega⟩) (by omega) (by omega) dX2_readRule_96 (fun H locs E47 TH hS hp48 hp49 hp50 => ?_)
          have hst51 : tw_fr kp L [] [131] E38 E47 := tw_fr.ast tw_fr.rf (fun _ => hkxr46) hp48 hp49 (by decide)
          have hF := hF.tr hst51 (fun _ h => ⟨h, rfl⟩) (by decide) (by decide)
          have hmf52 : tw_fv E47 a0 1 = .int xi5 := (hst51.1 a0 1 hm0 (by rw [hk0]; decide)).trans hmf40
          have hmf53 : tw_fv E47 a0 2 = .ref xr13 := (hst51.1 a0 2 hm0 (by rw [hk0]; decide)).trans hmf41
          have hmf54 : tw_fv E47 a0 3 = .ref xr25 := (hst51.1 a0 3 hm0 (by rw [hk0]; decide)).trans hmf42
          have hmf55 : tw_fv E47 a1 3 = .int zfxc39_0_0 := (hst51.1 a1 3 hm1 (by rw [hk1]; decide)).trans hzfxc39_0_0
          have hmf56 : tw_fv E47 a1 4 = .int zfxc39_0_1 := (hst51.1 a1 4 hm1 (by rw [hk1]; decide)).trans hzfxc39_0_1
          have hmf57 : tw_fv E47 a1 2 = .int xi43 := (hst51.1 a1 2 hm1 (by rw [hk1]; decide)).trans hxi43
          have hmf58 : tw_fv E47 a0 4 = .ref xr46 := (hst51.1 a0 4 hm0 (by rw [hk0]; decide)).trans hxr46
          have hg0 : sp_ok E47 a0 g0 := sp_ok_fr TH hst51 hm0 hk0 hmg0 hkg0 (by decide) (by decide) hg0
          have hg1 : gm_ok E47 a0 := gm_ok_fr TH hst51 hm0 hk0 (by decide) (by decide) hg1
          have hg2 : gm_ok E47 g0 := gm_ok_fr TH hst51 hmg0 hkg0 (by decide) (by decide) hg2
          have hgn24 : el_is E47 a0 2 (xi5.toInt) (fv1_3.toInt) := e2_ok_fr TH hst51 hm0 hk0 (by decide) (by decide) hgn24
          have hgn37 : el_is E47 a0 3 (xi5.toInt) (fv1_4.toInt) := e3_ok_fr TH hst51 hm0 hk0 (by decide) (by decide) hgn37
          refine lv_aload_n hx hb dX2_readRule_97 rfl (lv_at hl 1 rfl) ?_
          refine tw_get (ci := 2) (C := RX2) (T := TX2) (N := 13) hx hb hB cx_inX2 hown hK TH hm0 hk0 rfl ⟨by decide, rfl⟩ 5 (by decide) cw_75 (fun _ h9 => h9) dX2_readRule_98 (fun hv => ?_)
          obtain ⟨xr59, hxr59, hmxr59, hkxr59⟩ : ∃ a : Nat, tw_fv E47 a0 5 = .ref a ∧ a ∈ L ∧ kp a = 136 := hv
          rw [hxr59]
          refine lv_aload_n hx hb dX2_readRule_101 rfl (lv_at hl 1 rfl) ?_
          refine tw_get (ci := 2) (C := RX2) (T := TX2) (N := 13) hx hb hB cx_inX2 hown hK TH hm0 hk0 rfl ⟨by decide, rfl⟩ 1 (by decide) cw_68 (fun _ h9 => h9) dX2_readRule_102 (fun hv => ?_)
          rw [hmf52]
          refine lv_aload_n hx hb dX2_readRule_105 rfl (lv_at hl 1 rfl) ?_
          refine tw_get (ci := 2) (C := RX2) (T := TX2) (N := 13) hx hb hB cx_inX2 hown hK TH hm0 hk0 rfl ⟨by decide, rfl⟩ 7 (by decide) cw_77 (fun _ h9 => h9) dX2_readRule_106 (fun hv => ?_)
          obtain ⟨xi60, hxi60, hxi60a, hxi60b⟩ : ∃ x : Int32, tw_fv E47 a0 7 = .int x ∧ 0 ≤ x.toInt ∧ x.toInt ≤ 500 := hv
          rw [hxi60]
          refine tw_iast (k := 136) (n := 10) (lo := 0) (hi := 500) hx hb hK TH hS hmxr59 hkxr59 (by decide) rfl (i := xi5) (x := xi60) (vp_in_iff.mpr ⟨by  omega, by  omega⟩) (by omega) (by omega) dX2_readRule_109 (fun H locs E61 TH hS hp62 hp63 hp64 => ?_)
          have hst65 : tw_fr kp L [] [136] E47 E61 := tw_fr.ast tw_fr.rf (fun _ => hkxr59) hp62 hp63 (by decide)
          have hF := hF.tr hst65 (fun _ h => ⟨h, rfl⟩) (by decide) (by decide)
          have hmf66 : tw_fv E61 a0 1 = .int xi5 := (hst65.1 a0 1 hm0 (by rw [hk0]; decide)).trans hmf52
          have hmf67 : tw_fv E61 a0 2 = .ref xr13 := (hst65.1 a0 2 hm0 (by rw [hk0]; decide)).trans hmf53
          have hmf68 : tw_fv E61 a0 3 = .ref xr25 := (hst65.1 a0 3 hm0 (by rw [hk0]; decide)).trans hmf54
          have hmf69 : tw_fv E61 a1 3 = .int zfxc39_0_0 := (hst65.1 a1 3 hm1 (by rw [hk1]; decide)).trans hmf55
          have hmf70 : tw_fv E61 a1 4 = .int zfxc39_0_1 := (hst65.1 a1 4 hm1 (by rw [hk1]; decide)).trans hmf56
          have hmf71 : tw_fv E61 a1 2 = .int xi43 := (hst65.1 a1 2 hm1 (by rw [hk1]; decide)).trans hmf57
          have hmf72 : tw_fv E61 a0 4 = .ref xr46 := (hst65.1 a0 4 hm0 (by rw [hk0]; decide)).trans hmf58
          have hmf73 : tw_fv E61 a0 5 = .ref xr59 := (hst65.1 a0 5 hm0 (by rw [hk0]; decide)).trans hxr59
          have hmf74 : tw_fv E61 a0 7 = .int xi60 := (hst65.1 a0 7 hm0 (by rw [hk0]; decide)).trans hxi60
          have hg0_o := hg0
          have hg1_o := hg1
          have hg2_o := hg2
          have hgn24_o := hgn24
          have hgn37_o := hgn37
          have hg0 : sp_ok E61 a0 g0 := sp_ok_fr TH hst65 hm0 hk0 hmg0 hkg0 (by decide) (by decide) hg0
          have hg1 : gm_ok E61 a0 := gm_ok_st TH hm0 hk0 hp62 hp63 hp64 (by omega) (by rw [tw_fi_of hmf52]; omega) hg1_o
          have hg2 : gm_ok E61 g0 := gm_ok_oth (f := 5) TH hmg0 hkg0 hkxr59 (by decide) hxr59 hp62 hp63 hg0_o hg2_o
          have hgn24 : el_is E61 a0 2 (xi5.toInt) (fv1_3.toInt) := e2_ok_fr TH hst65 hm0 hk0 (by decide) (by decide) hgn24
          have hgn37 : el_is E61 a0 3 (xi5.toInt) (fv1_4.toInt) := e3_ok_fr TH hst65 hm0 hk0 (by decide) (by decide) hgn37
          have hgn75 : el_is E61 a0 5 (xi5.toInt) (xi60.toInt) := el_is_st hxr59 hp62 hp63 hp64
          refine lv_aload_n hx hb dX2_readRule_110 rfl (lv_at hl 2 rfl) ?_
          refine tw_Vc (o := a1) (ci := 9) (n := 0) (post := (fun v kq Lq Eq => v = none ∧ kp = kq ∧ L = Lq ∧ tw_fr kp L [(9, 2), (9, 3), (9, 4)] [] E61 Eq ∧ (∃ z0 z1 : Int32, tw_fv Eq a1 3 = .int z0 ∧ tw_fv Eq a1 4 = .int z1 ∧ (z0.toInt ≤ z1.toInt)))) (As := []) (rest := []) ⟨hx, hb, hml, hown, hB⟩ (fun sz => tX9_advance l D cs a1 hm1 hk1 sz) cg_2_71_X9_advance rfl rfl (by decide +kernel) ⟨Nat.le_of_ble_eq_true rfl, Nat.le_of_ble_eq_true rfl⟩ hK hN TH hS hA rfl hm1 hk1 (by decide) rfl hl.1 rfl (Nat.le_of_ble_eq_true rfl) dX2_readRule_111 ⟨Nat.le_of_ble_eq_true rfl, Nat.le_of_ble_eq_true rfl⟩ (fun v76 kp76 L76 E76 H locs hq76 hx76 TH hS => ?_)
          obtain ⟨rfl, rfl, rfl, hst76, ⟨zfxc77_0_0, zfxc77_0_1, hzfxc77_0_0, hzfxc77_0_1, hzpxc77_0⟩⟩ := hq76
          have hF := hF.tr hst76 (fun _ h => ⟨h, rfl⟩) (by decide) (by decide)
          have hmf78 : tw_fv E76 a0 1 = .int xi5 := (hst76.1 a0 1 hm0 (by rw [hk0]; decide)).trans hmf66
          have hmf79 : tw_fv E76 a0 2 = .ref xr13 := (hst76.1 a0 2 hm0 (by rw [hk0]; decide)).trans hmf67
          have hmf80 : tw_fv E76 a0 3 = .ref xr25 := (hst76.1 a0 3 hm0 (by rw [hk0]; decide)).trans hmf68
          have hmf81 : tw_fv E76 a0 4 = .ref xr46 := (hst76.1 a0 4 hm0 (by rw [hk0]; decide)).trans hmf72
          have hmf82 : tw_fv E76 a0 5 = .ref xr59 := (hst76.1 a0 5 hm0 (by rw [hk0]; decide)).trans hmf73
          have hmf83 : tw_fv E76 a0 7 = .int xi60 := (hst76.1 a0 7 hm0 (by rw [hk0]; decide)).trans hmf74
          have hg0 : sp_ok E76 a0 g0 := sp_ok_fr TH hst76 hm0 hk0 hmg0 hkg0 (by decide) (by decide) hg0
          have hg1 : gm_ok E76 a0 := gm_ok_fr TH hst76 hm0 hk0 (by decide) (by decide) hg1
          have hg2 : gm_ok E76 g0 := gm_ok_fr TH hst76 hmg0 hkg0 (by decide) (by decide) hg2
          have hgn24 : el_is E76 a0 2 (xi5.toInt) (fv1_3.toInt) := e2_ok_fr TH hst76 hm0 hk0 (by decide) (by decide) hgn24
          have hgn37 : el_is E76 a0 3 (xi5.toInt) (fv1_4.toInt) := e3_ok_fr TH hst76 hm0 hk0 (by decide) (by decide) hgn37
          have hgn75 : el_is E76 a0 5 (xi5.toInt) (xi60.toInt) := e5_ok_fr TH hst76 hm0 hk0 (by decide) (by decide) hgn75
          obtain ⟨qzfxc77_0_0, hqzfxc77_0_0, hqzfxc77_0_0a, hqzfxc77_0_0b⟩ := tw_rd TH hm1 hk1 (by decide) (by decide) (k := 3) rfl
          have eqzfxc77_0_0 : qzfxc77_0_0 = zfxc77_0_0 := by have q := hqzfxc77_0_0.symm.trans hzfxc77_0_0; injection q
          rw [eqzfxc77_0_0] at hqzfxc77_0_0a hqzfxc77_0_0b
          obtain ⟨qzfxc77_0_1, hqzfxc77_0_1, hqzfxc77_0_1a, hqzfxc77_0_1b⟩ := tw_rd TH hm1 hk1 (by decide) (by decide) (k := 4) rfl
          have eqzfxc77_0_1 : qzfxc77_0_1 = zfxc77_0_1 := by have q := hqzfxc77_0_1.symm.trans hzfxc77_0_1; injection q
          rw [eqzfxc77_0_1] at hqzfxc77_0_1a hqzfxc77_0_1b
          refine W.eq (g2 := F0 m 114 ls []) rfl ?_
          refine lv_iload_n hx hb dX2_readRule_114 rfl (lv_at hl 0 rfl) ?_
          refine lv_iconst (v := 2) hx hb dX2_readRule_115 (by decide) ?_
          refine lv_icmp_eq (tgt := 148) hx hb dX2_readRule_116 (by decide) (fun hc84 => ?_) (fun hc84 => ?_)
          · have hf85 : xi43.toInt = 2 := by have z := (fa_eq _ _).mp hc84; have : ((2 : Int32).toInt) = 2 := (by decide); omega
            refine lv_aload_n hx hb dX2_readRule_148 rfl (lv_at hl 1 rfl) ?_
            refine tw_get (ci := 2) (C := RX2) (T := TX2) (N := 13) hx hb hB cx_inX2 hown hK TH hm0 hk0 rfl ⟨by decide, rfl⟩ 6 (by decide) cw_76 (fun _ h9 => h9) dX2_readRule_149 (fun hv => ?_)
            obtain ⟨xr86, hxr86, hmxr86, hkxr86⟩ : ∃ a : Nat, tw_fv E76 a0 6 = .ref a ∧ a ∈ L ∧ kp a = 138 := hv
            rw [hxr86]
            refine lv_aload_n hx hb dX2_readRule_152 rfl (lv_at hl 1 rfl) ?_
            refine tw_get (ci := 2) (C := RX2) (T := TX2) (N := 13) hx hb hB cx_inX2 hown hK TH hm0 hk0 rfl ⟨by decide, rfl⟩ 1 (by decide) cw_68 (fun _ h9 => h9) dX2_readRule_153 (fun hv => ?_)
            rw [hmf78]
            refine lv_aload_n hx hb dX2_readRule_156 rfl (lv_at hl 1 rfl) ?_
            refine tw_get (ci := 2) (C := RX2) (T := TX2) (N := 13) hx hb hB cx_inX2 hown hK TH hm0 hk0 rfl ⟨by decide, rfl⟩ 7 (by decide) cw_77 (fun _ h9 => h9) dX2_readRule_157 (fun hv => ?_)
            rw [hmf83]
            refine tw_iast (k := 138) (n := 10) (lo := 0) (hi := 500) hx hb hK TH hS hmxr86 hkxr86 (by decide) rfl (i := xi5) (x := xi60) (vp_in_iff.mpr ⟨by  omega, by  omega⟩) (by omega) (by omega) dX2_readRule_160 (fun H locs E87 TH hS hp88 hp89 hp90 => ?_)
            have hst91 : tw_fr kp L [] [138] E76 E87 := tw_fr.ast tw_fr.rf (fun _ => hkxr86) hp88 hp89 (by decide)
            have hF := hF.tr hst91 (fun _ h => ⟨h, rfl⟩) (by decide) (by decide)
            have hmf92 : tw_fv E87 a0 1 = .int xi5 := (hst91.1 a0 1 hm0 (by rw [hk0]; decide)).trans hmf78
            have hmf93 : tw_fv E87 a0 2 = .ref xr13 := (hst91.1 a0 2 hm0 (by rw [hk0]; decide)).trans hmf79
            have hmf94 : tw_fv E87 a0 3 = .ref xr25 := (hst91.1 a0 3 hm0 (by rw [hk0]; decide)).trans hmf80
            have hmf95 : tw_fv E87 a0 4 = .ref xr46 := (hst91.1 a0 4 hm0 (by rw [hk0]; decide)).trans hmf81
            have hmf96 : tw_fv E87 a0 5 = .ref xr59 := (hst91.1 a0 5 hm0 (by rw [hk0]; decide)).trans hmf82
            have hmf97 : tw_fv E87 a0 7 = .int xi60 := (hst91.1 a0 7 hm0 (by rw [hk0]; decide)).trans hmf83
            have hmf98 : tw_fv E87 a1 3 = .int zfxc77_0_0 := (hst91.1 a1 3 hm1 (by rw [hk1]; decide)).trans hzfxc77_0_0
            have hmf99 : tw_fv E87 a1 4 = .int zfxc77_0_1 := (hst91.1 a1 4 hm1 (by rw [hk1]; decide)).trans hzfxc77_0_1
            have hmf100 : tw_fv E87 a0 6 = .ref xr86 := (hst91.1 a0 6 hm0 (by rw [hk0]; decide)).trans hxr86
            have hg0_o := hg0
            have hg1_o := hg1
            have hg2_o := hg2
            have hgn24_o := hgn24
            have hgn37_o := hgn37
            have hgn75_o := hgn75
            have hg0 : sp_ok E87 a0 g0 := sp_ok_fr TH hst91 hm0 hk0 hmg0 hkg0 (by decide) (by decide) hg0
            have hg1 : gm_ok E87 a0 := gm_ok_st TH hm0 hk0 hp88 hp89 hp90 (by omega) (by rw [tw_fi_of hmf78]; omega) hg1_o
            have hg2 : gm_ok E87 g0 := gm_ok_oth (f := 6) TH hmg0 hkg0 hkxr86 (by decide) hxr86 hp88 hp89 hg0_o hg2_o
            have hgn24 : el_is E87 a0 2 (xi5.toInt) (fv1_3.toInt) := e2_ok_fr TH hst91 hm0 hk0 (by decide) (by decide) hgn24
            have hgn37 : el_is E87 a0 3 (xi5.toInt) (fv1_4.toInt) := e3_ok_fr TH hst91 hm0 hk0 (by decide) (by decide) hgn37
            have hgn75 : el_is E87 a0 5 (xi5.toInt) (xi60.toInt) := e5_ok_fr TH hst91 hm0 hk0 (by decide) (by decide) hgn75
            have hgn101 : el_is E87 a0 6 (xi5.toInt) (xi60.toInt) := el_is_st hxr86 hp88 hp89 hp90
            refine lv_aload_n hx hb dX2_readRule_161 rfl (lv_at hl 2 rfl) ?_
            refine tw_get (ci := 9) (C := RX9) (T := TX9) (N := 5) hx hb hB cx_inX9 hown hK TH hm1 hk1 rfl ⟨by decide, rfl⟩ 2 (by decide) cw_40 (fun _ h9 => h9) dX2_readRule_162 (fun hv => ?_)
            obtain ⟨xi102, hxi102, hxi102a, hxi102b⟩ : ∃ x : Int32, tw_fv E87 a1 2 = .int x ∧ 0 ≤ x.toInt ∧ x.toInt ≤ 255 := hv
            rw [hxi102]
            refine lv_bipush (v := 59) hx hb dX2_readRule_165 (by decide) ?_
            refine lv_icmp_eq (tgt := 175) hx hb dX2_readRule_167 (by decide) (fun hc103 => ?_) (fun hc103 => ?_)
            · have hf104 : xi102.toInt = 59 := by have z := (fa_eq _ _).mp hc103; have : ((59 : Int32).toInt) = 59 := (by decide); omega
              refine lv_aload_n hx hb dX2_readRule_175 rfl (lv_at hl 1 rfl) ?_
              refine lv_dup hx hb dX2_readRule_176 rfl ?_
              refine tw_get (ci := 2) (C := RX2) (T := TX2) (N := 13) hx hb hB cx_inX2 hown hK TH hm0 hk0 rfl ⟨by decide, rfl⟩ 1 (by decide) cw_68 (fun _ h9 => h9) dX2_readRule_177 (fun hv => ?_)
              rw [hmf92]
              refine lv_iconst (v := 1) hx hb dX2_readRule_180 (by decide) ?_
              refine lv_iadd hx hb dX2_readRule_181 ?_
              refine lv_topi (fun zi105 ezi105 => ?_)
              have hzi105 : zi105.toInt = xi5.toInt + 1 := by rw [ezi105]; have : ((1 : Int32).toInt) = 1 := (by decide); have := ia_lo xi5; have := ia_hi xi5; exact (ia_add (by omega) (by omega)).trans (by omega)
              refine tw_put (ci := 2) (v := .int zi105) (ty := .int) (C := RX2) (T := TX2) (N := 13) hx hb hB cx_inX2 tyX2 tyX2_ok nmX2 hown hK TH hS hm0 hk0 rfl ⟨by decide, rfl⟩ 1 (by decide) cw_68 (fun _ h9 => h9) rfl (by decide +kernel) rfl rfl ⟨_, rfl, (show 0 ≤ Int32.toInt zi105 from by  omega), (show Int32.toInt zi105 ≤ 10 from by  omega)⟩ dX2_readRule_182 (fun H locs E106 TH hS hmf110 hp107 hp108 => ?_)
              have hst109 : tw_fr kp L [(2, 1)] [] E87 E106 := tw_fr.put tw_fr.rf (fun _ => hk0) (by decide) hp107 hp108 (by decide)
              have hF := hF.tr hst109 (fun _ h => ⟨h, rfl⟩) (by decide) (by decide)
              have hmf111 : tw_fv E106 a0 2 = .ref xr13 := (hst109.1 a0 2 hm0 (by rw [hk0]; decide)).trans hmf93
              have hmf112 : tw_fv E106 a0 3 = .ref xr25 := (hst109.1 a0 3 hm0 (by rw [hk0]; decide)).trans hmf94
              have hmf113 : tw_fv E106 a0 4 = .ref xr46 := (hst109.1 a0 4 hm0 (by rw [hk0]; decide)).trans hmf95
              have hmf114 : tw_fv E106 a0 5 = .ref xr59 := (hst109.1 a0 5 hm0 (by rw [hk0]; decide)).trans hmf96
              have hmf115 : tw_fv E106 a0 7 = .int xi60 := (hst109.1 a0 7 hm0 (by rw [hk0]; decide)).trans hmf97
              have hmf116 : tw_fv E106 a1 3 = .int zfxc77_0_0 := (hst109.1 a1 3 hm1 (by rw [hk1]; decide)).trans hmf98
              have hmf117 : tw_fv E106 a1 4 = .int zfxc77_0_1 := (hst109.1 a1 4 hm1 (by rw [hk1]; decide)).trans hmf99
              have hmf118 : tw_fv E106 a0 6 = .ref xr86 := (hst109.1 a0 6 hm0 (by rw [hk0]; decide)).trans hmf100
              have hmf119 : tw_fv E106 a1 2 = .int xi102 := (hst109.1 a1 2 hm1 (by rw [hk1]; decide)).trans hxi102
              have hg0_o := hg0
              have hg1_o := hg1
              have hg2_o := hg2
              have hgn24_o := hgn24
              have hgn37_o := hgn37
              have hgn75_o := hgn75
              have hgn101_o := hgn101
              have hg0 : sp_ok E106 a0 g0 := sp_ok_fr TH hst109 hm0 hk0 hmg0 hkg0 (by decide) (by decide) hg0
              have hg1 : gm_ok E106 a0 := gm_ok_inc hmf110 hp107 hp108 TH hm0 hk0 (tw_fi_of hmf92) (by omega) (by omega) hgn24_o hgn37_o (by omega) hgn75_o hgn101_o (by omega) hg1_o
              have hg2 : gm_ok E106 g0 := gm_ok_cnt hp107 hp108 TH hk0 hmg0 hkg0 (hg0_o).1 hg2_o
              have hgn24 : el_is E106 a0 2 (xi5.toInt) (fv1_3.toInt) := e2_ok_fr TH hst109 hm0 hk0 (by decide) (by decide) hgn24
              have hgn37 : el_is E106 a0 3 (xi5.toInt) (fv1_4.toInt) := e3_ok_fr TH hst109 hm0 hk0 (by decide) (by decide) hgn37
              have hgn75 : el_is E106 a0 5 (xi5.toInt) (xi60.toInt) := e5_ok_fr TH hst109 hm0 hk0 (by decide) (by decide) hgn75
              have hgn101 : el_is E106 a0 6 (xi5.toInt) (xi60.toInt) := e6_ok_fr TH hst109 hm0 hk0 (by decide) (by decide) hgn101
              refine lv_aload_n hx hb dX2_readRule_185 rfl (lv_at hl 2 rfl) ?_
              refine tw_Vc (o := a1) (ci := 9) (n := 0) (post := (fun v kq Lq Eq => v = none ∧ kp = kq ∧ L = Lq ∧ tw_fr kp L [(9, 2), (9, 3), (9, 4)] [] E106 Eq ∧ (∃ z0 z1 : Int32, tw_fv Eq a1 3 = .int z0 ∧ tw_fv Eq a1 4 = .int z1 ∧ (z0.toInt ≤ z1.toInt)))) (As := []) (rest := []) ⟨hx, hb, hml, hown, hB⟩ (fun sz => tX9_advance l D cs a1 hm1 hk1 sz) cg_2_71_X9_advance rfl rfl (by decide +kernel) ⟨Nat.le_of_ble_eq_true rfl, Nat.le_of_ble_eq_true rfl⟩ hK hN TH hS hA rfl hm1 hk1 (by decide) rfl hl.1 rfl (Nat.le_of_ble_eq_true rfl) dX2_readRule_186 ⟨Nat.le_of_ble_eq_true rfl, Nat.le_of_ble_eq_true rfl⟩ (fun v120 kp120 L120 E120 H locs hq120 hx120 TH hS => ?_)
              obtain ⟨rfl, rfl, rfl, hst120, ⟨zfxc121_0_0, zfxc121_0_1, hzfxc121_0_0, hzfxc121_0_1, hzpxc121_0⟩⟩ := hq120
              have hF := hF.tr hst120 (fun _ h => ⟨h, rfl⟩) (by decide) (by decide)
              have hmf122 : tw_fv E120 a0 2 = .ref xr13 := (hst120.1 a0 2 hm0 (by rw [hk0]; decide)).trans hmf111
              have hmf123 : tw_fv E120 a0 3 = .ref xr25 := (hst120.1 a0 3 hm0 (by rw [hk0]; decide)).trans hmf112
              have hmf124 : tw_fv E120 a0 4 = .ref xr46 := (hst120.1 a0 4 hm0 (by rw [hk0]; decide)).trans hmf113
              have hmf125 : tw_fv E120 a0 5 = .ref xr59 := (hst120.1 a0 5 hm0 (by rw [hk0]; decide)).trans hmf114
              have hmf126 : tw_fv E120 a0 7 = .int xi60 := (hst120.1 a0 7 hm0 (by rw [hk0]; decide)).trans hmf115
              have hmf127 : tw_fv E120 a0 6 = .ref xr86 := (hst120.1 a0 6 hm0 (by rw [hk0]; decide)).trans hmf118
              have hmf128 : tw_fv E120 a0 1 = .int zi105 := (hst120.1 a0 1 hm0 (by rw [hk0]; decide)).trans hmf110
              have hg0 : sp_ok E120 a0 g0 := sp_ok_fr TH hst120 hm0 hk0 hmg0 hkg0 (by decide) (by decide) hg0
              have hg1 : gm_ok E120 a0 := gm_ok_fr TH hst120 hm0 hk0 (by decide) (by decide) hg1
              have hg2 : gm_ok E120 g0 := gm_ok_fr TH hst120 hmg0 hkg0 (by decide) (by decide) hg2
              have hgn24 : el_is E120 a0 2 (xi5.toInt) (fv1_3.toInt) := e2_ok_fr TH hst120 hm0 hk0 (by decide) (by decide) hgn24
              have hgn37 : el_is E120 a0 3 (xi5.toInt) (fv1_4.toInt) := e3_ok_fr TH hst120 hm0 hk0 (by decide) (by decide) hgn37
              have hgn75 : el_is E120 a0 5 (xi5.toInt) (xi60.toInt) := e5_ok_fr TH hst120 hm0 hk0 (by decide) (by decide) hgn75
              have hgn101 : el_is E120 a0 6 (xi5.toInt) (xi60.toInt) := e6_ok_fr TH hst120 hm0 hk0 (by decide) (by decide) hgn101
              obtain ⟨qzfxc121_0_0, hqzfxc121_0_0, hqzfxc121_0_0a, hqzfxc121_0_0b⟩ := tw_rd TH hm1 hk1 (by decide) (by decide) (k := 3) rfl
              have eqzfxc121_0_0 : qzfxc121_0_0 = zfxc121_0_0 := by have q := hqzfxc121_0_0.symm.trans hzfxc121_0_0; injection q
              rw [eqzfxc121_0_0] at hqzfxc121_0_0a hqzfxc121_0_0b
              obtain ⟨qzfxc121_0_1, hqzfxc121_0_1, hqzfxc121_0_1a, hqzfxc121_0_1b⟩ := tw_rd TH hm1 hk1 (by decide) (by decide) (k := 4) rfl
              have eqzfxc121_0_1 : qzfxc121_0_1 = zfxc121_0_1 := by have q := hqzfxc121_0_1.symm.trans hzfxc121_0_1; injection q
              rw [eqzfxc121_0_1] at hqzfxc121_0_1a hqzfxc121_0_1b
              refine W.eq (g2 := F0 m 189 ls []) rfl ?_
              refine lv_iconst (v := (-1)) hx hb dX2_readRule_189 (by decide) ?_
              exact tw_iret hx hb hr hlocks TH hS hex ⟨⟨_, rfl, (show (-1) ≤ Int32.toInt (-1) from by have : (((-1) : Int32).toInt) = (-1) := (by decide); omega), (show Int32.toInt (-1) ≤ 500 from by have : (((-1) : Int32).toInt) = (-1) := (by decide); omega), ⟨zfxc121_0_0, zfxc121_0_1, hzfxc121_0_0, hzfxc121_0_1, by have : (((-1) : Int32).toInt) = (-1) := (by decide); omega⟩, hg1, hg2⟩, rfl, rfl, hF⟩ (Nat.le_of_ble_eq_true rfl) (Nat.le_of_ble_eq_true rfl) dX2_readRule_190
            · have hf129 : ¬ (xi102.toInt = 59) := fun q => hc103 ((fa_eq _ _).mpr (by have : ((59 : Int32).toInt) = 59 := (by decide); omega))
              refine lv_aload_n hx hb dX2_readRule_170 rfl (lv_at hl 2 rfl) ?_
              refine tw_get (ci := 9) (C := RX9) (T := TX9) (N := 5) hx hb hB cx_inX9 hown hK TH hm1 hk1 rfl ⟨by decide, rfl⟩ 3 (by decide) cw_44 (fun _ h9 => h9) dX2_readRule_171 (fun hv => ?_)
              rw [hmf98]
              exact tw_iret hx hb hr hlocks TH hS hex ⟨⟨_, rfl, (show (-1) ≤ Int32.toInt zfxc77_0_0 from by  omega), (show Int32.toInt zfxc77_0_0 ≤ 500 from by  omega), ⟨zfxc77_0_0, zfxc77_0_1, hmf98, hmf99, by  omega⟩, hg1, hg2⟩, rfl, rfl, hF⟩ (Nat.le_of_ble_eq_true rfl) (Nat.le_of_ble_eq_true rfl) dX2_readRule_174
          · have hf130 : ¬ (xi43.toInt = 2) := fun q => hc84 ((fa_eq _ _).mpr (by have : ((2 : Int32).toInt) = 2 := (by decide); omega))
            exfalso; omega
        · have hf131 : ¬ (xi43.toInt = 2) := fun q => hc44 ((fa_eq _ _).mpr (by have : ((2 : Int32).toInt) = 2 := (by decide); omega))
          refine lv_iload_n hx hb dX2_readRule_71 rfl (lv_at hl 0 rfl) ?_
          refine lv_iconst (v := 3) hx hb dX2_readRule_72 (by decide) ?_
          refine lv_icmp_eq (tgt := 87) hx hb dX2_readRule_73 (by decide) (fun hc132 => ?_) (fun hc132 => ?_)
          · have hf133 : xi43.toInt = 3 := by have z := (fa_eq _ _).mp hc132; have : ((3 : Int32).toInt) = 3 := (by decide); omega
            refine lv_aload_n hx hb dX2_readRule_87 rfl (lv_at hl 1 rfl) ?_
            refine tw_get (ci := 2) (C := RX2) (T := TX2) (N := 13) hx hb hB cx_inX2 hown hK TH hm0 hk0 rfl ⟨by decide, rfl⟩ 4 (by decide) cw_74 (fun _ h9 => h9) dX2_readRule_88 (fun hv => ?_)
            obtain ⟨xr134, hxr134, hmxr134, hkxr134⟩ : ∃ a : Nat, tw_fv E38 a0 4 = .ref a ∧ a ∈ L ∧ kp a = 131 := hv
            rw [hxr134]
            refine lv_aload_n hx hb dX2_readRule_91 rfl (lv_at hl 1 rfl) ?_
            refine tw_get (ci := 2) (C := RX2) (T := TX2) (N := 13) hx hb hB cx_inX2 hown hK TH hm0 hk0 rfl ⟨by decide, rfl⟩ 1 (by decide) cw_68 (fun _ h9 => h9) dX2_readRule_92 (fun hv => ?_)
            rw [hmf40]
            refine lv_iload_n hx hb dX2_readRule_95 rfl (lv_at hl 0 rfl) ?_
            refine tw_iast (k := 131) (n := 10) (lo := 0) (hi := 255) hx hb hK TH hS hmxr134 hkxr134 (by decide) rfl (i := xi5) (x := xi43) (vp_in_iff.mpr ⟨by  omega, by  omega⟩) (by omega) (by omega) dX2_readRule_96 (fun H locs E135 TH hS hp136 hp137 hp138 => ?_)
            have hst139 : tw_fr kp L [] [131] E38 E135 := tw_fr.ast tw_fr.rf (fun _ => hkxr134) hp136 hp137 (by decide)
            have hF := hF.tr hst139 (fun _ h => ⟨h, rfl⟩) (by decide) (by decide)
            have hmf140 : tw_fv E135 a0 1 = .int xi5 := (hst139.1 a0 1 hm0 (by rw [hk0]; decide)).trans hmf40
            have hmf141 : tw_fv E135 a0 2 = .ref xr13 := (hst139.1 a0 2 hm0 (by rw [hk0]; decide)).trans hmf41
            have hmf142 : tw_fv E135 a0 3 = .ref xr25 := (hst139.1 a0 3 hm0 (by rw [hk0]; decide)).trans hmf42
            have hmf143 : tw_fv E135 a1 3 = .int zfxc39_0_0 := (hst139.1 a1 3 hm1 (by rw [hk1]; decide)).trans hzfxc39_0_0
            have hmf144 : tw_fv E135 a1 4 = .int zfxc39_0_1 := (hst139.1 a1 4 hm1 (by rw [hk1]; decide)).trans hzfxc39_0_1
            have hmf145 : tw_fv E135 a1 2 = .int xi43 := (hst139.1 a1 2 hm1 (by rw [hk1]; decide)).trans hxi43
            have hmf146 : tw_fv E135 a0 4 = .ref xr134 := (hst139.1 a0 4 hm0 (by rw [hk0]; decide)).trans hxr134
            have hg0 : sp_ok E135 a0 g0 := sp_ok_fr TH hst139 hm0 hk0 hmg0 hkg0 (by decide) (by decide) hg0
            have hg1 : gm_ok E135 a0 := gm_ok_fr TH hst139 hm0 hk0 (by decide) (by decide) hg1
            have hg2 : gm_ok E135 g0 := gm_ok_fr TH hst139 hmg0 hkg0 (by decide) (by decide) hg2
            have hgn24 : el_is E135 a0 2 (xi5.toInt) (fv1_3.toInt) := e2_ok_fr TH hst139 hm0 hk0 (by decide) (by decide) hgn24
            have hgn37 : el_is E135 a0 3 (xi5.toInt) (fv1_4.toInt) := e3_ok_fr TH hst139 hm0 hk0 (by decide) (by decide) hgn37
            refine lv_aload_n hx hb dX2_readRule_97 rfl (lv_at hl 1 rfl) ?_
            refine tw_get (ci := 2) (C := RX2) (T := TX2) (N := 13) hx hb hB cx_inX2 hown hK TH hm0 hk0 rfl ⟨by decide, rfl⟩ 5 (by decide) cw_75 (fun _ h9 => h9) dX2_readRule_98 (fun hv => ?_)
            obtain ⟨xr147, hxr147, hmxr147, hkxr147⟩ : ∃ a : Nat, tw_fv E135 a0 5 = .ref a ∧ a ∈ L ∧ kp a = 136 := hv
            rw [hxr147]
            refine lv_aload_n hx hb dX2_readRule_101 rfl (lv_at hl 1 rfl) ?_
            refine tw_get (ci := 2) (C := RX2) (T := TX2) (N := 13) hx hb hB cx_inX2 hown hK TH hm0 hk0 rfl ⟨by decide, rfl⟩ 1 (by decide) cw_68 (fun _ h9 => h9) dX2_readRule_102 (fun hv => ?_)
            rw [hmf140]
            refine lv_aload_n hx hb dX2_readRule_105 rfl (lv_at hl 1 rfl) ?_
            refine tw_get (ci := 2) (C := RX2) (T := TX2) (N := 13) hx hb hB cx_inX2 hown hK TH hm0 hk0 rfl ⟨by decide, rfl⟩ 7 (by decide) cw_77 (fun _ h9 => h9) dX2_readRule_106 (fun hv => ?_)
            obtain ⟨xi148, hxi148, hxi148a, hxi148b⟩ : ∃ x : Int32, tw_fv E135 a0 7 = .int x ∧ 0 ≤ x.toInt ∧ x.toInt ≤ 500 := hv
            rw [hxi148]
            refine tw_iast (k := 136) (n := 10) (lo := 0) (hi := 500) hx hb hK TH hS hmxr147 hkxr147 (by decide) rfl (i := xi5) (x := xi148) (vp_in_iff.mpr ⟨by  omega, by  omega⟩) (by omega) (by omega) dX2_readRule_109 (fun H locs E149 TH hS hp150 hp151 hp152 => ?_)
            have hst153 : tw_fr kp L [] [136] E135 E149 := tw_fr.ast tw_fr.rf (fun _ => hkxr147) hp150 hp151 (by decide)
            have hF := hF.tr hst153 (fun _ h => ⟨h, rfl⟩) (by decide) (by decide)
            have hmf154 : tw_fv E149 a0 1 = .int xi5 := (hst153.1 a0 1 hm0 (by rw [hk0]; decide)).trans hmf140
            have hmf155 : tw_fv E149 a0 2 = .ref xr13 := (hst153.1 a0 2 hm0 (by rw [hk0]; decide)).trans hmf141
            have hmf156 : tw_fv E149 a0 3 = .ref xr25 := (hst153.1 a0 3 hm0 (by rw [hk0]; decide)).trans hmf142
            have hmf157 : tw_fv E149 a1 3 = .int zfxc39_0_0 := (hst153.1 a1 3 hm1 (by rw [hk1]; decide)).trans hmf143
            have hmf158 : tw_fv E149 a1 4 = .int zfxc39_0_1 := (hst153.1 a1 4 hm1 (by rw [hk1]; decide)).trans hmf144
            have hmf159 : tw_fv E149 a1 2 = .int xi43 := (hst153.1 a1 2 hm1 (by rw [hk1]; decide)).trans hmf145
            have hmf160 : tw_fv E149 a0 4 = .ref xr134 := (hst153.1 a0 4 hm0 (by rw [hk0]; decide)).trans hmf146
            have hmf161 : tw_fv E149 a0 5 = .ref xr147 := (hst153.1 a0 5 hm0 (by rw [hk0]; decide)).trans hxr147
            have hmf162 : tw_fv E149 a0 7 = .int xi148 := (hst153.1 a0 7 hm0 (by rw [hk0]; decide)).trans hxi148
            have hg0_o := hg0
            have hg1_o := hg1
            have hg2_o := hg2
            have hgn24_o := hgn24
            have hgn37_o := hgn37
            have hg0 : sp_ok E149 a0 g0 := sp_ok_fr TH hst153 hm0 hk0 hmg0 hkg0 (by decide) (by decide) hg0
            have hg1 : gm_ok E149 a0 := gm_ok_st TH hm0 hk0 hp150 hp151 hp152 (by omega) (by rw [tw_fi_of hmf140]; omega) hg1_o
            have hg2 : gm_ok E149 g0 := gm_ok_oth (f := 5) TH hmg0 hkg0 hkxr147 (by decide) hxr147 hp150 hp151 hg0_o hg2_o
            have hgn24 : el_is E149 a0 2 (xi5.toInt) (fv1_3.toInt) := e2_ok_fr TH hst153 hm0 hk0 (by decide) (by decide) hgn24
            have hgn37 : el_is E149 a0 3 (xi5.toInt) (fv1_4.toInt) := e3_ok_fr TH hst153 hm0 hk0 (by decide) (by decide) hgn37
            have hgn163 : el_is E149 a0 5 (xi5.toInt) (xi148.toInt) := el_is_st hxr147 hp150 hp151 hp152
            refine lv_aload_n hx hb dX2_readRule_110 rfl (lv_at hl 2 rfl) ?_
            refine tw_Vc (o := a1) (ci := 9) (n := 0) (post := (fun v kq Lq Eq => v = none ∧ kp = kq ∧ L = Lq ∧ tw_fr kp L [(9, 2), (9, 3), (9, 4)] [] E149 Eq ∧ (∃ z0 z1 : Int32, tw_fv Eq a1 3 = .int z0 ∧ tw_fv Eq a1 4 = .int z1 ∧ (z0.toInt ≤ z1.toInt)))) (As := []) (rest := []) ⟨hx, hb, hml, hown, hB⟩ (fun sz => tX9_advance l D cs a1 hm1 hk1 sz) cg_2_71_X9_advance rfl rfl (by decide +kernel) ⟨Nat.le_of_ble_eq_true rfl, Nat.le_of_ble_eq_true rfl⟩ hK hN TH hS hA rfl hm1 hk1 (by decide) rfl hl.1 rfl (Nat.le_of_ble_eq_true rfl) dX2_readRule_111 ⟨Nat.le_of_ble_eq_true rfl, Nat.le_of_ble_eq_true rfl⟩ (fun v164 kp164 L164 E164 H locs hq164 hx164 TH hS => ?_)
            obtain ⟨rfl, rfl, rfl, hst164, ⟨zfxc165_0_0, zfxc165_0_1, hzfxc165_0_0, hzfxc165_0_1, hzpxc165_0⟩⟩ := hq164
            have hF := hF.tr hst164 (fun _ h => ⟨h, rfl⟩) (by decide) (by decide)
            have hmf166 : tw_fv E164 a0 1 = .int xi5 := (hst164.1 a0 1 hm0 (by rw [hk0]; decide)).trans hmf154
            have hmf167 : tw_fv E164 a0 2 = .ref xr13 := (hst164.1 a0 2 hm0 (by rw [hk0]; decide)).trans hmf155
            have hmf168 : tw_fv E164 a0 3 = .ref xr25 := (hst164.1 a0 3 hm0 (by rw [hk0]; decide)).trans hmf156
            have hmf169 : tw_fv E164 a0 4 = .ref xr134 := (hst164.1 a0 4 hm0 (by rw [hk0]; decide)).trans hmf160
            have hmf170 : tw_fv E164 a0 5 = .ref xr147 := (hst164.1 a0 5 hm0 (by rw [hk0]; decide)).trans hmf161
            have hmf171 : tw_fv E164 a0 7 = .int xi148 := (hst164.1 a0 7 hm0 (by rw [hk0]; decide)).trans hmf162
            have hg0 : sp_ok E164 a0 g0 := sp_ok_fr TH hst164 hm0 hk0 hmg0 hkg0 (by decide) (by decide) hg0
            have hg1 : gm_ok E164 a0 := gm_ok_fr TH hst164 hm0 hk0 (by decide) (by decide) hg1
            have hg2 : gm_ok E164 g0 := gm_ok_fr TH hst164 hmg0 hkg0 (by decide) (by decide) hg2
            have hgn24 : el_is E164 a0 2 (xi5.toInt) (fv1_3.toInt) := e2_ok_fr TH hst164 hm0 hk0 (by decide) (by decide) hgn24
            have hgn37 : el_is E164 a0 3 (xi5.toInt) (fv1_4.toInt) := e3_ok_fr TH hst164 hm0 hk0 (by decide) (by decide) hgn37
            have hgn163 : el_is E164 a0 5 (xi5.toInt) (xi148.toInt) := e5_ok_fr TH hst164 hm0 hk0 (by decide) (by decide) hgn163
            obtain ⟨qzfxc165_0_0, hqzfxc165_0_0, hqzfxc165_0_0a, hqzfxc165_0_0b⟩ := tw_rd TH hm1 hk1 (by decide) (by decide) (k := 3) rfl
            have eqzfxc165_0_0 : qzfxc165_0_0 = zfxc165_0_0 := by have q := hqzfxc165_0_0.symm.trans hzfxc165_0_0; injection q
            rw [eqzfxc165_0_0] at hqzfxc165_0_0a hqzfxc165_0_0b
            obtain ⟨qzfxc165_0_1, hqzfxc165_0_1, hqzfxc165_0_1a, hqzfxc165_0_1b⟩ := tw_rd TH hm1 hk1 (by decide) (by decide) (k := 4) rfl
            have eqzfxc165_0_1 : qzfxc165_0_1 = zfxc165_0_1 := by have q := hqzfxc165_0_1.symm.trans hzfxc165_0_1; injection q
            rw [eqzfxc165_0_1] at hqzfxc165_0_1a hqzfxc165_0_1b
            refine W.eq (g2 := F0 m 114 ls []) rfl ?_
            refine lv_iload_n hx hb dX2_readRule_114 rfl (lv_at hl 0 rfl) ?_
            refine lv_iconst (v := 2) hx hb dX2_readRule_115 (by decide) ?_
            refine lv_icmp_eq (tgt := 148) hx hb dX2_readRule_116 (by decide) (fun hc172 => ?_) (fun hc172 => ?_)
            · have hf173 : xi43.toInt = 2 := by have z := (fa_eq _ _).mp hc172; have : ((2 : Int32).toInt) = 2 := (by decide); omega
              exfalso; omega
            · have hf174 : ¬ (xi43.toInt = 2) := fun q => hc172 ((fa_eq _ _).mpr (by have : ((2 : Int32).toInt) = 2 := (by decide); omega))
              refine lv_aload_n hx hb dX2_readRule_119 rfl (lv_at hl 2 rfl) ?_
              refine tw_get (ci := 9) (C := RX9) (T := TX9) (N := 5) hx hb hB cx_inX9 hown hK TH hm1 hk1 rfl ⟨by decide, rfl⟩ 2 (by decide) cw_40 (fun _ h9 => h9) dX2_readRule_120 (fun hv => ?_)
              obtain ⟨xi175, hxi175, hxi175a, hxi175b⟩ : ∃ x : Int32, tw_fv E164 a1 2 = .int x ∧ 0 ≤ x.toInt ∧ x.toInt ≤ 255 := hv
              rw [hxi175]
              refine lv_iconst (v := 1) hx hb dX2_readRule_123 (by decide) ?_
              refine lv_icmp_eq (tgt := 132) hx hb dX2_readRule_124 (by decide) (fun hc176 => ?_) (fun hc176 => ?_)
              · have hf177 : xi175.toInt = 1 := by have z := (fa_eq _ _).mp hc176; have : ((1 : Int32).toInt) = 1 := (by decide); omega
                refine lv_aload_n hx hb dX2_readRule_132 rfl (lv_at hl 1 rfl) ?_
                refine lv_aload_n hx hb dX2_readRule_133 rfl (lv_at hl 2 rfl) ?_
                refine lv_iload_n hx hb dX2_readRule_134 rfl (lv_at hl 0 rfl) ?_
                refine lv_bipush (v := 61) hx hb dX2_readRule_135 (by decide) ?_
                refine lv_icmp_ne (tgt := 144) hx hb dX2_readRule_137 (by decide) (fun hc178 => ?_) (fun hc178 => ?_)
                · have hf179 : ¬ (xi43.toInt = 61) := fun q => hc178 ((fa_eq _ _).mpr (by have : ((61 : Int32).toInt) = 61 := (by decide); omega))
                  refine lv_iconst (v := 0) hx hb dX2_readRule_144 (by decide) ?_
                  refine tw_Vc (o := a0) (ci := 2) (n := 2) (post := (fun v kq Lq Eq => v = none ∧ kp = kq ∧ L = Lq ∧ tw_fr kp L [(2, 7), (9, 2), (9, 3), (9, 4)] [132, 134, 139] E164 Eq ∧ (∃ z0 : Int32, tw_fv Eq a0 7 = .int z0 ∧ (xi148.toInt ≤ z0.toInt)) ∧ (∃ z0 z1 : Int32, tw_fv Eq a1 3 = .int z0 ∧ tw_fv Eq a1 4 = .int z1 ∧ (z0.toInt ≤ z1.toInt)))) (As := [.ref a1, .int 0]) (rest := []) ⟨hx, hb, hml, hown, hB⟩ (fun sz => tX2_readItems l D cs a0 a1 (0 : Int32) zfxc165_0_0 zfxc165_0_1 xi148 hm0 hk0 hm1 hk1 (by have : ((0 : Int32).toInt) = 0 := (by decide); omega) (by have : ((0 : Int32).toInt) = 0 := (by decide); omega) hzfxc165_0_0 hzfxc165_0_1 hmf171 (by have : ((0 : Int32).toInt) = 0 := (by decide); omega) sz) cg_2_94_X2_readItems rfl rfl (by decide +kernel) ⟨Nat.le_of_ble_eq_true rfl, Nat.le_of_ble_eq_true rfl⟩ hK hN TH hS hA rfl hm0 hk0 (by decide) rfl hl.1 rfl (Nat.le_of_ble_eq_true rfl) dX2_readRule_145 ⟨Nat.le_of_ble_eq_true rfl, Nat.le_of_ble_eq_true rfl⟩ (fun v180 kp180 L180 E180 H locs hq180 hx180 TH hS => ?_)
                  obtain ⟨rfl, rfl, rfl, hst180, ⟨zfxc181_0_0, hzfxc181_0_0, hzpxc181_0⟩, ⟨zfxc181_1_0, zfxc181_1_1, hzfxc181_1_0, hzfxc181_1_1, hzpxc181_1⟩⟩ := hq180
                  have hF := hF.tr hst180 (fun _ h => ⟨h, rfl⟩) (by decide) (by decide)
                  have hmf182 : tw_fv E180 a0 1 = .int xi5 := (hst180.1 a0 1 hm0 (by rw [hk0]; decide)).trans hmf166
                  have hmf183 : tw_fv E180 a0 2 = .ref xr13 := (hst180.1 a0 2 hm0 (by rw [hk0]; decide)).trans hmf167
                  have hmf184 : tw_fv E180 a0 3 = .ref xr25 := (hst180.1 a0 3 hm0 (by rw [hk0]; decide)).trans hmf168
                  have hmf185 : tw_fv E180 a0 4 = .ref xr134 := (hst180.1 a0 4 hm0 (by rw [hk0]; decide)).trans hmf169
                  have hmf186 : tw_fv E180 a0 5 = .ref xr147 := (hst180.1 a0 5 hm0 (by rw [hk0]; decide)).trans hmf170
                  have hg0 : sp_ok E180 a0 g0 := sp_ok_fr TH hst180 hm0 hk0 hmg0 hkg0 (by decide) (by decide) hg0
                  have hg1 : gm_ok E180 a0 := gm_ok_fr TH hst180 hm0 hk0 (by decide) (by decide) hg1
                  have hg2 : gm_ok E180 g0 := gm_ok_fr TH hst180 hmg0 hkg0 (by decide) (by decide) hg2
                  have hgn24 : el_is E180 a0 2 (xi5.toInt) (fv1_3.toInt) := e2_ok_fr TH hst180 hm0 hk0 (by decide) (by decide) hgn24
                  have hgn37 : el_is E180 a0 3 (xi5.toInt) (fv1_4.toInt) := e3_ok_fr TH hst180 hm0 hk0 (by decide) (by decide) hgn37
                  have hgn163 : el_is E180 a0 5 (xi5.toInt) (xi148.toInt) := e5_ok_fr TH hst180 hm0 hk0 (by decide) (by decide) hgn163
                  obtain ⟨qzfxc181_0_0, hqzfxc181_0_0, hqzfxc181_0_0a, hqzfxc181_0_0b⟩ := tw_rd TH hm0 hk0 (by decide) (by decide) (k := 7) rfl
                  have eqzfxc181_0_0 : qzfxc181_0_0 = zfxc181_0_0 := by have q := hqzfxc181_0_0.symm.trans hzfxc181_0_0; injection q
                  rw [eqzfxc181_0_0] at hqzfxc181_0_0a hqzfxc181_0_0b
                  obtain ⟨qzfxc181_1_0, hqzfxc181_1_0, hqzfxc181_1_0a, hqzfxc181_1_0b⟩ := tw_rd TH hm1 hk1 (by decide) (by decide) (k := 3) rfl
                  have eqzfxc181_1_0 : qzfxc181_1_0 = zfxc181_1_0 := by have q := hqzfxc181_1_0.symm.trans hzfxc181_1_0; injection q
                  rw [eqzfxc181_1_0] at hqzfxc181_1_0a hqzfxc181_1_0b
                  obtain ⟨qzfxc181_1_1, hqzfxc181_1_1, hqzfxc181_1_1a, hqzfxc181_1_1b⟩ := tw_rd TH hm1 hk1 (by decide) (by decide) (k := 4) rfl
                  have eqzfxc181_1_1 : qzfxc181_1_1 = zfxc181_1_1 := by have q := hqzfxc181_1_1.symm.trans hzfxc181_1_1; injection q
                  rw [eqzfxc181_1_1] at hqzfxc181_1_1a hqzfxc181_1_1b
                  refine W.eq (g2 := F0 m 148 ls []) rfl ?_
                  refine lv_aload_n hx hb dX2_readRule_148 rfl (lv_at hl 1 rfl) ?_
                  refine tw_get (ci := 2) (C := RX2) (T := TX2) (N := 13) hx hb hB cx_inX2 hown hK TH hm0 hk0 rfl ⟨by decide, rfl⟩ 6 (by decide) cw_76 (fun _ h9 => h9) dX2_readRule_149 (fun hv => ?_)
                  obtain ⟨xr187, hxr187, hmxr187, hkxr187⟩ : ∃ a : Nat, tw_fv E180 a0 6 = .ref a ∧ a ∈ L ∧ kp a = 138 := hv
                  rw [hxr187]
                  refine lv_aload_n hx hb dX2_readRule_152 rfl (lv_at hl 1 rfl) ?_
                  refine tw_get (ci := 2) (C := RX2) (T := TX2) (N := 13) hx hb hB cx_inX2 hown hK TH hm0 hk0 rfl ⟨by decide, rfl⟩ 1 (by decide) cw_68 (fun _ h9 => h9) dX2_readRule_153 (fun hv => ?_)
                  rw [hmf182]
                  refine lv_aload_n hx hb dX2_readRule_156 rfl (lv_at hl 1 rfl) ?_
                  refine tw_get (ci := 2) (C := RX2) (T := TX2) (N := 13) hx hb hB cx_inX2 hown hK TH hm0 hk0 rfl ⟨by decide, rfl⟩ 7 (by decide) cw_77 (fun _ h9 => h9) dX2_readRule_157 (fun hv => ?_)
                  rw [hzfxc181_0_0]
                  refine tw_iast (k := 138) (n := 10) (lo := 0) (hi := 500) hx hb hK TH hS hmxr187 hkxr187 (by decide) rfl (i := xi5) (x := zfxc181_0_0) (vp_in_iff.mpr ⟨by  omega, by  omega⟩) (by omega) (by omega) dX2_readRule_160 (fun H locs E188 TH hS hp189 hp190 hp191 => ?_)
                  have hst192 : tw_fr kp L [] [138] E180 E188 := tw_fr.ast tw_fr.rf (fun _ => hkxr187) hp189 hp190 (by decide)
                  have hF := hF.tr hst192 (fun _ h => ⟨h, rfl⟩) (by decide) (by decide)
                  have hmf193 : tw_fv E188 a0 1 = .int xi5 := (hst192.1 a0 1 hm0 (by rw [hk0]; decide)).trans hmf182
                  have hmf194 : tw_fv E188 a0 2 = .ref xr13 := (hst192.1 a0 2 hm0 (by rw [hk0]; decide)).trans hmf183
                  have hmf195 : tw_fv E188 a0 3 = .ref xr25 := (hst192.1 a0 3 hm0 (by rw [hk0]; decide)).trans hmf184
                  have hmf196 : tw_fv E188 a0 4 = .ref xr134 := (hst192.1 a0 4 hm0 (by rw [hk0]; decide)).trans hmf185
                  have hmf197 : tw_fv E188 a0 5 = .ref xr147 := (hst192.1 a0 5 hm0 (by rw [hk0]; decide)).trans hmf186
                  have hmf198 : tw_fv E188 a0 7 = .int zfxc181_0_0 := (hst192.1 a0 7 hm0 (by rw [hk0]; decide)).trans hzfxc181_0_0
                  have hmf199 : tw_fv E188 a1 3 = .int zfxc181_1_0 := (hst192.1 a1 3 hm1 (by rw [hk1]; decide)).trans hzfxc181_1_0
                  have hmf200 : tw_fv E188 a1 4 = .int zfxc181_1_1 := (hst192.1 a1 4 hm1 (by rw [hk1]; decide)).trans hzfxc181_1_1
                  have hmf201 : tw_fv E188 a0 6 = .ref xr187 := (hst192.1 a0 6 hm0 (by rw [hk0]; decide)).trans hxr187
                  have hg0_o := hg0
                  have hg1_o := hg1
                  have hg2_o := hg2
                  have hgn24_o := hgn24
                  have hgn37_o := hgn37
                  have hgn163_o := hgn163
                  have hg0 : sp_ok E188 a0 g0 := sp_ok_fr TH hst192 hm0 hk0 hmg0 hkg0 (by decide) (by decide) hg0
                  have hg1 : gm_ok E188 a0 := gm_ok_st TH hm0 hk0 hp189 hp190 hp191 (by omega) (by rw [tw_fi_of hmf182]; omega) hg1_o
                  have hg2 : gm_ok E188 g0 := gm_ok_oth (f := 6) TH hmg0 hkg0 hkxr187 (by decide) hxr187 hp189 hp190 hg0_o hg2_o
                  have hgn24 : el_is E188 a0 2 (xi5.toInt) (fv1_3.toInt) := e2_ok_fr TH hst192 hm0 hk0 (by decide) (by decide) hgn24
                  have hgn37 : el_is E188 a0 3 (xi5.toInt) (fv1_4.toInt) := e3_ok_fr TH hst192 hm0 hk0 (by decide) (by decide) hgn37
                  have hgn163 : el_is E188 a0 5 (xi5.toInt) (xi148.toInt) := e5_ok_fr TH hst192 hm0 hk0 (by decide) (by decide) hgn163
                  have hgn202 : el_is E188 a0 6 (xi5.toInt) (zfxc181_0_0.toInt) := el_is_st hxr187 hp189 hp190 hp191
                  refine lv_aload_n hx hb dX2_readRule_161 rfl (lv_at hl 2 rfl) ?_
                  refine tw_get (ci := 9) (C := RX9) (T := TX9) (N := 5) hx hb hB cx_inX9 hown hK TH hm1 hk1 rfl ⟨by decide, rfl⟩ 2 (by decide) cw_40 (fun _ h9 => h9) dX2_readRule_162 (fun hv => ?_)
                  obtain ⟨xi203, hxi203, hxi203a, hxi203b⟩ : ∃ x : Int32, tw_fv E188 a1 2 = .int x ∧ 0 ≤ x.toInt ∧ x.toInt ≤ 255 := hv
                  rw [hxi203]
                  refine lv_bipush (v := 59) hx hb dX2_readRule_165 (by decide) ?_
                  refine lv_icmp_eq (tgt := 175) hx hb dX2_readRule_167 (by decide) (fun hc204 => ?_) (fun hc204 => ?_)
                  · have hf205 : xi203.toInt = 59 := by have z := (fa_eq _ _).mp hc204; have : ((59 : Int32).toInt) = 59 := (by decide); omega
                    refine lv_aload_n hx hb dX2_readRule_175 rfl (lv_at hl 1 rfl) ?_
                    refine lv_dup hx hb dX2_readRule_176 rfl ?_
                    refine tw_get (ci := 2) (C := RX2) (T := TX2) (N := 13) hx hb hB cx_inX2 hown hK TH hm0 hk0 rfl ⟨by decide, rfl⟩ 1 (by decide) cw_68 (fun _ h9 => h9) dX2_readRule_177 (fun hv => ?_)
                    rw [hmf193]
                    refine lv_iconst (v := 1) hx hb dX2_readRule_180 (by decide) ?_
                    refine lv_iadd hx hb dX2_readRule_181 ?_
                    refine lv_topi (fun zi206 ezi206 => ?_)
                    have hzi206 : zi206.toInt = xi5.toInt + 1 := by rw [ezi206]; have : ((1 : Int32).toInt) = 1 := (by decide); have := ia_lo xi5; have := ia_hi xi5; exact (ia_add (by omega) (by omega)).trans (by omega)
                    refine tw_put (ci := 2) (v := .int zi206) (ty := .int) (C := RX2) (T := TX2) (N := 13) hx hb hB cx_inX2 tyX2 tyX2_ok nmX2 hown hK TH hS hm0 hk0 rfl ⟨by decide, rfl⟩ 1 (by decide) cw_68 (fun _ h9 => h9) rfl (by decide +kernel) rfl rfl ⟨_, rfl, (show 0 ≤ Int32.toInt zi206 from by  omega), (show Int32.toInt zi206 ≤ 10 from by  omega)⟩ dX2_readRule_182 (fun H locs E207 TH hS hmf211 hp208 hp209 => ?_)
                    have hst210 : tw_fr kp L [(2, 1)] [] E188 E207 := tw_fr.put tw_fr.rf (fun _ => hk0) (by decide) hp208 hp209 (by decide)
                    have hF := hF.tr hst210 (fun _ h => ⟨h, rfl⟩) (by decide) (by decide)
                    have hmf212 : tw_fv E207 a0 2 = .ref xr13 := (hst210.1 a0 2 hm0 (by rw [hk0]; decide)).trans hmf194
                    have hmf213 : tw_fv E207 a0 3 = .ref xr25 := (hst210.1 a0 3 hm0 (by rw [hk0]; decide)).trans hmf195
                    have hmf214 : tw_fv E207 a0 4 = .ref xr134 := (hst210.1 a0 4 hm0 (by rw [hk0]; decide)).trans hmf196
                    have hmf215 : tw_fv E207 a0 5 = .ref xr147 := (hst210.1 a0 5 hm0 (by rw [hk0]; decide)).trans hmf197
                    have hmf216 : tw_fv E207 a0 7 = .int zfxc181_0_0 := (hst210.1 a0 7 hm0 (by rw [hk0]; decide)).trans hmf198
                    have hmf217 : tw_fv E207 a1 3 = .int zfxc181_1_0 := (hst210.1 a1 3 hm1 (by rw [hk1]; decide)).trans hmf199
                    have hmf218 : tw_fv E207 a1 4 = .int zfxc181_1_1 := (hst210.1 a1 4 hm1 (by rw [hk1]; decide)).trans hmf200
                    have hmf219 : tw_fv E207 a0 6 = .ref xr187 := (hst210.1 a0 6 hm0 (by rw [hk0]; decide)).trans hmf201
                    have hmf220 : tw_fv E207 a1 2 = .int xi203 := (hst210.1 a1 2 hm1 (by rw [hk1]; decide)).trans hxi203
                    have hg0_o := hg0
                    have hg1_o := hg1
                    have hg2_o := hg2
                    have hgn24_o := hgn24
                    have hgn37_o := hgn37
                    have hgn163_o := hgn163
                    have hgn202_o := hgn202
                    have hg0 : sp_ok E207 a0 g0 := sp_ok_fr TH hst210 hm0 hk0 hmg0 hkg0 (by decide) (by decide) hg0
                    have hg1 : gm_ok E207 a0 := gm_ok_inc hmf211 hp208 hp209 TH hm0 hk0 (tw_fi_of hmf193) (by omega) (by omega) hgn24_o hgn37_o (by omega) hgn163_o hgn202_o (by omega) hg1_o
                    have hg2 : gm_ok E207 g0 := gm_ok_cnt hp208 hp209 TH hk0 hmg0 hkg0 (hg0_o).1 hg2_o
                    have hgn24 : el_is E207 a0 2 (xi5.toInt) (fv1_3.toInt) := e2_ok_fr TH hst210 hm0 hk0 (by decide) (by decide) hgn24
                    have hgn37 : el_is E207 a0 3 (xi5.toInt) (fv1_4.toInt) := e3_ok_fr TH hst210 hm0 hk0 (by decide) (by decide) hgn37
                    have hgn163 : el_is E207 a0 5 (xi5.toInt) (xi148.toInt) := e5_ok_fr TH hst210 hm0 hk0 (by decide) (by decide) hgn163
                    have hgn202 : el_is E207 a0 6 (xi5.toInt) (zfxc181_0_0.toInt) := e6_ok_fr TH hst210 hm0 hk0 (by decide) (by decide) hgn202
                    refine lv_aload_n hx hb dX2_readRule_185 rfl (lv_at hl 2 rfl) ?_
                    refine tw_Vc (o := a1) (ci := 9) (n := 0) (post := (fun v kq Lq Eq => v = none ∧ kp = kq ∧ L = Lq ∧ tw_fr kp L [(9, 2), (9, 3), (9, 4)] [] E207 Eq ∧ (∃ z0 z1 : Int32, tw_fv Eq a1 3 = .int z0 ∧ tw_fv Eq a1 4 = .int z1 ∧ (z0.toInt ≤ z1.toInt)))) (As := []) (rest := []) ⟨hx, hb, hml, hown, hB⟩ (fun sz => tX9_advance l D cs a1 hm1 hk1 sz) cg_2_71_X9_advance rfl rfl (by decide +kernel) ⟨Nat.le_of_ble_eq_true rfl, Nat.le_of_ble_eq_true rfl⟩ hK hN TH hS hA rfl hm1 hk1 (by decide) rfl hl.1 rfl (Nat.le_of_ble_eq_true rfl) dX2_readRule_186 ⟨Nat.le_of_ble_eq_true rfl, Nat.le_of_ble_eq_true rfl⟩ (fun v221 kp221 L221 E221 H locs hq221 hx221 TH hS => ?_)
                    obtain ⟨rfl, rfl, rfl, hst221, ⟨zfxc222_0_0, zfxc222_0_1, hzfxc222_0_0, hzfxc222_0_1, hzpxc222_0⟩⟩ := hq221
                    have hF := hF.tr hst221 (fun _ h => ⟨h, rfl⟩) (by decide) (by decide)
                    have hmf223 : tw_fv E221 a0 2 = .ref xr13 := (hst221.1 a0 2 hm0 (by rw [hk0]; decide)).trans hmf212
                    have hmf224 : tw_fv E221 a0 3 = .ref xr25 := (hst221.1 a0 3 hm0 (by rw [hk0]; decide)).trans hmf213
                    have hmf225 : tw_fv E221 a0 4 = .ref xr134 := (hst221.1 a0 4 hm0 (by rw [hk0]; decide)).trans hmf214
                    have hmf226 : tw_fv E221 a0 5 = .ref xr147 := (hst221.1 a0 5 hm0 (by rw [hk0]; decide)).trans hmf215
                    have hmf227 : tw_fv E221 a0 7 = .int zfxc181_0_0 := (hst221.1 a0 7 hm0 (by rw [hk0]; decide)).trans hmf216
                    have hmf228 : tw_fv E221 a0 6 = .ref xr187 := (hst221.1 a0 6 hm0 (by rw [hk0]; decide)).trans hmf219
                    have hmf229 : tw_fv E221 a0 1 = .int zi206 := (hst221.1 a0 1 hm0 (by rw [hk0]; decide)).trans hmf211
                    have hg0 : sp_ok E221 a0 g0 := sp_ok_fr TH hst221 hm0 hk0 hmg0 hkg0 (by decide) (by decide) hg0
                    have hg1 : gm_ok E221 a0 := gm_ok_fr TH hst221 hm0 hk0 (by decide) (by decide) hg1
                    have hg2 : gm_ok E221 g0 := gm_ok_fr TH hst221 hmg0 hkg0 (by decide) (by decide) hg2
                    have hgn24 : el_is E221 a0 2 (xi5.toInt) (fv1_3.toInt) := e2_ok_fr TH hst221 hm0 hk0 (by decide) (by decide) hgn24
                    have hgn37 : el_is E221 a0 3 (xi5.toInt) (fv1_4.toInt) := e3_ok_fr TH hst221 hm0 hk0 (by decide) (by decide) hgn37
                    have hgn163 : el_is E221 a0 5 (xi5.toInt) (xi148.toInt) := e5_ok_fr TH hst221 hm0 hk0 (by decide) (by decide) hgn163
                    have hgn202 : el_is E221 a0 6 (xi5.toInt) (zfxc181_0_0.toInt) := e6_ok_fr TH hst221 hm0 hk0 (by decide) (by decide) hgn202
                    obtain ⟨qzfxc222_0_0, hqzfxc222_0_0, hqzfxc222_0_0a, hqzfxc222_0_0b⟩ := tw_rd TH hm1 hk1 (by decide) (by decide) (k := 3) rfl
                    have eqzfxc222_0_0 : qzfxc222_0_0 = zfxc222_0_0 := by have q := hqzfxc222_0_0.symm.trans hzfxc222_0_0; injection q
                    rw [eqzfxc222_0_0] at hqzfxc222_0_0a hqzfxc222_0_0b
                    obtain ⟨qzfxc222_0_1, hqzfxc222_0_1, hqzfxc222_0_1a, hqzfxc222_0_1b⟩ := tw_rd TH hm1 hk1 (by decide) (by decide) (k := 4) rfl
                    have eqzfxc222_0_1 : qzfxc222_0_1 = zfxc222_0_1 := by have q := hqzfxc222_0_1.symm.trans hzfxc222_0_1; injection q
                    rw [eqzfxc222_0_1] at hqzfxc222_0_1a hqzfxc222_0_1b
                    refine W.eq (g2 := F0 m 189 ls []) rfl ?_
                    refine lv_iconst (v := (-1)) hx hb dX2_readRule_189 (by decide) ?_
                    exact tw_iret hx hb hr hlocks TH hS hex ⟨⟨_, rfl, (show (-1) ≤ Int32.toInt (-1) from by have : (((-1) : Int32).toInt) = (-1) := (by decide); omega), (show Int32.toInt (-1) ≤ 500 from by have : (((-1) : Int32).toInt) = (-1) := (by decide); omega), ⟨zfxc222_0_0, zfxc222_0_1, hzfxc222_0_0, hzfxc222_0_1, by have : (((-1) : Int32).toInt) = (-1) := (by decide); omega⟩, hg1, hg2⟩, rfl, rfl, hF⟩ (Nat.le_of_ble_eq_true rfl) (Nat.le_of_ble_eq_true rfl) dX2_readRule_190
                  · have hf230 : ¬ (xi203.toInt = 59) := fun q => hc204 ((fa_eq _ _).mpr (by have : ((59 : Int32).toInt) = 59 := (by decide); omega))
                    refine lv_aload_n hx hb dX2_readRule_170 rfl (lv_at hl 2 rfl) ?_
                    refine tw_get (ci := 9) (C := RX9) (T := TX9) (N := 5) hx hb hB cx_inX9 hown hK TH hm1 hk1 rfl ⟨by decide, rfl⟩ 3 (by decide) cw_44 (fun _ h9 => h9) dX2_readRule_171 (fun hv => ?_)
                    rw [hmf199]
                    exact tw_iret hx hb hr hlocks TH hS hex ⟨⟨_, rfl, (show (-1) ≤ Int32.toInt zfxc181_1_0 from by  omega), (show Int32.toInt zfxc181_1_0 ≤ 500 from by  omega), ⟨zfxc181_1_0, zfxc181_1_1, hmf199, hmf200, by  omega⟩, hg1, hg2⟩, rfl, rfl, hF⟩ (Nat.le_of_ble_eq_true rfl) (Nat.le_of_ble_eq_true rfl) dX2_readRule_174
                · have hf231 : xi43.toInt = 61 := by have z := (fa_eq _ _).mp hc178; have : ((61 : Int32).toInt) = 61 := (by decide); omega
                  exfalso; omega
              · have hf232 : ¬ (xi175.toInt = 1) := fun q => hc176 ((fa_eq _ _).mpr (by have : ((1 : Int32).toInt) = 1 := (by decide); omega))
                refine lv_aload_n hx hb dX2_readRule_127 rfl (lv_at hl 2 rfl) ?_
                refine tw_get (ci := 9) (C := RX9) (T := TX9) (N := 5) hx hb hB cx_inX9 hown hK TH hm1 hk1 rfl ⟨by decide, rfl⟩ 3 (by decide) cw_44 (fun _ h9 => h9) dX2_readRule_128 (fun hv => ?_)
                rw [hzfxc165_0_0]
                exact tw_iret hx hb hr hlocks TH hS hex ⟨⟨_, rfl, (show (-1) ≤ Int32.toInt zfxc165_0_0 from by  omega), (show Int32.toInt zfxc165_0_0 ≤ 500 from by  omega), ⟨zfxc165_0_0, zfxc165_0_1, hzfxc165_0_0, hzfxc165_0_1, by  omega⟩, hg1, hg2⟩, rfl, rfl, hF⟩ (Nat.le_of_ble_eq_true rfl) (Nat.le_of_ble_eq_true rfl) dX2_readRule_131
          · have hf233 : ¬ (xi43.toInt = 3) := fun q => hc132 ((fa_eq _ _).mpr (by have : ((3 : Int32).toInt) = 3 := (by decide); omega))
            refine lv_iload_n hx hb dX2_readRule_76 rfl (lv_at hl 0 rfl) ?_
            refine lv_bipush (v := 61) hx hb dX2_readRule_77 (by decide) ?_
            refine lv_icmp_eq (tgt := 87) hx hb dX2_readRule_79 (by decide) (fun hc234 => ?_) (fun hc234 => ?_)
            · have hf235 : xi43.toInt = 61 := by have z := (fa_eq _ _).mp hc234; have : ((61 : Int32).toInt) = 61 := (by decide); omega
              refine lv_aload_n hx hb dX2_readRule_87 rfl (lv_at hl 1 rfl) ?_
              refine tw_get (ci := 2) (C := RX2) (T := TX2) (N := 13) hx hb hB cx_inX2 hown hK TH hm0 hk0 rfl ⟨by decide, rfl⟩ 4 (by decide) cw_74 (fun _ h9 => h9) dX2_readRule_88 (fun hv => ?_)
              obtain ⟨xr236, hxr236, hmxr236, hkxr236⟩ : ∃ a : Nat, tw_fv E38 a0 4 = .ref a ∧ a ∈ L ∧ kp a = 131 := hv
              rw [hxr236]
              refine lv_aload_n hx hb dX2_readRule_91 rfl (lv_at hl 1 rfl) ?_
              refine tw_get (ci := 2) (C := RX2) (T := TX2) (N := 13) hx hb hB cx_inX2 hown hK TH hm0 hk0 rfl ⟨by decide, rfl⟩ 1 (by decide) cw_68 (fun _ h9 => h9) dX2_readRule_92 (fun hv => ?_)
              rw [hmf40]
              refine lv_iload_n hx hb dX2_readRule_95 rfl (lv_at hl 0 rfl) ?_
              refine tw_iast (k := 131) (n := 10) (lo := 0) (hi := 255) hx hb hK TH hS hmxr236 hkxr236 (by decide) rfl (i := xi5) (x := xi43) (vp_in_iff.mpr ⟨by  omega, by  omega⟩) (by omega) (by omega) dX2_readRule_96 (fun H locs E237 TH hS hp238 hp239 hp240 => ?_)
              have hst241 : tw_fr kp L [] [131] E38 E237 := tw_fr.ast tw_fr.rf (fun _ => hkxr236) hp238 hp239 (by decide)
              have hF := hF.tr hst241 (fun _ h => ⟨h, rfl⟩) (by decide) (by decide)
              have hmf242 : tw_fv E237 a0 1 = .int xi5 := (hst241.1 a0 1 hm0 (by rw [hk0]; decide)).trans hmf40
              have hmf243 : tw_fv E237 a0 2 = .ref xr13 := (hst241.1 a0 2 hm0 (by rw [hk0]; decide)).trans hmf41
              have hmf244 : tw_fv E237 a0 3 = .ref xr25 := (hst241.1 a0 3 hm0 (by rw [hk0]; decide)).trans hmf42
              have hmf245 : tw_fv E237 a1 3 = .int zfxc39_0_0 := (hst241.1 a1 3 hm1 (by rw [hk1]; decide)).trans hzfxc39_0_0
              have hmf246 : tw_fv E237 a1 4 = .int zfxc39_0_1 := (hst241.1 a1 4 hm1 (by rw [hk1]; decide)).trans hzfxc39_0_1
              have hmf247 : tw_fv E237 a1 2 = .int xi43 := (hst241.1 a1 2 hm1 (by rw [hk1]; decide)).trans hxi43
              have hmf248 : tw_fv E237 a0 4 = .ref xr236 := (hst241.1 a0 4 hm0 (by rw [hk0]; decide)).trans hxr236
              have hg0 : sp_ok E237 a0 g0 := sp_ok_fr TH hst241 hm0 hk0 hmg0 hkg0 (by decide) (by decide) hg0
              have hg1 : gm_ok E237 a0 := gm_ok_fr TH hst241 hm0 hk0 (by decide) (by decide) hg1
              have hg2 : gm_ok E237 g0 := gm_ok_fr TH hst241 hmg0 hkg0 (by decide) (by decide) hg2
              have hgn24 : el_is E237 a0 2 (xi5.toInt) (fv1_3.toInt) := e2_ok_fr TH hst241 hm0 hk0 (by decide) (by decide) hgn24
              have hgn37 : el_is E237 a0 3 (xi5.toInt) (fv1_4.toInt) := e3_ok_fr TH hst241 hm0 hk0 (by decide) (by decide) hgn37
              refine lv_aload_n hx hb dX2_readRule_97 rfl (lv_at hl 1 rfl) ?_
              refine tw_get (ci := 2) (C := RX2) (T := TX2) (N := 13) hx hb hB cx_inX2 hown hK TH hm0 hk0 rfl ⟨by decide, rfl⟩ 5 (by decide) cw_75 (fun _ h9 => h9) dX2_readRule_98 (fun hv => ?_)
              obtain ⟨xr249, hxr249, hmxr249, hkxr249⟩ : ∃ a : Nat, tw_fv E237 a0 5 = .ref a ∧ a ∈ L ∧ kp a = 136 := hv
              rw [hxr249]
              refine lv_aload_n hx hb dX2_readRule_101 rfl (lv_at hl 1 rfl) ?_
              refine tw_get (ci := 2) (C := RX2) (T := TX2) (N := 13) hx hb hB cx_inX2 hown hK TH hm0 hk0 rfl ⟨by decide, rfl⟩ 1 (by decide) cw_68 (fun _ h9 => h9) dX2_readRule_102 (fun hv => ?_)
              rw [hmf242]
              refine lv_aload_n hx hb dX2_readRule_105 rfl (lv_at hl 1 rfl) ?_
              refine tw_get (ci := 2) (C := RX2) (T := TX2) (N := 13) hx hb hB cx_inX2 hown hK TH hm0 hk0 rfl ⟨by decide, rfl⟩ 7 (by decide) cw_77 (fun _ h9 => h9) dX2_readRule_106 (fun hv => ?_)
              obtain ⟨xi250, hxi250, hxi250a, hxi250b⟩ : ∃ x : Int32, tw_fv E237 a0 7 = .int x ∧ 0 ≤ x.toInt ∧ x.toInt ≤ 500 := hv
              rw [hxi250]
              refine tw_iast (k := 136) (n := 10) (lo := 0) (hi := 500) hx hb hK TH hS hmxr249 hkxr249 (by decide) rfl (i := xi5) (x := xi250) (vp_in_iff.mpr ⟨by  omega, by  omega⟩) (by omega) (by omega) dX2_readRule_109 (fun H locs E251 TH hS hp252 hp253 hp254 => ?_)
              have hst255 : tw_fr kp L [] [136] E237 E251 := tw_fr.ast tw_fr.rf (fun _ => hkxr249) hp252 hp253 (by decide)
              have hF := hF.tr hst255 (fun _ h => ⟨h, rfl⟩) (by decide) (by decide)
              have hmf256 : tw_fv E251 a0 1 = .int xi5 := (hst255.1 a0 1 hm0 (by rw [hk0]; decide)).trans hmf242
              have hmf257 : tw_fv E251 a0 2 = .ref xr13 := (hst255.1 a0 2 hm0 (by rw [hk0]; decide)).trans hmf243
              have hmf258 : tw_fv E251 a0 3 = .ref xr25 := (hst255.1 a0 3 hm0 (by rw [hk0]; decide)).trans hmf244
              have hmf259 : tw_fv E251 a1 3 = .int zfxc39_0_0 := (hst255.1 a1 3 hm1 (by rw [hk1]; decide)).trans hmf245
              have hmf260 : tw_fv E251 a1 4 = .int zfxc39_0_1 := (hst255.1 a1 4 hm1 (by rw [hk1]; decide)).trans hmf246
              have hmf261 : tw_fv E251 a1 2 = .int xi43 := (hst255.1 a1 2 hm1 (by rw [hk1]; decide)).trans hmf247
              have hmf262 : tw_fv E251 a0 4 = .ref xr236 := (hst255.1 a0 4 hm0 (by rw [hk0]; decide)).trans hmf248
              have hmf263 : tw_fv E251 a0 5 = .ref xr249 := (hst255.1 a0 5 hm0 (by rw [hk0]; decide)).trans hxr249
              have hmf264 : tw_fv E251 a0 7 = .int xi250 := (hst255.1 a0 7 hm0 (by rw [hk0]; decide)).trans hxi250
              have hg0_o := hg0
              have hg1_o := hg1
              have hg2_o := hg2
              have hgn24_o := hgn24
              have hgn37_o := hgn37
              have hg0 : sp_ok E251 a0 g0 := sp_ok_fr TH hst255 hm0 hk0 hmg0 hkg0 (by decide) (by decide) hg0
              have hg1 : gm_ok E251 a0 := gm_ok_st TH hm0 hk0 hp252 hp253 hp254 (by omega) (by rw [tw_fi_of hmf242]; omega) hg1_o
              have hg2 : gm_ok E251 g0 := gm_ok_oth (f := 5) TH hmg0 hkg0 hkxr249 (by decide) hxr249 hp252 hp253 hg0_o hg2_o
              have hgn24 : el_is E251 a0 2 (xi5.toInt) (fv1_3.toInt) := e2_ok_fr TH hst255 hm0 hk0 (by decide) (by decide) hgn24
              have hgn37 : el_is E251 a0 3 (xi5.toInt) (fv1_4.toInt) := e3_ok_fr TH hst255 hm0 hk0 (by decide) (by decide) hgn37
              have hgn265 : el_is E251 a0 5 (xi5.toInt) (xi250.toInt) := el_is_st hxr249 hp252 hp253 hp254
              refine lv_aload_n hx hb dX2_readRule_110 rfl (lv_at hl 2 rfl) ?_
              refine tw_Vc (o := a1) (ci := 9) (n := 0) (post := (fun v kq Lq Eq => v = none ∧ kp = kq ∧ L = Lq ∧ tw_fr kp L [(9, 2), (9, 3), (9, 4)] [] E251 Eq ∧ (∃ z0 z1 : Int32, tw_fv Eq a1 3 = .int z0 ∧ tw_fv Eq a1 4 = .int z1 ∧ (z0.toInt ≤ z1.toInt)))) (As := []) (rest := []) ⟨hx, hb, hml, hown, hB⟩ (fun sz => tX9_advance l D cs a1 hm1 hk1 sz) cg_2_71_X9_advance rfl rfl (by decide +kernel) ⟨Nat.le_of_ble_eq_true rfl, Nat.le_of_ble_eq_true rfl⟩ hK hN TH hS hA rfl hm1 hk1 (by decide) rfl hl.1 rfl (Nat.le_of_ble_eq_true rfl) dX2_readRule_111 ⟨Nat.le_of_ble_eq_true rfl, Nat.le_of_ble_eq_true rfl⟩ (fun v266 kp266 L266 E266 H locs hq266 hx266 TH hS => ?_)
              obtain ⟨rfl, rfl, rfl, hst266, ⟨zfxc267_0_0, zfxc267_0_1, hzfxc267_0_0, hzfxc267_0_1, hzpxc267_0⟩⟩ := hq266
              have hF := hF.tr hst266 (fun _ h => ⟨h, rfl⟩) (by decide) (by decide)
              have hmf268 : tw_fv E266 a0 1 = .int xi5 := (hst266.1 a0 1 hm0 (by rw [hk0]; decide)).trans hmf256
              have hmf269 : tw_fv E266 a0 2 = .ref xr13 := (hst266.1 a0 2 hm0 (by rw [hk0]; decide)).trans hmf257
              have hmf270 : tw_fv E266 a0 3 = .ref xr25 := (hst266.1 a0 3 hm0 (by rw [hk0]; decide)).trans hmf258
              have hmf271 : tw_fv E266 a0 4 = .ref xr236 := (hst266.1 a0 4 hm0 (by rw [hk0]; decide)).trans hmf262
              have hmf272 : tw_fv E266 a0 5 = .ref xr249 := (hst266.1 a0 5 hm0 (by rw [hk0]; decide)).trans hmf263
              have hmf273 : tw_fv E266 a0 7 = .int xi250 := (hst266.1 a0 7 hm0 (by rw [hk0]; decide)).trans hmf264
              have hg0 : sp_ok E266 a0 g0 := sp_ok_fr TH hst266 hm0 hk0 hmg0 hkg0 (by decide) (by decide) hg0
              have hg1 : gm_ok E266 a0 := gm_ok_fr TH hst266 hm0 hk0 (by decide) (by decide) hg1
              have hg2 : gm_ok E266 g0 := gm_ok_fr TH hst266 hmg0 hkg0 (by decide) (by decide) hg2
              have hgn24 : el_is E266 a0 2 (xi5.toInt) (fv1_3.toInt) := e2_ok_fr TH hst266 hm0 hk0 (by decide) (by decide) hgn24
              have hgn37 : el_is E266 a0 3 (xi5.toInt) (fv1_4.toInt) := e3_ok_fr TH hst266 hm0 hk0 (by decide) (by decide) hgn37
              have hgn265 : el_is E266 a0 5 (xi5.toInt) (xi250.toInt) := e5_ok_fr TH hst266 hm0 hk0 (by decide) (by decide) hgn265
              obtain ⟨qzfxc267_0_0, hqzfxc267_0_0, hqzfxc267_0_0a, hqzfxc267_0_0b⟩ := tw_rd TH hm1 hk1 (by decide) (by decide) (k := 3) rfl
              have eqzfxc267_0_0 : qzfxc267_0_0 = zfxc267_0_0 := by have q := hqzfxc267_0_0.symm.trans hzfxc267_0_0; injection q
              rw [eqzfxc267_0_0] at hqzfxc267_0_0a hqzfxc267_0_0b
              obtain ⟨qzfxc267_0_1, hqzfxc267_0_1, hqzfxc267_0_1a, hqzfxc267_0_1b⟩ := tw_rd TH hm1 hk1 (by decide) (by decide) (k := 4) rfl
              have eqzfxc267_0_1 : qzfxc267_0_1 = zfxc267_0_1 := by have q := hqzfxc267_0_1.symm.trans hzfxc267_0_1; injection q
              rw [eqzfxc267_0_1] at hqzfxc267_0_1a hqzfxc267_0_1b
              refine W.eq (g2 := F0 m 114 ls []) rfl ?_
              refine lv_iload_n hx hb dX2_readRule_114 rfl (lv_at hl 0 rfl) ?_
              refine lv_iconst (v := 2) hx hb dX2_readRule_115 (by decide) ?_
              refine lv_icmp_eq (tgt := 148) hx hb dX2_readRule_116 (by decide) (fun hc274 => ?_) (fun hc274 => ?_)
              · have hf275 : xi43.toInt = 2 := by have z := (fa_eq _ _).mp hc274; have : ((2 : Int32).toInt) = 2 := (by decide); omega
                exfalso; omega
              · have hf276 : ¬ (xi43.toInt = 2) := fun q => hc274 ((fa_eq _ _).mpr (by have : ((2 : Int32).toInt) = 2 := (by decide); omega))
                refine lv_aload_n hx hb dX2_readRule_119 rfl (lv_at hl 2 rfl) ?_
                refine tw_get (ci := 9) (C := RX9) (T := TX9) (N := 5) hx hb hB cx_inX9 hown hK TH hm1 hk1 rfl ⟨by decide, rfl⟩ 2 (by decide) cw_40 (fun _ h9 => h9) dX2_readRule_120 (fun hv => ?_)
                obtain ⟨xi277, hxi277, hxi277a, hxi277b⟩ : ∃ x : Int32, tw_fv E266 a1 2 = .int x ∧ 0 ≤ x.toInt ∧ x.toInt ≤ 255 := hv
                rw [hxi277]
                refine lv_iconst (v := 1) hx hb dX2_readRule_123 (by decide) ?_
                refine lv_icmp_eq (tgt := 132) hx hb dX2_readRule_124 (by decide) (fun hc278 => ?_) (fun hc278 => ?_)
                · have hf279 : xi277.toInt = 1 := by have z := (fa_eq _ _).mp hc278; have : ((1 : Int32).toInt) = 1 := (by decide); omega
                  refine lv_aload_n hx hb dX2_readRule_132 rfl (lv_at hl 1 rfl) ?_
                  refine lv_aload_n hx hb dX2_readRule_133 rfl (lv_at hl 2 rfl) ?_
                  refine lv_iload_n hx hb dX2_readRule_134 rfl (lv_at hl 0 rfl) ?_
                  refine lv_bipush (v := 61) hx hb dX2_readRule_135 (by decide) ?_
                  refine lv_icmp_ne (tgt := 144) hx hb dX2_readRule_137 (by decide) (fun hc280 => ?_) (fun hc280 => ?_)
                  · have hf281 : ¬ (xi43.toInt = 61) := fun q => hc280 ((fa_eq _ _).mpr (by have : ((61 : Int32).toInt) = 61 := (by decide); omega))
                    exfalso; omega
                  · have hf282 : xi43.toInt = 61 := by have z := (fa_eq _ _).mp hc280; have : ((61 : Int32).toInt) = 61 := (by decide); omega
                    refine lv_iconst (v := 1) hx hb dX2_readRule_140 (by decide) ?_
                    refine lv_goto (tgt := 145) hx hb dX2_readRule_141 (by decide) ?_
                    refine tw_Vc (o := a0) (ci := 2) (n := 2) (post := (fun v kq Lq Eq => v = none ∧ kp = kq ∧ L = Lq ∧ tw_fr kp L [(2, 7), (9, 2), (9, 3), (9, 4)] [132, 134, 139] E266 Eq ∧ (∃ z0 : Int32, tw_fv Eq a0 7 = .int z0 ∧ (xi250.toInt ≤ z0.toInt)) ∧ (∃ z0 z1 : Int32, tw_fv Eq a1 3 = .int z0 ∧ tw_fv Eq a1 4 = .int z1 ∧ (z0.toInt ≤ z1.toInt)))) (As := [.ref a1, .int 1]) (rest := []) ⟨hx, hb, hml, hown, hB⟩ (fun sz => tX2_readItems l D cs a0 a1 (1 : Int32) zfxc267_0_0 zfxc267_0_1 xi250 hm0 hk0 hm1 hk1 (by have : ((1 : Int32).toInt) = 1 := (by decide); omega) (by have : ((1 : Int32).toInt) = 1 := (by decide); omega) hzfxc267_0_0 hzfxc267_0_1 hmf273 (by have : ((1 : Int32).toInt) = 1 := (by decide); omega) sz) cg_2_94_X2_readItems rfl rfl (by decide +kernel) ⟨Nat.le_of_ble_eq_true rfl, Nat.le_of_ble_eq_true rfl⟩ hK hN TH hS hA rfl hm0 hk0 (by decide) rfl hl.1 rfl (Nat.le_of_ble_eq_true rfl) dX2_readRule_145 ⟨Nat.le_of_ble_eq_true rfl, Nat.le_of_ble_eq_true rfl⟩ (fun v283 kp283 L283 E283 H locs hq283 hx283 TH hS => ?_)
                    obtain ⟨rfl, rfl, rfl, hst283, ⟨zfxc284_0_0, hzfxc284_0_0, hzpxc284_0⟩, ⟨zfxc284_1_0, zfxc284_1_1, hzfxc284_1_0, hzfxc284_1_1, hzpxc284_1⟩⟩ := hq283
                    have hF := hF.tr hst283 (fun _ h => ⟨h, rfl⟩) (by decide) (by decide)
                    have hmf285 : tw_fv E283 a0 1 = .int xi5 := (hst283.1 a0 1 hm0 (by rw [hk0]; decide)).trans hmf268
                    have hmf286 : tw_fv E283 a0 2 = .ref xr13 := (hst283.1 a0 2 hm0 (by rw [hk0]; decide)).trans hmf269
                    have hmf287 : tw_fv E283 a0 3 = .ref xr25 := (hst283.1 a0 3 hm0 (by rw [hk0]; decide)).trans hmf270
                    have hmf288 : tw_fv E283 a0 4 = .ref xr236 := (hst283.1 a0 4 hm0 (by rw [hk0]; decide)).trans hmf271
                    have hmf289 : tw_fv E283 a0 5 = .ref xr249 := (hst283.1 a0 5 hm0 (by rw [hk0]; decide)).trans hmf272
                    have hg0 : sp_ok E283 a0 g0 := sp_ok_fr TH hst283 hm0 hk0 hmg0 hkg0 (by decide) (by decide) hg0
                    have hg1 : gm_ok E283 a0 := gm_ok_fr TH hst283 hm0 hk0 (by decide) (by decide) hg1
                    have hg2 : gm_ok E283 g0 := gm_ok_fr TH hst283 hmg0 hkg0 (by decide) (by decide) hg2
                    have hgn24 : el_is E283 a0 2 (xi5.toInt) (fv1_3.toInt) := e2_ok_fr TH hst283 hm0 hk0 (by decide) (by decide) hgn24
                    have hgn37 : el_is E283 a0 3 (xi5.toInt) (fv1_4.toInt) := e3_ok_fr TH hst283 hm0 hk0 (by decide) (by decide) hgn37
                    have hgn265 : el_is E283 a0 5 (xi5.toInt) (xi250.toInt) := e5_ok_fr TH hst283 hm0 hk0 (by decide) (by decide) hgn265
                    obtain ⟨qzfxc284_0_0, hqzfxc284_0_0, hqzfxc284_0_0a, hqzfxc284_0_0b⟩ := tw_rd TH hm0 hk0 (by decide) (by decide) (k := 7) rfl
                    have eqzfxc284_0_0 : qzfxc284_0_0 = zfxc284_0_0 := by have q := hqzfxc284_0_0.symm.trans hzfxc284_0_0; injection q
                    rw [eqzfxc284_0_0] at hqzfxc284_0_0a hqzfxc284_0_0b
                    obtain ⟨qzfxc284_1_0, hqzfxc284_1_0, hqzfxc284_1_0a, hqzfxc284_1_0b⟩ := tw_rd TH hm1 hk1 (by decide) (by decide) (k := 3) rfl
                    have eqzfxc284_1_0 : qzfxc284_1_0 = zfxc284_1_0 := by have q := hqzfxc284_1_0.symm.trans hzfxc284_1_0; injection q
                    rw [eqzfxc284_1_0] at hqzfxc284_1_0a hqzfxc284_1_0b
                    obtain ⟨qzfxc284_1_1, hqzfxc284_1_1, hqzfxc284_1_1a, hqzfxc284_1_1b⟩ := tw_rd TH hm1 hk1 (by decide) (by decide) (k := 4) rfl
                    have eqzfxc284_1_1 : qzfxc284_1_1 = zfxc284_1_1 := by have q := hqzfxc284_1_1.symm.trans hzfxc284_1_1; injection q
                    rw [eqzfxc284_1_1] at hqzfxc284_1_1a hqzfxc284_1_1b
                    refine W.eq (g2 := F0 m 148 ls []) rfl ?_
                    refine lv_aload_n hx hb dX2_readRule_148 rfl (lv_at hl 1 rfl) ?_
                    refine tw_get (ci := 2) (C := RX2) (T := TX2) (N := 13) hx hb hB cx_inX2 hown hK TH hm0 hk0 rfl ⟨by decide, rfl⟩ 6 (by decide) cw_76 (fun _ h9 => h9) dX2_readRule_149 (fun hv => ?_)
                    obtain ⟨xr290, hxr290, hmxr290, hkxr290⟩ : ∃ a : Nat, tw_fv E283 a0 6 = .ref a ∧ a ∈ L ∧ kp a = 138 := hv
                    rw [hxr290]
                    refine lv_aload_n hx hb dX2_readRule_152 rfl (lv_at hl 1 rfl) ?_
                    refine tw_get (ci := 2) (C := RX2) (T := TX2) (N := 13) hx hb hB cx_inX2 hown hK TH hm0 hk0 rfl ⟨by decide, rfl⟩ 1 (by decide) cw_68 (fun _ h9 => h9) dX2_readRule_153 (fun hv => ?_)
                    rw [hmf285]
                    refine lv_aload_n hx hb dX2_readRule_156 rfl (lv_at hl 1 rfl) ?_
                    refine tw_get (ci := 2) (C := RX2) (T := TX2) (N := 13) hx hb hB cx_inX2 hown hK TH hm0 hk0 rfl ⟨by decide, rfl⟩ 7 (by decide) cw_77 (fun _ h9 => h9) dX2_readRule_157 (fun hv => ?_)
                    rw [hzfxc284_0_0]
                    refine tw_iast (k := 138) (n := 10) (lo := 0) (hi := 500) hx hb hK TH hS hmxr290 hkxr290 (by decide) rfl (i := xi5) (x := zfxc284_0_0) (vp_in_iff.mpr ⟨by  omega, by  omega⟩) (by omega) (by omega) dX2_readRule_160 (fun H locs E291 TH hS hp292 hp293 hp294 => ?_)
                    have hst295 : tw_fr kp L [] [138] E283 E291 := tw_fr.ast tw_fr.rf (fun _ => hkxr290) hp292 hp293 (by decide)
                    have hF := hF.tr hst295 (fun _ h => ⟨h, rfl⟩) (by decide) (by decide)
                    have hmf296 : tw_fv E291 a0 1 = .int xi5 := (hst295.1 a0 1 hm0 (by rw [hk0]; decide)).trans hmf285
                    have hmf297 : tw_fv E291 a0 2 = .ref xr13 := (hst295.1 a0 2 hm0 (by rw [hk0]; decide)).trans hmf286
                    have hmf298 : tw_fv E291 a0 3 = .ref xr25 := (hst295.1 a0 3 hm0 (by rw [hk0]; decide)).trans hmf287
                    have hmf299 : tw_fv E291 a0 4 = .ref xr236 := (hst295.1 a0 4 hm0 (by rw [hk0]; decide)).trans hmf288
                    have hmf300 : tw_fv E291 a0 5 = .ref xr249 := (hst295.1 a0 5 hm0 (by rw [hk0]; decide)).trans hmf289
                    have hmf301 : tw_fv E291 a0 7 = .int zfxc284_0_0 := (hst295.1 a0 7 hm0 (by rw [hk0]; decide)).trans hzfxc284_0_0
                    have hmf302 : tw_fv E291 a1 3 = .int zfxc284_1_0 := (hst295.1 a1 3 hm1 (by rw [hk1]; decide)).trans hzfxc284_1_0
                    have hmf303 : tw_fv E291 a1 4 = .int zfxc284_1_1 := (hst295.1 a1 4 hm1 (by rw [hk1]; decide)).trans hzfxc284_1_1
                    have hmf304 : tw_fv E291 a0 6 = .ref xr290 := (hst295.1 a0 6 hm0 (by rw [hk0]; decide)).trans hxr290
                    have hg0_o := hg0
                    have hg1_o := hg1
                    have hg2_o := hg2
                    have hgn24_o := hgn24
                    have hgn37_o := hgn37
                    have hgn265_o := hgn265
                    have hg0 : sp_ok E291 a0 g0 := sp_ok_fr TH hst295 hm0 hk0 hmg0 hkg0 (by decide) (by decide) hg0
                    have hg1 : gm_ok E291 a0 := gm_ok_st TH hm0 hk0 hp292 hp293 hp294 (by omega) (by rw [tw_fi_of hmf285]; omega) hg1_o
                    have hg2 : gm_ok E291 g0 := gm_ok_oth (f := 6) TH hmg0 hkg0 hkxr290 (by decide) hxr290 hp292 hp293 hg0_o hg2_o
                    have hgn24 : el_is E291 a0 2 (xi5.toInt) (fv1_3.toInt) := e2_ok_fr TH hst295 hm0 hk0 (by decide) (by decide) hgn24
                    have hgn37 : el_is E291 a0 3 (xi5.toInt) (fv1_4.toInt) := e3_ok_fr TH hst295 hm0 hk0 (by decide) (by decide) hgn37
                    have hgn265 : el_is E291 a0 5 (xi5.toInt) (xi250.toInt) := e5_ok_fr TH hst295 hm0 hk0 (by decide) (by decide) hgn265
                    have hgn305 : el_is E291 a0 6 (xi5.toInt) (zfxc284_0_0.toInt) := el_is_st hxr290 hp292 hp293 hp294
                    refine lv_aload_n hx hb dX2_readRule_161 rfl (lv_at hl 2 rfl) ?_
                    refine tw_get (ci := 9) (C := RX9) (T := TX9) (N := 5) hx hb hB cx_inX9 hown hK TH hm1 hk1 rfl ⟨by decide, rfl⟩ 2 (by decide) cw_40 (fun _ h9 => h9) dX2_readRule_162 (fun hv => ?_)
                    obtain ⟨xi306, hxi306, hxi306a, hxi306b⟩ : ∃ x : Int32, tw_fv E291 a1 2 = .int x ∧ 0 ≤ x.toInt ∧ x.toInt ≤ 255 := hv
                    rw [hxi306]
                    refine lv_bipush (v := 59) hx hb dX2_readRule_165 (by decide) ?_
                    refine lv_icmp_eq (tgt := 175) hx hb dX2_readRule_167 (by decide) (fun hc307 => ?_) (fun hc307 => ?_)
                    · have hf308 : xi306.toInt = 59 := by have z := (fa_eq _ _).mp hc307; have : ((59 : Int32).toInt) = 59 := (by decide); omega
                      refine lv_aload_n hx hb dX2_readRule_175 rfl (lv_at hl 1 rfl) ?_
                      refine lv_dup hx hb dX2_readRule_176 rfl ?_
                      refine tw_get (ci := 2) (C := RX2) (T := TX2) (N := 13) hx hb hB cx_inX2 hown hK TH hm0 hk0 rfl ⟨by decide, rfl⟩ 1 (by decide) cw_68 (fun _ h9 => h9) dX2_readRule_177 (fun hv => ?_)
                      rw [hmf296]
                      refine lv_iconst (v := 1) hx hb dX2_readRule_180 (by decide) ?_
                      refine lv_iadd hx hb dX2_readRule_181 ?_
                      refine lv_topi (fun zi309 ezi309 => ?_)
                      have hzi309 : zi309.toInt = xi5.toInt + 1 := by rw [ezi309]; have : ((1 : Int32).toInt) = 1 := (by decide); have := ia_lo xi5; have := ia_hi xi5; exact (ia_add (by omega) (by omega)).trans (by omega)
                      refine tw_put (ci := 2) (v := .int zi309) (ty := .int) (C := RX2) (T := TX2) (N := 13) hx hb hB cx_inX2 tyX2 tyX2_ok nmX2 hown hK TH hS hm0 hk0 rfl ⟨by decide, rfl⟩ 1 (by decide) cw_68 (fun _ h9 => h9) rfl (by decide +kernel) rfl rfl ⟨_, rfl, (show 0 ≤ Int32.toInt zi309 from by  omega), (show Int32.toInt zi309 ≤ 10 from by  omega)⟩ dX2_readRule_182 (fun H locs E310 TH hS hmf314 hp311 hp312 => ?_)
                      have hst313 : tw_fr kp L [(2, 1)] [] E291 E310 := tw_fr.put tw_fr.rf (fun _ => hk0) (by decide) hp311 hp312 (by decide)
                      have hF := hF.tr hst313 (fun _ h => ⟨h, rfl⟩) (by decide) (by decide)
                      have hmf315 : tw_fv E310 a0 2 = .ref xr13 := (hst313.1 a0 2 hm0 (by rw [hk0]; decide)).trans hmf297
                      have hmf316 : tw_fv E310 a0 3 = .ref xr25 := (hst313.1 a0 3 hm0 (by rw [hk0]; decide)).trans hmf298
                      have hmf317 : tw_fv E310 a0 4 = .ref xr236 := (hst313.1 a0 4 hm0 (by rw [hk0]; decide)).trans hmf299
                      have hmf318 : tw_fv E310 a0 5 = .ref xr249 := (hst313.1 a0 5 hm0 (by rw [hk0]; decide)).trans hmf300
                      have hmf319 : tw_fv E310 a0 7 = .int zfxc284_0_0 := (hst313.1 a0 7 hm0 (by rw [hk0]; decide)).trans hmf301
                      have hmf320 : tw_fv E310 a1 3 = .int zfxc284_1_0 := (hst313.1 a1 3 hm1 (by rw [hk1]; decide)).trans hmf302
                      have hmf321 : tw_fv E310 a1 4 = .int zfxc284_1_1 := (hst313.1 a1 4 hm1 (by rw [hk1]; decide)).trans hmf303
                      have hmf322 : tw_fv E310 a0 6 = .ref xr290 := (hst313.1 a0 6 hm0 (by rw [hk0]; decide)).trans hmf304
                      have hmf323 : tw_fv E310 a1 2 = .int xi306 := (hst313.1 a1 2 hm1 (by rw [hk1]; decide)).trans hxi306
                      have hg0_o := hg0
                      have hg1_o := hg1
                      have hg2_o := hg2
                      have hgn24_o := hgn24
                      have hgn37_o := hgn37
                      have hgn265_o := hgn265
                      have hgn305_o := hgn305
                      have hg0 : sp_ok E310 a0 g0 := sp_ok_fr TH hst313 hm0 hk0 hmg0 hkg0 (by decide) (by decide) hg0
                      have hg1 : gm_ok E310 a0 := gm_ok_inc hmf314 hp311 hp312 TH hm0 hk0 (tw_fi_of hmf296) (by omega) (by omega) hgn24_o hgn37_o (by omega) hgn265_o hgn305_o (by omega) hg1_o
                      have hg2 : gm_ok E310 g0 := gm_ok_cnt hp311 hp312 TH hk0 hmg0 hkg0 (hg0_o).1 hg2_o
                      have hgn24 : el_is E310 a0 2 (xi5.toInt) (fv1_3.toInt) := e2_ok_fr TH hst313 hm0 hk0 (by decide) (by decide) hgn24
                      have hgn37 : el_is E310 a0 3 (xi5.toInt) (fv1_4.toInt) := e3_ok_fr TH hst313 hm0 hk0 (by decide) (by decide) hgn37
                      have hgn265 : el_is E310 a0 5 (xi5.toInt) (xi250.toInt) := e5_ok_fr TH hst313 hm0 hk0 (by decide) (by decide) hgn265
                      have hgn305 : el_is E310 a0 6 (xi5.toInt) (zfxc284_0_0.toInt) := e6_ok_fr TH hst313 hm0 hk0 (by decide) (by decide) hgn305
                      refine lv_aload_n hx hb dX2_readRule_185 rfl (lv_at hl 2 rfl) ?_
                      refine tw_Vc (o := a1) (ci := 9) (n := 0) (post := (fun v kq Lq Eq => v = none ∧ kp = kq ∧ L = Lq ∧ tw_fr kp L [(9, 2), (9, 3), (9, 4)] [] E310 Eq ∧ (∃ z0 z1 : Int32, tw_fv Eq a1 3 = .int z0 ∧ tw_fv Eq a1 4 = .int z1 ∧ (z0.toInt ≤ z1.toInt)))) (As := []) (rest := []) ⟨hx, hb, hml, hown, hB⟩ (fun sz => tX9_advance l D cs a1 hm1 hk1 sz) cg_2_71_X9_advance rfl rfl (by decide +kernel) ⟨Nat.le_of_ble_eq_true rfl, Nat.le_of_ble_eq_true rfl⟩ hK hN TH hS hA rfl hm1 hk1 (by decide) rfl hl.1 rfl (Nat.le_of_ble_eq_true rfl) dX2_readRule_186 ⟨Nat.le_of_ble_eq_true rfl, Nat.le_of_ble_eq_true rfl⟩ (fun v324 kp324 L324 E324 H locs hq324 hx324 TH hS => ?_)
                      obtain ⟨rfl, rfl, rfl, hst324, ⟨zfxc325_0_0, zfxc325_0_1, hzfxc325_0_0, hzfxc325_0_1, hzpxc325_0⟩⟩ := hq324
                      have hF := hF.tr hst324 (fun _ h => ⟨h, rfl⟩) (by decide) (by decide)
                      have hmf326 : tw_fv E324 a0 2 = .ref xr13 := (hst324.1 a0 2 hm0 (by rw [hk0]; decide)).trans hmf315
                      have hmf327 : tw_fv E324 a0 3 = .ref xr25 := (hst324.1 a0 3 hm0 (by rw [hk0]; decide)).trans hmf316
                      have hmf328 : tw_fv E324 a0 4 = .ref xr236 := (hst324.1 a0 4 hm0 (by rw [hk0]; decide)).trans hmf317
                      have hmf329 : tw_fv E324 a0 5 = .ref xr249 := (hst324.1 a0 5 hm0 (by rw [hk0]; decide)).trans hmf318
                      have hmf330 : tw_fv E324 a0 7 = .int zfxc284_0_0 := (hst324.1 a0 7 hm0 (by rw [hk0]; decide)).trans hmf319
                      have hmf331 : tw_fv E324 a0 6 = .ref xr290 := (hst324.1 a0 6 hm0 (by rw [hk0]; decide)).trans hmf322
                      have hmf332 : tw_fv E324 a0 1 = .int zi309 := (hst324.1 a0 1 hm0 (by rw [hk0]; decide)).trans hmf314
                      have hg0 : sp_ok E324 a0 g0 := sp_ok_fr TH hst324 hm0 hk0 hmg0 hkg0 (by decide) (by decide) hg0
                      have hg1 : gm_ok E324 a0 := gm_ok_fr TH hst324 hm0 hk0 (by decide) (by decide) hg1
                      have hg2 : gm_ok E324 g0 := gm_ok_fr TH hst324 hmg0 hkg0 (by decide) (by decide) hg2
                      have hgn24 : el_is E324 a0 2 (xi5.toInt) (fv1_3.toInt) := e2_ok_fr TH hst324 hm0 hk0 (by decide) (by decide) hgn24
                      have hgn37 : el_is E324 a0 3 (xi5.toInt) (fv1_4.toInt) := e3_ok_fr TH hst324 hm0 hk0 (by decide) (by decide) hgn37
                      have hgn265 : el_is E324 a0 5 (xi5.toInt) (xi250.toInt) := e5_ok_fr TH hst324 hm0 hk0 (by decide) (by decide) hgn265
                      have hgn305 : el_is E324 a0 6 (xi5.toInt) (zfxc284_0_0.toInt) := e6_ok_fr TH hst324 hm0 hk0 (by decide) (by decide) hgn305
                      obtain ⟨qzfxc325_0_0, hqzfxc325_0_0, hqzfxc325_0_0a, hqzfxc325_0_0b⟩ := tw_rd TH hm1 hk1 (by decide) (by decide) (k := 3) rfl
                      have eqzfxc325_0_0 : qzfxc325_0_0 = zfxc325_0_0 := by have q := hqzfxc325_0_0.symm.trans hzfxc325_0_0; injection q
                      rw [eqzfxc325_0_0] at hqzfxc325_0_0a hqzfxc325_0_0b
                      obtain ⟨qzfxc325_0_1, hqzfxc325_0_1, hqzfxc325_0_1a, hqzfxc325_0_1b⟩ := tw_rd TH hm1 hk1 (by decide) (by decide) (k := 4) rfl
                      have eqzfxc325_0_1 : qzfxc325_0_1 = zfxc325_0_1 := by have q := hqzfxc325_0_1.symm.trans hzfxc325_0_1; injection q
                      rw [eqzfxc325_0_1] at hqzfxc325_0_1a hqzfxc325_0_1b
                      refine W.eq (g2 := F0 m 189 ls []) rfl ?_
                      refine lv_iconst (v := (-1)) hx hb dX2_readRule_189 (by decide) ?_
                      exact tw_iret hx hb hr hlocks TH hS hex ⟨⟨_, rfl, (show (-1) ≤ Int32.toInt (-1) from by have : (((-1) : Int32).toInt) = (-1) := (by decide); omega), (show Int32.toInt (-1) ≤ 500 from by have : (((-1) : Int32).toInt) = (-1) := (by decide); omega), ⟨zfxc325_0_0, zfxc325_0_1, hzfxc325_0_0, hzfxc325_0_1, by have : (((-1) : Int32).toInt) = (-1) := (by decide); omega⟩, hg1, hg2⟩, rfl, rfl, hF⟩ (Nat.le_of_ble_eq_true rfl) (Nat.le_of_ble_eq_true rfl) dX2_readRule_190
                    · have hf333 : ¬ (xi306.toInt = 59) := fun q => hc307 ((fa_eq _ _).mpr (by have : ((59 : Int32).toInt) = 59 := (by decide); omega))
                      refine lv_aload_n hx hb dX2_readRule_170 rfl (lv_at hl 2 rfl) ?_
                      refine tw_get (ci := 9) (C := RX9) (T := TX9) (N := 5) hx hb hB cx_inX9 hown hK TH hm1 hk1 rfl ⟨by decide, rfl⟩ 3 (by decide) cw_44 (fun _ h9 => h9) dX2_readRule_171 (fun hv => ?_)
                      rw [hmf302]
                      exact tw_iret hx hb hr hlocks TH hS hex ⟨⟨_, rfl, (show (-1) ≤ Int32.toInt zfxc284_1_0 from by  omega), (show Int32.toInt zfxc284_1_0 ≤ 500 from by  omega), ⟨zfxc284_1_0, zfxc284_1_1, hmf302, hmf303, by  omega⟩, hg1, hg2⟩, rfl, rfl, hF⟩ (Nat.le_of_ble_eq_true rfl) (Nat.le_of_ble_eq_true rfl) dX2_readRule_174
                · have hf334 : ¬ (xi277.toInt = 1) := fun q => hc278 ((fa_eq _ _).mpr (by have : ((1 : Int32).toInt) = 1 := (by decide); omega))
                  refine lv_aload_n hx hb dX2_readRule_127 rfl (lv_at hl 2 rfl) ?_
                  refine tw_get (ci := 9) (C := RX9) (T := TX9) (N := 5) hx hb hB cx_inX9 hown hK TH hm1 hk1 rfl ⟨by decide, rfl⟩ 3 (by decide) cw_44 (fun _ h9 => h9) dX2_readRule_128 (fun hv => ?_)
                  rw [hzfxc267_0_0]
                  exact tw_iret hx hb hr hlocks TH hS hex ⟨⟨_, rfl, (show (-1) ≤ Int32.toInt zfxc267_0_0 from by  omega), (show Int32.toInt zfxc267_0_0 ≤ 500 from by  omega), ⟨zfxc267_0_0, zfxc267_0_1, hzfxc267_0_0, hzfxc267_0_1, by  omega⟩, hg1, hg2⟩, rfl, rfl, hF⟩ (Nat.le_of_ble_eq_true rfl) (Nat.le_of_ble_eq_true rfl) dX2_readRule_131
            · have hf335 : ¬ (xi43.toInt = 61) := fun q => hc234 ((fa_eq _ _).mpr (by have : ((61 : Int32).toInt) = 61 := (by decide); omega))
              refine lv_aload_n hx hb dX2_readRule_82 rfl (lv_at hl 2 rfl) ?_
              refine tw_get (ci := 9) (C := RX9) (T := TX9) (N := 5) hx hb hB cx_inX9 hown hK TH hm1 hk1 rfl ⟨by decide, rfl⟩ 3 (by decide) cw_44 (fun _ h9 => h9) dX2_readRule_83 (fun hv => ?_)
              rw [hzfxc39_0_0]
              exact tw_iret hx hb hr hlocks TH hS hex ⟨⟨_, rfl, (show (-1) ≤ Int32.toInt zfxc39_0_0 from by  omega), (show Int32.toInt zfxc39_0_0 ≤ 500 from by  omega), ⟨zfxc39_0_0, zfxc39_0_1, hzfxc39_0_0, hzfxc39_0_1, by  omega⟩, hg1, hg2⟩, rfl, rfl, hF⟩ (Nat.le_of_ble_eq_true rfl) (Nat.le_of_ble_eq_true rfl) dX2_readRule_86
      · have hf336 : ¬ (xc10.toInt = (-1)) := fun q => hc11 ((fa_eq _ _).mpr (by have : (((-1) : Int32).toInt) = (-1) := (by decide); omega))
        refine lv_aload_n hx hb dX2_readRule_26 rfl (lv_at hl 1 rfl) ?_
        refine tw_get (ci := 9) (C := RX9) (T := TX9) (N := 5) hx hb hB cx_inX9 hown hK TH hm1 hk1 rfl ⟨by decide, rfl⟩ 3 (by decide) cw_44 (fun _ h9 => h9) dX2_readRule_27 (fun hv => ?_)
        rw [hfv1_3]
        exact tw_iret hx hb hr hlocks TH hS hex ⟨⟨_, rfl, (show (-1) ≤ Int32.toInt fv1_3 from by  omega), (show Int32.toInt fv1_3 ≤ 500 from by  omega), ⟨fv1_3, fv1_4, hfv1_3, hfv1_4, by  omega⟩, hg1, hg2⟩, rfl, rfl, hF⟩ (Nat.le_of_ble_eq_true rfl) (Nat.le_of_ble_eq_true rfl) dX2_readRule_30
set_option maxHeartbeats 4000000 in
set_option maxRecDepth 100000 in
theorem tX2_readFrom (l : Launch) (D : va_G) (cs : Nat → ClassId) {kp : Nat → Nat} {L : List Nat} {E : Nat → va_E} (a0 : Nat) (a1 : Nat) (g0 : Nat) (hm0 : a0 ∈ L) (hk0 : kp a0 = 2) (hm1 : a1 ∈ L) (hk1 : kp a1 = 9) (hmg0 : g0 ∈ L) (hkg0 : kp g0 = 2) (hg0 : sp_ok E a0 g0) (hg1 : gm_ok E g0) (sz : Nat) : Met l yX2_readFrom (.code yX2_readFrom cX2_readFrom 4 (some .int) :: cx_big) { frames := 9, cells := 0, slots := 0, locals := 191 } (tw_P D cs kp L E [.ref a0, .ref a1] sz) (tw_Q D cs kp L (fun v kq Lq Eq => (∃ x : Int32, v = some (.int x) ∧ (-1) ≤ x.toInt ∧ x.toInt ≤ 500 ∧ gm_ok Eq a0 ∧ gm_ok Eq g0) ∧ kp = kq ∧ L = Lq ∧ tw_fr kp L [(2, 1), (2, 7), (9, 2), (9, 3), (9, 4)] [100, 130, 131, 132, 133, 134, 136, 137, 138, 139] E Eq) (va_A (va_pl L E) sz)) 0 0 (va_A (va_pl L E) sz) := by
  refine tw_ofW (by decide) (Nat.le_of_ble_eq_true rfl) ?_
  intro p e s m below meth c A ls hx hb hr hml hB hown hlocks hK hN hA TH hS hl
  have hown : s.vm.findClass "TreeMerge$Grammar" = some m.cls := hown
  have hl : lv_has ls 4 [(0, .ref a0), (1, .ref a1)] := hl
  obtain ⟨kp0, ekp⟩ : ∃ z, z = kp := ⟨_, rfl⟩
  obtain ⟨L0, eL⟩ : ∃ z, z = L := ⟨_, rfl⟩
  rw [show tw_Q D cs kp L = tw_Q D cs kp0 L0 by rw [ekp, eL]]
  have hex : ∀ a : Nat, a ∈ L0 → a ∈ L ∧ kp a = kp0 a := fun a h => ⟨by rw [← eL]; exact h, by rw [ekp]⟩
  have hF : tw_fr kp L [(2, 1), (2, 7), (9, 2), (9, 3), (9, 4)] [100, 130, 131, 132, 133, 134, 136, 137, 138, 139] E E := tw_fr.rf
  refine lv_aload_n hx hb dX2_readFrom_0 rfl (lv_at hl 1 rfl) ?_
  refine tw_get (ci := 9) (C := RX9) (T := TX9) (N := 5) hx hb hB cx_inX9 hown hK TH hm1 hk1 rfl ⟨by decide, rfl⟩ 0 (by decide) cw_35 (fun _ h9 => h9) dX2_readFrom_1 (fun hv => ?_)
  obtain ⟨xr1, hxr1, hmxr1, hkxr1⟩ : ∃ a : Nat, tw_fv E a1 0 = .ref a ∧ a ∈ L ∧ kp a = 100 := hv
  rw [hxr1]
  refine lv_iconst (v := 0) hx hb dX2_readFrom_4 (by decide) ?_
  refine lv_aload_n hx hb dX2_readFrom_5 rfl (lv_at hl 0 rfl) ?_
  refine tw_get (ci := 2) (C := RX2) (T := TX2) (N := 13) hx hb hB cx_inX2 hown hK TH hm0 hk0 rfl ⟨by decide, rfl⟩ 0 (by decide) cw_66 (fun _ h9 => h9) dX2_readFrom_6 (fun hv => ?_)
  obtain ⟨xr2, hxr2, hmxr2, hkxr2⟩ : ∃ a : Nat, tw_fv E a0 0 = .ref a ∧ a ∈ L ∧ kp a = 100 := hv
  rw [hxr2]
  refine lv_iconst (v := 0) hx hb dX2_readFrom_9 (by decide) ?_
  refine lv_aload_n hx hb dX2_readFrom_10 rfl (lv_at hl 1 rfl) ?_
  refine tw_get (ci := 9) (C := RX9) (T := TX9) (N := 5) hx hb hB cx_inX9 hown hK TH hm1 hk1 rfl ⟨by decide, rfl⟩ 1 (by decide) cw_38 (fun _ h9 => h9) dX2_readFrom_11 (fun hv => ?_)
  obtain ⟨xi3, hxi3, hxi3a, hxi3b⟩ : ∃ x : Int32, tw_fv E a1 1 = .int x ∧ 0 ≤ x.toInt ∧ x.toInt ≤ 500 := hv
  rw [hxi3]
  refine tw_copyi (n0 := 500) (n1 := 500) (lo0 := 0) (hi0 := 255) (lo := 0) (hi := 255) hx hb (hml.trans hl.1.symm) hown (hB _ cw_604) (hB _ cw_606) (hB _ cw_605) (hB _ cw_18) hK TH hS hmxr1 hkxr1 (by decide) rfl hmxr2 hkxr2 (by decide) rfl (by decide) (by decide) (by have : ((0 : Int32).toInt) = 0 := (by decide); omega) (by have : ((0 : Int32).toInt) = 0 := (by decide); omega) (by omega) (by have : ((0 : Int32).toInt) = 0 := (by decide); omega) (by have : ((0 : Int32).toInt) = 0 := (by decide); omega) (Nat.le_of_ble_eq_true rfl) (Nat.le_of_ble_eq_true rfl) dX2_readFrom_14 (fun H locs E4 TH hS hp5 hp6 hp7 => ?_)
  have hst8 : tw_fr kp L [] [100] E E4 := tw_fr.ast tw_fr.rf (fun _ => hkxr2) hp5 hp6 (by decide)
  have hF := hF.tr hst8 (fun _ h => ⟨h, rfl⟩) (by decide) (by decide)
  have hmf9 : tw_fv E4 a1 0 = .ref xr1 := (hst8.1 a1 0 hm1 (by rw [hk1]; decide)).trans hxr1
  have hmf10 : tw_fv E4 a0 0 = .ref xr2 := (hst8.1 a0 0 hm0 (by rw [hk0]; decide)).trans hxr2
  have hmf11 : tw_fv E4 a1 1 = .int xi3 := (hst8.1 a1 1 hm1 (by rw [hk1]; decide)).trans hxi3
  have hg0 : sp_ok E4 a0 g0 := sp_ok_fr TH hst8 hm0 hk0 hmg0 hkg0 (by decide) (by decide) hg0
  have hg1 : gm_ok E4 g0 := gm_ok_fr TH hst8 hmg0 hkg0 (by decide) (by decide) hg1
  refine lv_aload_n hx hb dX2_readFrom_17 rfl (lv_at hl 0 rfl) ?_
  refine lv_iconst (v := 0) hx hb dX2_readFrom_18 (by decide) ?_
  refine tw_put (ci := 2) (v := .int 0) (ty := .int) (C := RX2) (T := TX2) (N := 13) hx hb hB cx_inX2 tyX2 tyX2_ok nmX2 hown hK TH hS hm0 hk0 rfl ⟨by decide, rfl⟩ 1 (by decide) cw_68 (fun _ h9 => h9) rfl (by decide +kernel) rfl rfl ⟨_, rfl, (show 0 ≤ Int32.toInt 0 from by have : ((0 : Int32).toInt) = 0 := (by decide); omega), (show Int32.toInt 0 ≤ 10 from by have : ((0 : Int32).toInt) = 0 := (by decide); omega)⟩ dX2_readFrom_19 (fun H locs E12 TH hS hmf16 hp13 hp14 => ?_)
  have hst15 : tw_fr kp L [(2, 1)] [] E4 E12 := tw_fr.put tw_fr.rf (fun _ => hk0) (by decide) hp13 hp14 (by decide)
  have hF := hF.tr hst15 (fun _ h => ⟨h, rfl⟩) (by decide) (by decide)
  have hmf17 : tw_fv E12 a1 0 = .ref xr1 := (hst15.1 a1 0 hm1 (by rw [hk1]; decide)).trans hmf9
  have hmf18 : tw_fv E12 a0 0 = .ref xr2 := (hst15.1 a0 0 hm0 (by rw [hk0]; decide)).trans hmf10
  have hmf19 : tw_fv E12 a1 1 = .int xi3 := (hst15.1 a1 1 hm1 (by rw [hk1]; decide)).trans hmf11
  have hg0_o := hg0
  have hg1_o := hg1
  have hg0 : sp_ok E12 a0 g0 := sp_ok_fr TH hst15 hm0 hk0 hmg0 hkg0 (by decide) (by decide) hg0
  have hg1 : gm_ok E12 g0 := gm_ok_cnt hp13 hp14 TH hk0 hmg0 hkg0 (hg0_o).1 hg1_o
  have hgn20 : gm_ok E12 a0 := gm_ok_zero hmf16 (by have : ((0 : Int32).toInt) = 0 := (by decide); omega)
  refine lv_aload_n hx hb dX2_readFrom_22 rfl (lv_at hl 0 rfl) ?_
  refine lv_iconst (v := 0) hx hb dX2_readFrom_23 (by decide) ?_
  refine tw_put (ci := 2) (v := .int 0) (ty := .int) (C := RX2) (T := TX2) (N := 13) hx hb hB cx_inX2 tyX2 tyX2_ok nmX2 hown hK TH hS hm0 hk0 rfl ⟨by decide, rfl⟩ 7 (by decide) cw_77 (fun _ h9 => h9) rfl (by decide +kernel) rfl rfl ⟨_, rfl, (show 0 ≤ Int32.toInt 0 from by have : ((0 : Int32).toInt) = 0 := (by decide); omega), (show Int32.toInt 0 ≤ 500 from by have : ((0 : Int32).toInt) = 0 := (by decide); omega)⟩ dX2_readFrom_24 (fun H locs E21 TH hS hmf25 hp22 hp23 => ?_)
  have hst24 : tw_fr kp L [(2, 7)] [] E12 E21 := tw_fr.put tw_fr.rf (fun _ => hk0) (by decide) hp22 hp23 (by decide)
  have hF := hF.tr hst24 (fun _ h => ⟨h, rfl⟩) (by decide) (by decide)
  have hmf26 : tw_fv E21 a1 0 = .ref xr1 := (hst24.1 a1 0 hm1 (by rw [hk1]; decide)).trans hmf17
  have hmf27 : tw_fv E21 a0 0 = .ref xr2 := (hst24.1 a0 0 hm0 (by rw [hk0]; decide)).trans hmf18
  have hmf28 : tw_fv E21 a1 1 = .int xi3 := (hst24.1 a1 1 hm1 (by rw [hk1]; decide)).trans hmf19
  have hmf29 : tw_fv E21 a0 1 = .int 0 := (hst24.1 a0 1 hm0 (by rw [hk0]; decide)).trans hmf16
  have hg0 : sp_ok E21 a0 g0 := sp_ok_fr TH hst24 hm0 hk0 hmg0 hkg0 (by decide) (by decide) hg0
  have hg1 : gm_ok E21 g0 := gm_ok_fr TH hst24 hmg0 hkg0 (by decide) (by decide) hg1
  have hgn20 : gm_ok E21 a0 := gm_ok_fr TH hst24 hm0 hk0 (by decide) (by decide) hgn20
  refine lv_aload_n hx hb dX2_readFrom_27 rfl (lv_at hl 1 rfl) ?_
  refine tw_Vc (o := a1) (ci := 9) (n := 0) (post := (fun v kq Lq Eq => v = none ∧ kp = kq ∧ L = Lq ∧ tw_fr kp L [(9, 4)] [] E21 Eq)) (As := []) (rest := []) ⟨hx, hb, hml, hown, hB⟩ (fun sz => tX9_rewind l D cs a1 hm1 hk1 sz) cg_2_68_X9_rewind rfl rfl (by decide +kernel) ⟨Nat.le_of_ble_eq_true rfl, Nat.le_of_ble_eq_true rfl⟩ hK hN TH hS hA rfl hm1 hk1 (by decide) rfl hl.1 rfl (Nat.le_of_ble_eq_true rfl) dX2_readFrom_28 ⟨Nat.le_of_ble_eq_true rfl, Nat.le_of_ble_eq_true rfl⟩ (fun v30 kp30 L30 E30 H locs hq30 hx30 TH hS => ?_)
  obtain ⟨rfl, rfl, rfl, hst30⟩ := hq30
  have hF := hF.tr hst30 (fun _ h => ⟨h, rfl⟩) (by decide) (by decide)
  have hmf32 : tw_fv E30 a1 0 = .ref xr1 := (hst30.1 a1 0 hm1 (by rw [hk1]; decide)).trans hmf26
  have hmf33 : tw_fv E30 a0 0 = .ref xr2 := (hst30.1 a0 0 hm0 (by rw [hk0]; decide)).trans hmf27
  have hmf34 : tw_fv E30 a1 1 = .int xi3 := (hst30.1 a1 1 hm1 (by rw [hk1]; decide)).trans hmf28
  have hmf35 : tw_fv E30 a0 1 = .int 0 := (hst30.1 a0 1 hm0 (by rw [hk0]; decide)).trans hmf29
  have hmf36 : tw_fv E30 a0 7 = .int 0 := (hst30.1 a0 7 hm0 (by rw [hk0]; decide)).trans hmf25
  have hg0 : sp_ok E30 a0 g0 := sp_ok_fr TH hst30 hm0 hk0 hmg0 hkg0 (by decide) (by decide) hg0
  have hg1 : gm_ok E30 g0 := gm_ok_fr TH hst30 hmg0 hkg0 (by decide) (by decide) hg1
  have hgn20 : gm_ok E30 a0 := gm_ok_fr TH hst30 hm0 hk0 (by decide) (by decide) hgn20
  refine W.eq (g2 := F0 m 31 ls []) rfl ?_
  refine lv_aload_n hx hb dX2_readFrom_31 rfl (lv_at hl 1 rfl) ?_
  refine tw_Vc (o := a1) (ci := 9) (n := 0) (post := (fun v kq Lq Eq => v = none ∧ kp = kq ∧ L = Lq ∧ tw_fr kp L [(9, 2), (9, 3), (9, 4)] [] E30 Eq ∧ (∃ z0 z1 : Int32, tw_fv Eq a1 3 = .int z0 ∧ tw_fv Eq a1 4 = .int z1 ∧ (z0.toInt ≤ z1.toInt)))) (As := []) (rest := []) ⟨hx, hb, hml, hown, hB⟩ (fun sz => tX9_advance l D cs a1 hm1 hk1 sz) cg_2_71_X9_advance rfl rfl (by decide +kernel) ⟨Nat.le_of_ble_eq_true rfl, Nat.le_of_ble_eq_true rfl⟩ hK hN TH hS hA rfl hm1 hk1 (by decide) rfl hl.1 rfl (Nat.le_of_ble_eq_true rfl) dX2_readFrom_32 ⟨Nat.le_of_ble_eq_true rfl, Nat.le_of_ble_eq_true rfl⟩ (fun v37 kp37 L37 E37 H locs hq37 hx37 TH hS => ?_)
  obtain ⟨rfl, rfl, rfl, hst37, ⟨zfxc38_0_0, zfxc38_0_1, hzfxc38_0_0, hzfxc38_0_1, hzpxc38_0⟩⟩ := hq37
  have hF := hF.tr hst37 (fun _ h => ⟨h, rfl⟩) (by decide) (by decide)
  have hmf39 : tw_fv E37 a1 0 = .ref xr1 := (hst37.1 a1 0 hm1 (by rw [hk1]; decide)).trans hmf32
  have hmf40 : tw_fv E37 a0 0 = .ref xr2 := (hst37.1 a0 0 hm0 (by rw [hk0]; decide)).trans hmf33
  have hmf41 : tw_fv E37 a1 1 = .int xi3 := (hst37.1 a1 1 hm1 (by rw [hk1]; decide)).trans hmf34
  have hmf42 : tw_fv E37 a0 1 = .int 0 := (hst37.1 a0 1 hm0 (by rw [hk0]; decide)).trans hmf35
  have hmf43 : tw_fv E37 a0 7 = .int 0 := (hst37.1 a0 7 hm0 (by rw [hk0]; decide)).trans hmf36
  have hg0 : sp_ok E37 a0 g0 := sp_ok_fr TH hst37 hm0 hk0 hmg0 hkg0 (by decide) (by decide) hg0
  have hg1 : gm_ok E37 g0 := gm_ok_fr TH hst37 hmg0 hkg0 (by decide) (by decide) hg1
  have hgn20 : gm_ok E37 a0 := gm_ok_fr TH hst37 hm0 hk0 (by decide) (by decide) hgn20
  obtain ⟨qzfxc38_0_0, hqzfxc38_0_0, hqzfxc38_0_0a, hqzfxc38_0_0b⟩ := tw_rd TH hm1 hk1 (by decide) (by decide) (k := 3) rfl
  have eqzfxc38_0_0 : qzfxc38_0_0 = zfxc38_0_0 := by have q := hqzfxc38_0_0.symm.trans hzfxc38_0_0; injection q
  rw [eqzfxc38_0_0] at hqzfxc38_0_0a hqzfxc38_0_0b
  obtain ⟨qzfxc38_0_1, hqzfxc38_0_1, hqzfxc38_0_1a, hqzfxc38_0_1b⟩ := tw_rd TH hm1 hk1 (by decide) (by decide) (k := 4) rfl
  have eqzfxc38_0_1 : qzfxc38_0_1 = zfxc38_0_1 := by have q := hqzfxc38_0_1.symm.trans hzfxc38_0_1; injection q
  rw [eqzfxc38_0_1] at hqzfxc38_0_1a hqzfxc38_0_1b
  refine W.eq (g2 := F0 m 35 ls []) rfl ?_
  refine lv_iconst (v := 0) hx hb dX2_readFrom_35 (by decide) ?_
  refine lv_istore_n (lv' := [(2, .int 0), (0, .ref a0), (1, .ref a1)]) hx hb dX2_readFrom_36 rfl hl (by decide) rfl (fun ls hl => ?_)
  have hJ37 : ∀ (n37 : Nat) (y37_2 : Int32) (u37_1_3 : Int32) (u37_1_4 : Int32) (Eg37 : Nat → va_E) (H : Heap) (locs : List Loc) (ls : Array Slot), 0 ≤ y37_2.toInt → y37_2.toInt ≤ 11 → 0 ≤ u37_1_3.toInt → u37_1_3.toInt ≤ 500 → 0 ≤ u37_1_4.toInt → u37_1_4.toInt ≤ 500 → (u37_1_3.toInt ≤ u37_1_4.toInt) → 11 - y37_2.toInt ≤ (n37 : Int) → tw_fv Eg37 a1 3 = .int u37_1_3 → tw_fv Eg37 a1 4 = .int u37_1_4 → tw_fr kp L [(2, 1), (2, 7), (9, 2), (9, 3), (9, 4)] [130, 131, 132, 134, 136, 137, 138, 139] E37 Eg37 → sp_ok Eg37 a0 g0 → gm_ok Eg37 g0 → gm_ok Eg37 a0 → tw_H D cs kp L Eg37 A H → va_S A s.heap H locs → lv_has ls 4 [(2, .int y37_2), (0, .ref a0), (1, .ref a1)] → W p l e { frames := 9, cells := 0, slots := 0, locals := 191 } s m [.ref a0, .ref a1].toArray below meth c H locs 0 0 (MQ below (tw_Q D cs kp0 L0 (fun v kq Lq Eq => (∃ x : Int32, v = some (.int x) ∧ (-1) ≤ x.toInt ∧ x.toInt ≤ 500 ∧ gm_ok Eq a0 ∧ gm_ok Eq g0) ∧ kp = kq ∧ L = Lq ∧ tw_fr kp L [(2, 1), (2, 7), (9, 2), (9, 3), (9, 4)] [100, 130, 131, 132, 133, 134, 136, 137, 138, 139] E Eq) A) [.ref a0, .ref a1].toArray s 0 0 A) (F0 m 37 ls []) := by
    intro n37
    induction n37 using Nat.strongRecOn with
    | _ n37 ih37 =>
      intro y37_2 u37_1_3 u37_1_4 Eg37 H locs ls hy37_2a hy37_2b hu37_1_3a hu37_1_3b hu37_1_4a hu37_1_4b hin37_0 hmeas37 hfm37_0 hfm37_1 hG37 hg0 hg1 hgn20 TH hS hl
      have hF := hF.tr hG37 (fun _ h => ⟨h, rfl⟩) (by decide) (by decide)
      have hmf44 : tw_fv Eg37 a1 0 = .ref xr1 := (hG37.1 a1 0 hm1 (by rw [hk1]; decide)).trans hmf39
      have hmf45 : tw_fv Eg37 a0 0 = .ref xr2 := (hG37.1 a0 0 hm0 (by rw [hk0]; decide)).trans hmf40
      have hmf46 : tw_fv Eg37 a1 1 = .int xi3 := (hG37.1 a1 1 hm1 (by rw [hk1]; decide)).trans hmf41
      refine lv_iload_n hx hb dX2_readFrom_37 rfl (lv_at hl 0 rfl) ?_
      refine lv_bipush (v := 10) hx hb dX2_readFrom_38 (by decide) ?_
      refine lv_icmp_gt (tgt := 72) hx hb dX2_readFrom_40 (by decide) (fun hc47 => ?_) (fun hc47 => ?_)
      · have hf48 : 10 < y37_2.toInt := by have z := (fa_lt _ _).mp hc47; have : ((10 : Int32).toInt) = 10 := (by decide); omega
        refine lv_aload_n hx hb dX2_readFrom_72 rfl (lv_at hl 1 rfl) ?_
        refine tw_Vc (o := a0) (ci := 2) (n := 0) (post := (fun v kq Lq Eq => (∃ x : Int32, v = some (.int x) ∧ (-1) ≤ x.toInt ∧ x.toInt ≤ 500) ∧ kp = kq ∧ L = Lq ∧ tw_fr kp L [] [133] Eg37 Eq)) (As := []) (rest := []) ⟨hx, hb, hml, hown, hB⟩ (fun sz => tX2_resolveItems l D cs a0 hm0 hk0 sz) cg_2_81_X2_resolveItems rfl rfl (by decide +kernel) ⟨Nat.le_of_ble_eq_true rfl, Nat.le_of_ble_eq_true rfl⟩ hK hN TH hS hA rfl hm0 hk0 (by decide) rfl hl.1 rfl (Nat.le_of_ble_eq_true rfl) dX2_readFrom_73 ⟨Nat.le_of_ble_eq_true rfl, Nat.le_of_ble_eq_true rfl⟩ (fun v49 kp49 L49 E49 H locs hq49 hx49 TH hS => ?_)
        obtain ⟨⟨xc50, rfl, hxc50a, hxc50b⟩, rfl, rfl, hst49⟩ := hq49
        have hF := hF.tr hst49 (fun _ h => ⟨h, rfl⟩) (by decide) (by decide)
        have hmf51 : tw_fv E49 a1 0 = .ref xr1 := (hst49.1 a1 0 hm1 (by rw [hk1]; decide)).trans hmf44
        have hmf52 : tw_fv E49 a0 0 = .ref xr2 := (hst49.1 a0 0 hm0 (by rw [hk0]; decide)).trans hmf45
        have hmf53 : tw_fv E49 a1 1 = .int xi3 := (hst49.1 a1 1 hm1 (by rw [hk1]; decide)).trans hmf46
        have hmf54 : tw_fv E49 a1 3 = .int u37_1_3 := (hst49.1 a1 3 hm1 (by rw [hk1]; decide)).trans hfm37_0
        have hmf55 : tw_fv E49 a1 4 = .int u37_1_4 := (hst49.1 a1 4 hm1 (by rw [hk1]; decide)).trans hfm37_1
        have hg0 : sp_ok E49 a0 g0 := sp_ok_fr TH hst49 hm0 hk0 hmg0 hkg0 (by decide) (by decide) hg0
        have hg1 : gm_ok E49 g0 := gm_ok_fr TH hst49 hmg0 hkg0 (by decide) (by decide) hg1
        have hgn20 : gm_ok E49 a0 := gm_ok_fr TH hst49 hm0 hk0 (by decide) (by decide) hgn20
        refine W.eq (g2 := F0 m 76 ls [.int xc50]) rfl ?_
        exact tw_iret hx hb hr hlocks TH hS hex ⟨⟨_, rfl, (show (-1) ≤ Int32.toInt xc50 from by  omega), (show Int32.toInt xc50 ≤ 500 from by  omega), hgn20, hg1⟩, rfl, rfl, hF⟩ (Nat.le_of_ble_eq_true rfl) (Nat.le_of_ble_eq_true rfl) dX2_readFrom_76
      · have hf56 : ¬ (10 < y37_2.toInt) := fun q => hc47 ((fa_lt _ _).mpr (by have : ((10 : Int32).toInt) = 10 := (by decide); omega))
        refine lv_aload_n hx hb dX2_readFrom_43 rfl (lv_at hl 1 rfl) ?_
        refine lv_aload_n hx hb dX2_readFrom_44 rfl (lv_at hl 2 rfl) ?_
        refine tw_Vc (o := a0) (ci := 2) (n := 1) (post := (fun v kq Lq Eq => (∃ x : Int32, v = some (.int x) ∧ (-1) ≤ x.toInt ∧ x.toInt ≤ 500 ∧ (∃ z0 z1 : Int32, tw_fv Eq a1 3 = .int z0 ∧ tw_fv Eq a1 4 = .int z1 ∧ (z0.toInt ≤ z1.toInt)) ∧ gm_ok Eq a0 ∧ gm_ok Eq g0) ∧ kp = kq ∧ L = Lq ∧ tw_fr kp L [(2, 1), (2, 7), (9, 2), (9, 3), (9, 4)] [130, 131, 132, 134, 136, 137, 138, 139] Eg37 Eq)) (As := [.ref a1]) (rest := []) ⟨hx, hb, hml, hown, hB⟩ (fun sz => tX2_readRule l D cs a0 a1 g0 u37_1_3 u37_1_4 hm0 hk0 hm1 hk1 hmg0 hkg0 hfm37_0 hfm37_1 (by  omega) hg0 hgn20 hg1 sz) cg_2_74_X2_readRule rfl rfl (by decide +kernel) ⟨Nat.le_of_ble_eq_true rfl, Nat.le_of_ble_eq_true rfl⟩ hK hN TH hS hA rfl hm0 hk0 (by decide) rfl hl.1 rfl (Nat.le_of_ble_eq_true rfl) dX2_readFrom_45 ⟨Nat.le_of_ble_eq_true rfl, Nat.le_of_ble_eq_true rfl⟩ (fun v57 kp57 L57 E57 H locs hq57 hx57 TH hS => ?_)
        obtain ⟨⟨xc58, rfl, hxc58a, hxc58b, ⟨zfxc58_0_0, zfxc58_0_1, hzfxc58_0_0, hzfxc58_0_1, hzpxc58_0⟩, hgpxc58_0, hgpxc58_1⟩, rfl, rfl, hst57⟩ := hq57
        have hF := hF.tr hst57 (fun _ h => ⟨h, rfl⟩) (by decide) (by decide)
        have hG37 := hG37.tr hst57 (fun _ h => ⟨h, rfl⟩) (by decide) (by decide)
        have hmf59 : tw_fv E57 a1 0 = .ref xr1 := (hst57.1 a1 0 hm1 (by rw [hk1]; decide)).trans hmf44
        have hmf60 : tw_fv E57 a0 0 = .ref xr2 := (hst57.1 a0 0 hm0 (by rw [hk0]; decide)).trans hmf45
        have hmf61 : tw_fv E57 a1 1 = .int xi3 := (hst57.1 a1 1 hm1 (by rw [hk1]; decide)).trans hmf46
        have hg0 : sp_ok E57 a0 g0 := sp_ok_fr TH hst57 hm0 hk0 hmg0 hkg0 (by decide) (by decide) hg0
        obtain ⟨qzfxc58_0_0, hqzfxc58_0_0, hqzfxc58_0_0a, hqzfxc58_0_0b⟩ := tw_rd TH hm1 hk1 (by decide) (by decide) (k := 3) rfl
        have eqzfxc58_0_0 : qzfxc58_0_0 = zfxc58_0_0 := by have q := hqzfxc58_0_0.symm.trans hzfxc58_0_0; injection q
        rw [eqzfxc58_0_0] at hqzfxc58_0_0a hqzfxc58_0_0b
        obtain ⟨qzfxc58_0_1, hqzfxc58_0_1, hqzfxc58_0_1a, hqzfxc58_0_1b⟩ := tw_rd TH hm1 hk1 (by decide) (by decide) (k := 4) rfl
        have eqzfxc58_0_1 : qzfxc58_0_1 = zfxc58_0_1 := by have q := hqzfxc58_0_1.symm.trans hzfxc58_0_1; injection q
        rw [eqzfxc58_0_1] at hqzfxc58_0_1a hqzfxc58_0_1b
        refine W.eq (g2 := F0 m 48 ls [.int xc58]) rfl ?_
        refine lv_istore_n (lv' := [(3, .int xc58), (2, .int y37_2), (0, .ref a0), (1, .ref a1)]) hx hb dX2_readFrom_48 rfl hl (by decide) rfl (fun ls hl => ?_)
        refine lv_iload_n hx hb dX2_readFrom_49 rfl (lv_at hl 0 rfl) ?_
        refine lv_iconst (v := (-1)) hx hb dX2_readFrom_50 (by decide) ?_
        refine lv_icmp_eq (tgt := 56) hx hb dX2_readFrom_51 (by decide) (fun hc62 => ?_) (fun hc62 => ?_)
        · have hf63 : xc58.toInt = (-1) := by have z := (fa_eq _ _).mp hc62; have : (((-1) : Int32).toInt) = (-1) := (by decide); omega
          refine lv_aload_n hx hb dX2_readFrom_56 rfl (lv_at hl 3 rfl) ?_
          refine tw_get (ci := 9) (C := RX9) (T := TX9) (N := 5) hx hb hB cx_inX9 hown hK TH hm1 hk1 rfl ⟨by decide, rfl⟩ 2 (by decide) cw_40 (fun _ h9 => h9) dX2_readFrom_57 (fun hv => ?_)
          obtain ⟨xi64, hxi64, hxi64a, hxi64b⟩ : ∃ x : Int32, tw_fv E57 a1 2 = .int x ∧ 0 ≤ x.toInt ∧ x.toInt ≤ 255 := hv
          rw [hxi64]
          refine lv_if_ne (tgt := 66) hx hb dX2_readFrom_60 (by decide) (fun hc65 => ?_) (fun hc65 => ?_)
          · have hf66 : ¬ (xi64.toInt = 0) := fun q => hc65 ((fa_eq _ _).mpr (by have : ((0 : Int32).toInt) = 0 := (by decide); omega))
            obtain ⟨zi67, ezi67⟩ : ∃ z : Int32, z = y37_2 + Int32.ofInt 1 := ⟨_, rfl⟩
            have hzi67 : zi67.toInt = y37_2.toInt + 1 := by rw [ezi67]; have : ((Int32.ofInt 1).toInt) = 1 := (by decide);  exact (ia_add (by omega) (by omega)).trans (by omega)
            refine lv_iinc (v := zi67) (lv' := [(2, .int zi67), (3, .int xc58), (0, .ref a0), (1, .ref a1)]) hx hb dX2_readFrom_66 hl (k := 1) rfl ezi67.symm (by decide) rfl (fun ls hl => ?_)
            refine lv_goto (tgt := 37) hx hb dX2_readFrom_69 (by decide) ?_
            exact ih37 (n37 - 1) (by   omega) zi67 zfxc58_0_0 zfxc58_0_1 _ _ _ ls (by omega) (by omega) (by omega) (by omega) (by omega) (by omega) (by  omega) (by   omega) hzfxc58_0_0 hzfxc58_0_1 hG37 hg0 hgpxc58_1 hgpxc58_0 TH hS (lv_sub hl [0, 2, 3] rfl)
          · have hf68 : xi64.toInt = 0 := by have z := (fa_eq _ _).mp hc65; have : ((0 : Int32).toInt) = 0 := (by decide); omega
            refine lv_goto (tgt := 72) hx hb dX2_readFrom_63 (by decide) ?_
            refine lv_aload_n hx hb dX2_readFrom_72 rfl (lv_at hl 2 rfl) ?_
            refine tw_Vc (o := a0) (ci := 2) (n := 0) (post := (fun v kq Lq Eq => (∃ x : Int32, v = some (.int x) ∧ (-1) ≤ x.toInt ∧ x.toInt ≤ 500) ∧ kp = kq ∧ L = Lq ∧ tw_fr kp L [] [133] E57 Eq)) (As := []) (rest := []) ⟨hx, hb, hml, hown, hB⟩ (fun sz => tX2_resolveItems l D cs a0 hm0 hk0 sz) cg_2_81_X2_resolveItems rfl rfl (by decide +kernel) ⟨Nat.le_of_ble_eq_true rfl, Nat.le_of_ble_eq_true rfl⟩ hK hN TH hS hA rfl hm0 hk0 (by decide) rfl hl.1 rfl (Nat.le_of_ble_eq_true rfl) dX2_readFrom_73 ⟨Nat.le_of_ble_eq_true rfl, Nat.le_of_ble_eq_true rfl⟩ (fun v69 kp69 L69 E69 H locs hq69 hx69 TH hS => ?_)
            obtain ⟨⟨xc70, rfl, hxc70a, hxc70b⟩, rfl, rfl, hst69⟩ := hq69
            have hF := hF.tr hst69 (fun _ h => ⟨h, rfl⟩) (by decide) (by decide)
            have hmf71 : tw_fv E69 a1 0 = .ref xr1 := (hst69.1 a1 0 hm1 (by rw [hk1]; decide)).trans hmf59
            have hmf72 : tw_fv E69 a0 0 = .ref xr2 := (hst69.1 a0 0 hm0 (by rw [hk0]; decide)).trans hmf60
            have hmf73 : tw_fv E69 a1 1 = .int xi3 := (hst69.1 a1 1 hm1 (by rw [hk1]; decide)).trans hmf61
            have hmf74 : tw_fv E69 a1 3 = .int zfxc58_0_0 := (hst69.1 a1 3 hm1 (by rw [hk1]; decide)).trans hzfxc58_0_0
            have hmf75 : tw_fv E69 a1 4 = .int zfxc58_0_1 := (hst69.1 a1 4 hm1 (by rw [hk1]; decide)).trans hzfxc58_0_1
            have hmf76 : tw_fv E69 a1 2 = .int xi64 := (hst69.1 a1 2 hm1 (by rw [hk1]; decide)).trans hxi64
            have hg0 : sp_ok E69 a0 g0 := sp_ok_fr TH hst69 hm0 hk0 hmg0 hkg0 (by decide) (by decide) hg0
            have hgpxc58_0 : gm_ok E69 a0 := gm_ok_fr TH hst69 hm0 hk0 (by decide) (by decide) hgpxc58_0
            have hgpxc58_1 : gm_ok E69 g0 := gm_ok_fr TH hst69 hmg0 hkg0 (by decide) (by decide) hgpxc58_1
            refine W.eq (g2 := F0 m 76 ls [.int xc70]) rfl ?_
            exact tw_iret hx hb hr hlocks TH hS hex ⟨⟨_, rfl, (show (-1) ≤ Int32.toInt xc70 from by  omega), (show Int32.toInt xc70 ≤ 500 from by  omega), hgpxc58_0, hgpxc58_1⟩, rfl, rfl, hF⟩ (Nat.le_of_ble_eq_true rfl) (Nat.le_of_ble_eq_true rfl) dX2_readFrom_76
        · have hf77 : ¬ (xc58.toInt = (-1)) := fun q => hc62 ((fa_eq _ _).mpr (by have : (((-1) : Int32).toInt) = (-1) := (by decide); omega))
          refine lv_iload_n hx hb dX2_readFrom_54 rfl (lv_at hl 0 rfl) ?_
          exact tw_iret hx hb hr hlocks TH hS hex ⟨⟨_, rfl, (show (-1) ≤ Int32.toInt xc58 from by  omega), (show Int32.toInt xc58 ≤ 500 from by  omega), hgpxc58_0, hgpxc58_1⟩, rfl, rfl, hF⟩ (Nat.le_of_ble_eq_true rfl) (Nat.le_of_ble_eq_true rfl) dX2_readFrom_55
  exact hJ37 12 (0 : Int32) zfxc38_0_0 zfxc38_0_1 _ _ _ ls (by have : ((0 : Int32).toInt) = 0 := (by decide); omega) (by have : ((0 : Int32).toInt) = 0 := (by decide); omega) (by omega) (by omega) (by omega) (by omega) (by have : ((0 : Int32).toInt) = 0 := (by decide); omega) (by have : ((0 : Int32).toInt) = 0 := (by decide);  omega) hzfxc38_0_0 hzfxc38_0_1 tw_fr.rf hg0 hg1 hgn20 TH hS (lv_sub hl [0, 1, 2] rfl)
set_option maxHeartbeats 4000000 in
set_option maxRecDepth 100000 in
theorem tX11_readTree (l : Launch) (D : va_G) (cs : Nat → ClassId) {kp : Nat → Nat} {L : List Nat} {E : Nat → va_E} (a0 : Nat) (hm0 : a0 ∈ L) (hk0 : kp a0 = 11) (sz : Nat) : Met l yX11_readTree (.code yX11_readTree cX11_readTree 2 (some .int) :: cx_big) { frames := 8, cells := 0, slots := 0, locals := 173 } (tw_P D cs kp L E [.ref a0] sz) (tw_Q D cs kp L (fun v kq Lq Eq => (∃ x : Int32, v = some (.int x) ∧ (-1) ≤ x.toInt ∧ x.toInt ≤ 500) ∧ kp = kq ∧ L = Lq ∧ tw_fr kp L [(9, 2), (9, 3), (9, 4), (10, 0)] [102, 110, 111, 112, 113, 114] E Eq) (va_A (va_pl L E) sz)) 0 0 (va_A (va_pl L E) sz) := by
  refine tw_ofW (by decide) (Nat.le_of_ble_eq_true rfl) ?_
  intro p e s m below meth c A ls hx hb hr hml hB hown hlocks hK hN hA TH hS hl
  have hown : s.vm.findClass "TreeMerge" = some m.cls := hown
  have hl : lv_has ls 2 [(0, .ref a0)] := hl
  obtain ⟨kp0, ekp⟩ : ∃ z, z = kp := ⟨_, rfl⟩
  obtain ⟨L0, eL⟩ : ∃ z, z = L := ⟨_, rfl⟩
  rw [show tw_Q D cs kp L = tw_Q D cs kp0 L0 by rw [ekp, eL]]
  have hex : ∀ a : Nat, a ∈ L0 → a ∈ L ∧ kp a = kp0 a := fun a h => ⟨by rw [← eL]; exact h, by rw [ekp]⟩
  have hF : tw_fr kp L [(9, 2), (9, 3), (9, 4), (10, 0)] [102, 110, 111, 112, 113, 114] E E := tw_fr.rf
  refine lv_aload_n hx hb dX11_readTree_0 rfl (lv_at hl 0 rfl) ?_
  refine tw_get (ci := 11) (C := RX11) (T := TX11) (N := 19) hx hb hB cx_inX11 hown hK TH hm0 hk0 rfl ⟨by decide, rfl⟩ 3 (by decide) cw_386 (fun _ h9 => h9) dX11_readTree_1 (fun hv => ?_)
  obtain ⟨xr1, hxr1, hmxr1, hkxr1⟩ : ∃ a : Nat, tw_fv E a0 3 = .ref a ∧ a ∈ L ∧ kp a = 10 := hv
  rw [hxr1]
  refine lv_aload_n hx hb dX11_readTree_4 rfl (lv_at hl 0 rfl) ?_
  refine tw_get (ci := 11) (C := RX11) (T := TX11) (N := 19) hx hb hB cx_inX11 hown hK TH hm0 hk0 rfl ⟨by decide, rfl⟩ 0 (by decide) cw_383 (fun _ h9 => h9) dX11_readTree_5 (fun hv => ?_)
  obtain ⟨xr2, hxr2, hmxr2, hkxr2⟩ : ∃ a : Nat, tw_fv E a0 0 = .ref a ∧ a ∈ L ∧ kp a = 9 := hv
  rw [hxr2]
  refine lv_aload_n hx hb dX11_readTree_8 rfl (lv_at hl 0 rfl) ?_
  refine tw_get (ci := 11) (C := RX11) (T := TX11) (N := 19) hx hb hB cx_inX11 hown hK TH hm0 hk0 rfl ⟨by decide, rfl⟩ 1 (by decide) cw_384 (fun _ h9 => h9) dX11_readTree_9 (fun hv => ?_)
  obtain ⟨xr3, hxr3, hmxr3, hkxr3⟩ : ∃ a : Nat, tw_fv E a0 1 = .ref a ∧ a ∈ L ∧ kp a = 2 := hv
  rw [hxr3]
  refine tw_Vc (o := xr1) (ci := 10) (n := 2) (post := (fun v kq Lq Eq => (∃ x : Int32, v = some (.int x) ∧ (-1) ≤ x.toInt ∧ x.toInt ≤ 500) ∧ kp = kq ∧ L = Lq ∧ tw_fr kp L [(9, 2), (9, 3), (9, 4), (10, 0)] [102, 110, 111, 114] E Eq)) (As := [.ref xr2, .ref xr3]) (rest := []) ⟨hx, hb, hml, hown, hB⟩ (fun sz => tX10_readFrom l D cs xr1 xr2 xr3 hmxr1 hkxr1 hmxr2 hkxr2 hmxr3 hkxr3 sz) cg_11_128_X10_readFrom rfl rfl (by decide +kernel) ⟨Nat.le_of_ble_eq_true rfl, Nat.le_of_ble_eq_true rfl⟩ hK hN TH hS hA rfl hmxr1 hkxr1 (by decide) rfl hl.1 rfl (Nat.le_of_ble_eq_true rfl) dX11_readTree_12 ⟨Nat.le_of_ble_eq_true rfl, Nat.le_of_ble_eq_true rfl⟩ (fun v4 kp4 L4 E4 H locs hq4 hx4 TH hS => ?_)
  obtain ⟨⟨xc5, rfl, hxc5a, hxc5b⟩, rfl, rfl, hst4⟩ := hq4
  have hF := hF.tr hst4 (fun _ h => ⟨h, rfl⟩) (by decide) (by decide)
  have hmf6 : tw_fv E4 a0 3 = .ref xr1 := (hst4.1 a0 3 hm0 (by rw [hk0]; decide)).trans hxr1
  have hmf7 : tw_fv E4 a0 0 = .ref xr2 := (hst4.1 a0 0 hm0 (by rw [hk0]; decide)).trans hxr2
  have hmf8 : tw_fv E4 a0 1 = .ref xr3 := (hst4.1 a0 1 hm0 (by rw [hk0]; decide)).trans hxr3
  refine W.eq (g2 := F0 m 15 ls [.int xc5]) rfl ?_
  refine lv_istore_n (lv' := [(1, .int xc5), (0, .ref a0)]) hx hb dX11_readTree_15 rfl hl (by decide) rfl (fun ls hl => ?_)
  refine lv_iload_n hx hb dX11_readTree_16 rfl (lv_at hl 0 rfl) ?_
  refine lv_iconst (v := (-1)) hx hb dX11_readTree_17 (by decide) ?_
  refine lv_icmp_ne (tgt := 36) hx hb dX11_readTree_18 (by decide) (fun hc9 => ?_) (fun hc9 => ?_)
  · have hf10 : ¬ (xc5.toInt = (-1)) := fun q => hc9 ((fa_eq _ _).mpr (by have : (((-1) : Int32).toInt) = (-1) := (by decide); omega))
    refine lv_iload_n hx hb dX11_readTree_36 rfl (lv_at hl 0 rfl) ?_
    exact tw_iret hx hb hr hlocks TH hS hex ⟨⟨_, rfl, (show (-1) ≤ Int32.toInt xc5 from by  omega), (show Int32.toInt xc5 ≤ 500 from by  omega)⟩, rfl, rfl, hF⟩ (Nat.le_of_ble_eq_true rfl) (Nat.le_of_ble_eq_true rfl) dX11_readTree_37
  · have hf11 : xc5.toInt = (-1) := by have z := (fa_eq _ _).mp hc9; have : (((-1) : Int32).toInt) = (-1) := (by decide); omega
    refine lv_aload_n hx hb dX11_readTree_21 rfl (lv_at hl 1 rfl) ?_
    refine tw_get (ci := 11) (C := RX11) (T := TX11) (N := 19) hx hb hB cx_inX11 hown hK TH hm0 hk0 rfl ⟨by decide, rfl⟩ 4 (by decide) cw_387 (fun _ h9 => h9) dX11_readTree_22 (fun hv => ?_)
    obtain ⟨xr12, hxr12, hmxr12, hkxr12⟩ : ∃ a : Nat, tw_fv E4 a0 4 = .ref a ∧ a ∈ L ∧ kp a = 10 := hv
    rw [hxr12]
    refine lv_aload_n hx hb dX11_readTree_25 rfl (lv_at hl 1 rfl) ?_
    refine tw_get (ci := 11) (C := RX11) (T := TX11) (N := 19) hx hb hB cx_inX11 hown hK TH hm0 hk0 rfl ⟨by decide, rfl⟩ 3 (by decide) cw_386 (fun _ h9 => h9) dX11_readTree_26 (fun hv => ?_)
    rw [hmf6]
    refine lv_aload_n hx hb dX11_readTree_29 rfl (lv_at hl 1 rfl) ?_
    refine tw_get (ci := 11) (C := RX11) (T := TX11) (N := 19) hx hb hB cx_inX11 hown hK TH hm0 hk0 rfl ⟨by decide, rfl⟩ 1 (by decide) cw_384 (fun _ h9 => h9) dX11_readTree_30 (fun hv => ?_)
    rw [hmf8]
    refine tw_Vc (o := xr12) (ci := 10) (n := 2) (post := (fun v kq Lq Eq => v = none ∧ kp = kq ∧ L = Lq ∧ tw_fr kp L [(10, 0)] [102, 110, 111, 112, 113, 114] E4 Eq)) (As := [.ref xr1, .ref xr3]) (rest := []) ⟨hx, hb, hml, hown, hB⟩ (fun sz => tX10_arrange l D cs xr12 xr1 xr3 hmxr12 hkxr12 hmxr1 hkxr1 hmxr3 hkxr3 sz) cg_11_131_X10_arrange rfl rfl (by decide +kernel) ⟨Nat.le_of_ble_eq_true rfl, Nat.le_of_ble_eq_true rfl⟩ hK hN TH hS hA rfl hmxr12 hkxr12 (by decide) rfl hl.1 rfl (Nat.le_of_ble_eq_true rfl) dX11_readTree_33 ⟨Nat.le_of_ble_eq_true rfl, Nat.le_of_ble_eq_true rfl⟩ (fun v13 kp13 L13 E13 H locs hq13 hx13 TH hS => ?_)
    obtain ⟨rfl, rfl, rfl, hst13⟩ := hq13
    have hF := hF.tr hst13 (fun _ h => ⟨h, rfl⟩) (by decide) (by decide)
    have hmf15 : tw_fv E13 a0 3 = .ref xr1 := (hst13.1 a0 3 hm0 (by rw [hk0]; decide)).trans hmf6
    have hmf16 : tw_fv E13 a0 0 = .ref xr2 := (hst13.1 a0 0 hm0 (by rw [hk0]; decide)).trans hmf7
    have hmf17 : tw_fv E13 a0 1 = .ref xr3 := (hst13.1 a0 1 hm0 (by rw [hk0]; decide)).trans hmf8
    have hmf18 : tw_fv E13 a0 4 = .ref xr12 := (hst13.1 a0 4 hm0 (by rw [hk0]; decide)).trans hxr12
    refine W.eq (g2 := F0 m 36 ls []) rfl ?_
    refine lv_iload_n hx hb dX11_readTree_36 rfl (lv_at hl 0 rfl) ?_
    exact tw_iret hx hb hr hlocks TH hS hex ⟨⟨_, rfl, (show (-1) ≤ Int32.toInt xc5 from by  omega), (show Int32.toInt xc5 ≤ 500 from by  omega)⟩, rfl, rfl, hF⟩ (Nat.le_of_ble_eq_true rfl) (Nat.le_of_ble_eq_true rfl) dX11_readTree_37
set_option maxHeartbeats 4000000 in
set_option maxRecDepth 100000 in
theorem tX11_readsAndFits (l : Launch) (D : va_G) (cs : Nat → ClassId) {kp : Nat → Nat} {L : List Nat} {E : Nat → va_E} (a0 : Nat) (hm0 : a0 ∈ L) (hk0 : kp a0 = 11) (hg0 : gz_ok E a0) (sz : Nat) : Met l yX11_readsAndFits (.code yX11_readsAndFits cX11_readsAndFits 1 (some .boolean) :: cx_big) { frames := 9, cells := 0, slots := 0, locals := 194 } (tw_P D cs kp L E [.ref a0] sz) (tw_Q D cs kp L (fun v kq Lq Eq => (∃ x : Int32, v = some (.int x) ∧ 0 ≤ x.toInt ∧ x.toInt ≤ 1 ∧ gz_ok Eq a0) ∧ kp = kq ∧ L = Lq ∧ tw_fr kp L [(3, 0), (9, 2), (9, 3), (9, 4), (10, 0)] [101, 102, 110, 111, 112, 113, 114, 135] E Eq) (va_A (va_pl L E) sz)) 0 0 (va_A (va_pl L E) sz) := by
  refine tw_ofW (by decide) (Nat.le_of_ble_eq_true rfl) ?_
  intro p e s m below meth c A ls hx hb hr hml hB hown hlocks hK hN hA TH hS hl
  have hown : s.vm.findClass "TreeMerge" = some m.cls := hown
  have hl : lv_has ls 1 [(0, .ref a0)] := hl
  obtain ⟨kp0, ekp⟩ : ∃ z, z = kp := ⟨_, rfl⟩
  obtain ⟨L0, eL⟩ : ∃ z, z = L := ⟨_, rfl⟩
  rw [show tw_Q D cs kp L = tw_Q D cs kp0 L0 by rw [ekp, eL]]
  have hex : ∀ a : Nat, a ∈ L0 → a ∈ L ∧ kp a = kp0 a := fun a h => ⟨by rw [← eL]; exact h, by rw [ekp]⟩
  have hF : tw_fr kp L [(3, 0), (9, 2), (9, 3), (9, 4), (10, 0)] [101, 102, 110, 111, 112, 113, 114, 135] E E := tw_fr.rf
  refine lv_aload_n hx hb dX11_readsAndFits_0 rfl (lv_at hl 0 rfl) ?_
  refine tw_Vc (o := a0) (ci := 11) (n := 0) (post := (fun v kq Lq Eq => (∃ x : Int32, v = some (.int x) ∧ (-1) ≤ x.toInt ∧ x.toInt ≤ 500) ∧ kp = kq ∧ L = Lq ∧ tw_fr kp L [(9, 2), (9, 3), (9, 4), (10, 0)] [102, 110, 111, 112, 113, 114] E Eq)) (As := []) (rest := []) ⟨hx, hb, hml, hown, hB⟩ (fun sz => tX11_readTree l D cs a0 hm0 hk0 sz) cg_11_113_X11_readTree rfl rfl (by decide +kernel) ⟨Nat.le_of_ble_eq_true rfl, Nat.le_of_ble_eq_true rfl⟩ hK hN TH hS hA rfl hm0 hk0 (by decide) rfl hl.1 rfl (Nat.le_of_ble_eq_true rfl) dX11_readsAndFits_1 ⟨Nat.le_of_ble_eq_true rfl, Nat.le_of_ble_eq_true rfl⟩ (fun v1 kp1 L1 E1 H locs hq1 hx1 TH hS => ?_)
  obtain ⟨⟨xc2, rfl, hxc2a, hxc2b⟩, rfl, rfl, hst1⟩ := hq1
  have hF := hF.tr hst1 (fun _ h => ⟨h, rfl⟩) (by decide) (by decide)
  have hg0 : gz_ok E1 a0 := gz_ok_fr TH hst1 hm0 hk0 (by decide) (by decide) hg0
  refine W.eq (g2 := F0 m 4 ls [.int xc2]) rfl ?_
  refine lv_iconst (v := (-1)) hx hb dX11_readsAndFits_4 (by decide) ?_
  refine lv_icmp_ne (tgt := 31) hx hb dX11_readsAndFits_5 (by decide) (fun hc3 => ?_) (fun hc3 => ?_)
  · have hf4 : ¬ (xc2.toInt = (-1)) := fun q => hc3 ((fa_eq _ _).mpr (by have : (((-1) : Int32).toInt) = (-1) := (by decide); omega))
    refine lv_iconst (v := 0) hx hb dX11_readsAndFits_31 (by decide) ?_
    exact tw_zret hx hb hr hlocks (by decide) TH hS hex ⟨⟨_, rfl, (show 0 ≤ Int32.toInt 0 from by have : ((0 : Int32).toInt) = 0 := (by decide); omega), (show Int32.toInt 0 ≤ 1 from by have : ((0 : Int32).toInt) = 0 := (by decide); omega), hg0⟩, rfl, rfl, hF⟩ (Nat.le_of_ble_eq_true rfl) (Nat.le_of_ble_eq_true rfl) dX11_readsAndFits_32
  · have hf5 : xc2.toInt = (-1) := by have z := (fa_eq _ _).mp hc3; have : (((-1) : Int32).toInt) = (-1) := (by decide); omega
    refine lv_aload_n hx hb dX11_readsAndFits_8 rfl (lv_at hl 0 rfl) ?_
    refine tw_get (ci := 11) (C := RX11) (T := TX11) (N := 19) hx hb hB cx_inX11 hown hK TH hm0 hk0 rfl ⟨by decide, rfl⟩ 4 (by decide) cw_387 (fun _ h9 => h9) dX11_readsAndFits_9 (fun hv => ?_)
    obtain ⟨xr6, hxr6, hmxr6, hkxr6⟩ : ∃ a : Nat, tw_fv E1 a0 4 = .ref a ∧ a ∈ L ∧ kp a = 10 := hv
    rw [hxr6]
    refine lv_aload_n hx hb dX11_readsAndFits_12 rfl (lv_at hl 0 rfl) ?_
    refine tw_get (ci := 11) (C := RX11) (T := TX11) (N := 19) hx hb hB cx_inX11 hown hK TH hm0 hk0 rfl ⟨by decide, rfl⟩ 1 (by decide) cw_384 (fun _ h9 => h9) dX11_readsAndFits_13 (fun hv => ?_)
    obtain ⟨xr7, hxr7, hmxr7, hkxr7⟩ : ∃ a : Nat, tw_fv E1 a0 1 = .ref a ∧ a ∈ L ∧ kp a = 2 := hv
    rw [hxr7]
    have hgm8 : gm_ok E1 xr7 := by have q := hg0; unfold gz_ok at q; rw [tw_fa_of hxr7] at q; exact q
    refine lv_aload_n hx hb dX11_readsAndFits_16 rfl (lv_at hl 0 rfl) ?_
    refine tw_get (ci := 11) (C := RX11) (T := TX11) (N := 19) hx hb hB cx_inX11 hown hK TH hm0 hk0 rfl ⟨by decide, rfl⟩ 5 (by decide) cw_388 (fun _ h9 => h9) dX11_readsAndFits_17 (fun hv => ?_)
    obtain ⟨xr9, hxr9, hmxr9, hkxr9⟩ : ∃ a : Nat, tw_fv E1 a0 5 = .ref a ∧ a ∈ L ∧ kp a = 3 := hv
    rw [hxr9]
    refine tw_Vc (o := xr6) (ci := 10) (n := 2) (post := (fun v kq Lq Eq => (∃ x : Int32, v = some (.int x) ∧ (-1) ≤ x.toInt ∧ x.toInt ≤ 39 ∧ gm_ok Eq xr7) ∧ kp = kq ∧ L = Lq ∧ tw_fr kp L [(3, 0)] [101, 102, 135] E1 Eq)) (As := [.ref xr7, .ref xr9]) (rest := []) ⟨hx, hb, hml, hown, hB⟩ (fun sz => tX10_firstBreak l D cs xr6 xr7 xr9 hmxr6 hkxr6 hmxr7 hkxr7 hmxr9 hkxr9 hgm8 sz) cg_11_124_X10_firstBreak rfl rfl (by decide +kernel) ⟨Nat.le_of_ble_eq_true rfl, Nat.le_of_ble_eq_true rfl⟩ hK hN TH hS hA rfl hmxr6 hkxr6 (by decide) rfl hl.1 rfl (Nat.le_of_ble_eq_true rfl) dX11_readsAndFits_20 ⟨Nat.le_of_ble_eq_true rfl, Nat.le_of_ble_eq_true rfl⟩ (fun v10 kp10 L10 E10 H locs hq10 hx10 TH hS => ?_)
    obtain ⟨⟨xc11, rfl, hxc11a, hxc11b, hgpxc11_0⟩, rfl, rfl, hst10⟩ := hq10
    have hF := hF.tr hst10 (fun _ h => ⟨h, rfl⟩) (by decide) (by decide)
    have hmf12 : tw_fv E10 a0 4 = .ref xr6 := (hst10.1 a0 4 hm0 (by rw [hk0]; decide)).trans hxr6
    have hmf13 : tw_fv E10 a0 1 = .ref xr7 := (hst10.1 a0 1 hm0 (by rw [hk0]; decide)).trans hxr7
    have hmf14 : tw_fv E10 a0 5 = .ref xr9 := (hst10.1 a0 5 hm0 (by rw [hk0]; decide)).trans hxr9
    have hg0 : gz_ok E10 a0 := gz_ok_fr TH hst10 hm0 hk0 (by decide) (by decide) hg0
    refine W.eq (g2 := F0 m 23 ls [.int xc11]) rfl ?_
    refine lv_iconst (v := (-1)) hx hb dX11_readsAndFits_23 (by decide) ?_
    refine lv_icmp_ne (tgt := 31) hx hb dX11_readsAndFits_24 (by decide) (fun hc15 => ?_) (fun hc15 => ?_)
    · have hf16 : ¬ (xc11.toInt = (-1)) := fun q => hc15 ((fa_eq _ _).mpr (by have : (((-1) : Int32).toInt) = (-1) := (by decide); omega))
      refine lv_iconst (v := 0) hx hb dX11_readsAndFits_31 (by decide) ?_
      exact tw_zret hx hb hr hlocks (by decide) TH hS hex ⟨⟨_, rfl, (show 0 ≤ Int32.toInt 0 from by have : ((0 : Int32).toInt) = 0 := (by decide); omega), (show Int32.toInt 0 ≤ 1 from by have : ((0 : Int32).toInt) = 0 := (by decide); omega), hg0⟩, rfl, rfl, hF⟩ (Nat.le_of_ble_eq_true rfl) (Nat.le_of_ble_eq_true rfl) dX11_readsAndFits_32
    · have hf17 : xc11.toInt = (-1) := by have z := (fa_eq _ _).mp hc15; have : (((-1) : Int32).toInt) = (-1) := (by decide); omega
      refine lv_iconst (v := 1) hx hb dX11_readsAndFits_27 (by decide) ?_
      refine lv_goto (tgt := 32) hx hb dX11_readsAndFits_28 (by decide) ?_
      exact tw_zret hx hb hr hlocks (by decide) TH hS hex ⟨⟨_, rfl, (show 0 ≤ Int32.toInt 1 from by have : ((1 : Int32).toInt) = 1 := (by decide); omega), (show Int32.toInt 1 ≤ 1 from by have : ((1 : Int32).toInt) = 1 := (by decide); omega), hg0⟩, rfl, rfl, hF⟩ (Nat.le_of_ble_eq_true rfl) (Nat.le_of_ble_eq_true rfl) dX11_readsAndFits_32
set_option maxHeartbeats 4000000 in
set_option maxRecDepth 100000 in
theorem tX11_breaks (l : Launch) (D : va_G) (cs : Nat → ClassId) {kp : Nat → Nat} {L : List Nat} {E : Nat → va_E} (a0 : Nat) (hm0 : a0 ∈ L) (hk0 : kp a0 = 11) (hg0 : gz_ok E a0) (sz : Nat) : Met l yX11_breaks (.code yX11_breaks cX11_breaks 1 (some .int) :: cx_big) { frames := 9, cells := 0, slots := 0, locals := 194 } (tw_P D cs kp L E [.ref a0] sz) (tw_Q D cs kp L (fun v kq Lq Eq => (∃ x : Int32, v = some (.int x) ∧ gz_ok Eq a0) ∧ kp = kq ∧ L = Lq ∧ tw_fr kp L [(3, 0), (9, 2), (9, 3), (9, 4), (10, 0)] [101, 102, 110, 111, 112, 113, 114, 135] E Eq) (va_A (va_pl L E) sz)) 0 0 (va_A (va_pl L E) sz) := by
  refine tw_ofW (by decide) (Nat.le_of_ble_eq_true rfl) ?_
  intro p e s m below meth c A ls hx hb hr hml hB hown hlocks hK hN hA TH hS hl
  have hown : s.vm.findClass "TreeMerge" = some m.cls := hown
  have hl : lv_has ls 1 [(0, .ref a0)] := hl
  obtain ⟨kp0, ekp⟩ : ∃ z, z = kp := ⟨_, rfl⟩
  obtain ⟨L0, eL⟩ : ∃ z, z = L := ⟨_, rfl⟩
  rw [show tw_Q D cs kp L = tw_Q D cs kp0 L0 by rw [ekp, eL]]
  have hex : ∀ a : Nat, a ∈ L0 → a ∈ L ∧ kp a = kp0 a := fun a h => ⟨by rw [← eL]; exact h, by rw [ekp]⟩
  have hF : tw_fr kp L [(3, 0), (9, 2), (9, 3), (9, 4), (10, 0)] [101, 102, 110, 111, 112, 113, 114, 135] E E := tw_fr.rf
  refine lv_aload_n hx hb dX11_breaks_0 rfl (lv_at hl 0 rfl) ?_
  refine tw_Vc (o := a0) (ci := 11) (n := 0) (post := (fun v kq Lq Eq => (∃ x : Int32, v = some (.int x) ∧ (-1) ≤ x.toInt ∧ x.toInt ≤ 500) ∧ kp = kq ∧ L = Lq ∧ tw_fr kp L [(9, 2), (9, 3), (9, 4), (10, 0)] [102, 110, 111, 112, 113, 114] E Eq)) (As := []) (rest := []) ⟨hx, hb, hml, hown, hB⟩ (fun sz => tX11_readTree l D cs a0 hm0 hk0 sz) cg_11_113_X11_readTree rfl rfl (by decide +kernel) ⟨Nat.le_of_ble_eq_true rfl, Nat.le_of_ble_eq_true rfl⟩ hK hN TH hS hA rfl hm0 hk0 (by decide) rfl hl.1 rfl (Nat.le_of_ble_eq_true rfl) dX11_breaks_1 ⟨Nat.le_of_ble_eq_true rfl, Nat.le_of_ble_eq_true rfl⟩ (fun v1 kp1 L1 E1 H locs hq1 hx1 TH hS => ?_)
  obtain ⟨⟨xc2, rfl, hxc2a, hxc2b⟩, rfl, rfl, hst1⟩ := hq1
  have hF := hF.tr hst1 (fun _ h => ⟨h, rfl⟩) (by decide) (by decide)
  have hg0 : gz_ok E1 a0 := gz_ok_fr TH hst1 hm0 hk0 (by decide) (by decide) hg0
  refine W.eq (g2 := F0 m 4 ls [.int xc2]) rfl ?_
  refine lv_iconst (v := (-1)) hx hb dX11_breaks_4 (by decide) ?_
  refine lv_icmp_ne (tgt := 26) hx hb dX11_breaks_5 (by decide) (fun hc3 => ?_) (fun hc3 => ?_)
  · have hf4 : ¬ (xc2.toInt = (-1)) := fun q => hc3 ((fa_eq _ _).mpr (by have : (((-1) : Int32).toInt) = (-1) := (by decide); omega))
    refine lv_iconst (v := (-1)) hx hb dX11_breaks_26 (by decide) ?_
    exact tw_iret hx hb hr hlocks TH hS hex ⟨⟨_, rfl, hg0⟩, rfl, rfl, hF⟩ (Nat.le_of_ble_eq_true rfl) (Nat.le_of_ble_eq_true rfl) dX11_breaks_27
  · have hf5 : xc2.toInt = (-1) := by have z := (fa_eq _ _).mp hc3; have : (((-1) : Int32).toInt) = (-1) := (by decide); omega
    refine lv_aload_n hx hb dX11_breaks_8 rfl (lv_at hl 0 rfl) ?_
    refine tw_get (ci := 11) (C := RX11) (T := TX11) (N := 19) hx hb hB cx_inX11 hown hK TH hm0 hk0 rfl ⟨by decide, rfl⟩ 4 (by decide) cw_387 (fun _ h9 => h9) dX11_breaks_9 (fun hv => ?_)
    obtain ⟨xr6, hxr6, hmxr6, hkxr6⟩ : ∃ a : Nat, tw_fv E1 a0 4 = .ref a ∧ a ∈ L ∧ kp a = 10 := hv
    rw [hxr6]
    refine lv_aload_n hx hb dX11_breaks_12 rfl (lv_at hl 0 rfl) ?_
    refine tw_get (ci := 11) (C := RX11) (T := TX11) (N := 19) hx hb hB cx_inX11 hown hK TH hm0 hk0 rfl ⟨by decide, rfl⟩ 1 (by decide) cw_384 (fun _ h9 => h9) dX11_breaks_13 (fun hv => ?_)
    obtain ⟨xr7, hxr7, hmxr7, hkxr7⟩ : ∃ a : Nat, tw_fv E1 a0 1 = .ref a ∧ a ∈ L ∧ kp a = 2 := hv
    rw [hxr7]
    have hgm8 : gm_ok E1 xr7 := by have q := hg0; unfold gz_ok at q; rw [tw_fa_of hxr7] at q; exact q
    refine lv_aload_n hx hb dX11_breaks_16 rfl (lv_at hl 0 rfl) ?_
    refine tw_get (ci := 11) (C := RX11) (T := TX11) (N := 19) hx hb hB cx_inX11 hown hK TH hm0 hk0 rfl ⟨by decide, rfl⟩ 5 (by decide) cw_388 (fun _ h9 => h9) dX11_breaks_17 (fun hv => ?_)
    obtain ⟨xr9, hxr9, hmxr9, hkxr9⟩ : ∃ a : Nat, tw_fv E1 a0 5 = .ref a ∧ a ∈ L ∧ kp a = 3 := hv
    rw [hxr9]
    refine tw_Vc (o := xr6) (ci := 10) (n := 2) (post := (fun v kq Lq Eq => (∃ x : Int32, v = some (.int x) ∧ (-1) ≤ x.toInt ∧ x.toInt ≤ 39 ∧ gm_ok Eq xr7) ∧ kp = kq ∧ L = Lq ∧ tw_fr kp L [(3, 0)] [101, 102, 135] E1 Eq)) (As := [.ref xr7, .ref xr9]) (rest := []) ⟨hx, hb, hml, hown, hB⟩ (fun sz => tX10_firstBreak l D cs xr6 xr7 xr9 hmxr6 hkxr6 hmxr7 hkxr7 hmxr9 hkxr9 hgm8 sz) cg_11_124_X10_firstBreak rfl rfl (by decide +kernel) ⟨Nat.le_of_ble_eq_true rfl, Nat.le_of_ble_eq_true rfl⟩ hK hN TH hS hA rfl hmxr6 hkxr6 (by decide) rfl hl.1 rfl (Nat.le_of_ble_eq_true rfl) dX11_breaks_20 ⟨Nat.le_of_ble_eq_true rfl, Nat.le_of_ble_eq_true rfl⟩ (fun v10 kp10 L10 E10 H locs hq10 hx10 TH hS => ?_)
    obtain ⟨⟨xc11, rfl, hxc11a, hxc11b, hgpxc11_0⟩, rfl, rfl, hst10⟩ := hq10
    have hF := hF.tr hst10 (fun _ h => ⟨h, rfl⟩) (by decide) (by decide)
    have hmf12 : tw_fv E10 a0 4 = .ref xr6 := (hst10.1 a0 4 hm0 (by rw [hk0]; decide)).trans hxr6
    have hmf13 : tw_fv E10 a0 1 = .ref xr7 := (hst10.1 a0 1 hm0 (by rw [hk0]; decide)).trans hxr7
    have hmf14 : tw_fv E10 a0 5 = .ref xr9 := (hst10.1 a0 5 hm0 (by rw [hk0]; decide)).trans hxr9
    have hg0 : gz_ok E10 a0 := gz_ok_fr TH hst10 hm0 hk0 (by decide) (by decide) hg0
    refine W.eq (g2 := F0 m 23 ls [.int xc11]) rfl ?_
    refine lv_goto (tgt := 27) hx hb dX11_breaks_23 (by decide) ?_
    exact tw_iret hx hb hr hlocks TH hS hex ⟨⟨_, rfl, hg0⟩, rfl, rfl, hF⟩ (Nat.le_of_ble_eq_true rfl) (Nat.le_of_ble_eq_true rfl) dX11_breaks_27
set_option maxHeartbeats 4000000 in
set_option maxRecDepth 100000 in
theorem tX11_fault (l : Launch) (D : va_G) (cs : Nat → ClassId) {kp : Nat → Nat} {L : List Nat} {E : Nat → va_E} (a0 : Nat) (x1 : Int32) (hm0 : a0 ∈ L) (hk0 : kp a0 = 11) (hp1a : 0 ≤ x1.toInt) (hp1b : x1.toInt ≤ 1) (hg0 : gz_ok E a0) (hg1 : ss_ok E a0) (sz : Nat) : Met l yX11_fault (.code yX11_fault cX11_fault 2 (some .int) :: cx_big) { frames := 10, cells := 0, slots := 0, locals := 214 } (tw_P D cs kp L E [.ref a0, .int x1] sz) (tw_Q D cs kp L (fun v kq Lq Eq => (∃ x : Int32, v = some (.int x) ∧ gz_ok Eq a0 ∧ ss_ok Eq a0) ∧ kp = kq ∧ L = Lq ∧ tw_fr kp L [(2, 1), (2, 7), (9, 2), (9, 3), (9, 4), (10, 0)] [100, 102, 110, 111, 112, 113, 114, 130, 131, 132, 133, 134, 136, 137, 138, 139] E Eq) (va_A (va_pl L E) sz)) 0 0 (va_A (va_pl L E) sz) := by
  refine tw_ofW (by decide) (Nat.le_of_ble_eq_true rfl) ?_
  intro p e s m below meth c A ls hx hb hr hml hB hown hlocks hK hN hA TH hS hl
  have hown : s.vm.findClass "TreeMerge" = some m.cls := hown
  have hl : lv_has ls 2 [(0, .ref a0), (1, .int x1)] := hl
  obtain ⟨kp0, ekp⟩ : ∃ z, z = kp := ⟨_, rfl⟩
  obtain ⟨L0, eL⟩ : ∃ z, z = L := ⟨_, rfl⟩
  rw [show tw_Q D cs kp L = tw_Q D cs kp0 L0 by rw [ekp, eL]]
  have hex : ∀ a : Nat, a ∈ L0 → a ∈ L ∧ kp a = kp0 a := fun a h => ⟨by rw [← eL]; exact h, by rw [ekp]⟩
  have hF : tw_fr kp L [(2, 1), (2, 7), (9, 2), (9, 3), (9, 4), (10, 0)] [100, 102, 110, 111, 112, 113, 114, 130, 131, 132, 133, 134, 136, 137, 138, 139] E E := tw_fr.rf
  refine lv_iload_n hx hb dX11_fault_0 rfl (lv_at hl 1 rfl) ?_
  refine lv_if_eq (tgt := 11) hx hb dX11_fault_1 (by decide) (fun hc1 => ?_) (fun hc1 => ?_)
  · have hf2 : x1.toInt = 0 := by have z := (fa_eq _ _).mp hc1; have : ((0 : Int32).toInt) = 0 := (by decide); omega
    refine lv_aload_n hx hb dX11_fault_11 rfl (lv_at hl 0 rfl) ?_
    refine tw_get (ci := 11) (C := RX11) (T := TX11) (N := 19) hx hb hB cx_inX11 hown hK TH hm0 hk0 rfl ⟨by decide, rfl⟩ 2 (by decide) cw_385 (fun _ h9 => h9) dX11_fault_12 (fun hv => ?_)
    obtain ⟨xr3, hxr3, hmxr3, hkxr3⟩ : ∃ a : Nat, tw_fv E a0 2 = .ref a ∧ a ∈ L ∧ kp a = 2 := hv
    rw [hxr3]
    refine lv_aload_n hx hb dX11_fault_15 rfl (lv_at hl 0 rfl) ?_
    refine tw_get (ci := 11) (C := RX11) (T := TX11) (N := 19) hx hb hB cx_inX11 hown hK TH hm0 hk0 rfl ⟨by decide, rfl⟩ 0 (by decide) cw_383 (fun _ h9 => h9) dX11_fault_16 (fun hv => ?_)
    obtain ⟨xr4, hxr4, hmxr4, hkxr4⟩ : ∃ a : Nat, tw_fv E a0 0 = .ref a ∧ a ∈ L ∧ kp a = 9 := hv
    rw [hxr4]
    obtain ⟨xr5, hxr5, hmxr5, hkxr5⟩ := tw_ra TH hm0 hk0 (by decide) (by decide) (k := 1) rfl
    have hkxr5 : kp xr5 = 2 := hkxr5
    have hgmr : gm_ok E xr5 := by have q := hg0; unfold gz_ok at q; rw [tw_fa_of hxr5] at q; exact q
    have hsp : sp_ok E xr3 xr5 := by have q := hg1; unfold ss_ok at q; rw [tw_fa_of hxr3, tw_fa_of hxr5] at q; exact q
    refine tw_Vc (o := xr3) (ci := 2) (n := 1) (post := (fun v kq Lq Eq => (∃ x : Int32, v = some (.int x) ∧ (-1) ≤ x.toInt ∧ x.toInt ≤ 500 ∧ gm_ok Eq xr3 ∧ gm_ok Eq xr5) ∧ kp = kq ∧ L = Lq ∧ tw_fr kp L [(2, 1), (2, 7), (9, 2), (9, 3), (9, 4)] [100, 130, 131, 132, 133, 134, 136, 137, 138, 139] E Eq)) (As := [.ref xr4]) (rest := []) ⟨hx, hb, hml, hown, hB⟩ (fun sz => tX2_readFrom l D cs xr3 xr4 xr5 hmxr3 hkxr3 hmxr4 hkxr4 hmxr5 hkxr5 hsp hgmr sz) cg_11_117_X2_readFrom rfl rfl (by decide +kernel) ⟨Nat.le_of_ble_eq_true rfl, Nat.le_of_ble_eq_true rfl⟩ hK hN TH hS hA rfl hmxr3 hkxr3 (by decide) rfl hl.1 rfl (Nat.le_of_ble_eq_true rfl) dX11_fault_19 ⟨Nat.le_of_ble_eq_true rfl, Nat.le_of_ble_eq_true rfl⟩ (fun v6 kp6 L6 E6 H locs hq6 hx6 TH hS => ?_)
    obtain ⟨⟨xc7, rfl, hxc7a, hxc7b, hgpxc7_0, hgpxc7_1⟩, rfl, rfl, hst6⟩ := hq6
    have hF := hF.tr hst6 (fun _ h => ⟨h, rfl⟩) (by decide) (by decide)
    have hmf8 : tw_fv E6 a0 2 = .ref xr3 := (hst6.1 a0 2 hm0 (by rw [hk0]; decide)).trans hxr3
    have hmf9 : tw_fv E6 a0 0 = .ref xr4 := (hst6.1 a0 0 hm0 (by rw [hk0]; decide)).trans hxr4
    have hmf10 : tw_fv E6 a0 1 = .ref xr5 := (hst6.1 a0 1 hm0 (by rw [hk0]; decide)).trans hxr5
    have hg0_o := hg0
    have hg1_o := hg1
    have hsp_o := hsp
    have hg0 : gz_ok E6 a0 := gz_ok_of ((hst6.1 a0 1 hm0 (by rw [hk0]; decide)).trans hxr5) hgpxc7_1
    have hg1 : ss_ok E6 a0 := ss_ok_fr TH hst6 hm0 hk0 (by decide) (by decide) hg1
    have hsp : sp_ok E6 xr3 xr5 := sp_ok_fr TH hst6 hmxr3 hkxr3 hmxr5 hkxr5 (by decide) (by decide) hsp
    refine W.eq (g2 := F0 m 22 ls [.int xc7]) rfl ?_
    exact tw_iret hx hb hr hlocks TH hS hex ⟨⟨_, rfl, hg0, hg1⟩, rfl, rfl, hF⟩ (Nat.le_of_ble_eq_true rfl) (Nat.le_of_ble_eq_true rfl) dX11_fault_22
  · have hf11 : ¬ (x1.toInt = 0) := fun q => hc1 ((fa_eq _ _).mpr (by have : ((0 : Int32).toInt) = 0 := (by decide); omega))
    refine lv_aload_n hx hb dX11_fault_4 rfl (lv_at hl 0 rfl) ?_
    refine tw_Vc (o := a0) (ci := 11) (n := 0) (post := (fun v kq Lq Eq => (∃ x : Int32, v = some (.int x) ∧ (-1) ≤ x.toInt ∧ x.toInt ≤ 500) ∧ kp = kq ∧ L = Lq ∧ tw_fr kp L [(9, 2), (9, 3), (9, 4), (10, 0)] [102, 110, 111, 112, 113, 114] E Eq)) (As := []) (rest := []) ⟨hx, hb, hml, hown, hB⟩ (fun sz => tX11_readTree l D cs a0 hm0 hk0 sz) cg_11_113_X11_readTree rfl rfl (by decide +kernel) ⟨Nat.le_of_ble_eq_true rfl, Nat.le_of_ble_eq_true rfl⟩ hK hN TH hS hA rfl hm0 hk0 (by decide) rfl hl.1 rfl (Nat.le_of_ble_eq_true rfl) dX11_fault_5 ⟨Nat.le_of_ble_eq_true rfl, Nat.le_of_ble_eq_true rfl⟩ (fun v12 kp12 L12 E12 H locs hq12 hx12 TH hS => ?_)
    obtain ⟨⟨xc13, rfl, hxc13a, hxc13b⟩, rfl, rfl, hst12⟩ := hq12
    have hF := hF.tr hst12 (fun _ h => ⟨h, rfl⟩) (by decide) (by decide)
    have hg0 : gz_ok E12 a0 := gz_ok_fr TH hst12 hm0 hk0 (by decide) (by decide) hg0
    have hg1 : ss_ok E12 a0 := ss_ok_fr TH hst12 hm0 hk0 (by decide) (by decide) hg1
    refine W.eq (g2 := F0 m 8 ls [.int xc13]) rfl ?_
    refine lv_goto (tgt := 22) hx hb dX11_fault_8 (by decide) ?_
    exact tw_iret hx hb hr hlocks TH hS hex ⟨⟨_, rfl, hg0, hg1⟩, rfl, rfl, hF⟩ (Nat.le_of_ble_eq_true rfl) (Nat.le_of_ble_eq_true rfl) dX11_fault_22
set_option maxHeartbeats 4000000 in
set_option maxRecDepth 100000 in
theorem tX11_grammar (l : Launch) (D : va_G) (cs : Nat → ClassId) {kp : Nat → Nat} {L : List Nat} {E : Nat → va_E} (a0 : Nat) (hm0 : a0 ∈ L) (hk0 : kp a0 = 11) (hg0 : gz_ok E a0) (hg1 : ss_ok E a0) (sz : Nat) : Met l yX11_grammar (.code yX11_grammar cX11_grammar 2 (some .int) :: cx_big) { frames := 10, cells := 0, slots := 0, locals := 214 } (tw_P D cs kp L E [.ref a0] sz) (tw_Q D cs kp L (fun v kq Lq Eq => (∃ x : Int32, v = some (.int x) ∧ gz_ok Eq a0 ∧ ss_ok Eq a0) ∧ kp = kq ∧ L = Lq ∧ tw_fr kp L [(2, 1), (2, 7), (9, 1), (9, 2), (9, 3), (9, 4), (11, 1), (11, 2)] [100, 130, 131, 132, 133, 134, 136, 137, 138, 139] E Eq) (va_A (va_pl L E) sz)) 0 0 (va_A (va_pl L E) sz) := by
  refine tw_ofW (by decide) (Nat.le_of_ble_eq_true rfl) ?_
  intro p e s m below meth c A ls hx hb hr hml hB hown hlocks hK hN hA TH hS hl
  have hown : s.vm.findClass "TreeMerge" = some m.cls := hown
  have hl : lv_has ls 2 [(0, .ref a0)] := hl
  obtain ⟨kp0, ekp⟩ : ∃ z, z = kp := ⟨_, rfl⟩
  obtain ⟨L0, eL⟩ : ∃ z, z = L := ⟨_, rfl⟩
  rw [show tw_Q D cs kp L = tw_Q D cs kp0 L0 by rw [ekp, eL]]
  have hex : ∀ a : Nat, a ∈ L0 → a ∈ L ∧ kp a = kp0 a := fun a h => ⟨by rw [← eL]; exact h, by rw [ekp]⟩
  have hF : tw_fr kp L [(2, 1), (2, 7), (9, 1), (9, 2), (9, 3), (9, 4), (11, 1), (11, 2)] [100, 130, 131, 132, 133, 134, 136, 137, 138, 139] E E := tw_fr.rf
  refine lv_aload_n hx hb dX11_grammar_0 rfl (lv_at hl 0 rfl) ?_
  refine tw_get (ci := 11) (C := RX11) (T := TX11) (N := 19) hx hb hB cx_inX11 hown hK TH hm0 hk0 rfl ⟨by decide, rfl⟩ 1 (by decide) cw_384 (fun _ h9 => h9) dX11_grammar_1 (fun hv => ?_)
  obtain ⟨xr1, hxr1, hmxr1, hkxr1⟩ : ∃ a : Nat, tw_fv E a0 1 = .ref a ∧ a ∈ L ∧ kp a = 2 := hv
  rw [hxr1]
  have hgm2 : gm_ok E xr1 := by have q := hg0; unfold gz_ok at q; rw [tw_fa_of hxr1] at q; exact q
  refine tw_get (ci := 2) (C := RX2) (T := TX2) (N := 13) hx hb hB cx_inX2 hown hK TH hmxr1 hkxr1 rfl ⟨by decide, rfl⟩ 1 (by decide) cw_69 (fun _ h9 => h9) dX11_grammar_4 (fun hv => ?_)
  obtain ⟨xi3, hxi3, hxi3a, hxi3b⟩ : ∃ x : Int32, tw_fv E xr1 1 = .int x ∧ 0 ≤ x.toInt ∧ x.toInt ≤ 10 := hv
  rw [hxi3]
  refine lv_if_gt (tgt := 25) hx hb dX11_grammar_7 (by decide) (fun hc4 => ?_) (fun hc4 => ?_)
  · have hf5 : 0 < xi3.toInt := by have z := (fa_lt _ _).mp hc4; have : ((0 : Int32).toInt) = 0 := (by decide); omega
    refine lv_iconst (v := (-1)) hx hb dX11_grammar_25 (by decide) ?_
    exact tw_iret hx hb hr hlocks TH hS hex ⟨⟨_, rfl, hg0, hg1⟩, rfl, rfl, hF⟩ (Nat.le_of_ble_eq_true rfl) (Nat.le_of_ble_eq_true rfl) dX11_grammar_26
  · have hf6 : ¬ (0 < xi3.toInt) := fun q => hc4 ((fa_lt _ _).mpr (by have : ((0 : Int32).toInt) = 0 := (by decide); omega))
    refine lv_aload_n hx hb dX11_grammar_10 rfl (lv_at hl 0 rfl) ?_
    refine tw_get (ci := 11) (C := RX11) (T := TX11) (N := 19) hx hb hB cx_inX11 hown hK TH hm0 hk0 rfl ⟨by decide, rfl⟩ 2 (by decide) cw_385 (fun _ h9 => h9) dX11_grammar_11 (fun hv => ?_)
    obtain ⟨xr7, hxr7, hmxr7, hkxr7⟩ : ∃ a : Nat, tw_fv E a0 2 = .ref a ∧ a ∈ L ∧ kp a = 2 := hv
    rw [hxr7]
    refine lv_aload_n hx hb dX11_grammar_14 rfl (lv_at hl 0 rfl) ?_
    refine tw_get (ci := 11) (C := RX11) (T := TX11) (N := 19) hx hb hB cx_inX11 hown hK TH hm0 hk0 rfl ⟨by decide, rfl⟩ 0 (by decide) cw_383 (fun _ h9 => h9) dX11_grammar_15 (fun hv => ?_)
    obtain ⟨xr8, hxr8, hmxr8, hkxr8⟩ : ∃ a : Nat, tw_fv E a0 0 = .ref a ∧ a ∈ L ∧ kp a = 9 := hv
    rw [hxr8]
    have hsp : sp_ok E xr7 xr1 := by have q := hg1; unfold ss_ok at q; rw [tw_fa_of hxr7, tw_fa_of hxr1] at q; exact q
    refine tw_Vc (o := xr7) (ci := 2) (n := 1) (post := (fun v kq Lq Eq => (∃ x : Int32, v = some (.int x) ∧ (-1) ≤ x.toInt ∧ x.toInt ≤ 500 ∧ gm_ok Eq xr7 ∧ gm_ok Eq xr1) ∧ kp = kq ∧ L = Lq ∧ tw_fr kp L [(2, 1), (2, 7), (9, 2), (9, 3), (9, 4)] [100, 130, 131, 132, 133, 134, 136, 137, 138, 139] E Eq)) (As := [.ref xr8]) (rest := []) ⟨hx, hb, hml, hown, hB⟩ (fun sz => tX2_readFrom l D cs xr7 xr8 xr1 hmxr7 hkxr7 hmxr8 hkxr8 hmxr1 hkxr1 hsp hgm2 sz) cg_11_117_X2_readFrom rfl rfl (by decide +kernel) ⟨Nat.le_of_ble_eq_true rfl, Nat.le_of_ble_eq_true rfl⟩ hK hN TH hS hA rfl hmxr7 hkxr7 (by decide) rfl hl.1 rfl (Nat.le_of_ble_eq_true rfl) dX11_grammar_18 ⟨Nat.le_of_ble_eq_true rfl, Nat.le_of_ble_eq_true rfl⟩ (fun v9 kp9 L9 E9 H locs hq9 hx9 TH hS => ?_)
    obtain ⟨⟨xc10, rfl, hxc10a, hxc10b, hgpxc10_0, hgpxc10_1⟩, rfl, rfl, hst9⟩ := hq9
    have hF := hF.tr hst9 (fun _ h => ⟨h, rfl⟩) (by decide) (by decide)
    have hmf11 : tw_fv E9 a0 1 = .ref xr1 := (hst9.1 a0 1 hm0 (by rw [hk0]; decide)).trans hxr1
    have hmf12 : tw_fv E9 a0 2 = .ref xr7 := (hst9.1 a0 2 hm0 (by rw [hk0]; decide)).trans hxr7
    have hmf13 : tw_fv E9 a0 0 = .ref xr8 := (hst9.1 a0 0 hm0 (by rw [hk0]; decide)).trans hxr8
    have hg0_o := hg0
    have hg1_o := hg1
    have hsp_o := hsp
    have hg0 : gz_ok E9 a0 := gz_ok_of ((hst9.1 a0 1 hm0 (by rw [hk0]; decide)).trans hxr1) hgpxc10_1
    have hg1 : ss_ok E9 a0 := ss_ok_fr TH hst9 hm0 hk0 (by decide) (by decide) hg1
    have hsp : sp_ok E9 xr7 xr1 := sp_ok_fr TH hst9 hmxr7 hkxr7 hmxr1 hkxr1 (by decide) (by decide) hsp
    refine W.eq (g2 := F0 m 21 ls [.int xc10]) rfl ?_
    refine lv_iconst (v := (-1)) hx hb dX11_grammar_21 (by decide) ?_
    refine lv_icmp_eq (tgt := 27) hx hb dX11_grammar_22 (by decide) (fun hc14 => ?_) (fun hc14 => ?_)
    · have hf15 : xc10.toInt = (-1) := by have z := (fa_eq _ _).mp hc14; have : (((-1) : Int32).toInt) = (-1) := (by decide); omega
      refine lv_aload_n hx hb dX11_grammar_27 rfl (lv_at hl 0 rfl) ?_
      refine tw_get (ci := 11) (C := RX11) (T := TX11) (N := 19) hx hb hB cx_inX11 hown hK TH hm0 hk0 rfl ⟨by decide, rfl⟩ 2 (by decide) cw_385 (fun _ h9 => h9) dX11_grammar_28 (fun hv => ?_)
      rw [hmf12]
      refine lv_astore_n (lv' := [(1, .ref xr7), (0, .ref a0)]) hx hb dX11_grammar_31 rfl hl (by decide) rfl (fun ls hl => ?_)
      refine lv_aload_n hx hb dX11_grammar_32 rfl (lv_at hl 1 rfl) ?_
      refine lv_aload_n hx hb dX11_grammar_33 rfl (lv_at hl 1 rfl) ?_
      refine tw_get (ci := 11) (C := RX11) (T := TX11) (N := 19) hx hb hB cx_inX11 hown hK TH hm0 hk0 rfl ⟨by decide, rfl⟩ 1 (by decide) cw_384 (fun _ h9 => h9) dX11_grammar_34 (fun hv => ?_)
      rw [hmf11]
      refine tw_put (ci := 11) (v := .ref xr1) (ty := .object "TreeMerge$Grammar") (C := RX11) (T := TX11) (N := 19) hx hb hB cx_inX11 tyX11 tyX11_ok nmX11 hown hK TH hS hm0 hk0 rfl ⟨by decide, rfl⟩ 2 (by decide) cw_385 (fun _ h9 => h9) rfl (by decide +kernel) rfl rfl ⟨_, rfl, hmxr1, hkxr1⟩ dX11_grammar_37 (fun H locs E16 TH hS hmf20 hp17 hp18 => ?_)
      have hst19 : tw_fr kp L [(11, 2)] [] E9 E16 := tw_fr.put tw_fr.rf (fun _ => hk0) (by decide) hp17 hp18 (by decide)
      have hF := hF.tr hst19 (fun _ h => ⟨h, rfl⟩) (by decide) (by decide)
      have hmf21 : tw_fv E16 a0 1 = .ref xr1 := (hst19.1 a0 1 hm0 (by rw [hk0]; decide)).trans hmf11
      have hmf22 : tw_fv E16 a0 0 = .ref xr8 := (hst19.1 a0 0 hm0 (by rw [hk0]; decide)).trans hmf13
      have hg0 : gz_ok E16 a0 := gz_ok_fr TH hst19 hm0 hk0 (by decide) (by decide) hg0
      have hsp : sp_ok E16 xr7 xr1 := sp_ok_fr TH hst19 hmxr7 hkxr7 hmxr1 hkxr1 (by decide) (by decide) hsp
      have hgpxc10_0 : gm_ok E16 xr7 := gm_ok_fr TH hst19 hmxr7 hkxr7 (by decide) (by decide) hgpxc10_0
      have hgpxc10_1 : gm_ok E16 xr1 := gm_ok_fr TH hst19 hmxr1 hkxr1 (by decide) (by decide) hgpxc10_1
      refine lv_aload_n hx hb dX11_grammar_40 rfl (lv_at hl 1 rfl) ?_
      refine lv_aload_n hx hb dX11_grammar_41 rfl (lv_at hl 0 rfl) ?_
      refine tw_put (ci := 11) (v := .ref xr7) (ty := .object "TreeMerge$Grammar") (C := RX11) (T := TX11) (N := 19) hx hb hB cx_inX11 tyX11 tyX11_ok nmX11 hown hK TH hS hm0 hk0 rfl ⟨by decide, rfl⟩ 1 (by decide) cw_384 (fun _ h9 => h9) rfl (by decide +kernel) rfl rfl ⟨_, rfl, hmxr7, hkxr7⟩ dX11_grammar_42 (fun H locs E23 TH hS hmf27 hp24 hp25 => ?_)
      have hst26 : tw_fr kp L [(11, 1)] [] E16 E23 := tw_fr.put tw_fr.rf (fun _ => hk0) (by decide) hp24 hp25 (by decide)
      have hF := hF.tr hst26 (fun _ h => ⟨h, rfl⟩) (by decide) (by decide)
      have hmf28 : tw_fv E23 a0 0 = .ref xr8 := (hst26.1 a0 0 hm0 (by rw [hk0]; decide)).trans hmf22
      have hmf29 : tw_fv E23 a0 2 = .ref xr1 := (hst26.1 a0 2 hm0 (by rw [hk0]; decide)).trans hmf20
      have hsp : sp_ok E23 xr7 xr1 := sp_ok_fr TH hst26 hmxr7 hkxr7 hmxr1 hkxr1 (by decide) (by decide) hsp
      have hgpxc10_0 : gm_ok E23 xr7 := gm_ok_fr TH hst26 hmxr7 hkxr7 (by decide) (by decide) hgpxc10_0
      have hgpxc10_1 : gm_ok E23 xr1 := gm_ok_fr TH hst26 hmxr1 hkxr1 (by decide) (by decide) hgpxc10_1
      have hgn30 : gz_ok E23 a0 := gz_ok_of hmf27 hgpxc10_0
      have hgn31 : ss_ok E23 a0 := ss_ok_of ((hp24 a0 2 (Or.inr (by decide))).trans hmf20) hmf27 (sp_ok.sym hsp)
      refine lv_aload_n hx hb dX11_grammar_45 rfl (lv_at hl 1 rfl) ?_
      refine tw_get (ci := 11) (C := RX11) (T := TX11) (N := 19) hx hb hB cx_inX11 hown hK TH hm0 hk0 rfl ⟨by decide, rfl⟩ 0 (by decide) cw_383 (fun _ h9 => h9) dX11_grammar_46 (fun hv => ?_)
      rw [hmf28]
      refine lv_iconst (v := 0) hx hb dX11_grammar_49 (by decide) ?_
      refine tw_put (ci := 9) (v := .int 0) (ty := .int) (C := RX9) (T := TX9) (N := 5) hx hb hB cx_inX9 tyX9 tyX9_ok nmX9 hown hK TH hS hmxr8 hkxr8 rfl ⟨by decide, rfl⟩ 1 (by decide) cw_37 (fun _ h9 => h9) rfl (by decide +kernel) rfl rfl ⟨_, rfl, (show 0 ≤ Int32.toInt 0 from by have : ((0 : Int32).toInt) = 0 := (by decide); omega), (show Int32.toInt 0 ≤ 500 from by have : ((0 : Int32).toInt) = 0 := (by decide); omega)⟩ dX11_grammar_50 (fun H locs E32 TH hS hmf36 hp33 hp34 => ?_)
      have hst35 : tw_fr kp L [(9, 1)] [] E23 E32 := tw_fr.put tw_fr.rf (fun _ => hkxr8) (by decide) hp33 hp34 (by decide)
      have hF := hF.tr hst35 (fun _ h => ⟨h, rfl⟩) (by decide) (by decide)
      have hmf37 : tw_fv E32 a0 0 = .ref xr8 := (hst35.1 a0 0 hm0 (by rw [hk0]; decide)).trans hmf28
      have hmf38 : tw_fv E32 a0 2 = .ref xr1 := (hst35.1 a0 2 hm0 (by rw [hk0]; decide)).trans hmf29
      have hmf39 : tw_fv E32 a0 1 = .ref xr7 := (hst35.1 a0 1 hm0 (by rw [hk0]; decide)).trans hmf27
      have hsp : sp_ok E32 xr7 xr1 := sp_ok_fr TH hst35 hmxr7 hkxr7 hmxr1 hkxr1 (by decide) (by decide) hsp
      have hgpxc10_0 : gm_ok E32 xr7 := gm_ok_fr TH hst35 hmxr7 hkxr7 (by decide) (by decide) hgpxc10_0
      have hgpxc10_1 : gm_ok E32 xr1 := gm_ok_fr TH hst35 hmxr1 hkxr1 (by decide) (by decide) hgpxc10_1
      have hgn30 : gz_ok E32 a0 := gz_ok_fr TH hst35 hm0 hk0 (by decide) (by decide) hgn30
      have hgn31 : ss_ok E32 a0 := ss_ok_fr TH hst35 hm0 hk0 (by decide) (by decide) hgn31
      refine lv_aload_n hx hb dX11_grammar_53 rfl (lv_at hl 1 rfl) ?_
      refine tw_get (ci := 11) (C := RX11) (T := TX11) (N := 19) hx hb hB cx_inX11 hown hK TH hm0 hk0 rfl ⟨by decide, rfl⟩ 1 (by decide) cw_384 (fun _ h9 => h9) dX11_grammar_54 (fun hv => ?_)
      rw [hmf39]
      refine tw_get (ci := 2) (C := RX2) (T := TX2) (N := 13) hx hb hB cx_inX2 hown hK TH hmxr7 hkxr7 rfl ⟨by decide, rfl⟩ 1 (by decide) cw_69 (fun _ h9 => h9) dX11_grammar_57 (fun hv => ?_)
      obtain ⟨xi40, hxi40, hxi40a, hxi40b⟩ : ∃ x : Int32, tw_fv E32 xr7 1 = .int x ∧ 0 ≤ x.toInt ∧ x.toInt ≤ 10 := hv
      rw [hxi40]
      exact tw_iret hx hb hr hlocks TH hS hex ⟨⟨_, rfl, hgn30, hgn31⟩, rfl, rfl, hF⟩ (Nat.le_of_ble_eq_true rfl) (Nat.le_of_ble_eq_true rfl) dX11_grammar_60
    · have hf41 : ¬ (xc10.toInt = (-1)) := fun q => hc14 ((fa_eq _ _).mpr (by have : (((-1) : Int32).toInt) = (-1) := (by decide); omega))
      refine lv_iconst (v := (-1)) hx hb dX11_grammar_25 (by decide) ?_
      exact tw_iret hx hb hr hlocks TH hS hex ⟨⟨_, rfl, hg0, hg1⟩, rfl, rfl, hF⟩ (Nat.le_of_ble_eq_true rfl) (Nat.le_of_ble_eq_true rfl) dX11_grammar_26
