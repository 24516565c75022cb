theorem cg_12_234_X12_isName : GoodIn cx_big (wsV "TreeMergeModel" 234 "TreeMergeModel" yX12_isName (.code yX12_isName cX12_isName 1 (some .boolean) :: cx_big)) := cx_gV cw_1503 cw_1505 cp_81 cw_13 cw_1506
set_option maxHeartbeats 4000000 in
set_option maxRecDepth 100000 in
theorem tX12_items (l : Launch) (D : va_G) (cs : Nat → ClassId) {kp : Nat → Nat} {L : List Nat} {E : Nat → va_E} (a0 : Nat) (x1 : Int32) (fv0_15 : Int32) (fv0_1 : Int32) (fv0_2 : Int32) (hm0 : a0 ∈ L) (hk0 : kp a0 = 12) (hp1a : 0 ≤ x1.toInt) (hp1b : x1.toInt ≤ 9) (hfv0_15 : tw_fv E a0 15 = .int fv0_15) (hfv0_1 : tw_fv E a0 1 = .int fv0_1) (hfv0_2 : tw_fv E a0 2 = .int fv0_2) (hpre0 : x1.toInt + 1 = fv0_15.toInt) (hpre1 : tw_el E a0 9 (x1.toInt).toNat = 0) (hpre2 : gy_at (tw_el E a0 0) fv0_1.toInt (it_q E a0 x1.toInt) fv0_2.toInt fv0_15.toInt (kp_ E a0 fv0_15.toInt) (ip_ E a0 fv0_15.toInt)) (hpre3 : ∀ x : Int × Int, ip_ E a0 fv0_15.toInt x → 0 ≤ x.1 ∧ x.1 ≤ x.2 ∧ x.2 ≤ fv0_1.toInt) (hg0 : tk_at E a0) (hg1 : rg_ok E a0) (sz : Nat) : Met l yX12_items (.code yX12_items cX12_items 6 (some .boolean) :: cx_big) { frames := 6, cells := 0, slots := 0, locals := 127 } (tw_P D cs kp L E [.ref a0, .int x1] sz) (tw_Q D cs kp L (fun v kq Lq Eq => (∃ x : Int32, v = some (.int x) ∧ 0 ≤ x.toInt ∧ x.toInt ≤ 1 ∧ (x.toInt = 0 → gy_all (tw_el E a0 0) fv0_1.toInt = -1) ∧ (x.toInt ≠ 0 → tk_at Eq a0) ∧ (x.toInt ≠ 0 → (fv0_1.toInt ≤ tw_fi Eq a0 2 → gy_all (tw_el E a0 0) fv0_1.toInt = gy_fin (tw_el E a0 0) fv0_15.toInt (kp_ E a0 fv0_15.toInt) (ip_ Eq a0 fv0_15.toInt)) ∧ (tw_fi Eq a0 2 < fv0_1.toInt → gy_at (tw_el E a0 0) fv0_1.toInt 0 (tw_fi Eq a0 2) fv0_15.toInt (kp_ E a0 fv0_15.toInt) (ip_ Eq a0 fv0_15.toInt))) ∧ (x.toInt = 0 → tw_fi Eq a0 4 ≠ -1) ∧ (x.toInt ≠ 0 → ∀ x : Int × Int, ip_ Eq a0 fv0_15.toInt x → 0 ≤ x.1 ∧ x.1 ≤ x.2 ∧ x.2 ≤ fv0_1.toInt) ∧ (∃ z0 : Int32, tw_fv Eq a0 2 = .int z0 ∧ (x.toInt ≠ 0 → fv0_2.toInt < z0.toInt)) ∧ rg_ok Eq a0) ∧ kp = kq ∧ L = Lq ∧ tw_fr kp L [(12, 2), (12, 3), (12, 4)] [305, 320, 321, 322] E Eq) (va_A (va_pl L E) sz)) 0 0 (va_A (va_pl L E) sz) := by
  refine tw_ofW (by decide) (Nat.le_of_ble_eq_true rfl) ?_
  intro p e s m below meth c A ls hx hb hr hml hB hown hlocks hK hN hA TH hS hl
  have hown : s.vm.findClass "TreeMergeModel" = some m.cls := hown
  have hl : lv_has ls 6 [(0, .ref a0), (1, .int x1)] := hl
  obtain ⟨kp0, ekp⟩ : ∃ z, z = kp := ⟨_, rfl⟩
  obtain ⟨L0, eL⟩ : ∃ z, z = L := ⟨_, rfl⟩
  rw [show tw_Q D cs kp L = tw_Q D cs kp0 L0 by rw [ekp, eL]]
  have hex : ∀ a : Nat, a ∈ L0 → a ∈ L ∧ kp a = kp0 a := fun a h => ⟨by rw [← eL]; exact h, by rw [ekp]⟩
  have hF : tw_fr kp L [(12, 2), (12, 3), (12, 4)] [305, 320, 321, 322] E E := tw_fr.rf
  obtain ⟨qfv0_15, hqfv0_15, hqfv0_15a, hqfv0_15b⟩ := tw_rd TH hm0 hk0 (by decide) (by decide) (k := 15) rfl
  have eqfv0_15 : qfv0_15 = fv0_15 := by have q := hqfv0_15.symm.trans hfv0_15; injection q
  rw [eqfv0_15] at hqfv0_15a hqfv0_15b
  obtain ⟨qfv0_1, hqfv0_1, hqfv0_1a, hqfv0_1b⟩ := tw_rd TH hm0 hk0 (by decide) (by decide) (k := 1) rfl
  have eqfv0_1 : qfv0_1 = fv0_1 := by have q := hqfv0_1.symm.trans hfv0_1; injection q
  rw [eqfv0_1] at hqfv0_1a hqfv0_1b
  obtain ⟨qfv0_2, hqfv0_2, hqfv0_2a, hqfv0_2b⟩ := tw_rd TH hm0 hk0 (by decide) (by decide) (k := 2) rfl
  have eqfv0_2 : qfv0_2 = fv0_2 := by have q := hqfv0_2.symm.trans hfv0_2; injection q
  rw [eqfv0_2] at hqfv0_2a hqfv0_2b
  have ec63 : ((63 : Int32).toInt) = 63 := (by decide)
  have ec42 : ((42 : Int32).toInt) = 42 := (by decide)
  have ec59 : ((59 : Int32).toInt) = 59 := (by decide)
  refine lv_iconst (v := 1) hx hb dX12_items_0 (by decide) ?_
  refine lv_istore_n (lv' := [(2, .int 1), (0, .ref a0), (1, .int x1)]) hx hb dX12_items_1 rfl hl (by decide) rfl (fun ls hl => ?_)
  have hJ2 : ∀ (n2 : Nat) (y2_2 : Int32) (u2_0_2 : Int32) (Eg2 : Nat → va_E) (H : Heap) (locs : List Loc) (ls : Array Slot), 0 ≤ y2_2.toInt → y2_2.toInt ≤ 1 → 0 ≤ u2_0_2.toInt → u2_0_2.toInt ≤ 500 → (y2_2.toInt ≠ 0 → gy_at (tw_el E a0 0) fv0_1.toInt (it_q E a0 (x1.toInt)) (u2_0_2.toInt) fv0_15.toInt (kp_ E a0 fv0_15.toInt) (ip_ Eg2 a0 fv0_15.toInt)) → (y2_2.toInt = 0 → gy_at (tw_el E a0 0) fv0_1.toInt 3 (u2_0_2.toInt) fv0_15.toInt (kp_ E a0 fv0_15.toInt) (ip_ Eg2 a0 fv0_15.toInt) ∧ u2_0_2.toInt < fv0_1.toInt ∧ tw_el E a0 0 (u2_0_2.toInt).toNat = 59) → (it_c (tw_el E a0 0) fv0_1.toInt (u2_0_2.toInt) (tw_el Eg2 a0 9 (x1.toInt).toNat)) → (0 ≤ tw_el Eg2 a0 9 (x1.toInt).toNat) → (∀ x : Int × Int, ip_ Eg2 a0 fv0_15.toInt x → 0 ≤ x.1 ∧ x.1 ≤ x.2 ∧ x.2 ≤ fv0_1.toInt) → (fv0_2.toInt ≤ u2_0_2.toInt) → 501 - u2_0_2.toInt ≤ (n2 : Int) → tw_fv Eg2 a0 2 = .int u2_0_2 → tw_fr kp L [(12, 2), (12, 3), (12, 4)] [305, 320, 321, 322] E Eg2 → rg_ok Eg2 a0 → tk_at Eg2 a0 → tw_H D cs kp L Eg2 A H → va_S A s.heap H locs → lv_has ls 6 [(2, .int y2_2), (0, .ref a0), (1, .int x1)] → W p l e { frames := 6, cells := 0, slots := 0, locals := 127 } s m [.ref a0, .int x1].toArray below meth c H locs 0 0 (MQ below (tw_Q D cs kp0 L0 (fun v kq Lq Eq => (∃ x : Int32, v = some (.int x) ∧ 0 ≤ x.toInt ∧ x.toInt ≤ 1 ∧ (x.toInt = 0 → gy_all (tw_el E a0 0) fv0_1.toInt = -1) ∧ (x.toInt ≠ 0 → tk_at Eq a0) ∧ (x.toInt ≠ 0 → (fv0_1.toInt ≤ tw_fi Eq a0 2 → gy_all (tw_el E a0 0) fv0_1.toInt = gy_fin (tw_el E a0 0) fv0_15.toInt (kp_ E a0 fv0_15.toInt) (ip_ Eq a0 fv0_15.toInt)) ∧ (tw_fi Eq a0 2 < fv0_1.toInt → gy_at (tw_el E a0 0) fv0_1.toInt 0 (tw_fi Eq a0 2) fv0_15.toInt (kp_ E a0 fv0_15.toInt) (ip_ Eq a0 fv0_15.toInt))) ∧ (x.toInt = 0 → tw_fi Eq a0 4 ≠ -1) ∧ (x.toInt ≠ 0 → ∀ x : Int × Int, ip_ Eq a0 fv0_15.toInt x → 0 ≤ x.1 ∧ x.1 ≤ x.2 ∧ x.2 ≤ fv0_1.toInt) ∧ (∃ z0 : Int32, tw_fv Eq a0 2 = .int z0 ∧ (x.toInt ≠ 0 → fv0_2.toInt < z0.toInt)) ∧ rg_ok Eq a0) ∧ kp = kq ∧ L = Lq ∧ tw_fr kp L [(12, 2), (12, 3), (12, 4)] [305, 320, 321, 322] E Eq) A) [.ref a0, .int x1].toArray s 0 0 A) (F0 m 2 ls []) := by
    intro n2
    induction n2 using Nat.strongRecOn with
    | _ n2 ih2 =>
      intro y2_2 u2_0_2 Eg2 H locs ls hy2_2a hy2_2b hu2_0_2a hu2_0_2b hin2_0 hin2_1 hin2_2 hin2_3 hin2_4 hin2_5 hmeas2 hfm2_0 hG2 hcg2_0 hcg2_1 TH hS hl
      have hF := hF.tr hG2 (fun _ h => ⟨h, rfl⟩) (by decide) (by decide)
      have hmf1 : tw_fv Eg2 a0 15 = .int fv0_15 := (hG2.1 a0 15 hm0 (by rw [hk0]; decide)).trans hfv0_15
      have hmf2 : tw_fv Eg2 a0 1 = .int fv0_1 := (hG2.1 a0 1 hm0 (by rw [hk0]; decide)).trans hfv0_1
      refine lv_iload_n hx hb dX12_items_2 rfl (lv_at hl 0 rfl) ?_
      refine lv_if_eq (tgt := 152) hx hb dX12_items_3 (by decide) (fun hc3 => ?_) (fun hc3 => ?_)
      · have hf4 : y2_2.toInt = 0 := by have z := (fa_eq _ _).mp hc3; have : ((0 : Int32).toInt) = 0 := (by decide); omega
        obtain ⟨xi5, hxi5, hxi5a, hxi5b⟩ := tw_rd TH hm0 hk0 (by decide) (by decide) (k := 3) rfl
        have htl9 := tk_le hcg2_1 (tw_fi_of hmf2) (tw_fi_of hfm2_0) (tw_fi_of hxi5)
        have hfin := hin2_1 (by omega)
        have hfa := hfin.2.1
        have hfb := hfin.2.2
        have ft152 := el_fr TH hF hm0 hk0 (k := 0) (by decide) rfl (by decide) (by decide) (by decide)
        have he9 : xi5.toInt = u2_0_2.toInt + 1 := tk_one (c := 59) hcg2_1 (tw_fi_of hmf2) (tw_fi_of hfm2_0) (tw_fi_of hxi5) hfa (by rw [ft152]; exact hfb) (by decide)
        refine lv_aload_n hx hb dX12_items_152 rfl (lv_at hl 1 rfl) ?_
        refine lv_iconst (v := 1) hx hb dX12_items_153 (by decide) ?_
        refine tw_Vc (o := a0) (ci := 12) (n := 1) (post := (fun v kq Lq Eq => (∃ x : Int32, v = some (.int x) ∧ 0 ≤ x.toInt ∧ x.toInt ≤ 1 ∧ (((1 : Int32).toInt = 0 → x.toInt = 0 ∧ tw_fi Eq a0 4 ≠ -1) ∧ ((1 : Int32).toInt ≠ 0 → x.toInt = 1 ∧ lx_WS (tw_el Eg2 a0 0) fv0_1.toInt xi5.toInt (tw_fi Eq a0 2) ∧ lx_TK (tw_el Eg2 a0 0) fv0_1.toInt (tw_fi Eq a0 2) (tw_fi Eq a0 3))) ∧ (∃ z0 z1 : Int32, tw_fv Eq a0 2 = .int z0 ∧ tw_fv Eq a0 3 = .int z1 ∧ (z0.toInt ≤ z1.toInt ∧ z1.toInt ≤ fv0_1.toInt ∧ (x.toInt ≠ 0 → xi5.toInt ≤ z0.toInt) ∧ (x.toInt = 0 → z0.toInt = u2_0_2.toInt)))) ∧ kp = kq ∧ L = Lq ∧ tw_fr kp L [(12, 2), (12, 3), (12, 4)] [] Eg2 Eq)) (As := [.int 1]) (rest := []) ⟨hx, hb, hml, hown, hB⟩ (fun sz => tX12_passes_vL l D cs a0 (1 : Int32) u2_0_2 xi5 fv0_1 hm0 hk0 (by have : ((1 : Int32).toInt) = 1 := (by decide); omega) (by have : ((1 : Int32).toInt) = 1 := (by decide); omega) hfm2_0 hxi5 hmf2 (by have : ((1 : Int32).toInt) = 1 := (by decide); omega) (by have : ((1 : Int32).toInt) = 1 := (by decide); omega) (by have : ((1 : Int32).toInt) = 1 := (by decide); omega) sz) cg_12_237_X12_passes rfl rfl (by decide +kernel) ⟨Nat.le_of_ble_eq_true rfl, Nat.le_of_ble_eq_true rfl⟩ hK hN TH hS hA rfl hm0 hk0 (by decide) rfl hl.1 rfl (Nat.le_of_ble_eq_true rfl) dX12_items_154 ⟨Nat.le_of_ble_eq_true rfl, Nat.le_of_ble_eq_true rfl⟩ (fun v6 kp6 L6 E6 H locs hq6 hx6 TH hS => ?_)
        obtain ⟨⟨xc7, rfl, hxc7a, hxc7b, hpoxc7_0, ⟨zfxc7_0_0, zfxc7_0_1, hzfxc7_0_0, hzfxc7_0_1, hzpxc7_0⟩⟩, rfl, rfl, hst6⟩ := hq6
        have hF := hF.tr hst6 (fun _ h => ⟨h, rfl⟩) (by decide) (by decide)
        have hG2 := hG2.tr hst6 (fun _ h => ⟨h, rfl⟩) (by decide) (by decide)
        have hmf8 : tw_fv E6 a0 15 = .int fv0_15 := (hst6.1 a0 15 hm0 (by rw [hk0]; decide)).trans hmf1
        have hmf9 : tw_fv E6 a0 1 = .int fv0_1 := (hst6.1 a0 1 hm0 (by rw [hk0]; decide)).trans hmf2
        have hcg2_0 : rg_ok E6 a0 := rg_ok_fr TH hst6 hm0 hk0 (by decide) (by decide) hcg2_0
        obtain ⟨qzfxc7_0_0, hqzfxc7_0_0, hqzfxc7_0_0a, hqzfxc7_0_0b⟩ := tw_rd TH hm0 hk0 (by decide) (by decide) (k := 2) rfl
        have eqzfxc7_0_0 : qzfxc7_0_0 = zfxc7_0_0 := by have q := hqzfxc7_0_0.symm.trans hzfxc7_0_0; injection q
        rw [eqzfxc7_0_0] at hqzfxc7_0_0a hqzfxc7_0_0b
        obtain ⟨qzfxc7_0_1, hqzfxc7_0_1, hqzfxc7_0_1a, hqzfxc7_0_1b⟩ := tw_rd TH hm0 hk0 (by decide) (by decide) (k := 3) rfl
        have eqzfxc7_0_1 : qzfxc7_0_1 = zfxc7_0_1 := by have q := hqzfxc7_0_1.symm.trans hzfxc7_0_1; injection q
        rw [eqzfxc7_0_1] at hqzfxc7_0_1a hqzfxc7_0_1b
        refine W.eq (g2 := F0 m 157 ls [.int xc7]) rfl ?_
        exact tw_zret hx hb hr hlocks (ia_bool (by omega) (by omega)) TH hS hex ⟨⟨_, rfl, (show 0 ≤ Int32.toInt xc7 from by  omega), (show Int32.toInt xc7 ≤ 1 from by  omega), (by  intro q; exfalso; have hpb := (hpoxc7_0.2 (by decide)).1; omega), (by  intro _; exact tk_of TH hst6 hm0 hk0 (by decide) (by decide) (by decide) (tw_fi_of hmf2) ((hpoxc7_0).2 (by decide)).2), (by  intro _; have hw9 := ((hpoxc7_0).2 (by decide)).2.1; rw [ft152] at hw9; rw [ip_fr TH hst6 hm0 hk0 (by decide) (by decide) (by omega)]; have g3 := gy_3 hfin.1 (by omega) (by omega) ⟨hfa, hfb⟩ (lx_WS_cast (b1 := tw_fi E6 a0 2) (by omega) hw9); exact g3), (by  intro q; exfalso; have hpb := ((hpoxc7_0).2 (by decide)).1; omega), (by  intro _ x hx; rw [ip_fr TH hst6 hm0 hk0 (by decide) (by decide) (by omega)] at hx; exact hin2_4 x hx), ⟨zfxc7_0_0, hzfxc7_0_0, by  omega⟩, hcg2_0⟩, rfl, rfl, hF⟩ (Nat.le_of_ble_eq_true rfl) (Nat.le_of_ble_eq_true rfl) dX12_items_157
      · have hf10 : ¬ (y2_2.toInt = 0) := fun q => hc3 ((fa_eq _ _).mpr (by have : ((0 : Int32).toInt) = 0 := (by decide); omega))
        obtain ⟨xi11, hxi11, hxi11a, hxi11b⟩ := tw_rd TH hm0 hk0 (by decide) (by decide) (k := 3) rfl
        have hga := hin2_0 (by omega)
        have htl := tk_le hcg2_1 (tw_fi_of hmf2) (tw_fi_of hfm2_0) (tw_fi_of hxi11)
        have ft := el_fr TH hF hm0 hk0 (k := 0) (by decide) rfl (by decide) (by decide) (by decide)
        have htkE : lx_TK (tw_el E a0 0) fv0_1.toInt (u2_0_2.toInt) (xi11.toInt) := (by have z := hcg2_1; unfold tk_at at z; rw [tw_fi_of hmf2, tw_fi_of hfm2_0, tw_fi_of hxi11, ft] at z; exact z.2)
        refine lv_aload_n hx hb dX12_items_6 rfl (lv_at hl 1 rfl) ?_
        refine tw_get (ci := 12) (C := RX12) (T := TX12) (N := 64) hx hb hB cx_inX12 hown hK TH hm0 hk0 rfl ⟨by decide, rfl⟩ 2 (by decide) cw_1195 (fun _ h9 => h9) dX12_items_7 (fun hv => ?_)
        rw [hfm2_0]
        refine lv_istore_n (lv' := [(3, .int u2_0_2), (2, .int y2_2), (0, .ref a0), (1, .int x1)]) hx hb dX12_items_10 rfl hl (by decide) rfl (fun ls hl => ?_)
        refine lv_aload_n hx hb dX12_items_11 rfl (lv_at hl 2 rfl) ?_
        refine tw_get (ci := 12) (C := RX12) (T := TX12) (N := 64) hx hb hB cx_inX12 hown hK TH hm0 hk0 rfl ⟨by decide, rfl⟩ 3 (by decide) cw_1196 (fun _ h9 => h9) dX12_items_12 (fun hv => ?_)
        rw [hxi11]
        refine lv_aload_n hx hb dX12_items_15 rfl (lv_at hl 2 rfl) ?_
        refine tw_get (ci := 12) (C := RX12) (T := TX12) (N := 64) hx hb hB cx_inX12 hown hK TH hm0 hk0 rfl ⟨by decide, rfl⟩ 2 (by decide) cw_1195 (fun _ h9 => h9) dX12_items_16 (fun hv => ?_)
        rw [hfm2_0]
        refine lv_isub hx hb dX12_items_19 ?_
        refine lv_topi (fun zi12 ezi12 => ?_)
        have hzi12 : zi12.toInt = xi11.toInt - u2_0_2.toInt := by rw [ezi12];  have := ia_lo xi11; have := ia_hi xi11; have := ia_lo u2_0_2; have := ia_hi u2_0_2; exact (ia_sub (by omega) (by omega)).trans (by omega)
        refine lv_istore (lv' := [(4, .int zi12), (3, .int u2_0_2), (2, .int y2_2), (0, .ref a0), (1, .int x1)]) hx hb dX12_items_20 hl (by decide) rfl (fun ls hl => ?_)
        refine lv_aload_n hx hb dX12_items_22 rfl (lv_at hl 3 rfl) ?_
        refine lv_aload_n hx hb dX12_items_23 rfl (lv_at hl 3 rfl) ?_
        refine tw_Vc (o := a0) (ci := 12) (n := 0) (post := (fun v kq Lq Eq => (∃ x : Int32, v = some (.int x) ∧ 0 ≤ x.toInt ∧ x.toInt ≤ 1 ∧ (x.toInt ≠ 0 ↔ lx_nm (tw_el Eg2 a0 0) fv0_1.toInt u2_0_2.toInt xi11.toInt)) ∧ kp = kq ∧ L = Lq ∧ Eg2 = Eq)) (As := []) (rest := [.ref a0]) ⟨hx, hb, hml, hown, hB⟩ (fun sz => tX12_isName_vL l D cs a0 u2_0_2 xi11 fv0_1 hm0 hk0 hfm2_0 hxi11 hmf2 (by  omega) (by  omega) sz) cg_12_234_X12_isName rfl rfl (by decide +kernel) ⟨Nat.le_of_ble_eq_true rfl, Nat.le_of_ble_eq_true rfl⟩ hK hN TH hS hA rfl hm0 hk0 (by decide) rfl hl.1 rfl (Nat.le_of_ble_eq_true rfl) dX12_items_24 ⟨Nat.le_of_ble_eq_true rfl, Nat.le_of_ble_eq_true rfl⟩ (fun v13 kp13 L13 E13 H locs hq13 hx13 TH hS => ?_)
        obtain ⟨⟨xc14, rfl, hxc14a, hxc14b, hpoxc14_0⟩, rfl, rfl, rfl⟩ := hq13
        refine W.eq (g2 := F0 m 27 ls [.int xc14, .ref a0]) rfl ?_
        have hnm := hpoxc14_0
        rw [ft] at hnm
        refine tw_Vc (o := a0) (ci := 12) (n := 1) (post := (fun v kq Lq Eq => (∃ x : Int32, v = some (.int x) ∧ 0 ≤ x.toInt ∧ x.toInt ≤ 1 ∧ ((xc14.toInt = 0 → x.toInt = 0 ∧ tw_fi Eq a0 4 ≠ -1) ∧ (xc14.toInt ≠ 0 → x.toInt = 1 ∧ lx_WS (tw_el Eg2 a0 0) fv0_1.toInt xi11.toInt (tw_fi Eq a0 2) ∧ lx_TK (tw_el Eg2 a0 0) fv0_1.toInt (tw_fi Eq a0 2) (tw_fi Eq a0 3))) ∧ (∃ z0 z1 : Int32, tw_fv Eq a0 2 = .int z0 ∧ tw_fv Eq a0 3 = .int z1 ∧ (z0.toInt ≤ z1.toInt ∧ z1.toInt ≤ fv0_1.toInt ∧ (x.toInt ≠ 0 → xi11.toInt ≤ z0.toInt) ∧ (x.toInt = 0 → z0.toInt = u2_0_2.toInt)))) ∧ kp = kq ∧ L = Lq ∧ tw_fr kp L [(12, 2), (12, 3), (12, 4)] [] Eg2 Eq)) (As := [.int xc14]) (rest := []) ⟨hx, hb, hml, hown, hB⟩ (fun sz => tX12_passes_vL l D cs a0 xc14 u2_0_2 xi11 fv0_1 hm0 hk0 (by omega) (by omega) hfm2_0 hxi11 hmf2 (by  omega) (by  omega) (by  omega) sz) cg_12_237_X12_passes rfl rfl (by decide +kernel) ⟨Nat.le_of_ble_eq_true rfl, Nat.le_of_ble_eq_true rfl⟩ hK hN TH hS hA rfl hm0 hk0 (by decide) rfl hl.1 rfl (Nat.le_of_ble_eq_true rfl) dX12_items_27 ⟨Nat.le_of_ble_eq_true rfl, Nat.le_of_ble_eq_true rfl⟩ (fun v15 kp15 L15 E15 H locs hq15 hx15 TH hS => ?_)
        obtain ⟨⟨xc16, rfl, hxc16a, hxc16b, hpoxc16_0, ⟨zfxc16_0_0, zfxc16_0_1, hzfxc16_0_0, hzfxc16_0_1, hzpxc16_0⟩⟩, rfl, rfl, hst15⟩ := hq15
        have hF := hF.tr hst15 (fun _ h => ⟨h, rfl⟩) (by decide) (by decide)
        have hG2 := hG2.tr hst15 (fun _ h => ⟨h, rfl⟩) (by decide) (by decide)
        have hmf17 : tw_fv E15 a0 15 = .int fv0_15 := (hst15.1 a0 15 hm0 (by rw [hk0]; decide)).trans hmf1
        have hmf18 : tw_fv E15 a0 1 = .int fv0_1 := (hst15.1 a0 1 hm0 (by rw [hk0]; decide)).trans hmf2
        have hcg2_0 : rg_ok E15 a0 := rg_ok_fr TH hst15 hm0 hk0 (by decide) (by decide) hcg2_0
        obtain ⟨qzfxc16_0_0, hqzfxc16_0_0, hqzfxc16_0_0a, hqzfxc16_0_0b⟩ := tw_rd TH hm0 hk0 (by decide) (by decide) (k := 2) rfl
        have eqzfxc16_0_0 : qzfxc16_0_0 = zfxc16_0_0 := by have q := hqzfxc16_0_0.symm.trans hzfxc16_0_0; injection q
        rw [eqzfxc16_0_0] at hqzfxc16_0_0a hqzfxc16_0_0b
        obtain ⟨qzfxc16_0_1, hqzfxc16_0_1, hqzfxc16_0_1a, hqzfxc16_0_1b⟩ := tw_rd TH hm0 hk0 (by decide) (by decide) (k := 3) rfl
        have eqzfxc16_0_1 : qzfxc16_0_1 = zfxc16_0_1 := by have q := hqzfxc16_0_1.symm.trans hzfxc16_0_1; injection q
        rw [eqzfxc16_0_1] at hqzfxc16_0_1a hqzfxc16_0_1b
        refine W.eq (g2 := F0 m 30 ls [.int xc16]) rfl ?_
        refine lv_if_ne (tgt := 35) hx hb dX12_items_30 (by decide) (fun hc19 => ?_) (fun hc19 => ?_)
        · have hf20 : ¬ (xc16.toInt = 0) := fun q => hc19 ((fa_eq _ _).mpr (by have : ((0 : Int32).toInt) = 0 := (by decide); omega))
          have hpb := hpoxc16_0
          have hbn : xc14.toInt ≠ 0 := (fun z => (by have y := (hpb.1 z).1; omega))
          have hNm := hnm.1 hbn
          have hw0 := (hpb.2 hbn).2
          have htk35 : tk_at E15 a0 := tk_of TH hst15 hm0 hk0 (by decide) (by decide) (by decide) (tw_fi_of hmf2) hw0
          have hw1 := hw0.1
          rw [ft, tw_fi_of hzfxc16_0_0] at hw1
          have hp9 : p9_ok E15 a0 (tw_el E15 a0 9) := fun _ => rfl
          have hg10 : g10_ok E15 a0 (rx E15 a0 10) := fun _ _ _ => rfl
          have hg11 : g11_ok E15 a0 (rx E15 a0 11) := fun _ _ _ => rfl
          have hipB : ip_ E15 a0 fv0_15.toInt = ip_ Eg2 a0 fv0_15.toInt := ip_fr TH hst15 hm0 hk0 (by decide) (by decide) (by omega)
          have h9B := el_fr TH hst15 hm0 hk0 (k := 9) (by decide) rfl (by decide) (by decide) (by decide)
          have hcb := hin2_2.2 hNm.1 hNm.2.1
          have hltE := htl.2.2.2 hNm.1
          refine lv_aload_n hx hb dX12_items_35 rfl (lv_at hl 3 rfl) ?_
          refine tw_get (ci := 12) (C := RX12) (T := TX12) (N := 64) hx hb hB cx_inX12 hown hK TH hm0 hk0 rfl ⟨by decide, rfl⟩ 9 (by decide) cw_1202 (fun _ h9 => h9) dX12_items_36 (fun hv => ?_)
          obtain ⟨xr21, hxr21, hmxr21, hkxr21⟩ : ∃ a : Nat, tw_fv E15 a0 9 = .ref a ∧ a ∈ L ∧ kp a = 305 := hv
          rw [hxr21]
          refine lv_iload_n hx hb dX12_items_39 rfl (lv_at hl 4 rfl) ?_
          refine tw_iald (k := 305) (t0 := 0) (n := 10) (lo := 0) (hi := 252) hx hb hK TH hmxr21 hkxr21 (by decide) rfl rfl (i := x1) (vp_in_iff.mpr ⟨by  omega, by  omega⟩) dX12_items_40 (fun hxe22a hxe22b => ?_)
          obtain ⟨xe22, exe22⟩ : ∃ z : Int32, tw_iv E15 xr21 (Int32.toNatClampNeg x1) = z := ⟨_, rfl⟩
          rw [exe22] at hxe22a hxe22b ⊢
          have rf_xe22 : tw_el E15 a0 9 (x1.toInt).toNat = xe22.toInt := (by rw [tw_el_of hxr21]; exact congrArg Int32.toInt exe22)
          have hc9 : tw_el E15 a0 9 (x1.toInt).toNat = xe22.toInt := rf_xe22
          have hc9h := hc9
          rw [h9B] at hc9h
          rw [hc9h] at hcb
          refine lv_istore (lv' := [(5, .int xe22), (4, .int zi12), (3, .int u2_0_2), (2, .int y2_2), (0, .ref a0), (1, .int x1)]) hx hb dX12_items_41 hl (by decide) rfl (fun ls hl => ?_)
          refine lv_aload_n hx hb dX12_items_43 rfl (lv_at hl 4 rfl) ?_
          refine tw_get (ci := 12) (C := RX12) (T := TX12) (N := 64) hx hb hB cx_inX12 hown hK TH hm0 hk0 rfl ⟨by decide, rfl⟩ 10 (by decide) cw_1203 (fun _ h9 => h9) dX12_items_44 (fun hv => ?_)
          obtain ⟨xr23, hxr23, hmxr23, hkxr23⟩ : ∃ a : Nat, tw_fv E15 a0 10 = .ref a ∧ a ∈ L ∧ kp a = 310 := hv
          rw [hxr23]
          refine lv_iload_n hx hb dX12_items_47 rfl (lv_at hl 5 rfl) ?_
          refine tw_aald (k := 310) (t0 := 4) (n := 10) (lo := 320) (hi := 0) (ty := .int) hx hb hK TH hmxr23 hkxr23 (by decide) rfl rfl (i := x1) (vp_in_iff.mpr ⟨by  omega, by  omega⟩) dX12_items_48 (fun xr24 exr24 hmxr24 hkxr24 => ?_)
          have hkxr24 : kp xr24 = 320 := hkxr24
          refine lv_iload hx hb dX12_items_49 (lv_at hl 0 rfl) ?_
          refine lv_iload_n hx hb dX12_items_51 rfl (lv_at hl 2 rfl) ?_
          refine tw_iast (k := 320) (n := 252) (lo := 0) (hi := 500) hx hb hK TH hS hmxr24 hkxr24 (by decide) rfl (i := xe22) (x := u2_0_2) (vp_in_iff.mpr ⟨by  omega, by  omega⟩) (by omega) (by omega) dX12_items_52 (fun H locs E25 TH hS hp26 hp27 hp28 => ?_)
          have hst29 : tw_fr kp L [] [320] E15 E25 := tw_fr.ast tw_fr.rf (fun _ => hkxr24) hp26 hp27 (by decide)
          have hF := hF.tr hst29 (fun _ h => ⟨h, rfl⟩) (by decide) (by decide)
          have hG2 := hG2.tr hst29 (fun _ h => ⟨h, rfl⟩) (by decide) (by decide)
          have hmf30 : tw_fv E25 a0 15 = .int fv0_15 := (hst29.1 a0 15 hm0 (by rw [hk0]; decide)).trans hmf17
          have hmf31 : tw_fv E25 a0 1 = .int fv0_1 := (hst29.1 a0 1 hm0 (by rw [hk0]; decide)).trans hmf18
          have hmf32 : tw_fv E25 a0 2 = .int zfxc16_0_0 := (hst29.1 a0 2 hm0 (by rw [hk0]; decide)).trans hzfxc16_0_0
          have hmf33 : tw_fv E25 a0 3 = .int zfxc16_0_1 := (hst29.1 a0 3 hm0 (by rw [hk0]; decide)).trans hzfxc16_0_1
          have hmf34 : tw_fv E25 a0 9 = .ref xr21 := (hst29.1 a0 9 hm0 (by rw [hk0]; decide)).trans hxr21
          have hmf35 : tw_fv E25 a0 10 = .ref xr23 := (hst29.1 a0 10 hm0 (by rw [hk0]; decide)).trans hxr23
          have hcg2_0_o := hcg2_0
          have htk35_o := htk35
          have hp9_o := hp9
          have hg10_o := hg10
          have hg11_o := hg11
          have hcg2_0 : rg_ok E25 a0 := rg_ok_fr TH hst29 hm0 hk0 (by decide) (by decide) hcg2_0
          have htk35 : tk_at E25 a0 := tk_at_fr TH hst29 hm0 hk0 (by decide) (by decide) htk35
          have hp9 : p9_ok E25 a0 (tw_el E15 a0 9) := p9_ok_fr TH hst29 hm0 hk0 (by decide) (by decide) hp9
          have hg10 : g10_ok E25 a0 (fun j n => if j = (x1.toInt).toNat ∧ n = (xe22.toInt).toNat then u2_0_2.toInt else (rx E15 a0 10) j n) := g10_st (i := x1) (c := xe22) (x := u2_0_2) hcg2_0_o hxr23 exr24 hkxr23 hkxr24 hp26 hp27 hp28 (by have hcl : x1.toNatClampNeg = x1.toInt.toNat := rfl; omega) hg10_o
          have hg11 : g11_ok E25 a0 (rx E15 a0 11) := g11_ok_fr TH hst29 hm0 hk0 (by decide) (by decide) hg11
          refine lv_aload_n hx hb dX12_items_53 rfl (lv_at hl 4 rfl) ?_
          refine tw_get (ci := 12) (C := RX12) (T := TX12) (N := 64) hx hb hB cx_inX12 hown hK TH hm0 hk0 rfl ⟨by decide, rfl⟩ 11 (by decide) cw_1204 (fun _ h9 => h9) dX12_items_54 (fun hv => ?_)
          obtain ⟨xr36, hxr36, hmxr36, hkxr36⟩ : ∃ a : Nat, tw_fv E25 a0 11 = .ref a ∧ a ∈ L ∧ kp a = 311 := hv
          rw [hxr36]
          refine lv_iload_n hx hb dX12_items_57 rfl (lv_at hl 5 rfl) ?_
          refine tw_aald (k := 311) (t0 := 4) (n := 10) (lo := 321) (hi := 0) (ty := .int) hx hb hK TH hmxr36 hkxr36 (by decide) rfl rfl (i := x1) (vp_in_iff.mpr ⟨by  omega, by  omega⟩) dX12_items_58 (fun xr37 exr37 hmxr37 hkxr37 => ?_)
          have hkxr37 : kp xr37 = 321 := hkxr37
          refine lv_iload hx hb dX12_items_59 (lv_at hl 0 rfl) ?_
          refine lv_iload hx hb dX12_items_61 (lv_at hl 1 rfl) ?_
          refine tw_iast (k := 321) (n := 252) (lo := 0) (hi := 500) hx hb hK TH hS hmxr37 hkxr37 (by decide) rfl (i := xe22) (x := zi12) (vp_in_iff.mpr ⟨by  omega, by  omega⟩) (by omega) (by omega) dX12_items_63 (fun H locs E38 TH hS hp39 hp40 hp41 => ?_)
          have hst42 : tw_fr kp L [] [321] E25 E38 := tw_fr.ast tw_fr.rf (fun _ => hkxr37) hp39 hp40 (by decide)
          have hF := hF.tr hst42 (fun _ h => ⟨h, rfl⟩) (by decide) (by decide)
          have hG2 := hG2.tr hst42 (fun _ h => ⟨h, rfl⟩) (by decide) (by decide)
          have hmf43 : tw_fv E38 a0 15 = .int fv0_15 := (hst42.1 a0 15 hm0 (by rw [hk0]; decide)).trans hmf30
          have hmf44 : tw_fv E38 a0 1 = .int fv0_1 := (hst42.1 a0 1 hm0 (by rw [hk0]; decide)).trans hmf31
          have hmf45 : tw_fv E38 a0 2 = .int zfxc16_0_0 := (hst42.1 a0 2 hm0 (by rw [hk0]; decide)).trans hmf32
          have hmf46 : tw_fv E38 a0 3 = .int zfxc16_0_1 := (hst42.1 a0 3 hm0 (by rw [hk0]; decide)).trans hmf33
          have hmf47 : tw_fv E38 a0 9 = .ref xr21 := (hst42.1 a0 9 hm0 (by rw [hk0]; decide)).trans hmf34
          have hmf48 : tw_fv E38 a0 10 = .ref xr23 := (hst42.1 a0 10 hm0 (by rw [hk0]; decide)).trans hmf35
          have hmf49 : tw_fv E38 a0 11 = .ref xr36 := (hst42.1 a0 11 hm0 (by rw [hk0]; decide)).trans hxr36
          have hcg2_0_o := hcg2_0
          have htk35_o := htk35
          have hp9_o := hp9
          have hg10_o := hg10
          have hg11_o := hg11
          have hcg2_0 : rg_ok E38 a0 := rg_ok_fr TH hst42 hm0 hk0 (by decide) (by decide) hcg2_0
          have htk35 : tk_at E38 a0 := tk_at_fr TH hst42 hm0 hk0 (by decide) (by decide) htk35
          have hp9 : p9_ok E38 a0 (tw_el E15 a0 9) := p9_ok_fr TH hst42 hm0 hk0 (by decide) (by decide) hp9
          have hg10 : g10_ok E38 a0 (fun j n => if j = (x1.toInt).toNat ∧ n = (xe22.toInt).toNat then u2_0_2.toInt else (rx E15 a0 10) j n) := g10_ok_fr TH hst42 hm0 hk0 (by decide) (by decide) hg10
          have hg11 : g11_ok E38 a0 (fun j n => if j = (x1.toInt).toNat ∧ n = (xe22.toInt).toNat then zi12.toInt else (rx E15 a0 11) j n) := g11_st (i := x1) (c := xe22) (x := zi12) hcg2_0_o hxr36 exr37 hkxr36 hkxr37 hp39 hp40 hp41 (by have hcl : x1.toNatClampNeg = x1.toInt.toNat := rfl; omega) hg11_o
          refine lv_aload_n hx hb dX12_items_64 rfl (lv_at hl 4 rfl) ?_
          refine tw_get (ci := 12) (C := RX12) (T := TX12) (N := 64) hx hb hB cx_inX12 hown hK TH hm0 hk0 rfl ⟨by decide, rfl⟩ 12 (by decide) cw_1205 (fun _ h9 => h9) dX12_items_65 (fun hv => ?_)
          obtain ⟨xr50, hxr50, hmxr50, hkxr50⟩ : ∃ a : Nat, tw_fv E38 a0 12 = .ref a ∧ a ∈ L ∧ kp a = 312 := hv
          rw [hxr50]
          refine lv_iload_n hx hb dX12_items_68 rfl (lv_at hl 5 rfl) ?_
          refine tw_aald (k := 312) (t0 := 4) (n := 10) (lo := 322) (hi := 0) (ty := .int) hx hb hK TH hmxr50 hkxr50 (by decide) rfl rfl (i := x1) (vp_in_iff.mpr ⟨by  omega, by  omega⟩) dX12_items_69 (fun xr51 exr51 hmxr51 hkxr51 => ?_)
          have hkxr51 : kp xr51 = 322 := hkxr51
          refine lv_iload hx hb dX12_items_70 (lv_at hl 0 rfl) ?_
          refine lv_iconst (v := 0) hx hb dX12_items_72 (by decide) ?_
          refine tw_iast (k := 322) (n := 252) (lo := (-128)) (hi := 127) hx hb hK TH hS hmxr51 hkxr51 (by decide) rfl (i := xe22) (x := 0) (vp_in_iff.mpr ⟨by  omega, by  omega⟩) (by have : ((0 : Int32).toInt) = 0 := (by decide); omega) (by have : ((0 : Int32).toInt) = 0 := (by decide); omega) dX12_items_73 (fun H locs E52 TH hS hp53 hp54 hp55 => ?_)
          have hst56 : tw_fr kp L [] [322] E38 E52 := tw_fr.ast tw_fr.rf (fun _ => hkxr51) hp53 hp54 (by decide)
          have hF := hF.tr hst56 (fun _ h => ⟨h, rfl⟩) (by decide) (by decide)
          have hG2 := hG2.tr hst56 (fun _ h => ⟨h, rfl⟩) (by decide) (by decide)
          have hmf57 : tw_fv E52 a0 15 = .int fv0_15 := (hst56.1 a0 15 hm0 (by rw [hk0]; decide)).trans hmf43
          have hmf58 : tw_fv E52 a0 1 = .int fv0_1 := (hst56.1 a0 1 hm0 (by rw [hk0]; decide)).trans hmf44
          have hmf59 : tw_fv E52 a0 2 = .int zfxc16_0_0 := (hst56.1 a0 2 hm0 (by rw [hk0]; decide)).trans hmf45
          have hmf60 : tw_fv E52 a0 3 = .int zfxc16_0_1 := (hst56.1 a0 3 hm0 (by rw [hk0]; decide)).trans hmf46
          have hmf61 : tw_fv E52 a0 9 = .ref xr21 := (hst56.1 a0 9 hm0 (by rw [hk0]; decide)).trans hmf47
          have hmf62 : tw_fv E52 a0 10 = .ref xr23 := (hst56.1 a0 10 hm0 (by rw [hk0]; decide)).trans hmf48
          have hmf63 : tw_fv E52 a0 11 = .ref xr36 := (hst56.1 a0 11 hm0 (by rw [hk0]; decide)).trans hmf49
          have hmf64 : tw_fv E52 a0 12 = .ref xr50 := (hst56.1 a0 12 hm0 (by rw [hk0]; decide)).trans hxr50
          have hcg2_0 : rg_ok E52 a0 := rg_ok_fr TH hst56 hm0 hk0 (by decide) (by decide) hcg2_0
          have htk35 : tk_at E52 a0 := tk_at_fr TH hst56 hm0 hk0 (by decide) (by decide) htk35
          have hp9 : p9_ok E52 a0 (tw_el E15 a0 9) := p9_ok_fr TH hst56 hm0 hk0 (by decide) (by decide) hp9
          have hg10 : g10_ok E52 a0 (fun j n => if j = (x1.toInt).toNat ∧ n = (xe22.toInt).toNat then u2_0_2.toInt else (rx E15 a0 10) j n) := g10_ok_fr TH hst56 hm0 hk0 (by decide) (by decide) hg10
          have hg11 : g11_ok E52 a0 (fun j n => if j = (x1.toInt).toNat ∧ n = (xe22.toInt).toNat then zi12.toInt else (rx E15 a0 11) j n) := g11_ok_fr TH hst56 hm0 hk0 (by decide) (by decide) hg11
          refine lv_aload_n hx hb dX12_items_74 rfl (lv_at hl 4 rfl) ?_
          refine tw_get (ci := 12) (C := RX12) (T := TX12) (N := 64) hx hb hB cx_inX12 hown hK TH hm0 hk0 rfl ⟨by decide, rfl⟩ 9 (by decide) cw_1202 (fun _ h9 => h9) dX12_items_75 (fun hv => ?_)
          rw [hmf61]
          refine lv_iload_n hx hb dX12_items_78 rfl (lv_at hl 5 rfl) ?_
          refine lv_dup2_11 hx hb dX12_items_79 rfl rfl ?_
          refine tw_iald (k := 305) (t0 := 0) (n := 10) (lo := 0) (hi := 252) hx hb hK TH hmxr21 hkxr21 (by decide) rfl rfl (i := x1) (vp_in_iff.mpr ⟨by  omega, by  omega⟩) dX12_items_80 (fun hxe65a hxe65b => ?_)
          obtain ⟨xe65, exe65⟩ : ∃ z : Int32, tw_iv E52 xr21 (Int32.toNatClampNeg x1) = z := ⟨_, rfl⟩
          rw [exe65] at hxe65a hxe65b ⊢
          have rf_xe65 : tw_el E52 a0 9 (x1.toInt).toNat = xe65.toInt := (by rw [tw_el_of hmf61]; exact congrArg Int32.toInt exe65)
          have hz80 : xe65.toInt = xe22.toInt := rf_xe65.symm.trans ((hp9 _).trans hc9)
          refine lv_iconst (v := 1) hx hb dX12_items_81 (by decide) ?_
          refine lv_iadd hx hb dX12_items_82 ?_
          refine lv_topi (fun zi66 ezi66 => ?_)
          have hzi66 : zi66.toInt = xe65.toInt + 1 := by rw [ezi66]; have : ((1 : Int32).toInt) = 1 := (by decide); have := ia_lo xe65; have := ia_hi xe65; exact (ia_add (by omega) (by omega)).trans (by omega)
          refine tw_iast (k := 305) (n := 10) (lo := 0) (hi := 252) hx hb hK TH hS hmxr21 hkxr21 (by decide) rfl (i := x1) (x := zi66) (vp_in_iff.mpr ⟨by  omega, by  omega⟩) (by omega) (by omega) dX12_items_83 (fun H locs E67 TH hS hp68 hp69 hp70 => ?_)
          have hst71 : tw_fr kp L [] [305] E52 E67 := tw_fr.ast tw_fr.rf (fun _ => hkxr21) hp68 hp69 (by decide)
          have hF := hF.tr hst71 (fun _ h => ⟨h, rfl⟩) (by decide) (by decide)
          have hG2 := hG2.tr hst71 (fun _ h => ⟨h, rfl⟩) (by decide) (by decide)
          have hmf72 : tw_fv E67 a0 15 = .int fv0_15 := (hst71.1 a0 15 hm0 (by rw [hk0]; decide)).trans hmf57
          have hmf73 : tw_fv E67 a0 1 = .int fv0_1 := (hst71.1 a0 1 hm0 (by rw [hk0]; decide)).trans hmf58
          have hmf74 : tw_fv E67 a0 2 = .int zfxc16_0_0 := (hst71.1 a0 2 hm0 (by rw [hk0]; decide)).trans hmf59
          have hmf75 : tw_fv E67 a0 3 = .int zfxc16_0_1 := (hst71.1 a0 3 hm0 (by rw [hk0]; decide)).trans hmf60
          have hmf76 : tw_fv E67 a0 9 = .ref xr21 := (hst71.1 a0 9 hm0 (by rw [hk0]; decide)).trans hmf61
          have hmf77 : tw_fv E67 a0 10 = .ref xr23 := (hst71.1 a0 10 hm0 (by rw [hk0]; decide)).trans hmf62
          have hmf78 : tw_fv E67 a0 11 = .ref xr36 := (hst71.1 a0 11 hm0 (by rw [hk0]; decide)).trans hmf63
          have hmf79 : tw_fv E67 a0 12 = .ref xr50 := (hst71.1 a0 12 hm0 (by rw [hk0]; decide)).trans hmf64
          have hcg2_0_o := hcg2_0
          have htk35_o := htk35
          have hp9_o := hp9
          have hg10_o := hg10
          have hg11_o := hg11
          have hcg2_0 : rg_ok E67 a0 := rg_ok_fr TH hst71 hm0 hk0 (by decide) (by decide) hcg2_0
          have htk35 : tk_at E67 a0 := tk_at_fr TH hst71 hm0 hk0 (by decide) (by decide) htk35
          have hp9 : p9_ok E67 a0 (fun j => if j = (x1.toInt).toNat then zi66.toInt else (tw_el E15 a0 9) j) := (fun j => (by have w := tw_el_st hmf61 hp68 hp69 hp70 j; rw [w]; show _ = (if j = (x1.toInt).toNat then zi66.toInt else (tw_el E15 a0 9) j); (by_cases e : j = (x1.toInt).toNat; (rw [if_pos ⟨rfl, e⟩, if_pos e]); (rw [if_neg (fun y => e y.2), if_neg e]; (try exact hp9_o j)))))
          have hg10 : g10_ok E67 a0 (fun j n => if j = (x1.toInt).toNat ∧ n = (xe22.toInt).toNat then u2_0_2.toInt else (rx E15 a0 10) j n) := g10_ok_fr TH hst71 hm0 hk0 (by decide) (by decide) hg10
          have hg11 : g11_ok E67 a0 (fun j n => if j = (x1.toInt).toNat ∧ n = (xe22.toInt).toNat then zi12.toInt else (rx E15 a0 11) j n) := g11_ok_fr TH hst71 hm0 hk0 (by decide) (by decide) hg11
          have hF84 : tw_fr kp L [(12, 2), (12, 3)] [322] E67 E67 := tw_fr.rf
          have hip0 := ip_more (E := E15) (E1 := E67) (m := a0) (k := x1.toInt) (s := u2_0_2.toInt) (l := zi12.toInt) (c := xe22.toInt) (by omega) (by omega) hc9 (by omega) (fun j => (hp9 j).trans (by show (if _ then _ else _) = (if _ then _ else _); (by_cases e : j = (x1.toInt).toNat; (rw [if_pos e, if_pos e]; omega); (rw [if_neg e, if_neg e])))) hg10 hg11
          rw [show x1.toInt + 1 = fv0_15.toInt by omega, hipB, show (u2_0_2.toInt : Int) + zi12.toInt = xi11.toInt by omega] at hip0
          have hc84 : tw_el E67 a0 9 (x1.toInt).toNat = xe22.toInt + 1 := (by rw [hp9]; show (if _ then _ else _) = _; rw [if_pos rfl]; omega)
          refine lv_aload_n hx hb dX12_items_84 rfl (lv_at hl 4 rfl) ?_
          refine tw_get (ci := 12) (C := RX12) (T := TX12) (N := 64) hx hb hB cx_inX12 hown hK TH hm0 hk0 rfl ⟨by decide, rfl⟩ 8 (by decide) cw_1201 (fun _ h9 => h9) dX12_items_85 (fun hv => ?_)
          obtain ⟨xr80, hxr80, hmxr80, hkxr80⟩ : ∃ a : Nat, tw_fv E67 a0 8 = .ref a ∧ a ∈ L ∧ kp a = 304 := hv
          rw [hxr80]
          refine lv_iload_n hx hb dX12_items_88 rfl (lv_at hl 5 rfl) ?_
          refine tw_iald (k := 304) (t0 := 0) (n := 10) (lo := 0) (hi := 2) hx hb hK TH hmxr80 hkxr80 (by decide) rfl rfl (i := x1) (vp_in_iff.mpr ⟨by  omega, by  omega⟩) dX12_items_89 (fun hxe81a hxe81b => ?_)
          obtain ⟨xe81, exe81⟩ : ∃ z : Int32, tw_iv E67 xr80 (Int32.toNatClampNeg x1) = z := ⟨_, rfl⟩
          rw [exe81] at hxe81a hxe81b ⊢
          refine lv_iconst (v := 2) hx hb dX12_items_90 (by decide) ?_
          refine lv_icmp_ne (tgt := 134) hx hb dX12_items_91 (by decide) (fun hc82 => ?_) (fun hc82 => ?_)
          · have hf83 : ¬ (xe81.toInt = 2) := fun q => hc82 ((fa_eq _ _).mpr (by have : ((2 : Int32).toInt) = 2 := (by decide); omega))
            have rf_xe81 : tw_el E67 a0 8 (x1.toInt).toNat = xe81.toInt := (by rw [tw_el_of hxr80]; exact congrArg Int32.toInt exe81)
            have f8 := el_fr TH hF hm0 hk0 (k := 8) (by decide) rfl (by decide) (by decide) (by decide)
            have hq1 : it_q E a0 (x1.toInt) = 1 := cite_neg (by rw [← f8, rf_xe81]; omega)
            have hip : ip_ E67 a0 fv0_15.toInt = gy_ins (ip_ Eg2 a0 fv0_15.toInt) (u2_0_2.toInt, xi11.toInt) := (ip_fr TH hF84 hm0 hk0 (by decide) (by decide) (by omega)).trans hip0
            have ft9 := el_fr TH hF hm0 hk0 (k := 0) (by decide) rfl (by decide) (by decide) (by decide)
            have h9c := el_fr TH hF84 hm0 hk0 (k := 9) (by decide) rfl (by decide) (by decide) (by decide)
            have hplain := gy_in (it_q12 E a0 (x1.toInt)) hga htkE (by omega) (by omega) hNm hw1 (fun z => (by have y := z.1; rw [hq1] at y; omega))
            have hcnt := it_c_next (c1 := xe22.toInt + 1) (by have z := hin2_2; rw [hc9h] at z; exact z) htkE (by omega) hNm hw1 rfl
            refine lv_aload_n hx hb dX12_items_134 rfl (lv_at hl 4 rfl) ?_
            refine lv_bipush (v := 59) hx hb dX12_items_135 (by decide) ?_
            refine tw_Vc (o := a0) (ci := 12) (n := 1) (post := (fun v kq Lq Eq => (∃ x : Int32, v = some (.int x) ∧ 0 ≤ x.toInt ∧ x.toInt ≤ 1 ∧ (x.toInt ≠ 0 ↔ (zfxc16_0_0.toInt < fv0_1.toInt ∧ tw_el E67 a0 0 (zfxc16_0_0.toInt).toNat = (59 : Int32).toInt))) ∧ kp = kq ∧ L = Lq ∧ E67 = Eq)) (As := [.int 59]) (rest := []) ⟨hx, hb, hml, hown, hB⟩ (fun sz => tX12_isSign_vL l D cs a0 (59 : Int32) zfxc16_0_0 fv0_1 hm0 hk0 hmf74 hmf73 sz) cg_12_221_X12_isSign rfl rfl (by decide +kernel) ⟨Nat.le_of_ble_eq_true rfl, Nat.le_of_ble_eq_true rfl⟩ hK hN TH hS hA rfl hm0 hk0 (by decide) rfl hl.1 rfl (Nat.le_of_ble_eq_true rfl) dX12_items_137 ⟨Nat.le_of_ble_eq_true rfl, Nat.le_of_ble_eq_true rfl⟩ (fun v84 kp84 L84 E84 H locs hq84 hx84 TH hS => ?_)
            obtain ⟨⟨xc85, rfl, hxc85a, hxc85b, hpoxc85_0⟩, rfl, rfl, rfl⟩ := hq84
            refine W.eq (g2 := F0 m 140 ls [.int xc85]) rfl ?_
            have hend := hpoxc85_0
            rw [ft9] at hend
            refine lv_if_ne (tgt := 147) hx hb dX12_items_140 (by decide) (fun hc86 => ?_) (fun hc86 => ?_)
            · have hf87 : ¬ (xc85.toInt = 0) := fun q => hc86 ((fa_eq _ _).mpr (by have : ((0 : Int32).toInt) = 0 := (by decide); omega))
              refine lv_iconst (v := 0) hx hb dX12_items_147 (by decide) ?_
              refine lv_istore_n (lv' := [(2, .int 0), (5, .int xe22), (4, .int zi12), (3, .int u2_0_2), (0, .ref a0), (1, .int x1)]) hx hb dX12_items_148 rfl hl (by decide) rfl (fun ls hl => ?_)
              refine lv_goto (tgt := 2) hx hb dX12_items_149 (by decide) ?_
              exact ih2 (n2 - 1) (by have : ((0 : Int32).toInt) = 0 := (by decide);  omega) (0 : Int32) zfxc16_0_0 _ _ _ ls (by have : ((0 : Int32).toInt) = 0 := (by decide); omega) (by have : ((0 : Int32).toInt) = 0 := (by decide); omega) (by omega) (by omega) (by have : ((0 : Int32).toInt) = 0 := (by decide); intro q; exact absurd (by decide) q) (by have : ((0 : Int32).toInt) = 0 := (by decide); intro _; rw [hip]; have y := hend.1 (by omega); exact ⟨hplain.1 y, y.1, y.2⟩) (by have : ((0 : Int32).toInt) = 0 := (by decide); have y : tw_el E67 a0 9 (x1.toInt).toNat = xe22.toInt + 1 := hc84; rw [h9c, y]; exact hcnt) (by have : ((0 : Int32).toInt) = 0 := (by decide); rw [h9c, hc84]; omega) (by have : ((0 : Int32).toInt) = 0 := (by decide); intro x hx; rw [hip] at hx; rcases hx with hx | hx; (exact hin2_4 x hx); (rw [hx]; refine ⟨?_, ?_, ?_⟩; (show 0 ≤ u2_0_2.toInt; omega); (show u2_0_2.toInt ≤ xi11.toInt; omega); (show xi11.toInt ≤ fv0_1.toInt; omega))) (by have : ((0 : Int32).toInt) = 0 := (by decide); omega) (by have : ((0 : Int32).toInt) = 0 := (by decide);  omega) hmf74 hG2 hcg2_0 htk35 TH hS (lv_sub hl [0, 4, 5] rfl)
            · have hf88 : xc85.toInt = 0 := by have z := (fa_eq _ _).mp hc86; have : ((0 : Int32).toInt) = 0 := (by decide); omega
              refine lv_iconst (v := 1) hx hb dX12_items_143 (by decide) ?_
              refine lv_goto (tgt := 148) hx hb dX12_items_144 (by decide) ?_
              refine lv_istore_n (lv' := [(2, .int 1), (5, .int xe22), (4, .int zi12), (3, .int u2_0_2), (0, .ref a0), (1, .int x1)]) hx hb dX12_items_148 rfl hl (by decide) rfl (fun ls hl => ?_)
              refine lv_goto (tgt := 2) hx hb dX12_items_149 (by decide) ?_
              exact ih2 (n2 - 1) (by have : ((1 : Int32).toInt) = 1 := (by decide);  omega) (1 : Int32) zfxc16_0_0 _ _ _ ls (by have : ((1 : Int32).toInt) = 1 := (by decide); omega) (by have : ((1 : Int32).toInt) = 1 := (by decide); omega) (by omega) (by omega) (by have : ((1 : Int32).toInt) = 1 := (by decide); intro _; rw [hip]; have z := hplain.2 (by have y := hend; omega); exact z) (by have : ((1 : Int32).toInt) = 1 := (by decide); intro q; exact absurd q (by decide)) (by have : ((1 : Int32).toInt) = 1 := (by decide); have y : tw_el E67 a0 9 (x1.toInt).toNat = xe22.toInt + 1 := hc84; rw [h9c, y]; exact hcnt) (by have : ((1 : Int32).toInt) = 1 := (by decide); rw [h9c, hc84]; omega) (by have : ((1 : Int32).toInt) = 1 := (by decide); intro x hx; rw [hip] at hx; rcases hx with hx | hx; (exact hin2_4 x hx); (rw [hx]; refine ⟨?_, ?_, ?_⟩; (show 0 ≤ u2_0_2.toInt; omega); (show u2_0_2.toInt ≤ xi11.toInt; omega); (show xi11.toInt ≤ fv0_1.toInt; omega))) (by have : ((1 : Int32).toInt) = 1 := (by decide); omega) (by have : ((1 : Int32).toInt) = 1 := (by decide);  omega) hmf74 hG2 hcg2_0 htk35 TH hS (lv_sub hl [0, 4, 5] rfl)
          · have hf89 : xe81.toInt = 2 := by have z := (fa_eq _ _).mp hc82; have : ((2 : Int32).toInt) = 2 := (by decide); omega
            have rf_xe81 : tw_el E67 a0 8 (x1.toInt).toNat = xe81.toInt := (by rw [tw_el_of hxr80]; exact congrArg Int32.toInt exe81)
            have f8 := el_fr TH hF hm0 hk0 (k := 8) (by decide) rfl (by decide) (by decide) (by decide)
            have hq2 : it_q E a0 (x1.toInt) = 2 := cite_pos (by rw [← f8, rf_xe81]; omega)
            refine lv_aload_n hx hb dX12_items_94 rfl (lv_at hl 4 rfl) ?_
            refine lv_bipush (v := 63) hx hb dX12_items_95 (by decide) ?_
            refine tw_Vc (o := a0) (ci := 12) (n := 1) (post := (fun v kq Lq Eq => (∃ x : Int32, v = some (.int x) ∧ 0 ≤ x.toInt ∧ x.toInt ≤ 1 ∧ (x.toInt ≠ 0 ↔ (zfxc16_0_0.toInt < fv0_1.toInt ∧ tw_el E67 a0 0 (zfxc16_0_0.toInt).toNat = (63 : Int32).toInt))) ∧ kp = kq ∧ L = Lq ∧ E67 = Eq)) (As := [.int 63]) (rest := []) ⟨hx, hb, hml, hown, hB⟩ (fun sz => tX12_isSign_vL l D cs a0 (63 : Int32) zfxc16_0_0 fv0_1 hm0 hk0 hmf74 hmf73 sz) cg_12_221_X12_isSign rfl rfl (by decide +kernel) ⟨Nat.le_of_ble_eq_true rfl, Nat.le_of_ble_eq_true rfl⟩ hK hN TH hS hA rfl hm0 hk0 (by decide) rfl hl.1 rfl (Nat.le_of_ble_eq_true rfl) dX12_items_97 ⟨Nat.le_of_ble_eq_true rfl, Nat.le_of_ble_eq_true rfl⟩ (fun v90 kp90 L90 E90 H locs hq90 hx90 TH hS => ?_)
            obtain ⟨⟨xc91, rfl, hxc91a, hxc91b, hpoxc91_0⟩, rfl, rfl, rfl⟩ := hq90
            refine W.eq (g2 := F0 m 100 ls [.int xc91]) rfl ?_
            refine lv_if_ne (tgt := 112) hx hb dX12_items_100 (by decide) (fun hc92 => ?_) (fun hc92 => ?_)
            · have hf93 : ¬ (xc91.toInt = 0) := fun q => hc92 ((fa_eq _ _).mpr (by have : ((0 : Int32).toInt) = 0 := (by decide); omega))
              have fx := el_fr TH hF hm0 hk0 (k := 0) (by decide) rfl (by decide) (by decide) (by decide)
              have hsg := hpoxc91_0.1 (by omega)
              have he1 : zfxc16_0_1.toInt = zfxc16_0_0.toInt + 1 := tk_one htk35 (tw_fi_of hmf73) (tw_fi_of hmf74) (tw_fi_of hmf75) hsg.1 hsg.2 (by omega)
              have hms : zfxc16_0_0.toInt < fv0_1.toInt ∧ (tw_el E a0 0 (zfxc16_0_0.toInt).toNat = 63 ∨ tw_el E a0 0 (zfxc16_0_0.toInt).toNat = 42) := (by have z := hsg; rw [fx] at z; omega)
              refine lv_aload_n hx hb dX12_items_112 rfl (lv_at hl 4 rfl) ?_
              refine tw_get (ci := 12) (C := RX12) (T := TX12) (N := 64) hx hb hB cx_inX12 hown hK TH hm0 hk0 rfl ⟨by decide, rfl⟩ 12 (by decide) cw_1205 (fun _ h9 => h9) dX12_items_113 (fun hv => ?_)
              rw [hmf79]
              refine lv_iload_n hx hb dX12_items_116 rfl (lv_at hl 5 rfl) ?_
              refine tw_aald (k := 312) (t0 := 4) (n := 10) (lo := 322) (hi := 0) (ty := .int) hx hb hK TH hmxr50 hkxr50 (by decide) rfl rfl (i := x1) (vp_in_iff.mpr ⟨by  omega, by  omega⟩) dX12_items_117 (fun xr94 exr94 hmxr94 hkxr94 => ?_)
              have hkxr94 : kp xr94 = 322 := hkxr94
              refine lv_iload hx hb dX12_items_118 (lv_at hl 0 rfl) ?_
              refine lv_aload_n hx hb dX12_items_120 rfl (lv_at hl 4 rfl) ?_
              refine tw_get (ci := 12) (C := RX12) (T := TX12) (N := 64) hx hb hB cx_inX12 hown hK TH hm0 hk0 rfl ⟨by decide, rfl⟩ 0 (by decide) cw_1193 (fun _ h9 => h9) dX12_items_121 (fun hv => ?_)
              obtain ⟨xr95, hxr95, hmxr95, hkxr95⟩ : ∃ a : Nat, tw_fv E67 a0 0 = .ref a ∧ a ∈ L ∧ kp a = 300 := hv
              rw [hxr95]
              refine lv_aload_n hx hb dX12_items_124 rfl (lv_at hl 4 rfl) ?_
              refine tw_get (ci := 12) (C := RX12) (T := TX12) (N := 64) hx hb hB cx_inX12 hown hK TH hm0 hk0 rfl ⟨by decide, rfl⟩ 2 (by decide) cw_1195 (fun _ h9 => h9) dX12_items_125 (fun hv => ?_)
              rw [hmf74]
              refine tw_bald (k := 300) (t0 := 2) (n := 500) (lo := (-128)) (hi := 127) hx hb hK TH hmxr95 hkxr95 (by decide) rfl rfl (i := zfxc16_0_0) (vp_in_iff.mpr ⟨by  omega, by  omega⟩) dX12_items_128 (fun hxe96a hxe96b => ?_)
              obtain ⟨xe96, exe96⟩ : ∃ z : Int32, tw_iv E67 xr95 (Int32.toNatClampNeg zfxc16_0_0) = z := ⟨_, rfl⟩
              rw [exe96] at hxe96a hxe96b ⊢
              refine tw_iast (k := 322) (n := 252) (lo := (-128)) (hi := 127) hx hb hK TH hS hmxr94 hkxr94 (by decide) rfl (i := xe22) (x := xe96) (vp_in_iff.mpr ⟨by  omega, by  omega⟩) (by omega) (by omega) dX12_items_129 (fun H locs E97 TH hS hp98 hp99 hp100 => ?_)
              have hst101 : tw_fr kp L [] [322] E67 E97 := tw_fr.ast tw_fr.rf (fun _ => hkxr94) hp98 hp99 (by decide)
              have hF := hF.tr hst101 (fun _ h => ⟨h, rfl⟩) (by decide) (by decide)
              have hG2 := hG2.tr hst101 (fun _ h => ⟨h, rfl⟩) (by decide) (by decide)
              have hF84 := hF84.tr hst101 (fun _ h => ⟨h, rfl⟩) (by decide) (by decide)
              have hmf102 : tw_fv E97 a0 15 = .int fv0_15 := (hst101.1 a0 15 hm0 (by rw [hk0]; decide)).trans hmf72
              have hmf103 : tw_fv E97 a0 1 = .int fv0_1 := (hst101.1 a0 1 hm0 (by rw [hk0]; decide)).trans hmf73
              have hmf104 : tw_fv E97 a0 2 = .int zfxc16_0_0 := (hst101.1 a0 2 hm0 (by rw [hk0]; decide)).trans hmf74
              have hmf105 : tw_fv E97 a0 3 = .int zfxc16_0_1 := (hst101.1 a0 3 hm0 (by rw [hk0]; decide)).trans hmf75
              have hmf106 : tw_fv E97 a0 9 = .ref xr21 := (hst101.1 a0 9 hm0 (by rw [hk0]; decide)).trans hmf76
              have hmf107 : tw_fv E97 a0 10 = .ref xr23 := (hst101.1 a0 10 hm0 (by rw [hk0]; decide)).trans hmf77
              have hmf108 : tw_fv E97 a0 11 = .ref xr36 := (hst101.1 a0 11 hm0 (by rw [hk0]; decide)).trans hmf78
              have hmf109 : tw_fv E97 a0 12 = .ref xr50 := (hst101.1 a0 12 hm0 (by rw [hk0]; decide)).trans hmf79
              have hmf110 : tw_fv E97 a0 8 = .ref xr80 := (hst101.1 a0 8 hm0 (by rw [hk0]; decide)).trans hxr80
              have hmf111 : tw_fv E97 a0 0 = .ref xr95 := (hst101.1 a0 0 hm0 (by rw [hk0]; decide)).trans hxr95
              have hcg2_0 : rg_ok E97 a0 := rg_ok_fr TH hst101 hm0 hk0 (by decide) (by decide) hcg2_0
              have htk35 : tk_at E97 a0 := tk_at_fr TH hst101 hm0 hk0 (by decide) (by decide) htk35
              have hp9 : p9_ok E97 a0 (fun j => if j = (x1.toInt).toNat then zi66.toInt else (tw_el E15 a0 9) j) := p9_ok_fr TH hst101 hm0 hk0 (by decide) (by decide) hp9
              have hg10 : g10_ok E97 a0 (fun j n => if j = (x1.toInt).toNat ∧ n = (xe22.toInt).toNat then u2_0_2.toInt else (rx E15 a0 10) j n) := g10_ok_fr TH hst101 hm0 hk0 (by decide) (by decide) hg10
              have hg11 : g11_ok E97 a0 (fun j n => if j = (x1.toInt).toNat ∧ n = (xe22.toInt).toNat then zi12.toInt else (rx E15 a0 11) j n) := g11_ok_fr TH hst101 hm0 hk0 (by decide) (by decide) hg11
              refine lv_aload_n hx hb dX12_items_130 rfl (lv_at hl 4 rfl) ?_
              have ft112 := el_fr TH hF hm0 hk0 (k := 0) (by decide) rfl (by decide) (by decide) (by decide)
              refine tw_Vc (o := a0) (ci := 12) (n := 0) (post := (fun v kq Lq Eq => v = none ∧ kp = kq ∧ L = Lq ∧ tw_fr kp L [(12, 2), (12, 3)] [] E97 Eq ∧ (lx_WS (tw_el E97 a0 0) fv0_1.toInt zfxc16_0_1.toInt (tw_fi Eq a0 2) ∧ lx_TK (tw_el E97 a0 0) fv0_1.toInt (tw_fi Eq a0 2) (tw_fi Eq a0 3)) ∧ (∃ z0 z1 : Int32, tw_fv Eq a0 2 = .int z0 ∧ tw_fv Eq a0 3 = .int z1 ∧ (zfxc16_0_1.toInt ≤ z0.toInt ∧ z0.toInt ≤ z1.toInt ∧ z1.toInt ≤ fv0_1.toInt)))) (As := []) (rest := []) ⟨hx, hb, hml, hown, hB⟩ (fun sz => tX12_goesOn_vL l D cs a0 zfxc16_0_1 fv0_1 hm0 hk0 hmf105 hmf103 (by  omega) sz) cg_12_200_X12_goesOn rfl rfl (by decide +kernel) ⟨Nat.le_of_ble_eq_true rfl, Nat.le_of_ble_eq_true rfl⟩ hK hN TH hS hA rfl hm0 hk0 (by decide) rfl hl.1 rfl (Nat.le_of_ble_eq_true rfl) dX12_items_131 ⟨Nat.le_of_ble_eq_true rfl, Nat.le_of_ble_eq_true rfl⟩ (fun v112 kp112 L112 E112 H locs hq112 hx112 TH hS => ?_)
              obtain ⟨rfl, rfl, rfl, hst112, hpoxc113_0, ⟨zfxc113_0_0, zfxc113_0_1, hzfxc113_0_0, hzfxc113_0_1, hzpxc113_0⟩⟩ := hq112
              have hF := hF.tr hst112 (fun _ h => ⟨h, rfl⟩) (by decide) (by decide)
              have hG2 := hG2.tr hst112 (fun _ h => ⟨h, rfl⟩) (by decide) (by decide)
              have hF84 := hF84.tr hst112 (fun _ h => ⟨h, rfl⟩) (by decide) (by decide)
              have hmf114 : tw_fv E112 a0 15 = .int fv0_15 := (hst112.1 a0 15 hm0 (by rw [hk0]; decide)).trans hmf102
              have hmf115 : tw_fv E112 a0 1 = .int fv0_1 := (hst112.1 a0 1 hm0 (by rw [hk0]; decide)).trans hmf103
              have hmf116 : tw_fv E112 a0 9 = .ref xr21 := (hst112.1 a0 9 hm0 (by rw [hk0]; decide)).trans hmf106
              have hmf117 : tw_fv E112 a0 10 = .ref xr23 := (hst112.1 a0 10 hm0 (by rw [hk0]; decide)).trans hmf107
              have hmf118 : tw_fv E112 a0 11 = .ref xr36 := (hst112.1 a0 11 hm0 (by rw [hk0]; decide)).trans hmf108
              have hmf119 : tw_fv E112 a0 12 = .ref xr50 := (hst112.1 a0 12 hm0 (by rw [hk0]; decide)).trans hmf109
              have hmf120 : tw_fv E112 a0 8 = .ref xr80 := (hst112.1 a0 8 hm0 (by rw [hk0]; decide)).trans hmf110
              have hmf121 : tw_fv E112 a0 0 = .ref xr95 := (hst112.1 a0 0 hm0 (by rw [hk0]; decide)).trans hmf111
              have hcg2_0 : rg_ok E112 a0 := rg_ok_fr TH hst112 hm0 hk0 (by decide) (by decide) hcg2_0
              have hp9 : p9_ok E112 a0 (fun j => if j = (x1.toInt).toNat then zi66.toInt else (tw_el E15 a0 9) j) := p9_ok_fr TH hst112 hm0 hk0 (by decide) (by decide) hp9
              have hg10 : g10_ok E112 a0 (fun j n => if j = (x1.toInt).toNat ∧ n = (xe22.toInt).toNat then u2_0_2.toInt else (rx E15 a0 10) j n) := g10_ok_fr TH hst112 hm0 hk0 (by decide) (by decide) hg10
              have hg11 : g11_ok E112 a0 (fun j n => if j = (x1.toInt).toNat ∧ n = (xe22.toInt).toNat then zi12.toInt else (rx E15 a0 11) j n) := g11_ok_fr TH hst112 hm0 hk0 (by decide) (by decide) hg11
              have hgn122 : tk_at E112 a0 := tk_of TH hst112 hm0 hk0 (by decide) (by decide) (by decide) (tw_fi_of hmf103) hpoxc113_0
              obtain ⟨qzfxc113_0_0, hqzfxc113_0_0, hqzfxc113_0_0a, hqzfxc113_0_0b⟩ := tw_rd TH hm0 hk0 (by decide) (by decide) (k := 2) rfl
              have eqzfxc113_0_0 : qzfxc113_0_0 = zfxc113_0_0 := by have q := hqzfxc113_0_0.symm.trans hzfxc113_0_0; injection q
              rw [eqzfxc113_0_0] at hqzfxc113_0_0a hqzfxc113_0_0b
              obtain ⟨qzfxc113_0_1, hqzfxc113_0_1, hqzfxc113_0_1a, hqzfxc113_0_1b⟩ := tw_rd TH hm0 hk0 (by decide) (by decide) (k := 3) rfl
              have eqzfxc113_0_1 : qzfxc113_0_1 = zfxc113_0_1 := by have q := hqzfxc113_0_1.symm.trans hzfxc113_0_1; injection q
              rw [eqzfxc113_0_1] at hqzfxc113_0_1a hqzfxc113_0_1b
              refine W.eq (g2 := F0 m 134 ls []) rfl ?_
              have hip : ip_ E112 a0 fv0_15.toInt = gy_ins (ip_ Eg2 a0 fv0_15.toInt) (u2_0_2.toInt, xi11.toInt) := (ip_fr TH hF84 hm0 hk0 (by decide) (by decide) (by omega)).trans hip0
              have ft9 := el_fr TH hF hm0 hk0 (k := 0) (by decide) rfl (by decide) (by decide) (by decide)
              have h9c := el_fr TH hF84 hm0 hk0 (k := 9) (by decide) rfl (by decide) (by decide) (by decide)
              have hw2 := hpoxc113_0
              rw [ft112, tw_fi_of hzfxc113_0_0] at hw2
              have hmark := gy_im (q := 2) (s2 := zfxc113_0_0.toInt) rfl (by have z := hga; rw [hq2] at z; exact z) htkE (by omega) (by omega) hNm hw1 hms (lx_WS_cast (by omega) hw2.1)
              have hcnt := it_c_mark (s2 := zfxc113_0_0.toInt) (c1 := xe22.toInt + 1) (by have z := hin2_2; rw [hc9h] at z; exact z) htkE (by omega) hNm hw1 (lx_WS_cast (by omega) hw2.1) rfl
              refine lv_aload_n hx hb dX12_items_134 rfl (lv_at hl 4 rfl) ?_
              refine lv_bipush (v := 59) hx hb dX12_items_135 (by decide) ?_
              refine tw_Vc (o := a0) (ci := 12) (n := 1) (post := (fun v kq Lq Eq => (∃ x : Int32, v = some (.int x) ∧ 0 ≤ x.toInt ∧ x.toInt ≤ 1 ∧ (x.toInt ≠ 0 ↔ (zfxc113_0_0.toInt < fv0_1.toInt ∧ tw_el E112 a0 0 (zfxc113_0_0.toInt).toNat = (59 : Int32).toInt))) ∧ kp = kq ∧ L = Lq ∧ E112 = Eq)) (As := [.int 59]) (rest := []) ⟨hx, hb, hml, hown, hB⟩ (fun sz => tX12_isSign_vL l D cs a0 (59 : Int32) zfxc113_0_0 fv0_1 hm0 hk0 hzfxc113_0_0 hmf115 sz) cg_12_221_X12_isSign rfl rfl (by decide +kernel) ⟨Nat.le_of_ble_eq_true rfl, Nat.le_of_ble_eq_true rfl⟩ hK hN TH hS hA rfl hm0 hk0 (by decide) rfl hl.1 rfl (Nat.le_of_ble_eq_true rfl) dX12_items_137 ⟨Nat.le_of_ble_eq_true rfl, Nat.le_of_ble_eq_true rfl⟩ (fun v123 kp123 L123 E123 H locs hq123 hx123 TH hS => ?_)
              obtain ⟨⟨xc124, rfl, hxc124a, hxc124b, hpoxc124_0⟩, rfl, rfl, rfl⟩ := hq123
              refine W.eq (g2 := F0 m 140 ls [.int xc124]) rfl ?_
              have hend := hpoxc124_0
              rw [ft9] at hend
              refine lv_if_ne (tgt := 147) hx hb dX12_items_140 (by decide) (fun hc125 => ?_) (fun hc125 => ?_)
              · have hf126 : ¬ (xc124.toInt = 0) := fun q => hc125 ((fa_eq _ _).mpr (by have : ((0 : Int32).toInt) = 0 := (by decide); omega))
                refine lv_iconst (v := 0) hx hb dX12_items_147 (by decide) ?_
                refine lv_istore_n (lv' := [(2, .int 0), (5, .int xe22), (4, .int zi12), (3, .int u2_0_2), (0, .ref a0), (1, .int x1)]) hx hb dX12_items_148 rfl hl (by decide) rfl (fun ls hl => ?_)
                refine lv_goto (tgt := 2) hx hb dX12_items_149 (by decide) ?_
                exact ih2 (n2 - 1) (by have : ((0 : Int32).toInt) = 0 := (by decide);  omega) (0 : Int32) zfxc113_0_0 _ _ _ ls (by have : ((0 : Int32).toInt) = 0 := (by decide); omega) (by have : ((0 : Int32).toInt) = 0 := (by decide); omega) (by omega) (by omega) (by have : ((0 : Int32).toInt) = 0 := (by decide); intro q; exact absurd (by decide) q) (by have : ((0 : Int32).toInt) = 0 := (by decide); intro _; rw [hip]; have y := hend.1 (by omega); exact ⟨hmark.1 y, y.1, y.2⟩) (by have : ((0 : Int32).toInt) = 0 := (by decide); have y : tw_el E67 a0 9 (x1.toInt).toNat = xe22.toInt + 1 := hc84; rw [h9c, y]; exact hcnt) (by have : ((0 : Int32).toInt) = 0 := (by decide); rw [h9c, hc84]; omega) (by have : ((0 : Int32).toInt) = 0 := (by decide); intro x hx; rw [hip] at hx; rcases hx with hx | hx; (exact hin2_4 x hx); (rw [hx]; refine ⟨?_, ?_, ?_⟩; (show 0 ≤ u2_0_2.toInt; omega); (show u2_0_2.toInt ≤ xi11.toInt; omega); (show xi11.toInt ≤ fv0_1.toInt; omega))) (by have : ((0 : Int32).toInt) = 0 := (by decide); omega) (by have : ((0 : Int32).toInt) = 0 := (by decide);  omega) hzfxc113_0_0 hG2 hcg2_0 hgn122 TH hS (lv_sub hl [0, 4, 5] rfl)
              · have hf127 : xc124.toInt = 0 := by have z := (fa_eq _ _).mp hc125; have : ((0 : Int32).toInt) = 0 := (by decide); omega
                refine lv_iconst (v := 1) hx hb dX12_items_143 (by decide) ?_
                refine lv_goto (tgt := 148) hx hb dX12_items_144 (by decide) ?_
                refine lv_istore_n (lv' := [(2, .int 1), (5, .int xe22), (4, .int zi12), (3, .int u2_0_2), (0, .ref a0), (1, .int x1)]) hx hb dX12_items_148 rfl hl (by decide) rfl (fun ls hl => ?_)
                refine lv_goto (tgt := 2) hx hb dX12_items_149 (by decide) ?_
                exact ih2 (n2 - 1) (by have : ((1 : Int32).toInt) = 1 := (by decide);  omega) (1 : Int32) zfxc113_0_0 _ _ _ ls (by have : ((1 : Int32).toInt) = 1 := (by decide); omega) (by have : ((1 : Int32).toInt) = 1 := (by decide); omega) (by omega) (by omega) (by have : ((1 : Int32).toInt) = 1 := (by decide); intro _; rw [hip]; have z := hmark.2 (by have y := hend; omega); rw [hq2]; exact z) (by have : ((1 : Int32).toInt) = 1 := (by decide); intro q; exact absurd q (by decide)) (by have : ((1 : Int32).toInt) = 1 := (by decide); have y : tw_el E67 a0 9 (x1.toInt).toNat = xe22.toInt + 1 := hc84; rw [h9c, y]; exact hcnt) (by have : ((1 : Int32).toInt) = 1 := (by decide); rw [h9c, hc84]; omega) (by have : ((1 : Int32).toInt) = 1 := (by decide); intro x hx; rw [hip] at hx; rcases hx with hx | hx; (exact hin2_4 x hx); (rw [hx]; refine ⟨?_, ?_, ?_⟩; (show 0 ≤ u2_0_2.toInt; omega); (show u2_0_2.toInt ≤ xi11.toInt; omega); (show xi11.toInt ≤ fv0_1.toInt; omega))) (by have : ((1 : Int32).toInt) = 1 := (by decide); omega) (by have : ((1 : Int32).toInt) = 1 := (by decide);  omega) hzfxc113_0_0 hG2 hcg2_0 hgn122 TH hS (lv_sub hl [0, 4, 5] rfl)
            · have hf128 : xc91.toInt = 0 := by have z := (fa_eq _ _).mp hc92; have : ((0 : Int32).toInt) = 0 := (by decide); omega
              refine lv_aload_n hx hb dX12_items_103 rfl (lv_at hl 4 rfl) ?_
              refine lv_bipush (v := 42) hx hb dX12_items_104 (by decide) ?_
              refine tw_Vc (o := a0) (ci := 12) (n := 1) (post := (fun v kq Lq Eq => (∃ x : Int32, v = some (.int x) ∧ 0 ≤ x.toInt ∧ x.toInt ≤ 1 ∧ (x.toInt ≠ 0 ↔ (zfxc16_0_0.toInt < fv0_1.toInt ∧ tw_el E67 a0 0 (zfxc16_0_0.toInt).toNat = (42 : Int32).toInt))) ∧ kp = kq ∧ L = Lq ∧ E67 = Eq)) (As := [.int 42]) (rest := []) ⟨hx, hb, hml, hown, hB⟩ (fun sz => tX12_isSign_vL l D cs a0 (42 : Int32) zfxc16_0_0 fv0_1 hm0 hk0 hmf74 hmf73 sz) cg_12_221_X12_isSign rfl rfl (by decide +kernel) ⟨Nat.le_of_ble_eq_true rfl, Nat.le_of_ble_eq_true rfl⟩ hK hN TH hS hA rfl hm0 hk0 (by decide) rfl hl.1 rfl (Nat.le_of_ble_eq_true rfl) dX12_items_106 ⟨Nat.le_of_ble_eq_true rfl, Nat.le_of_ble_eq_true rfl⟩ (fun v129 kp129 L129 E129 H locs hq129 hx129 TH hS => ?_)
              obtain ⟨⟨xc130, rfl, hxc130a, hxc130b, hpoxc130_0⟩, rfl, rfl, rfl⟩ := hq129
              refine W.eq (g2 := F0 m 109 ls [.int xc130]) rfl ?_
              refine lv_if_eq (tgt := 134) hx hb dX12_items_109 (by decide) (fun hc131 => ?_) (fun hc131 => ?_)
              · have hf132 : xc130.toInt = 0 := by have z := (fa_eq _ _).mp hc131; have : ((0 : Int32).toInt) = 0 := (by decide); omega
                have fx := el_fr TH hF hm0 hk0 (k := 0) (by decide) rfl (by decide) (by decide) (by decide)
                have hs0 := hpoxc91_0
                rw [fx] at hs0
                have hs1 := hpoxc130_0
                rw [fx] at hs1
                have hip : ip_ E67 a0 fv0_15.toInt = gy_ins (ip_ Eg2 a0 fv0_15.toInt) (u2_0_2.toInt, xi11.toInt) := (ip_fr TH hF84 hm0 hk0 (by decide) (by decide) (by omega)).trans hip0
                have ft9 := el_fr TH hF hm0 hk0 (k := 0) (by decide) rfl (by decide) (by decide) (by decide)
                have h9c := el_fr TH hF84 hm0 hk0 (k := 9) (by decide) rfl (by decide) (by decide) (by decide)
                have hplain := gy_in (it_q12 E a0 (x1.toInt)) hga htkE (by omega) (by omega) hNm hw1 (fun z => (by have y := z.2.2; omega))
                have hcnt := it_c_next (c1 := xe22.toInt + 1) (by have z := hin2_2; rw [hc9h] at z; exact z) htkE (by omega) hNm hw1 rfl
                refine lv_aload_n hx hb dX12_items_134 rfl (lv_at hl 4 rfl) ?_
                refine lv_bipush (v := 59) hx hb dX12_items_135 (by decide) ?_
                refine tw_Vc (o := a0) (ci := 12) (n := 1) (post := (fun v kq Lq Eq => (∃ x : Int32, v = some (.int x) ∧ 0 ≤ x.toInt ∧ x.toInt ≤ 1 ∧ (x.toInt ≠ 0 ↔ (zfxc16_0_0.toInt < fv0_1.toInt ∧ tw_el E67 a0 0 (zfxc16_0_0.toInt).toNat = (59 : Int32).toInt))) ∧ kp = kq ∧ L = Lq ∧ E67 = Eq)) (As := [.int 59]) (rest := []) ⟨hx, hb, hml, hown, hB⟩ (fun sz => tX12_isSign_vL l D cs a0 (59 : Int32) zfxc16_0_0 fv0_1 hm0 hk0 hmf74 hmf73 sz) cg_12_221_X12_isSign rfl rfl (by decide +kernel) ⟨Nat.le_of_ble_eq_true rfl, Nat.le_of_ble_eq_true rfl⟩ hK hN TH hS hA rfl hm0 hk0 (by decide) rfl hl.1 rfl (Nat.le_of_ble_eq_true rfl) dX12_items_137 ⟨Nat.le_of_ble_eq_true rfl, Nat.le_of_ble_eq_true rfl⟩ (fun v133 kp133 L133 E133 H locs hq133 hx133 TH hS => ?_)
                obtain ⟨⟨xc134, rfl, hxc134a, hxc134b, hpoxc134_0⟩, rfl, rfl, rfl⟩ := hq133
                refine W.eq (g2 := F0 m 140 ls [.int xc134]) rfl ?_
                have hend := hpoxc134_0
                rw [ft9] at hend
                refine lv_if_ne (tgt := 147) hx hb dX12_items_140 (by decide) (fun hc135 => ?_) (fun hc135 => ?_)
                · have hf136 : ¬ (xc134.toInt = 0) := fun q => hc135 ((fa_eq _ _).mpr (by have : ((0 : Int32).toInt) = 0 := (by decide); omega))
                  refine lv_iconst (v := 0) hx hb dX12_items_147 (by decide) ?_
                  refine lv_istore_n (lv' := [(2, .int 0), (5, .int xe22), (4, .int zi12), (3, .int u2_0_2), (0, .ref a0), (1, .int x1)]) hx hb dX12_items_148 rfl hl (by decide) rfl (fun ls hl => ?_)
                  refine lv_goto (tgt := 2) hx hb dX12_items_149 (by decide) ?_
                  exact ih2 (n2 - 1) (by have : ((0 : Int32).toInt) = 0 := (by decide);  omega) (0 : Int32) zfxc16_0_0 _ _ _ ls (by have : ((0 : Int32).toInt) = 0 := (by decide); omega) (by have : ((0 : Int32).toInt) = 0 := (by decide); omega) (by omega) (by omega) (by have : ((0 : Int32).toInt) = 0 := (by decide); intro q; exact absurd (by decide) q) (by have : ((0 : Int32).toInt) = 0 := (by decide); intro _; rw [hip]; have y := hend.1 (by omega); exact ⟨hplain.1 y, y.1, y.2⟩) (by have : ((0 : Int32).toInt) = 0 := (by decide); have y : tw_el E67 a0 9 (x1.toInt).toNat = xe22.toInt + 1 := hc84; rw [h9c, y]; exact hcnt) (by have : ((0 : Int32).toInt) = 0 := (by decide); rw [h9c, hc84]; omega) (by have : ((0 : Int32).toInt) = 0 := (by decide); intro x hx; rw [hip] at hx; rcases hx with hx | hx; (exact hin2_4 x hx); (rw [hx]; refine ⟨?_, ?_, ?_⟩; (show 0 ≤ u2_0_2.toInt; omega); (show u2_0_2.toInt ≤ xi11.toInt; omega); (show xi11.toInt ≤ fv0_1.toInt; omega))) (by have : ((0 : Int32).toInt) = 0 := (by decide); omega) (by have : ((0 : Int32).toInt) = 0 := (by decide);  omega) hmf74 hG2 hcg2_0 htk35 TH hS (lv_sub hl [0, 4, 5] rfl)
                · have hf137 : xc134.toInt = 0 := by have z := (fa_eq _ _).mp hc135; have : ((0 : Int32).toInt) = 0 := (by decide); omega
                  refine lv_iconst (v := 1) hx hb dX12_items_143 (by decide) ?_
                  refine lv_goto (tgt := 148) hx hb dX12_items_144 (by decide) ?_
                  refine lv_istore_n (lv' := [(2, .int 1), (5, .int xe22), (4, .int zi12), (3, .int u2_0_2), (0, .ref a0), (1, .int x1)]) hx hb dX12_items_148 rfl hl (by decide) rfl (fun ls hl => ?_)
                  refine lv_goto (tgt := 2) hx hb dX12_items_149 (by decide) ?_
                  exact ih2 (n2 - 1) (by have : ((1 : Int32).toInt) = 1 := (by decide);  omega) (1 : Int32) zfxc16_0_0 _ _ _ ls (by have : ((1 : Int32).toInt) = 1 := (by decide); omega) (by have : ((1 : Int32).toInt) = 1 := (by decide); omega) (by omega) (by omega) (by have : ((1 : Int32).toInt) = 1 := (by decide); intro _; rw [hip]; have z := hplain.2 (by have y := hend; omega); exact z) (by have : ((1 : Int32).toInt) = 1 := (by decide); intro q; exact absurd q (by decide)) (by have : ((1 : Int32).toInt) = 1 := (by decide); have y : tw_el E67 a0 9 (x1.toInt).toNat = xe22.toInt + 1 := hc84; rw [h9c, y]; exact hcnt) (by have : ((1 : Int32).toInt) = 1 := (by decide); rw [h9c, hc84]; omega) (by have : ((1 : Int32).toInt) = 1 := (by decide); intro x hx; rw [hip] at hx; rcases hx with hx | hx; (exact hin2_4 x hx); (rw [hx]; refine ⟨?_, ?_, ?_⟩; (show 0 ≤ u2_0_2.toInt; omega); (show u2_0_2.toInt ≤ xi11.toInt; omega); (show xi11.toInt ≤ fv0_1.toInt; omega))) (by have : ((1 : Int32).toInt) = 1 := (by decide); omega) (by have : ((1 : Int32).toInt) = 1 := (by decide);  omega) hmf74 hG2 hcg2_0 htk35 TH hS (lv_sub hl [0, 4, 5] rfl)
              · have hf138 : ¬ (xc130.toInt = 0) := fun q => hc131 ((fa_eq _ _).mpr (by have : ((0 : Int32).toInt) = 0 := (by decide); omega))
                have fx := el_fr TH hF hm0 hk0 (k := 0) (by decide) rfl (by decide) (by decide) (by decide)
                have hsg := hpoxc130_0.1 (by omega)
                have he1 : zfxc16_0_1.toInt = zfxc16_0_0.toInt + 1 := tk_one htk35 (tw_fi_of hmf73) (tw_fi_of hmf74) (tw_fi_of hmf75) hsg.1 hsg.2 (by omega)
                have hms : zfxc16_0_0.toInt < fv0_1.toInt ∧ (tw_el E a0 0 (zfxc16_0_0.toInt).toNat = 63 ∨ tw_el E a0 0 (zfxc16_0_0.toInt).toNat = 42) := (by have z := hsg; rw [fx] at z; omega)
                refine lv_aload_n hx hb dX12_items_112 rfl (lv_at hl 4 rfl) ?_
                refine tw_get (ci := 12) (C := RX12) (T := TX12) (N := 64) hx hb hB cx_inX12 hown hK TH hm0 hk0 rfl ⟨by decide, rfl⟩ 12 (by decide) cw_1205 (fun _ h9 => h9) dX12_items_113 (fun hv => ?_)
                rw [hmf79]
                refine lv_iload_n hx hb dX12_items_116 rfl (lv_at hl 5 rfl) ?_
                refine tw_aald (k := 312) (t0 := 4) (n := 10) (lo := 322) (hi := 0) (ty := .int) hx hb hK TH hmxr50 hkxr50 (by decide) rfl rfl (i := x1) (vp_in_iff.mpr ⟨by  omega, by  omega⟩) dX12_items_117 (fun xr139 exr139 hmxr139 hkxr139 => ?_)
                have hkxr139 : kp xr139 = 322 := hkxr139
                refine lv_iload hx hb dX12_items_118 (lv_at hl 0 rfl) ?_
                refine lv_aload_n hx hb dX12_items_120 rfl (lv_at hl 4 rfl) ?_
                refine tw_get (ci := 12) (C := RX12) (T := TX12) (N := 64) hx hb hB cx_inX12 hown hK TH hm0 hk0 rfl ⟨by decide, rfl⟩ 0 (by decide) cw_1193 (fun _ h9 => h9) dX12_items_121 (fun hv => ?_)
                obtain ⟨xr140, hxr140, hmxr140, hkxr140⟩ : ∃ a : Nat, tw_fv E67 a0 0 = .ref a ∧ a ∈ L ∧ kp a = 300 := hv
                rw [hxr140]
                refine lv_aload_n hx hb dX12_items_124 rfl (lv_at hl 4 rfl) ?_
                refine tw_get (ci := 12) (C := RX12) (T := TX12) (N := 64) hx hb hB cx_inX12 hown hK TH hm0 hk0 rfl ⟨by decide, rfl⟩ 2 (by decide) cw_1195 (fun _ h9 => h9) dX12_items_125 (fun hv => ?_)
                rw [hmf74]
                refine tw_bald (k := 300) (t0 := 2) (n := 500) (lo := (-128)) (hi := 127) hx hb hK TH hmxr140 hkxr140 (by decide) rfl rfl (i := zfxc16_0_0) (vp_in_iff.mpr ⟨by  omega, by  omega⟩) dX12_items_128 (fun hxe141a hxe141b => ?_)
                obtain ⟨xe141, exe141⟩ : ∃ z : Int32, tw_iv E67 xr140 (Int32.toNatClampNeg zfxc16_0_0) = z := ⟨_, rfl⟩
                rw [exe141] at hxe141a hxe141b ⊢
                refine tw_iast (k := 322) (n := 252) (lo := (-128)) (hi := 127) hx hb hK TH hS hmxr139 hkxr139 (by decide) rfl (i := xe22) (x := xe141) (vp_in_iff.mpr ⟨by  omega, by  omega⟩) (by omega) (by omega) dX12_items_129 (fun H locs E142 TH hS hp143 hp144 hp145 => ?_)
                have hst146 : tw_fr kp L [] [322] E67 E142 := tw_fr.ast tw_fr.rf (fun _ => hkxr139) hp143 hp144 (by decide)
                have hF := hF.tr hst146 (fun _ h => ⟨h, rfl⟩) (by decide) (by decide)
                have hG2 := hG2.tr hst146 (fun _ h => ⟨h, rfl⟩) (by decide) (by decide)
                have hF84 := hF84.tr hst146 (fun _ h => ⟨h, rfl⟩) (by decide) (by decide)
                have hmf147 : tw_fv E142 a0 15 = .int fv0_15 := (hst146.1 a0 15 hm0 (by rw [hk0]; decide)).trans hmf72
                have hmf148 : tw_fv E142 a0 1 = .int fv0_1 := (hst146.1 a0 1 hm0 (by rw [hk0]; decide)).trans hmf73
                have hmf149 : tw_fv E142 a0 2 = .int zfxc16_0_0 := (hst146.1 a0 2 hm0 (by rw [hk0]; decide)).trans hmf74
                have hmf150 : tw_fv E142 a0 3 = .int zfxc16_0_1 := (hst146.1 a0 3 hm0 (by rw [hk0]; decide)).trans hmf75
                have hmf151 : tw_fv E142 a0 9 = .ref xr21 := (hst146.1 a0 9 hm0 (by rw [hk0]; decide)).trans hmf76
                have hmf152 : tw_fv E142 a0 10 = .ref xr23 := (hst146.1 a0 10 hm0 (by rw [hk0]; decide)).trans hmf77
                have hmf153 : tw_fv E142 a0 11 = .ref xr36 := (hst146.1 a0 11 hm0 (by rw [hk0]; decide)).trans hmf78
                have hmf154 : tw_fv E142 a0 12 = .ref xr50 := (hst146.1 a0 12 hm0 (by rw [hk0]; decide)).trans hmf79
                have hmf155 : tw_fv E142 a0 8 = .ref xr80 := (hst146.1 a0 8 hm0 (by rw [hk0]; decide)).trans hxr80
                have hmf156 : tw_fv E142 a0 0 = .ref xr140 := (hst146.1 a0 0 hm0 (by rw [hk0]; decide)).trans hxr140
                have hcg2_0 : rg_ok E142 a0 := rg_ok_fr TH hst146 hm0 hk0 (by decide) (by decide) hcg2_0
                have htk35 : tk_at E142 a0 := tk_at_fr TH hst146 hm0 hk0 (by decide) (by decide) htk35
                have hp9 : p9_ok E142 a0 (fun j => if j = (x1.toInt).toNat then zi66.toInt else (tw_el E15 a0 9) j) := p9_ok_fr TH hst146 hm0 hk0 (by decide) (by decide) hp9
                have hg10 : g10_ok E142 a0 (fun j n => if j = (x1.toInt).toNat ∧ n = (xe22.toInt).toNat then u2_0_2.toInt else (rx E15 a0 10) j n) := g10_ok_fr TH hst146 hm0 hk0 (by decide) (by decide) hg10
                have hg11 : g11_ok E142 a0 (fun j n => if j = (x1.toInt).toNat ∧ n = (xe22.toInt).toNat then zi12.toInt else (rx E15 a0 11) j n) := g11_ok_fr TH hst146 hm0 hk0 (by decide) (by decide) hg11
                refine lv_aload_n hx hb dX12_items_130 rfl (lv_at hl 4 rfl) ?_
                have ft112 := el_fr TH hF hm0 hk0 (k := 0) (by decide) rfl (by decide) (by decide) (by decide)
                refine tw_Vc (o := a0) (ci := 12) (n := 0) (post := (fun v kq Lq Eq => v = none ∧ kp = kq ∧ L = Lq ∧ tw_fr kp L [(12, 2), (12, 3)] [] E142 Eq ∧ (lx_WS (tw_el E142 a0 0) fv0_1.toInt zfxc16_0_1.toInt (tw_fi Eq a0 2) ∧ lx_TK (tw_el E142 a0 0) fv0_1.toInt (tw_fi Eq a0 2) (tw_fi Eq a0 3)) ∧ (∃ z0 z1 : Int32, tw_fv Eq a0 2 = .int z0 ∧ tw_fv Eq a0 3 = .int z1 ∧ (zfxc16_0_1.toInt ≤ z0.toInt ∧ z0.toInt ≤ z1.toInt ∧ z1.toInt ≤ fv0_1.toInt)))) (As := []) (rest := []) ⟨hx, hb, hml, hown, hB⟩ (fun sz => tX12_goesOn_vL l D cs a0 zfxc16_0_1 fv0_1 hm0 hk0 hmf150 hmf148 (by  omega) sz) cg_12_200_X12_goesOn rfl rfl (by decide +kernel) ⟨Nat.le_of_ble_eq_true rfl, Nat.le_of_ble_eq_true rfl⟩ hK hN TH hS hA rfl hm0 hk0 (by decide) rfl hl.1 rfl (Nat.le_of_ble_eq_true rfl) dX12_items_131 ⟨Nat.le_of_ble_eq_true rfl, Nat.le_of_ble_eq_true rfl⟩ (fun v157 kp157 L157 E157 H locs hq157 hx157 TH hS => ?_)
                obtain ⟨rfl, rfl, rfl, hst157, hpoxc158_0, ⟨zfxc158_0_0, zfxc158_0_1, hzfxc158_0_0, hzfxc158_0_1, hzpxc158_0⟩⟩ := hq157
                have hF := hF.tr hst157 (fun _ h => ⟨h, rfl⟩) (by decide) (by decide)
                have hG2 := hG2.tr hst157 (fun _ h => ⟨h, rfl⟩) (by decide) (by decide)
                have hF84 := hF84.tr hst157 (fun _ h => ⟨h, rfl⟩) (by decide) (by decide)
                have hmf159 : tw_fv E157 a0 15 = .int fv0_15 := (hst157.1 a0 15 hm0 (by rw [hk0]; decide)).trans hmf147
                have hmf160 : tw_fv E157 a0 1 = .int fv0_1 := (hst157.1 a0 1 hm0 (by rw [hk0]; decide)).trans hmf148
                have hmf161 : tw_fv E157 a0 9 = .ref xr21 := (hst157.1 a0 9 hm0 (by rw [hk0]; decide)).trans hmf151
                have hmf162 : tw_fv E157 a0 10 = .ref xr23 := (hst157.1 a0 10 hm0 (by rw [hk0]; decide)).trans hmf152
                have hmf163 : tw_fv E157 a0 11 = .ref xr36 := (hst157.1 a0 11 hm0 (by rw [hk0]; decide)).trans hmf153
                have hmf164 : tw_fv E157 a0 12 = .ref xr50 := (hst157.1 a0 12 hm0 (by rw [hk0]; decide)).trans hmf154
                have hmf165 : tw_fv E157 a0 8 = .ref xr80 := (hst157.1 a0 8 hm0 (by rw [hk0]; decide)).trans hmf155
                have hmf166 : tw_fv E157 a0 0 = .ref xr140 := (hst157.1 a0 0 hm0 (by rw [hk0]; decide)).trans hmf156
                have hcg2_0 : rg_ok E157 a0 := rg_ok_fr TH hst157 hm0 hk0 (by decide) (by decide) hcg2_0
                have hp9 : p9_ok E157 a0 (fun j => if j = (x1.toInt).toNat then zi66.toInt else (tw_el E15 a0 9) j) := p9_ok_fr TH hst157 hm0 hk0 (by decide) (by decide) hp9
                have hg10 : g10_ok E157 a0 (fun j n => if j = (x1.toInt).toNat ∧ n = (xe22.toInt).toNat then u2_0_2.toInt else (rx E15 a0 10) j n) := g10_ok_fr TH hst157 hm0 hk0 (by decide) (by decide) hg10
                have hg11 : g11_ok E157 a0 (fun j n => if j = (x1.toInt).toNat ∧ n = (xe22.toInt).toNat then zi12.toInt else (rx E15 a0 11) j n) := g11_ok_fr TH hst157 hm0 hk0 (by decide) (by decide) hg11
                have hgn167 : tk_at E157 a0 := tk_of TH hst157 hm0 hk0 (by decide) (by decide) (by decide) (tw_fi_of hmf148) hpoxc158_0
                obtain ⟨qzfxc158_0_0, hqzfxc158_0_0, hqzfxc158_0_0a, hqzfxc158_0_0b⟩ := tw_rd TH hm0 hk0 (by decide) (by decide) (k := 2) rfl
                have eqzfxc158_0_0 : qzfxc158_0_0 = zfxc158_0_0 := by have q := hqzfxc158_0_0.symm.trans hzfxc158_0_0; injection q
                rw [eqzfxc158_0_0] at hqzfxc158_0_0a hqzfxc158_0_0b
                obtain ⟨qzfxc158_0_1, hqzfxc158_0_1, hqzfxc158_0_1a, hqzfxc158_0_1b⟩ := tw_rd TH hm0 hk0 (by decide) (by decide) (k := 3) rfl
                have eqzfxc158_0_1 : qzfxc158_0_1 = zfxc158_0_1 := by have q := hqzfxc158_0_1.symm.trans hzfxc158_0_1; injection q
                rw [eqzfxc158_0_1] at hqzfxc158_0_1a hqzfxc158_0_1b
                refine W.eq (g2 := F0 m 134 ls []) rfl ?_
                have hip : ip_ E157 a0 fv0_15.toInt = gy_ins (ip_ Eg2 a0 fv0_15.toInt) (u2_0_2.toInt, xi11.toInt) := (ip_fr TH hF84 hm0 hk0 (by decide) (by decide) (by omega)).trans hip0
                have ft9 := el_fr TH hF hm0 hk0 (k := 0) (by decide) rfl (by decide) (by decide) (by decide)
                have h9c := el_fr TH hF84 hm0 hk0 (k := 9) (by decide) rfl (by decide) (by decide) (by decide)
                have hw2 := hpoxc158_0
                rw [ft112, tw_fi_of hzfxc158_0_0] at hw2
                have hmark := gy_im (q := 2) (s2 := zfxc158_0_0.toInt) rfl (by have z := hga; rw [hq2] at z; exact z) htkE (by omega) (by omega) hNm hw1 hms (lx_WS_cast (by omega) hw2.1)
                have hcnt := it_c_mark (s2 := zfxc158_0_0.toInt) (c1 := xe22.toInt + 1) (by have z := hin2_2; rw [hc9h] at z; exact z) htkE (by omega) hNm hw1 (lx_WS_cast (by omega) hw2.1) rfl
                refine lv_aload_n hx hb dX12_items_134 rfl (lv_at hl 4 rfl) ?_
                refine lv_bipush (v := 59) hx hb dX12_items_135 (by decide) ?_
                refine tw_Vc (o := a0) (ci := 12) (n := 1) (post := (fun v kq Lq Eq => (∃ x : Int32, v = some (.int x) ∧ 0 ≤ x.toInt ∧ x.toInt ≤ 1 ∧ (x.toInt ≠ 0 ↔ (zfxc158_0_0.toInt < fv0_1.toInt ∧ tw_el E157 a0 0 (zfxc158_0_0.toInt).toNat = (59 : Int32).toInt))) ∧ kp = kq ∧ L = Lq ∧ E157 = Eq)) (As := [.int 59]) (rest := []) ⟨hx, hb, hml, hown, hB⟩ (fun sz => tX12_isSign_vL l D cs a0 (59 : Int32) zfxc158_0_0 fv0_1 hm0 hk0 hzfxc158_0_0 hmf160 sz) cg_12_221_X12_isSign rfl rfl (by decide +kernel) ⟨Nat.le_of_ble_eq_true rfl, Nat.le_of_ble_eq_true rfl⟩ hK hN TH hS hA rfl hm0 hk0 (by decide) rfl hl.1 rfl (Nat.le_of_ble_eq_true rfl) dX12_items_137 ⟨Nat.le_of_ble_eq_true rfl, Nat.le_of_ble_eq_true rfl⟩ (fun v168 kp168 L168 E168 H locs hq168 hx168 TH hS => ?_)
                obtain ⟨⟨xc169, rfl, hxc169a, hxc169b, hpoxc169_0⟩, rfl, rfl, rfl⟩ := hq168
                refine W.eq (g2 := F0 m 140 ls [.int xc169]) rfl ?_
                have hend := hpoxc169_0
                rw [ft9] at hend
                refine lv_if_ne (tgt := 147) hx hb dX12_items_140 (by decide) (fun hc170 => ?_) (fun hc170 => ?_)
                · have hf171 : ¬ (xc169.toInt = 0) := fun q => hc170 ((fa_eq _ _).mpr (by have : ((0 : Int32).toInt) = 0 := (by decide); omega))
                  refine lv_iconst (v := 0) hx hb dX12_items_147 (by decide) ?_
                  refine lv_istore_n (lv' := [(2, .int 0), (5, .int xe22), (4, .int zi12), (3, .int u2_0_2), (0, .ref a0), (1, .int x1)]) hx hb dX12_items_148 rfl hl (by decide) rfl (fun ls hl => ?_)
                  refine lv_goto (tgt := 2) hx hb dX12_items_149 (by decide) ?_
                  exact ih2 (n2 - 1) (by have : ((0 : Int32).toInt) = 0 := (by decide);  omega) (0 : Int32) zfxc158_0_0 _ _ _ ls (by have : ((0 : Int32).toInt) = 0 := (by decide); omega) (by have : ((0 : Int32).toInt) = 0 := (by decide); omega) (by omega) (by omega) (by have : ((0 : Int32).toInt) = 0 := (by decide); intro q; exact absurd (by decide) q) (by have : ((0 : Int32).toInt) = 0 := (by decide); intro _; rw [hip]; have y := hend.1 (by omega); exact ⟨hmark.1 y, y.1, y.2⟩) (by have : ((0 : Int32).toInt) = 0 := (by decide); have y : tw_el E67 a0 9 (x1.toInt).toNat = xe22.toInt + 1 := hc84; rw [h9c, y]; exact hcnt) (by have : ((0 : Int32).toInt) = 0 := (by decide); rw [h9c, hc84]; omega) (by have : ((0 : Int32).toInt) = 0 := (by decide); intro x hx; rw [hip] at hx; rcases hx with hx | hx; (exact hin2_4 x hx); (rw [hx]; refine ⟨?_, ?_, ?_⟩; (show 0 ≤ u2_0_2.toInt; omega); (show u2_0_2.toInt ≤ xi11.toInt; omega); (show xi11.toInt ≤ fv0_1.toInt; omega))) (by have : ((0 : Int32).toInt) = 0 := (by decide); omega) (by have : ((0 : Int32).toInt) = 0 := (by decide);  omega) hzfxc158_0_0 hG2 hcg2_0 hgn167 TH hS (lv_sub hl [0, 4, 5] rfl)
                · have hf172 : xc169.toInt = 0 := by have z := (fa_eq _ _).mp hc170; have : ((0 : Int32).toInt) = 0 := (by decide); omega
                  refine lv_iconst (v := 1) hx hb dX12_items_143 (by decide) ?_
                  refine lv_goto (tgt := 148) hx hb dX12_items_144 (by decide) ?_
                  refine lv_istore_n (lv' := [(2, .int 1), (5, .int xe22), (4, .int zi12), (3, .int u2_0_2), (0, .ref a0), (1, .int x1)]) hx hb dX12_items_148 rfl hl (by decide) rfl (fun ls hl => ?_)
                  refine lv_goto (tgt := 2) hx hb dX12_items_149 (by decide) ?_
                  exact ih2 (n2 - 1) (by have : ((1 : Int32).toInt) = 1 := (by decide);  omega) (1 : Int32) zfxc158_0_0 _ _ _ ls (by have : ((1 : Int32).toInt) = 1 := (by decide); omega) (by have : ((1 : Int32).toInt) = 1 := (by decide); omega) (by omega) (by omega) (by have : ((1 : Int32).toInt) = 1 := (by decide); intro _; rw [hip]; have z := hmark.2 (by have y := hend; omega); rw [hq2]; exact z) (by have : ((1 : Int32).toInt) = 1 := (by decide); intro q; exact absurd q (by decide)) (by have : ((1 : Int32).toInt) = 1 := (by decide); have y : tw_el E67 a0 9 (x1.toInt).toNat = xe22.toInt + 1 := hc84; rw [h9c, y]; exact hcnt) (by have : ((1 : Int32).toInt) = 1 := (by decide); rw [h9c, hc84]; omega) (by have : ((1 : Int32).toInt) = 1 := (by decide); intro x hx; rw [hip] at hx; rcases hx with hx | hx; (exact hin2_4 x hx); (rw [hx]; refine ⟨?_, ?_, ?_⟩; (show 0 ≤ u2_0_2.toInt; omega); (show u2_0_2.toInt ≤ xi11.toInt; omega); (show xi11.toInt ≤ fv0_1.toInt; omega))) (by have : ((1 : Int32).toInt) = 1 := (by decide); omega) (by have : ((1 : Int32).toInt) = 1 := (by decide);  omega) hzfxc158_0_0 hG2 hcg2_0 hgn167 TH hS (lv_sub hl [0, 4, 5] rfl)
        · have hf173 : xc16.toInt = 0 := by have z := (fa_eq _ _).mp hc19; have : ((0 : Int32).toInt) = 0 := (by decide); omega
          refine lv_iconst (v := 0) hx hb dX12_items_33 (by decide) ?_
          exact tw_zret hx hb hr hlocks (by decide) TH hS hex ⟨⟨_, rfl, (show 0 ≤ Int32.toInt 0 from by have : ((0 : Int32).toInt) = 0 := (by decide); omega), (show Int32.toInt 0 ≤ 1 from by have : ((0 : Int32).toInt) = 0 := (by decide); omega), (by have : ((0 : Int32).toInt) = 0 := (by decide); intro _; exact gy_if (it_q12 E a0 (x1.toInt)) hga htkE (by omega) (by omega) (fun z => (by have w := hnm.2 z; have hpb := hpoxc16_0; have y := (hpb.2 w).1; omega))), (by have : ((0 : Int32).toInt) = 0 := (by decide); intro q; exfalso; exact q (by decide)), (by have : ((0 : Int32).toInt) = 0 := (by decide); intro q; exfalso; exact q (by decide)), (by have : ((0 : Int32).toInt) = 0 := (by decide); intro _; exact ((hpoxc16_0).1 (by (by_cases z : xc14.toInt = 0; exact z; (have y := ((hpoxc16_0).2 z).1; omega)))).2), (by have : ((0 : Int32).toInt) = 0 := (by decide); intro q; exfalso; exact q (by decide)), ⟨zfxc16_0_0, hzfxc16_0_0, by have : ((0 : Int32).toInt) = 0 := (by decide); omega⟩, hcg2_0⟩, rfl, rfl, hF⟩ (Nat.le_of_ble_eq_true rfl) (Nat.le_of_ble_eq_true rfl) dX12_items_34
  exact hJ2 502 (1 : Int32) fv0_2 _ _ _ ls (by have : ((1 : Int32).toInt) = 1 := (by decide); omega) (by have : ((1 : Int32).toInt) = 1 := (by decide); omega) (by omega) (by omega) (by have : ((1 : Int32).toInt) = 1 := (by decide); intro _; exact hpre2) (by have : ((1 : Int32).toInt) = 1 := (by decide); intro q; exact absurd q (by decide)) (by have : ((1 : Int32).toInt) = 1 := (by decide); exact ⟨by rw [hpre1]; omega, fun _ _ => by rw [hpre1]; omega⟩) (by have : ((1 : Int32).toInt) = 1 := (by decide); rw [hpre1]; decide) (by have : ((1 : Int32).toInt) = 1 := (by decide); exact hpre3) (by have : ((1 : Int32).toInt) = 1 := (by decide); omega) (by have : ((1 : Int32).toInt) = 1 := (by decide);  omega) hfv0_2 tw_fr.rf hg1 hg0 TH hS (lv_sub hl [0, 1, 2] rfl)
