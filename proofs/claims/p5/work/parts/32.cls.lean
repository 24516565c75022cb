set_option maxHeartbeats 4000000 in
set_option maxRecDepth 100000 in
theorem tX4_linkAll (l : Launch) (D : va_G) (cs : Nat → ClassId) {kp : Nat → Nat} {L : List Nat} {E : Nat → va_E} (a0 : Nat) (x1 : Int32) (x2 : Int32) (x3 : Int32) (hm0 : a0 ∈ L) (hk0 : kp a0 = 4) (hp1a : 0 ≤ x1.toInt) (hp1b : x1.toInt ≤ 39) (hp2a : 0 ≤ x2.toInt) (hp2b : x2.toInt ≤ 39) (hp3a : 1 ≤ x3.toInt) (hp3b : x3.toInt ≤ 40) (hpre0 : x1.toInt + x3.toInt ≤ 40) (hpre1 : x2.toInt + x3.toInt ≤ 40) (sz : Nat) : Met l yX4_linkAll (.code yX4_linkAll cX4_linkAll 5 none :: cx_big) { frames := 1, cells := 0, slots := 0, locals := 22 } (tw_P D cs kp L E [.ref a0, .int x1, .int x2, .int x3] sz) (tw_Q D cs kp L (fun v kq Lq Eq => v = none ∧ kp = kq ∧ L = Lq ∧ tw_fr kp L [] [150, 151] E Eq) (va_A (va_pl L E) sz)) 0 0 (va_A (va_pl L E) sz) := by
  refine tw_ofW (by decide) (Nat.le_of_ble_eq_true rfl) ?_
  intro p e s m below meth c A ls hx hb hr hml hB hown hlocks hK hN hA TH hS hl
  have hown : s.vm.findClass "TreeMerge$Matcher" = some m.cls := hown
  have hl : lv_has ls 5 [(0, .ref a0), (1, .int x1), (2, .int x2), (3, .int x3)] := hl
  obtain ⟨kp0, ekp⟩ : ∃ z, z = kp := ⟨_, rfl⟩
  obtain ⟨L0, eL⟩ : ∃ z, z = L := ⟨_, rfl⟩
  rw [show tw_Q D cs kp L = tw_Q D cs kp0 L0 by rw [ekp, eL]]
  have hex : ∀ a : Nat, a ∈ L0 → a ∈ L ∧ kp a = kp0 a := fun a h => ⟨by rw [← eL]; exact h, by rw [ekp]⟩
  have hF : tw_fr kp L [] [150, 151] E E := tw_fr.rf
  refine lv_iconst (v := 0) hx hb dX4_linkAll_0 (by decide) ?_
  refine lv_istore (lv' := [(4, .int 0), (0, .ref a0), (1, .int x1), (2, .int x2), (3, .int x3)]) hx hb dX4_linkAll_1 hl (by decide) rfl (fun ls hl => ?_)
  have hJ3 : ∀ (n3 : Nat) (y3_4 : Int32) (Eg3 : Nat → va_E) (H : Heap) (locs : List Loc) (ls : Array Slot), 0 ≤ y3_4.toInt → y3_4.toInt ≤ 40 → 40 - y3_4.toInt ≤ (n3 : Int) → tw_fr kp L [] [150, 151] E Eg3 → tw_H D cs kp L Eg3 A H → va_S A s.heap H locs → lv_has ls 5 [(4, .int y3_4), (0, .ref a0), (1, .int x1), (2, .int x2), (3, .int x3)] → W p l e { frames := 1, cells := 0, slots := 0, locals := 22 } s m [.ref a0, .int x1, .int x2, .int x3].toArray below meth c H locs 0 0 (MQ below (tw_Q D cs kp0 L0 (fun v kq Lq Eq => v = none ∧ kp = kq ∧ L = Lq ∧ tw_fr kp L [] [150, 151] E Eq) A) [.ref a0, .int x1, .int x2, .int x3].toArray s 0 0 A) (F0 m 3 ls []) := by
    intro n3
    induction n3 using Nat.strongRecOn with
    | _ n3 ih3 =>
      intro y3_4 Eg3 H locs ls hy3_4a hy3_4b hmeas3 hG3 TH hS hl
      have hF := hF.tr hG3 (fun _ h => ⟨h, rfl⟩) (by decide) (by decide)
      refine lv_iload hx hb dX4_linkAll_3 (lv_at hl 0 rfl) ?_
      refine lv_iload_n hx hb dX4_linkAll_5 rfl (lv_at hl 4 rfl) ?_
      refine lv_icmp_ge (tgt := 27) hx hb dX4_linkAll_6 (by decide) (fun hc1 => ?_) (fun hc1 => ?_)
      · have hf2 : x3.toInt ≤ y3_4.toInt := by have z := (fa_le _ _).mp hc1;  omega
        exact tw_vret hx hb hr hlocks TH hS hex ⟨rfl, rfl, rfl, hF⟩ (Nat.le_of_ble_eq_true rfl) (Nat.le_of_ble_eq_true rfl) dX4_linkAll_27
      · have hf3 : ¬ (x3.toInt ≤ y3_4.toInt) := fun q => hc1 ((fa_le _ _).mpr (by  omega))
        refine lv_aload_n hx hb dX4_linkAll_9 rfl (lv_at hl 1 rfl) ?_
        refine lv_iload_n hx hb dX4_linkAll_10 rfl (lv_at hl 2 rfl) ?_
        refine lv_iload hx hb dX4_linkAll_11 (lv_at hl 0 rfl) ?_
        refine lv_iadd hx hb dX4_linkAll_13 ?_
        refine lv_topi (fun zi4 ezi4 => ?_)
        have hzi4 : zi4.toInt = x1.toInt + y3_4.toInt := by rw [ezi4];  have := ia_lo x1; have := ia_hi x1; have := ia_lo y3_4; have := ia_hi y3_4; exact (ia_add (by omega) (by omega)).trans (by omega)
        refine lv_iload_n hx hb dX4_linkAll_14 rfl (lv_at hl 3 rfl) ?_
        refine lv_iload hx hb dX4_linkAll_15 (lv_at hl 0 rfl) ?_
        refine lv_iadd hx hb dX4_linkAll_17 ?_
        refine lv_topi (fun zi5 ezi5 => ?_)
        have hzi5 : zi5.toInt = x2.toInt + y3_4.toInt := by rw [ezi5];  have := ia_lo x2; have := ia_hi x2; have := ia_lo y3_4; have := ia_hi y3_4; exact (ia_add (by omega) (by omega)).trans (by omega)
        refine tw_Vc (o := a0) (ci := 4) (n := 2) (post := (fun v kq Lq Eq => v = none ∧ kp = kq ∧ L = Lq ∧ tw_fr kp L [] [150, 151] Eg3 Eq)) (As := [.int zi4, .int zi5]) (rest := []) ⟨hx, hb, hml, hown, hB⟩ (fun sz => tX4_link l D cs a0 zi4 zi5 hm0 hk0 (by omega) (by omega) (by omega) (by omega) sz) cg_4_34_X4_link rfl rfl (by decide +kernel) ⟨Nat.le_of_ble_eq_true rfl, Nat.le_of_ble_eq_true rfl⟩ hK hN TH hS hA rfl hm0 hk0 (by decide) rfl hl.1 rfl (Nat.le_of_ble_eq_true rfl) dX4_linkAll_18 ⟨Nat.le_of_ble_eq_true rfl, Nat.le_of_ble_eq_true rfl⟩ (fun v6 kp6 L6 E6 H locs hq6 hx6 TH hS => ?_)
        obtain ⟨rfl, rfl, rfl, hst6⟩ := hq6
        have hF := hF.tr hst6 (fun _ h => ⟨h, rfl⟩) (by decide) (by decide)
        have hG3 := hG3.tr hst6 (fun _ h => ⟨h, rfl⟩) (by decide) (by decide)
        refine W.eq (g2 := F0 m 21 ls []) rfl ?_
        obtain ⟨zi8, ezi8⟩ : ∃ z : Int32, z = y3_4 + Int32.ofInt 1 := ⟨_, rfl⟩
        have hzi8 : zi8.toInt = y3_4.toInt + 1 := by rw [ezi8]; have : ((Int32.ofInt 1).toInt) = 1 := (by decide);  exact (ia_add (by omega) (by omega)).trans (by omega)
        refine lv_iinc (v := zi8) (lv' := [(4, .int zi8), (0, .ref a0), (1, .int x1), (2, .int x2), (3, .int x3)]) hx hb dX4_linkAll_21 hl (k := 0) rfl ezi8.symm (by decide) rfl (fun ls hl => ?_)
        refine lv_goto (tgt := 3) hx hb dX4_linkAll_24 (by decide) ?_
        exact ih3 (n3 - 1) (by   omega) zi8 _ _ _ ls (by omega) (by omega) (by   omega) hG3 TH hS (lv_sub hl [0, 1, 2, 3, 4] rfl)
  exact hJ3 41 (0 : Int32) _ _ _ ls (by have : ((0 : Int32).toInt) = 0 := (by decide); omega) (by have : ((0 : Int32).toInt) = 0 := (by decide); omega) (by have : ((0 : Int32).toInt) = 0 := (by decide);  omega) tw_fr.rf TH hS (lv_sub hl [0, 1, 2, 3, 4] rfl)
set_option maxHeartbeats 4000000 in
set_option maxRecDepth 100000 in
theorem tX10_isSameFrom (l : Launch) (D : va_G) (cs : Nat → ClassId) {kp : Nat → Nat} {L : List Nat} {E : Nat → va_E} (a0 : Nat) (x1 : Int32) (a2 : Nat) (x3 : Int32) (hm0 : a0 ∈ L) (hk0 : kp a0 = 10) (hp1a : 0 ≤ x1.toInt) (hp1b : x1.toInt ≤ 39) (hm2 : a2 ∈ L) (hk2 : kp a2 = 10) (hp3a : 0 ≤ x3.toInt) (hp3b : x3.toInt ≤ 39) (sz : Nat) : Met l yX10_isSameFrom (.code yX10_isSameFrom cX10_isSameFrom 7 (some .boolean) :: cx_big) { frames := 1, cells := 0, slots := 0, locals := 22 } (tw_P D cs kp L E [.ref a0, .int x1, .ref a2, .int x3] sz) (tw_Q D cs kp L (fun v kq Lq Eq => (∃ x : Int32, v = some (.int x) ∧ 0 ≤ x.toInt ∧ x.toInt ≤ 1 ∧ (x.toInt ≠ 0 → ∀ n : Int, xt_is E a0 x1.toInt n → x3.toInt + n ≤ 40)) ∧ kp = kq ∧ L = Lq ∧ E = Eq) (va_A (va_pl L E) sz)) 0 0 (va_A (va_pl L E) sz) := by
  refine tw_ofW (by decide) (Nat.le_of_ble_eq_true rfl) ?_
  intro p e s m below meth c A ls hx hb hr hml hB hown hlocks hK hN hA TH hS hl
  have hown : s.vm.findClass "TreeMerge$Tree" = some m.cls := hown
  have hl : lv_has ls 7 [(0, .ref a0), (1, .int x1), (2, .ref a2), (3, .int x3)] := hl
  obtain ⟨kp0, ekp⟩ : ∃ z, z = kp := ⟨_, rfl⟩
  obtain ⟨L0, eL⟩ : ∃ z, z = L := ⟨_, rfl⟩
  rw [show tw_Q D cs kp L = tw_Q D cs kp0 L0 by rw [ekp, eL]]
  have hex : ∀ a : Nat, a ∈ L0 → a ∈ L ∧ kp a = kp0 a := fun a h => ⟨by rw [← eL]; exact h, by rw [ekp]⟩
  refine lv_aload_n hx hb dX10_isSameFrom_0 rfl (lv_at hl 0 rfl) ?_
  refine lv_iload_n hx hb dX10_isSameFrom_1 rfl (lv_at hl 1 rfl) ?_
  refine tw_Vc (o := a0) (ci := 10) (n := 1) (post := (fun v kq Lq Eq => (∃ x : Int32, v = some (.int x) ∧ 1 ≤ x.toInt ∧ x.toInt ≤ 40 ∧ (x1.toInt + x.toInt ≤ 40) ∧ (xt_is E a0 x1.toInt x.toInt)) ∧ kp = kq ∧ L = Lq ∧ E = Eq)) (As := [.int x1]) (rest := []) ⟨hx, hb, hml, hown, hB⟩ (fun sz => tX10_extent l D cs a0 x1 hm0 hk0 (by omega) (by omega) sz) cg_10_96_X10_extent rfl rfl (by decide +kernel) ⟨Nat.le_of_ble_eq_true rfl, Nat.le_of_ble_eq_true rfl⟩ hK hN TH hS hA rfl hm0 hk0 (by decide) rfl hl.1 rfl (Nat.le_of_ble_eq_true rfl) dX10_isSameFrom_2 ⟨Nat.le_of_ble_eq_true rfl, Nat.le_of_ble_eq_true rfl⟩ (fun v1 kp1 L1 E1 H locs hq1 hx1 TH hS => ?_)
  obtain ⟨⟨xc2, rfl, hxc2a, hxc2b, hpoxc2_0, hpoxc2_1⟩, rfl, rfl, rfl⟩ := hq1
  refine W.eq (g2 := F0 m 5 ls [.int xc2]) rfl ?_
  refine lv_istore (lv' := [(4, .int xc2), (0, .ref a0), (1, .int x1), (2, .ref a2), (3, .int x3)]) hx hb dX10_isSameFrom_5 hl (by decide) rfl (fun ls hl => ?_)
  refine lv_iload hx hb dX10_isSameFrom_7 (lv_at hl 0 rfl) ?_
  refine lv_aload_n hx hb dX10_isSameFrom_9 rfl (lv_at hl 3 rfl) ?_
  refine lv_iload_n hx hb dX10_isSameFrom_10 rfl (lv_at hl 4 rfl) ?_
  refine tw_Vc (o := a2) (ci := 10) (n := 1) (post := (fun v kq Lq Eq => (∃ x : Int32, v = some (.int x) ∧ 1 ≤ x.toInt ∧ x.toInt ≤ 40 ∧ (x3.toInt + x.toInt ≤ 40) ∧ (xt_is E a2 x3.toInt x.toInt)) ∧ kp = kq ∧ L = Lq ∧ E = Eq)) (As := [.int x3]) (rest := [.int xc2]) ⟨hx, hb, hml, hown, hB⟩ (fun sz => tX10_extent l D cs a2 x3 hm2 hk2 (by omega) (by omega) sz) cg_10_96_X10_extent rfl rfl (by decide +kernel) ⟨Nat.le_of_ble_eq_true rfl, Nat.le_of_ble_eq_true rfl⟩ hK hN TH hS hA rfl hm2 hk2 (by decide) rfl hl.1 rfl (Nat.le_of_ble_eq_true rfl) dX10_isSameFrom_11 ⟨Nat.le_of_ble_eq_true rfl, Nat.le_of_ble_eq_true rfl⟩ (fun v3 kp3 L3 E3 H locs hq3 hx3 TH hS => ?_)
  obtain ⟨⟨xc4, rfl, hxc4a, hxc4b, hpoxc4_0, hpoxc4_1⟩, rfl, rfl, rfl⟩ := hq3
  refine W.eq (g2 := F0 m 14 ls [.int xc4, .int xc2]) rfl ?_
  refine lv_icmp_eq (tgt := 19) hx hb dX10_isSameFrom_14 (by decide) (fun hc5 => ?_) (fun hc5 => ?_)
  · have hf6 : xc2.toInt = xc4.toInt := by have z := (fa_eq _ _).mp hc5;  omega
    refine lv_aload_n hx hb dX10_isSameFrom_19 rfl (lv_at hl 3 rfl) ?_
    refine tw_get (ci := 10) (C := RX10) (T := TX10) (N := 8) hx hb hB cx_inX10 hown hK TH hm2 hk2 rfl ⟨by decide, rfl⟩ 4 (by decide) cw_135 (fun _ h9 => h9) dX10_isSameFrom_20 (fun hv => ?_)
    obtain ⟨xr7, hxr7, hmxr7, hkxr7⟩ : ∃ a : Nat, tw_fv E a2 4 = .ref a ∧ a ∈ L ∧ kp a = 113 := hv
    rw [hxr7]
    refine lv_iload_n hx hb dX10_isSameFrom_23 rfl (lv_at hl 4 rfl) ?_
    refine tw_iald (k := 113) (t0 := 0) (n := 40) (lo := 0) (hi := 40) hx hb hK TH hmxr7 hkxr7 (by decide) rfl rfl (i := x3) (vp_in_iff.mpr ⟨by  omega, by  omega⟩) dX10_isSameFrom_24 (fun hxe8a hxe8b => ?_)
    obtain ⟨xe8, exe8⟩ : ∃ z : Int32, tw_iv E xr7 (Int32.toNatClampNeg x3) = z := ⟨_, rfl⟩
    rw [exe8] at hxe8a hxe8b ⊢
    refine lv_aload_n hx hb dX10_isSameFrom_25 rfl (lv_at hl 1 rfl) ?_
    refine tw_get (ci := 10) (C := RX10) (T := TX10) (N := 8) hx hb hB cx_inX10 hown hK TH hm0 hk0 rfl ⟨by decide, rfl⟩ 4 (by decide) cw_135 (fun _ h9 => h9) dX10_isSameFrom_26 (fun hv => ?_)
    obtain ⟨xr9, hxr9, hmxr9, hkxr9⟩ : ∃ a : Nat, tw_fv E a0 4 = .ref a ∧ a ∈ L ∧ kp a = 113 := hv
    rw [hxr9]
    refine lv_iload_n hx hb dX10_isSameFrom_29 rfl (lv_at hl 2 rfl) ?_
    refine tw_iald (k := 113) (t0 := 0) (n := 40) (lo := 0) (hi := 40) hx hb hK TH hmxr9 hkxr9 (by decide) rfl rfl (i := x1) (vp_in_iff.mpr ⟨by  omega, by  omega⟩) dX10_isSameFrom_30 (fun hxe10a hxe10b => ?_)
    obtain ⟨xe10, exe10⟩ : ∃ z : Int32, tw_iv E xr9 (Int32.toNatClampNeg x1) = z := ⟨_, rfl⟩
    rw [exe10] at hxe10a hxe10b ⊢
    refine lv_isub hx hb dX10_isSameFrom_31 ?_
    refine lv_topi (fun zi11 ezi11 => ?_)
    have hzi11 : zi11.toInt = xe8.toInt - xe10.toInt := by rw [ezi11];  have := ia_lo xe8; have := ia_hi xe8; have := ia_lo xe10; have := ia_hi xe10; exact (ia_sub (by omega) (by omega)).trans (by omega)
    refine lv_istore (lv' := [(5, .int zi11), (4, .int xc2), (0, .ref a0), (1, .int x1), (2, .ref a2), (3, .int x3)]) hx hb dX10_isSameFrom_32 hl (by decide) rfl (fun ls hl => ?_)
    refine lv_iconst (v := 0) hx hb dX10_isSameFrom_34 (by decide) ?_
    refine lv_istore (lv' := [(6, .int 0), (5, .int zi11), (4, .int xc2), (0, .ref a0), (1, .int x1), (2, .ref a2), (3, .int x3)]) hx hb dX10_isSameFrom_35 hl (by decide) rfl (fun ls hl => ?_)
    have hJ37 : ∀ (n37 : Nat) (y37_6 : Int32) (H : Heap) (locs : List Loc) (ls : Array Slot), 0 ≤ y37_6.toInt → y37_6.toInt ≤ 40 → 40 - y37_6.toInt ≤ (n37 : Int) → tw_H D cs kp L E A H → va_S A s.heap H locs → lv_has ls 7 [(6, .int y37_6), (5, .int zi11), (4, .int xc2), (0, .ref a0), (1, .int x1), (2, .ref a2), (3, .int x3)] → W p l e { frames := 1, cells := 0, slots := 0, locals := 22 } s m [.ref a0, .int x1, .ref a2, .int x3].toArray below meth c H locs 0 0 (MQ below (tw_Q D cs kp0 L0 (fun v kq Lq Eq => (∃ x : Int32, v = some (.int x) ∧ 0 ≤ x.toInt ∧ x.toInt ≤ 1 ∧ (x.toInt ≠ 0 → ∀ n : Int, xt_is E a0 x1.toInt n → x3.toInt + n ≤ 40)) ∧ kp = kq ∧ L = Lq ∧ E = Eq) A) [.ref a0, .int x1, .ref a2, .int x3].toArray s 0 0 A) (F0 m 37 ls []) := by
      intro n37
      induction n37 using Nat.strongRecOn with
      | _ n37 ih37 =>
        intro y37_6 H locs ls hy37_6a hy37_6b hmeas37 TH hS hl
        refine lv_iload hx hb dX10_isSameFrom_37 (lv_at hl 0 rfl) ?_
        refine lv_iload hx hb dX10_isSameFrom_39 (lv_at hl 2 rfl) ?_
        refine lv_icmp_ge (tgt := 119) hx hb dX10_isSameFrom_41 (by decide) (fun hc12 => ?_) (fun hc12 => ?_)
        · have hf13 : xc2.toInt ≤ y37_6.toInt := by have z := (fa_le _ _).mp hc12;  omega
          refine lv_iconst (v := 1) hx hb dX10_isSameFrom_119 (by decide) ?_
          exact tw_zret hx hb hr hlocks (by decide) TH hS hex ⟨⟨_, rfl, (show 0 ≤ Int32.toInt 1 from by have : ((1 : Int32).toInt) = 1 := (by decide); omega), (show Int32.toInt 1 ≤ 1 from by have : ((1 : Int32).toInt) = 1 := (by decide); omega), (by have : ((1 : Int32).toInt) = 1 := (by decide); intro _ n hn; have := xt_is_one (by omega) hn hpoxc2_1; have e1 := hpoxc2_0; have e2 := hpoxc4_0; omega)⟩, rfl, rfl, rfl⟩ (Nat.le_of_ble_eq_true rfl) (Nat.le_of_ble_eq_true rfl) dX10_isSameFrom_120
        · have hf14 : ¬ (xc2.toInt ≤ y37_6.toInt) := fun q => hc12 ((fa_le _ _).mpr (by  omega))
          refine lv_aload_n hx hb dX10_isSameFrom_44 rfl (lv_at hl 3 rfl) ?_
          refine tw_get (ci := 10) (C := RX10) (T := TX10) (N := 8) hx hb hB cx_inX10 hown hK TH hm0 hk0 rfl ⟨by decide, rfl⟩ 5 (by decide) cw_138 (fun _ h9 => h9) dX10_isSameFrom_45 (fun hv => ?_)
          obtain ⟨xr15, hxr15, hmxr15, hkxr15⟩ : ∃ a : Nat, tw_fv E a0 5 = .ref a ∧ a ∈ L ∧ kp a = 114 := hv
          rw [hxr15]
          refine lv_iload_n hx hb dX10_isSameFrom_48 rfl (lv_at hl 4 rfl) ?_
          refine lv_iload hx hb dX10_isSameFrom_49 (lv_at hl 0 rfl) ?_
          refine lv_iadd hx hb dX10_isSameFrom_51 ?_
          refine lv_topi (fun zi16 ezi16 => ?_)
          have hzi16 : zi16.toInt = x1.toInt + y37_6.toInt := by rw [ezi16];  have := ia_lo x1; have := ia_hi x1; have := ia_lo y37_6; have := ia_hi y37_6; exact (ia_add (by omega) (by omega)).trans (by omega)
          refine tw_iald (k := 114) (t0 := 0) (n := 40) (lo := (-1)) (hi := 9) hx hb hK TH hmxr15 hkxr15 (by decide) rfl rfl (i := zi16) (vp_in_iff.mpr ⟨by  omega, by  omega⟩) dX10_isSameFrom_52 (fun hxe17a hxe17b => ?_)
          obtain ⟨xe17, exe17⟩ : ∃ z : Int32, tw_iv E xr15 (Int32.toNatClampNeg zi16) = z := ⟨_, rfl⟩
          rw [exe17] at hxe17a hxe17b ⊢
          refine lv_aload_n hx hb dX10_isSameFrom_53 rfl (lv_at hl 5 rfl) ?_
          refine tw_get (ci := 10) (C := RX10) (T := TX10) (N := 8) hx hb hB cx_inX10 hown hK TH hm2 hk2 rfl ⟨by decide, rfl⟩ 5 (by decide) cw_138 (fun _ h9 => h9) dX10_isSameFrom_54 (fun hv => ?_)
          obtain ⟨xr18, hxr18, hmxr18, hkxr18⟩ : ∃ a : Nat, tw_fv E a2 5 = .ref a ∧ a ∈ L ∧ kp a = 114 := hv
          rw [hxr18]
          refine lv_iload_n hx hb dX10_isSameFrom_57 rfl (lv_at hl 6 rfl) ?_
          refine lv_iload hx hb dX10_isSameFrom_58 (lv_at hl 0 rfl) ?_
          refine lv_iadd hx hb dX10_isSameFrom_60 ?_
          refine lv_topi (fun zi19 ezi19 => ?_)
          have hzi19 : zi19.toInt = x3.toInt + y37_6.toInt := by rw [ezi19];  have := ia_lo x3; have := ia_hi x3; have := ia_lo y37_6; have := ia_hi y37_6; exact (ia_add (by omega) (by omega)).trans (by omega)
          refine tw_iald (k := 114) (t0 := 0) (n := 40) (lo := (-1)) (hi := 9) hx hb hK TH hmxr18 hkxr18 (by decide) rfl rfl (i := zi19) (vp_in_iff.mpr ⟨by  omega, by  omega⟩) dX10_isSameFrom_61 (fun hxe20a hxe20b => ?_)
          obtain ⟨xe20, exe20⟩ : ∃ z : Int32, tw_iv E xr18 (Int32.toNatClampNeg zi19) = z := ⟨_, rfl⟩
          rw [exe20] at hxe20a hxe20b ⊢
          refine lv_icmp_ne (tgt := 111) hx hb dX10_isSameFrom_62 (by decide) (fun hc21 => ?_) (fun hc21 => ?_)
          · have hf22 : ¬ (xe17.toInt = xe20.toInt) := fun q => hc21 ((fa_eq _ _).mpr (by  omega))
            refine lv_iconst (v := 0) hx hb dX10_isSameFrom_111 (by decide) ?_
            exact tw_zret hx hb hr hlocks (by decide) TH hS hex ⟨⟨_, rfl, (show 0 ≤ Int32.toInt 0 from by have : ((0 : Int32).toInt) = 0 := (by decide); omega), (show Int32.toInt 0 ≤ 1 from by have : ((0 : Int32).toInt) = 0 := (by decide); omega), (by have : ((0 : Int32).toInt) = 0 := (by decide); intro q; exfalso; exact q (by decide))⟩, rfl, rfl, rfl⟩ (Nat.le_of_ble_eq_true rfl) (Nat.le_of_ble_eq_true rfl) dX10_isSameFrom_112
          · have hf23 : xe17.toInt = xe20.toInt := by have z := (fa_eq _ _).mp hc21;  omega
            refine lv_aload_n hx hb dX10_isSameFrom_65 rfl (lv_at hl 3 rfl) ?_
            refine tw_get (ci := 10) (C := RX10) (T := TX10) (N := 8) hx hb hB cx_inX10 hown hK TH hm0 hk0 rfl ⟨by decide, rfl⟩ 6 (by decide) cw_144 (fun _ h9 => h9) dX10_isSameFrom_66 (fun hv => ?_)
            obtain ⟨xr24, hxr24, hmxr24, hkxr24⟩ : ∃ a : Nat, tw_fv E a0 6 = .ref a ∧ a ∈ L ∧ kp a = 102 := hv
            rw [hxr24]
            refine lv_iload_n hx hb dX10_isSameFrom_69 rfl (lv_at hl 4 rfl) ?_
            refine lv_iload hx hb dX10_isSameFrom_70 (lv_at hl 0 rfl) ?_
            refine lv_iadd hx hb dX10_isSameFrom_72 ?_
            refine lv_topi (fun zi25 ezi25 => ?_)
            have hzi25 : zi25.toInt = x1.toInt + y37_6.toInt := by rw [ezi25];  have := ia_lo x1; have := ia_hi x1; have := ia_lo y37_6; have := ia_hi y37_6; exact (ia_add (by omega) (by omega)).trans (by omega)
            refine tw_lald (k := 102) (n := 40) (lo := 0) (hi := 0) hx hb hK TH hmxr24 hkxr24 (by decide) rfl (i := zi25) (vp_in_iff.mpr ⟨by  omega, by  omega⟩) dX10_isSameFrom_73 (fun xl26 => ?_)
            refine lv_aload_n hx hb dX10_isSameFrom_74 rfl (lv_at hl 5 rfl) ?_
            refine tw_get (ci := 10) (C := RX10) (T := TX10) (N := 8) hx hb hB cx_inX10 hown hK TH hm2 hk2 rfl ⟨by decide, rfl⟩ 6 (by decide) cw_144 (fun _ h9 => h9) dX10_isSameFrom_75 (fun hv => ?_)
            obtain ⟨xr27, hxr27, hmxr27, hkxr27⟩ : ∃ a : Nat, tw_fv E a2 6 = .ref a ∧ a ∈ L ∧ kp a = 102 := hv
            rw [hxr27]
            refine lv_iload_n hx hb dX10_isSameFrom_78 rfl (lv_at hl 6 rfl) ?_
            refine lv_iload hx hb dX10_isSameFrom_79 (lv_at hl 0 rfl) ?_
            refine lv_iadd hx hb dX10_isSameFrom_81 ?_
            refine lv_topi (fun zi28 ezi28 => ?_)
            have hzi28 : zi28.toInt = x3.toInt + y37_6.toInt := by rw [ezi28];  have := ia_lo x3; have := ia_hi x3; have := ia_lo y37_6; have := ia_hi y37_6; exact (ia_add (by omega) (by omega)).trans (by omega)
            refine tw_lald (k := 102) (n := 40) (lo := 0) (hi := 0) hx hb hK TH hmxr27 hkxr27 (by decide) rfl (i := zi28) (vp_in_iff.mpr ⟨by  omega, by  omega⟩) dX10_isSameFrom_82 (fun xl29 => ?_)
            refine W.lcmp hx hb dX10_isSameFrom_83 ?_
            have hzi30 := ia_lcmp xl26 xl29
            generalize lg_cmp xl26 xl29 = zi30 at hzi30 ⊢
            refine lv_if_ne (tgt := 111) hx hb dX10_isSameFrom_84 (by decide) (fun hc31 => ?_) (fun hc31 => ?_)
            · have hf32 : ¬ (zi30.toInt = 0) := fun q => hc31 ((fa_eq _ _).mpr (by have : ((0 : Int32).toInt) = 0 := (by decide); omega))
              refine lv_iconst (v := 0) hx hb dX10_isSameFrom_111 (by decide) ?_
              exact tw_zret hx hb hr hlocks (by decide) TH hS hex ⟨⟨_, rfl, (show 0 ≤ Int32.toInt 0 from by have : ((0 : Int32).toInt) = 0 := (by decide); omega), (show Int32.toInt 0 ≤ 1 from by have : ((0 : Int32).toInt) = 0 := (by decide); omega), (by have : ((0 : Int32).toInt) = 0 := (by decide); intro q; exfalso; exact q (by decide))⟩, rfl, rfl, rfl⟩ (Nat.le_of_ble_eq_true rfl) (Nat.le_of_ble_eq_true rfl) dX10_isSameFrom_112
            · have hf33 : zi30.toInt = 0 := by have z := (fa_eq _ _).mp hc31; have : ((0 : Int32).toInt) = 0 := (by decide); omega
              refine lv_aload_n hx hb dX10_isSameFrom_87 rfl (lv_at hl 3 rfl) ?_
              refine tw_get (ci := 10) (C := RX10) (T := TX10) (N := 8) hx hb hB cx_inX10 hown hK TH hm0 hk0 rfl ⟨by decide, rfl⟩ 4 (by decide) cw_135 (fun _ h9 => h9) dX10_isSameFrom_88 (fun hv => ?_)
              rw [hxr9]
              refine lv_iload_n hx hb dX10_isSameFrom_91 rfl (lv_at hl 4 rfl) ?_
              refine lv_iload hx hb dX10_isSameFrom_92 (lv_at hl 0 rfl) ?_
              refine lv_iadd hx hb dX10_isSameFrom_94 ?_
              refine lv_topi (fun zi34 ezi34 => ?_)
              have hzi34 : zi34.toInt = x1.toInt + y37_6.toInt := by rw [ezi34];  have := ia_lo x1; have := ia_hi x1; have := ia_lo y37_6; have := ia_hi y37_6; exact (ia_add (by omega) (by omega)).trans (by omega)
              refine tw_iald (k := 113) (t0 := 0) (n := 40) (lo := 0) (hi := 40) hx hb hK TH hmxr9 hkxr9 (by decide) rfl rfl (i := zi34) (vp_in_iff.mpr ⟨by  omega, by  omega⟩) dX10_isSameFrom_95 (fun hxe35a hxe35b => ?_)
              obtain ⟨xe35, exe35⟩ : ∃ z : Int32, tw_iv E xr9 (Int32.toNatClampNeg zi34) = z := ⟨_, rfl⟩
              rw [exe35] at hxe35a hxe35b ⊢
              refine lv_iload hx hb dX10_isSameFrom_96 (lv_at hl 1 rfl) ?_
              refine lv_iadd hx hb dX10_isSameFrom_98 ?_
              refine lv_topi (fun zi36 ezi36 => ?_)
              have hzi36 : zi36.toInt = xe35.toInt + zi11.toInt := by rw [ezi36];  have := ia_lo xe35; have := ia_hi xe35; have := ia_lo zi11; have := ia_hi zi11; exact (ia_add (by omega) (by omega)).trans (by omega)
              refine lv_aload_n hx hb dX10_isSameFrom_99 rfl (lv_at hl 5 rfl) ?_
              refine tw_get (ci := 10) (C := RX10) (T := TX10) (N := 8) hx hb hB cx_inX10 hown hK TH hm2 hk2 rfl ⟨by decide, rfl⟩ 4 (by decide) cw_135 (fun _ h9 => h9) dX10_isSameFrom_100 (fun hv => ?_)
              rw [hxr7]
              refine lv_iload_n hx hb dX10_isSameFrom_103 rfl (lv_at hl 6 rfl) ?_
              refine lv_iload hx hb dX10_isSameFrom_104 (lv_at hl 0 rfl) ?_
              refine lv_iadd hx hb dX10_isSameFrom_106 ?_
              refine lv_topi (fun zi37 ezi37 => ?_)
              have hzi37 : zi37.toInt = x3.toInt + y37_6.toInt := by rw [ezi37];  have := ia_lo x3; have := ia_hi x3; have := ia_lo y37_6; have := ia_hi y37_6; exact (ia_add (by omega) (by omega)).trans (by omega)
              refine tw_iald (k := 113) (t0 := 0) (n := 40) (lo := 0) (hi := 40) hx hb hK TH hmxr7 hkxr7 (by decide) rfl rfl (i := zi37) (vp_in_iff.mpr ⟨by  omega, by  omega⟩) dX10_isSameFrom_107 (fun hxe38a hxe38b => ?_)
              obtain ⟨xe38, exe38⟩ : ∃ z : Int32, tw_iv E xr7 (Int32.toNatClampNeg zi37) = z := ⟨_, rfl⟩
              rw [exe38] at hxe38a hxe38b ⊢
              refine lv_icmp_eq (tgt := 113) hx hb dX10_isSameFrom_108 (by decide) (fun hc39 => ?_) (fun hc39 => ?_)
              · have hf40 : zi36.toInt = xe38.toInt := by have z := (fa_eq _ _).mp hc39;  omega
                obtain ⟨zi41, ezi41⟩ : ∃ z : Int32, z = y37_6 + Int32.ofInt 1 := ⟨_, rfl⟩
                have hzi41 : zi41.toInt = y37_6.toInt + 1 := by rw [ezi41]; have : ((Int32.ofInt 1).toInt) = 1 := (by decide);  exact (ia_add (by omega) (by omega)).trans (by omega)
                refine lv_iinc (v := zi41) (lv' := [(6, .int zi41), (5, .int zi11), (4, .int xc2), (0, .ref a0), (1, .int x1), (2, .ref a2), (3, .int x3)]) hx hb dX10_isSameFrom_113 hl (k := 0) rfl ezi41.symm (by decide) rfl (fun ls hl => ?_)
                refine lv_goto (tgt := 37) hx hb dX10_isSameFrom_116 (by decide) ?_
                exact ih37 (n37 - 1) (by   omega) zi41 _ _ ls (by omega) (by omega) (by   omega) TH hS (lv_sub hl [0, 1, 2, 3, 4, 5, 6] rfl)
              · have hf42 : ¬ (zi36.toInt = xe38.toInt) := fun q => hc39 ((fa_eq _ _).mpr (by  omega))
                refine lv_iconst (v := 0) hx hb dX10_isSameFrom_111 (by decide) ?_
                exact tw_zret hx hb hr hlocks (by decide) TH hS hex ⟨⟨_, rfl, (show 0 ≤ Int32.toInt 0 from by have : ((0 : Int32).toInt) = 0 := (by decide); omega), (show Int32.toInt 0 ≤ 1 from by have : ((0 : Int32).toInt) = 0 := (by decide); omega), (by have : ((0 : Int32).toInt) = 0 := (by decide); intro q; exfalso; exact q (by decide))⟩, rfl, rfl, rfl⟩ (Nat.le_of_ble_eq_true rfl) (Nat.le_of_ble_eq_true rfl) dX10_isSameFrom_112
    exact hJ37 41 (0 : Int32) _ _ ls (by have : ((0 : Int32).toInt) = 0 := (by decide); omega) (by have : ((0 : Int32).toInt) = 0 := (by decide); omega) (by have : ((0 : Int32).toInt) = 0 := (by decide);  omega) TH hS (lv_sub hl [0, 1, 2, 3, 4, 5, 6] rfl)
  · have hf43 : ¬ (xc2.toInt = xc4.toInt) := fun q => hc5 ((fa_eq _ _).mpr (by  omega))
    refine lv_iconst (v := 0) hx hb dX10_isSameFrom_17 (by decide) ?_
    exact tw_zret hx hb hr hlocks (by decide) TH hS hex ⟨⟨_, rfl, (show 0 ≤ Int32.toInt 0 from by have : ((0 : Int32).toInt) = 0 := (by decide); omega), (show Int32.toInt 0 ≤ 1 from by have : ((0 : Int32).toInt) = 0 := (by decide); omega), (by have : ((0 : Int32).toInt) = 0 := (by decide); intro q; exfalso; exact q (by decide))⟩, rfl, rfl, rfl⟩ (Nat.le_of_ble_eq_true rfl) (Nat.le_of_ble_eq_true rfl) dX10_isSameFrom_18
set_option maxHeartbeats 4000000 in
set_option maxRecDepth 100000 in
theorem tX4_agree (l : Launch) (D : va_G) (cs : Nat → ClassId) {kp : Nat → Nat} {L : List Nat} {E : Nat → va_E} (a0 : Nat) (x1 : Int32) (x2 : Int32) (x3 : Int32) (hm0 : a0 ∈ L) (hk0 : kp a0 = 4) (hp1a : 1 ≤ x1.toInt) (hp1b : x1.toInt ≤ 4) (hp2a : 0 ≤ x2.toInt) (hp2b : x2.toInt ≤ 39) (hp3a : 0 ≤ x3.toInt) (hp3b : x3.toInt ≤ 39) (sz : Nat) : Met l yX4_agree (.code yX4_agree cX4_agree 4 (some .boolean) :: cx_big) { frames := 2, cells := 0, slots := 0, locals := 48 } (tw_P D cs kp L E [.ref a0, .int x1, .int x2, .int x3] sz) (tw_Q D cs kp L (fun v kq Lq Eq => (∃ x : Int32, v = some (.int x) ∧ 0 ≤ x.toInt ∧ x.toInt ≤ 1 ∧ (x.toInt ≠ 0 → x1.toInt = 1 → ∀ n : Int, xt_is E (tw_fa E a0 0) x2.toInt n → x3.toInt + n ≤ 40)) ∧ kp = kq ∧ L = Lq ∧ E = Eq) (va_A (va_pl L E) sz)) 0 0 (va_A (va_pl L E) sz) := by
  refine tw_ofW (by decide) (Nat.le_of_ble_eq_true rfl) ?_
  intro p e s m below meth c A ls hx hb hr hml hB hown hlocks hK hN hA TH hS hl
  have hown : s.vm.findClass "TreeMerge$Matcher" = some m.cls := hown
  have hl : lv_has ls 4 [(0, .ref a0), (1, .int x1), (2, .int x2), (3, .int x3)] := hl
  obtain ⟨kp0, ekp⟩ : ∃ z, z = kp := ⟨_, rfl⟩
  obtain ⟨L0, eL⟩ : ∃ z, z = L := ⟨_, rfl⟩
  rw [show tw_Q D cs kp L = tw_Q D cs kp0 L0 by rw [ekp, eL]]
  have hex : ∀ a : Nat, a ∈ L0 → a ∈ L ∧ kp a = kp0 a := fun a h => ⟨by rw [← eL]; exact h, by rw [ekp]⟩
  refine lv_iload_n hx hb dX4_agree_0 rfl (lv_at hl 1 rfl) ?_
  refine lv_iconst (v := 1) hx hb dX4_agree_1 (by decide) ?_
  refine lv_icmp_ne (tgt := 44) hx hb dX4_agree_2 (by decide) (fun hc1 => ?_) (fun hc1 => ?_)
  · have hf2 : ¬ (x1.toInt = 1) := fun q => hc1 ((fa_eq _ _).mpr (by have : ((1 : Int32).toInt) = 1 := (by decide); omega))
    refine lv_iload_n hx hb dX4_agree_44 rfl (lv_at hl 1 rfl) ?_
    refine lv_iconst (v := 4) hx hb dX4_agree_45 (by decide) ?_
    have hJ60 : ∀  (H : Heap) (locs : List Loc) (ls : Array Slot), tw_H D cs kp L E A H → va_S A s.heap H locs → lv_has ls 4 [(0, .ref a0), (1, .int x1), (2, .int x2), (3, .int x3)] → W p l e { frames := 2, cells := 0, slots := 0, locals := 48 } s m [.ref a0, .int x1, .int x2, .int x3].toArray below meth c H locs 0 0 (MQ below (tw_Q D cs kp0 L0 (fun v kq Lq Eq => (∃ x : Int32, v = some (.int x) ∧ 0 ≤ x.toInt ∧ x.toInt ≤ 1 ∧ (x.toInt ≠ 0 → x1.toInt = 1 → ∀ n : Int, xt_is E (tw_fa E a0 0) x2.toInt n → x3.toInt + n ≤ 40)) ∧ kp = kq ∧ L = Lq ∧ E = Eq) A) [.ref a0, .int x1, .int x2, .int x3].toArray s 0 0 A) (F0 m 60 ls []) := by
      intro H locs ls TH hS hl
      refine lv_iload_n hx hb dX4_agree_60 rfl (lv_at hl 1 rfl) ?_
      refine lv_iconst (v := 3) hx hb dX4_agree_61 (by decide) ?_
      refine lv_icmp_eq (tgt := 87) hx hb dX4_agree_62 (by decide) (fun hc3 => ?_) (fun hc3 => ?_)
      · have hf4 : x1.toInt = 3 := by have z := (fa_eq _ _).mp hc3; have : ((3 : Int32).toInt) = 3 := (by decide); omega
        refine lv_iconst (v := 1) hx hb dX4_agree_87 (by decide) ?_
        refine lv_goto (tgt := 92) hx hb dX4_agree_88 (by decide) ?_
        exact tw_zret hx hb hr hlocks (by decide) TH hS hex ⟨⟨_, rfl, (show 0 ≤ Int32.toInt 1 from by have : ((1 : Int32).toInt) = 1 := (by decide); omega), (show Int32.toInt 1 ≤ 1 from by have : ((1 : Int32).toInt) = 1 := (by decide); omega), (by have : ((1 : Int32).toInt) = 1 := (by decide); intro _ q; exfalso; omega)⟩, rfl, rfl, rfl⟩ (Nat.le_of_ble_eq_true rfl) (Nat.le_of_ble_eq_true rfl) dX4_agree_92
      · have hf5 : ¬ (x1.toInt = 3) := fun q => hc3 ((fa_eq _ _).mpr (by have : ((3 : Int32).toInt) = 3 := (by decide); omega))
        refine lv_aload_n hx hb dX4_agree_65 rfl (lv_at hl 0 rfl) ?_
        refine tw_get (ci := 4) (C := RX4) (T := TX4) (N := 7) hx hb hB cx_inX4 hown hK TH hm0 hk0 rfl ⟨by decide, rfl⟩ 0 (by decide) cw_197 (fun _ h9 => h9) dX4_agree_66 (fun hv => ?_)
        obtain ⟨xr6, hxr6, hmxr6, hkxr6⟩ : ∃ a : Nat, tw_fv E a0 0 = .ref a ∧ a ∈ L ∧ kp a = 10 := hv
        rw [hxr6]
        refine tw_get (ci := 10) (C := RX10) (T := TX10) (N := 8) hx hb hB cx_inX10 hown hK TH hmxr6 hkxr6 rfl ⟨by decide, rfl⟩ 6 (by decide) cw_145 (fun _ h9 => h9) dX4_agree_69 (fun hv => ?_)
        obtain ⟨xr7, hxr7, hmxr7, hkxr7⟩ : ∃ a : Nat, tw_fv E xr6 6 = .ref a ∧ a ∈ L ∧ kp a = 102 := hv
        rw [hxr7]
        refine lv_iload_n hx hb dX4_agree_72 rfl (lv_at hl 2 rfl) ?_
        refine tw_lald (k := 102) (n := 40) (lo := 0) (hi := 0) hx hb hK TH hmxr7 hkxr7 (by decide) rfl (i := x2) (vp_in_iff.mpr ⟨by  omega, by  omega⟩) dX4_agree_73 (fun xl8 => ?_)
        refine lv_aload_n hx hb dX4_agree_74 rfl (lv_at hl 0 rfl) ?_
        refine tw_get (ci := 4) (C := RX4) (T := TX4) (N := 7) hx hb hB cx_inX4 hown hK TH hm0 hk0 rfl ⟨by decide, rfl⟩ 1 (by decide) cw_198 (fun _ h9 => h9) dX4_agree_75 (fun hv => ?_)
        obtain ⟨xr9, hxr9, hmxr9, hkxr9⟩ : ∃ a : Nat, tw_fv E a0 1 = .ref a ∧ a ∈ L ∧ kp a = 10 := hv
        rw [hxr9]
        refine tw_get (ci := 10) (C := RX10) (T := TX10) (N := 8) hx hb hB cx_inX10 hown hK TH hmxr9 hkxr9 rfl ⟨by decide, rfl⟩ 6 (by decide) cw_145 (fun _ h9 => h9) dX4_agree_78 (fun hv => ?_)
        obtain ⟨xr10, hxr10, hmxr10, hkxr10⟩ : ∃ a : Nat, tw_fv E xr9 6 = .ref a ∧ a ∈ L ∧ kp a = 102 := hv
        rw [hxr10]
        refine lv_iload_n hx hb dX4_agree_81 rfl (lv_at hl 3 rfl) ?_
        refine tw_lald (k := 102) (n := 40) (lo := 0) (hi := 0) hx hb hK TH hmxr10 hkxr10 (by decide) rfl (i := x3) (vp_in_iff.mpr ⟨by  omega, by  omega⟩) dX4_agree_82 (fun xl11 => ?_)
        refine W.lcmp hx hb dX4_agree_83 ?_
        have hzi12 := ia_lcmp xl8 xl11
        generalize lg_cmp xl8 xl11 = zi12 at hzi12 ⊢
        refine lv_if_ne (tgt := 91) hx hb dX4_agree_84 (by decide) (fun hc13 => ?_) (fun hc13 => ?_)
        · have hf14 : ¬ (zi12.toInt = 0) := fun q => hc13 ((fa_eq _ _).mpr (by have : ((0 : Int32).toInt) = 0 := (by decide); omega))
          refine lv_iconst (v := 0) hx hb dX4_agree_91 (by decide) ?_
          exact tw_zret hx hb hr hlocks (by decide) TH hS hex ⟨⟨_, rfl, (show 0 ≤ Int32.toInt 0 from by have : ((0 : Int32).toInt) = 0 := (by decide); omega), (show Int32.toInt 0 ≤ 1 from by have : ((0 : Int32).toInt) = 0 := (by decide); omega), (by have : ((0 : Int32).toInt) = 0 := (by decide); intro q; exfalso; exact q (by decide))⟩, rfl, rfl, rfl⟩ (Nat.le_of_ble_eq_true rfl) (Nat.le_of_ble_eq_true rfl) dX4_agree_92
        · have hf15 : zi12.toInt = 0 := by have z := (fa_eq _ _).mp hc13; have : ((0 : Int32).toInt) = 0 := (by decide); omega
          refine lv_iconst (v := 1) hx hb dX4_agree_87 (by decide) ?_
          refine lv_goto (tgt := 92) hx hb dX4_agree_88 (by decide) ?_
          exact tw_zret hx hb hr hlocks (by decide) TH hS hex ⟨⟨_, rfl, (show 0 ≤ Int32.toInt 1 from by have : ((1 : Int32).toInt) = 1 := (by decide); omega), (show Int32.toInt 1 ≤ 1 from by have : ((1 : Int32).toInt) = 1 := (by decide); omega), (by have : ((1 : Int32).toInt) = 1 := (by decide); intro _ q; exfalso; omega)⟩, rfl, rfl, rfl⟩ (Nat.le_of_ble_eq_true rfl) (Nat.le_of_ble_eq_true rfl) dX4_agree_92
    refine lv_icmp_ge (tgt := 60) hx hb dX4_agree_46 (by decide) (fun hc16 => ?_) (fun hc16 => ?_)
    · have hf17 : 4 ≤ x1.toInt := by have z := (fa_le _ _).mp hc16; have : ((4 : Int32).toInt) = 4 := (by decide); omega
      exact hJ60  _ _ ls  TH hS (lv_sub hl [0, 1, 2, 3] rfl)
    · have hf18 : ¬ (4 ≤ x1.toInt) := fun q => hc16 ((fa_le _ _).mpr (by have : ((4 : Int32).toInt) = 4 := (by decide); omega))
      refine lv_aload_n hx hb dX4_agree_49 rfl (lv_at hl 0 rfl) ?_
      refine lv_iload_n hx hb dX4_agree_50 rfl (lv_at hl 2 rfl) ?_
      refine lv_iload_n hx hb dX4_agree_51 rfl (lv_at hl 3 rfl) ?_
      refine tw_Vc (o := a0) (ci := 4) (n := 2) (post := (fun v kq Lq Eq => (∃ x : Int32, v = some (.int x) ∧ 0 ≤ x.toInt ∧ x.toInt ≤ 1) ∧ kp = kq ∧ L = Lq ∧ E = Eq)) (As := [.int x2, .int x3]) (rest := []) ⟨hx, hb, hml, hown, hB⟩ (fun sz => tX4_haveParentsPaired l D cs a0 x2 x3 hm0 hk0 (by omega) (by omega) (by omega) (by omega) sz) cg_4_72_X4_haveParentsPaired rfl rfl (by decide +kernel) ⟨Nat.le_of_ble_eq_true rfl, Nat.le_of_ble_eq_true rfl⟩ hK hN TH hS hA rfl hm0 hk0 (by decide) rfl hl.1 rfl (Nat.le_of_ble_eq_true rfl) dX4_agree_52 ⟨Nat.le_of_ble_eq_true rfl, Nat.le_of_ble_eq_true rfl⟩ (fun v19 kp19 L19 E19 H locs hq19 hx19 TH hS => ?_)
      obtain ⟨⟨xc20, rfl, hxc20a, hxc20b⟩, rfl, rfl, rfl⟩ := hq19
      refine W.eq (g2 := F0 m 55 ls [.int xc20]) rfl ?_
      refine lv_if_ne (tgt := 60) hx hb dX4_agree_55 (by decide) (fun hc21 => ?_) (fun hc21 => ?_)
      · have hf22 : ¬ (xc20.toInt = 0) := fun q => hc21 ((fa_eq _ _).mpr (by have : ((0 : Int32).toInt) = 0 := (by decide); omega))
        exact hJ60  _ _ ls  TH hS (lv_sub hl [0, 1, 2, 3] rfl)
      · have hf23 : xc20.toInt = 0 := by have z := (fa_eq _ _).mp hc21; have : ((0 : Int32).toInt) = 0 := (by decide); omega
        refine lv_iconst (v := 0) hx hb dX4_agree_58 (by decide) ?_
        exact tw_zret hx hb hr hlocks (by decide) TH hS hex ⟨⟨_, rfl, (show 0 ≤ Int32.toInt 0 from by have : ((0 : Int32).toInt) = 0 := (by decide); omega), (show Int32.toInt 0 ≤ 1 from by have : ((0 : Int32).toInt) = 0 := (by decide); omega), (by have : ((0 : Int32).toInt) = 0 := (by decide); intro q; exfalso; exact q (by decide))⟩, rfl, rfl, rfl⟩ (Nat.le_of_ble_eq_true rfl) (Nat.le_of_ble_eq_true rfl) dX4_agree_59
  · have hf24 : x1.toInt = 1 := by have z := (fa_eq _ _).mp hc1; have : ((1 : Int32).toInt) = 1 := (by decide); omega
    refine lv_aload_n hx hb dX4_agree_5 rfl (lv_at hl 0 rfl) ?_
    refine tw_get (ci := 4) (C := RX4) (T := TX4) (N := 7) hx hb hB cx_inX4 hown hK TH hm0 hk0 rfl ⟨by decide, rfl⟩ 0 (by decide) cw_197 (fun _ h9 => h9) dX4_agree_6 (fun hv => ?_)
    obtain ⟨xr25, hxr25, hmxr25, hkxr25⟩ : ∃ a : Nat, tw_fv E a0 0 = .ref a ∧ a ∈ L ∧ kp a = 10 := hv
    rw [hxr25]
    refine lv_iload_n hx hb dX4_agree_9 rfl (lv_at hl 2 rfl) ?_
    refine lv_aload_n hx hb dX4_agree_10 rfl (lv_at hl 0 rfl) ?_
    refine tw_get (ci := 4) (C := RX4) (T := TX4) (N := 7) hx hb hB cx_inX4 hown hK TH hm0 hk0 rfl ⟨by decide, rfl⟩ 1 (by decide) cw_198 (fun _ h9 => h9) dX4_agree_11 (fun hv => ?_)
    obtain ⟨xr26, hxr26, hmxr26, hkxr26⟩ : ∃ a : Nat, tw_fv E a0 1 = .ref a ∧ a ∈ L ∧ kp a = 10 := hv
    rw [hxr26]
    refine lv_iload_n hx hb dX4_agree_14 rfl (lv_at hl 3 rfl) ?_
    refine tw_Vc (o := xr25) (ci := 10) (n := 3) (post := (fun v kq Lq Eq => (∃ x : Int32, v = some (.int x) ∧ 0 ≤ x.toInt ∧ x.toInt ≤ 1 ∧ (x.toInt ≠ 0 → ∀ n : Int, xt_is E xr25 x2.toInt n → x3.toInt + n ≤ 40)) ∧ kp = kq ∧ L = Lq ∧ E = Eq)) (As := [.int x2, .ref xr26, .int x3]) (rest := []) ⟨hx, hb, hml, hown, hB⟩ (fun sz => tX10_isSameFrom l D cs xr25 x2 xr26 x3 hmxr25 hkxr25 (by omega) (by omega) hmxr26 hkxr26 (by omega) (by omega) sz) cg_4_104_X10_isSameFrom rfl rfl (by decide +kernel) ⟨Nat.le_of_ble_eq_true rfl, Nat.le_of_ble_eq_true rfl⟩ hK hN TH hS hA rfl hmxr25 hkxr25 (by decide) rfl hl.1 rfl (Nat.le_of_ble_eq_true rfl) dX4_agree_15 ⟨Nat.le_of_ble_eq_true rfl, Nat.le_of_ble_eq_true rfl⟩ (fun v27 kp27 L27 E27 H locs hq27 hx27 TH hS => ?_)
    obtain ⟨⟨xc28, rfl, hxc28a, hxc28b, hpoxc28_0⟩, rfl, rfl, rfl⟩ := hq27
    refine W.eq (g2 := F0 m 18 ls [.int xc28]) rfl ?_
    refine lv_if_eq (tgt := 42) hx hb dX4_agree_18 (by decide) (fun hc29 => ?_) (fun hc29 => ?_)
    · have hf30 : xc28.toInt = 0 := by have z := (fa_eq _ _).mp hc29; have : ((0 : Int32).toInt) = 0 := (by decide); omega
      refine lv_iconst (v := 0) hx hb dX4_agree_42 (by decide) ?_
      exact tw_zret hx hb hr hlocks (by decide) TH hS hex ⟨⟨_, rfl, (show 0 ≤ Int32.toInt 0 from by have : ((0 : Int32).toInt) = 0 := (by decide); omega), (show Int32.toInt 0 ≤ 1 from by have : ((0 : Int32).toInt) = 0 := (by decide); omega), (by have : ((0 : Int32).toInt) = 0 := (by decide); intro q; exfalso; exact q (by decide))⟩, rfl, rfl, rfl⟩ (Nat.le_of_ble_eq_true rfl) (Nat.le_of_ble_eq_true rfl) dX4_agree_43
    · have hf31 : ¬ (xc28.toInt = 0) := fun q => hc29 ((fa_eq _ _).mpr (by have : ((0 : Int32).toInt) = 0 := (by decide); omega))
      refine lv_aload_n hx hb dX4_agree_21 rfl (lv_at hl 0 rfl) ?_
      refine lv_iload_n hx hb dX4_agree_22 rfl (lv_at hl 2 rfl) ?_
      refine lv_iload_n hx hb dX4_agree_23 rfl (lv_at hl 3 rfl) ?_
      refine lv_aload_n hx hb dX4_agree_24 rfl (lv_at hl 0 rfl) ?_
      refine tw_get (ci := 4) (C := RX4) (T := TX4) (N := 7) hx hb hB cx_inX4 hown hK TH hm0 hk0 rfl ⟨by decide, rfl⟩ 0 (by decide) cw_197 (fun _ h9 => h9) dX4_agree_25 (fun hv => ?_)
      rw [hxr25]
      refine lv_iload_n hx hb dX4_agree_28 rfl (lv_at hl 2 rfl) ?_
      refine tw_Vc (o := xr25) (ci := 10) (n := 1) (post := (fun v kq Lq Eq => (∃ x : Int32, v = some (.int x) ∧ 1 ≤ x.toInt ∧ x.toInt ≤ 40 ∧ (x2.toInt + x.toInt ≤ 40) ∧ (xt_is E xr25 x2.toInt x.toInt)) ∧ kp = kq ∧ L = Lq ∧ E = Eq)) (As := [.int x2]) (rest := [.int x3, .int x2, .ref a0]) ⟨hx, hb, hml, hown, hB⟩ (fun sz => tX10_extent l D cs xr25 x2 hmxr25 hkxr25 (by omega) (by omega) sz) cg_4_98_X10_extent rfl rfl (by decide +kernel) ⟨Nat.le_of_ble_eq_true rfl, Nat.le_of_ble_eq_true rfl⟩ hK hN TH hS hA rfl hmxr25 hkxr25 (by decide) rfl hl.1 rfl (Nat.le_of_ble_eq_true rfl) dX4_agree_29 ⟨Nat.le_of_ble_eq_true rfl, Nat.le_of_ble_eq_true rfl⟩ (fun v32 kp32 L32 E32 H locs hq32 hx32 TH hS => ?_)
      obtain ⟨⟨xc33, rfl, hxc33a, hxc33b, hpoxc33_0, hpoxc33_1⟩, rfl, rfl, rfl⟩ := hq32
      refine W.eq (g2 := F0 m 32 ls [.int xc33, .int x3, .int x2, .ref a0]) rfl ?_
      refine tw_Vc (o := a0) (ci := 4) (n := 3) (post := (fun v kq Lq Eq => (∃ x : Int32, v = some (.int x) ∧ 0 ≤ x.toInt ∧ x.toInt ≤ 1) ∧ kp = kq ∧ L = Lq ∧ E = Eq)) (As := [.int x2, .int x3, .int xc33]) (rest := []) ⟨hx, hb, hml, hown, hB⟩ (fun sz => tX4_areAllFree l D cs a0 x2 x3 xc33 hm0 hk0 (by omega) (by omega) (by omega) (by omega) (by omega) (by omega) (by  omega) (by  have := hpoxc28_0 (by omega) _ hpoxc33_1; omega) sz) cg_4_108_X4_areAllFree rfl rfl (by decide +kernel) ⟨Nat.le_of_ble_eq_true rfl, Nat.le_of_ble_eq_true rfl⟩ hK hN TH hS hA rfl hm0 hk0 (by decide) rfl hl.1 rfl (Nat.le_of_ble_eq_true rfl) dX4_agree_32 ⟨Nat.le_of_ble_eq_true rfl, Nat.le_of_ble_eq_true rfl⟩ (fun v34 kp34 L34 E34 H locs hq34 hx34 TH hS => ?_)
      obtain ⟨⟨xc35, rfl, hxc35a, hxc35b⟩, rfl, rfl, rfl⟩ := hq34
      refine W.eq (g2 := F0 m 35 ls [.int xc35]) rfl ?_
      refine lv_if_eq (tgt := 42) hx hb dX4_agree_35 (by decide) (fun hc36 => ?_) (fun hc36 => ?_)
      · have hf37 : xc35.toInt = 0 := by have z := (fa_eq _ _).mp hc36; have : ((0 : Int32).toInt) = 0 := (by decide); omega
        refine lv_iconst (v := 0) hx hb dX4_agree_42 (by decide) ?_
        exact tw_zret hx hb hr hlocks (by decide) TH hS hex ⟨⟨_, rfl, (show 0 ≤ Int32.toInt 0 from by have : ((0 : Int32).toInt) = 0 := (by decide); omega), (show Int32.toInt 0 ≤ 1 from by have : ((0 : Int32).toInt) = 0 := (by decide); omega), (by have : ((0 : Int32).toInt) = 0 := (by decide); intro q; exfalso; exact q (by decide))⟩, rfl, rfl, rfl⟩ (Nat.le_of_ble_eq_true rfl) (Nat.le_of_ble_eq_true rfl) dX4_agree_43
      · have hf38 : ¬ (xc35.toInt = 0) := fun q => hc36 ((fa_eq _ _).mpr (by have : ((0 : Int32).toInt) = 0 := (by decide); omega))
        refine lv_iconst (v := 1) hx hb dX4_agree_38 (by decide) ?_
        refine lv_goto (tgt := 43) hx hb dX4_agree_39 (by decide) ?_
        exact tw_zret hx hb hr hlocks (by decide) TH hS hex ⟨⟨_, rfl, (show 0 ≤ Int32.toInt 1 from by have : ((1 : Int32).toInt) = 1 := (by decide); omega), (show Int32.toInt 1 ≤ 1 from by have : ((1 : Int32).toInt) = 1 := (by decide); omega), (by have : ((1 : Int32).toInt) = 1 := (by decide); intro _ _ n hn; rw [tw_fa_of hxr25] at hn; exact hpoxc28_0 (by omega) n hn)⟩, rfl, rfl, rfl⟩ (Nat.le_of_ble_eq_true rfl) (Nat.le_of_ble_eq_true rfl) dX4_agree_43
set_option maxHeartbeats 4000000 in
set_option maxRecDepth 100000 in
theorem tX4_goRound (l : Launch) (D : va_G) (cs : Nat → ClassId) {kp : Nat → Nat} {L : List Nat} {E : Nat → va_E} (a0 : Nat) (x1 : Int32) (hm0 : a0 ∈ L) (hk0 : kp a0 = 4) (hp1a : 1 ≤ x1.toInt) (hp1b : x1.toInt ≤ 4) (sz : Nat) : Met l yX4_goRound (.code yX4_goRound cX4_goRound 4 none :: cx_big) { frames := 3, cells := 0, slots := 0, locals := 71 } (tw_P D cs kp L E [.ref a0, .int x1] sz) (tw_Q D cs kp L (fun v kq Lq Eq => v = none ∧ kp = kq ∧ L = Lq ∧ tw_fr kp L [] [150, 151] E Eq) (va_A (va_pl L E) sz)) 0 0 (va_A (va_pl L E) sz) := by
  refine tw_ofW (by decide) (Nat.le_of_ble_eq_true rfl) ?_
  intro p e s m below meth c A ls hx hb hr hml hB hown hlocks hK hN hA TH hS hl
  have hown : s.vm.findClass "TreeMerge$Matcher" = some m.cls := hown
  have hl : lv_has ls 4 [(0, .ref a0), (1, .int x1)] := hl
  obtain ⟨kp0, ekp⟩ : ∃ z, z = kp := ⟨_, rfl⟩
  obtain ⟨L0, eL⟩ : ∃ z, z = L := ⟨_, rfl⟩
  rw [show tw_Q D cs kp L = tw_Q D cs kp0 L0 by rw [ekp, eL]]
  have hex : ∀ a : Nat, a ∈ L0 → a ∈ L ∧ kp a = kp0 a := fun a h => ⟨by rw [← eL]; exact h, by rw [ekp]⟩
  have hF : tw_fr kp L [] [150, 151] E E := tw_fr.rf
  refine lv_iconst (v := 1) hx hb dX4_goRound_0 (by decide) ?_
  refine lv_istore_n (lv' := [(2, .int 1), (0, .ref a0), (1, .int x1)]) hx hb dX4_goRound_1 rfl hl (by decide) rfl (fun ls hl => ?_)
  have hJ2 : ∀ (n2 : Nat) (y2_2 : Int32) (Eg2 : Nat → va_E) (H : Heap) (locs : List Loc) (ls : Array Slot), 1 ≤ y2_2.toInt → y2_2.toInt ≤ 40 → 40 - y2_2.toInt ≤ (n2 : Int) → tw_fr kp L [] [150, 151] E Eg2 → tw_H D cs kp L Eg2 A H → va_S A s.heap H locs → lv_has ls 4 [(2, .int y2_2), (0, .ref a0), (1, .int x1)] → W p l e { frames := 3, cells := 0, slots := 0, locals := 71 } s m [.ref a0, .int x1].toArray below meth c H locs 0 0 (MQ below (tw_Q D cs kp0 L0 (fun v kq Lq Eq => v = none ∧ kp = kq ∧ L = Lq ∧ tw_fr kp L [] [150, 151] E Eq) A) [.ref a0, .int x1].toArray s 0 0 A) (F0 m 2 ls []) := by
    intro n2
    induction n2 using Nat.strongRecOn with
    | _ n2 ih2 =>
      intro y2_2 Eg2 H locs ls hy2_2a hy2_2b hmeas2 hG2 TH hS hl
      have hF := hF.tr hG2 (fun _ h => ⟨h, rfl⟩) (by decide) (by decide)
      refine lv_iload_n hx hb dX4_goRound_2 rfl (lv_at hl 0 rfl) ?_
      refine lv_aload_n hx hb dX4_goRound_3 rfl (lv_at hl 1 rfl) ?_
      refine tw_get (ci := 4) (C := RX4) (T := TX4) (N := 7) hx hb hB cx_inX4 hown hK TH hm0 hk0 rfl ⟨by decide, rfl⟩ 0 (by decide) cw_197 (fun _ h9 => h9) dX4_goRound_4 (fun hv => ?_)
      obtain ⟨xr1, hxr1, hmxr1, hkxr1⟩ : ∃ a : Nat, tw_fv Eg2 a0 0 = .ref a ∧ a ∈ L ∧ kp a = 10 := hv
      rw [hxr1]
      refine tw_get (ci := 10) (C := RX10) (T := TX10) (N := 8) hx hb hB cx_inX10 hown hK TH hmxr1 hkxr1 rfl ⟨by decide, rfl⟩ 0 (by decide) cw_118 (fun _ h9 => h9) dX4_goRound_7 (fun hv => ?_)
      obtain ⟨xi2, hxi2, hxi2a, hxi2b⟩ : ∃ x : Int32, tw_fv Eg2 xr1 0 = .int x ∧ 0 ≤ x.toInt ∧ x.toInt ≤ 40 := hv
      rw [hxi2]
      refine lv_icmp_ge (tgt := 112) hx hb dX4_goRound_10 (by decide) (fun hc3 => ?_) (fun hc3 => ?_)
      · have hf4 : xi2.toInt ≤ y2_2.toInt := by have z := (fa_le _ _).mp hc3;  omega
        exact tw_vret hx hb hr hlocks TH hS hex ⟨rfl, rfl, rfl, hF⟩ (Nat.le_of_ble_eq_true rfl) (Nat.le_of_ble_eq_true rfl) dX4_goRound_112
      · have hf5 : ¬ (xi2.toInt ≤ y2_2.toInt) := fun q => hc3 ((fa_le _ _).mpr (by  omega))
        refine lv_iconst (v := 1) hx hb dX4_goRound_13 (by decide) ?_
        refine lv_istore_n (lv' := [(3, .int 1), (2, .int y2_2), (0, .ref a0), (1, .int x1)]) hx hb dX4_goRound_14 rfl hl (by decide) rfl (fun ls hl => ?_)
        have hJ15 : ∀ (n15 : Nat) (y15_3 : Int32) (Eg15 : Nat → va_E) (H : Heap) (locs : List Loc) (ls : Array Slot), 1 ≤ y15_3.toInt → y15_3.toInt ≤ 40 → 40 - y15_3.toInt ≤ (n15 : Int) → tw_fr kp L [] [150, 151] Eg2 Eg15 → tw_H D cs kp L Eg15 A H → va_S A s.heap H locs → lv_has ls 4 [(3, .int y15_3), (2, .int y2_2), (0, .ref a0), (1, .int x1)] → W p l e { frames := 3, cells := 0, slots := 0, locals := 71 } s m [.ref a0, .int x1].toArray below meth c H locs 0 0 (MQ below (tw_Q D cs kp0 L0 (fun v kq Lq Eq => v = none ∧ kp = kq ∧ L = Lq ∧ tw_fr kp L [] [150, 151] E Eq) A) [.ref a0, .int x1].toArray s 0 0 A) (F0 m 15 ls []) := by
          intro n15
          induction n15 using Nat.strongRecOn with
          | _ n15 ih15 =>
            intro y15_3 Eg15 H locs ls hy15_3a hy15_3b hmeas15 hG15 TH hS hl
            have hF := hF.tr hG15 (fun _ h => ⟨h, rfl⟩) (by decide) (by decide)
            have hG2 := hG2.tr hG15 (fun _ h => ⟨h, rfl⟩) (by decide) (by decide)
            have hmf6 : tw_fv Eg15 a0 0 = .ref xr1 := (hG15.1 a0 0 hm0 (by rw [hk0]; decide)).trans hxr1
            have hmf7 : tw_fv Eg15 xr1 0 = .int xi2 := (hG15.1 xr1 0 hmxr1 (by rw [hkxr1]; decide)).trans hxi2
            refine lv_iload_n hx hb dX4_goRound_15 rfl (lv_at hl 0 rfl) ?_
            refine lv_aload_n hx hb dX4_goRound_16 rfl (lv_at hl 2 rfl) ?_
            refine tw_get (ci := 4) (C := RX4) (T := TX4) (N := 7) hx hb hB cx_inX4 hown hK TH hm0 hk0 rfl ⟨by decide, rfl⟩ 1 (by decide) cw_198 (fun _ h9 => h9) dX4_goRound_17 (fun hv => ?_)
            obtain ⟨xr8, hxr8, hmxr8, hkxr8⟩ : ∃ a : Nat, tw_fv Eg15 a0 1 = .ref a ∧ a ∈ L ∧ kp a = 10 := hv
            rw [hxr8]
            refine tw_get (ci := 10) (C := RX10) (T := TX10) (N := 8) hx hb hB cx_inX10 hown hK TH hmxr8 hkxr8 rfl ⟨by decide, rfl⟩ 0 (by decide) cw_118 (fun _ h9 => h9) dX4_goRound_20 (fun hv => ?_)
            obtain ⟨xi9, hxi9, hxi9a, hxi9b⟩ : ∃ x : Int32, tw_fv Eg15 xr8 0 = .int x ∧ 0 ≤ x.toInt ∧ x.toInt ≤ 40 := hv
            rw [hxi9]
            have hJ106 : ∀  (H : Heap) (locs : List Loc) (ls : Array Slot), tw_H D cs kp L Eg15 A H → va_S A s.heap H locs → lv_has ls 4 [(2, .int y2_2), (0, .ref a0), (1, .int x1)] → W p l e { frames := 3, cells := 0, slots := 0, locals := 71 } s m [.ref a0, .int x1].toArray below meth c H locs 0 0 (MQ below (tw_Q D cs kp0 L0 (fun v kq Lq Eq => v = none ∧ kp = kq ∧ L = Lq ∧ tw_fr kp L [] [150, 151] E Eq) A) [.ref a0, .int x1].toArray s 0 0 A) (F0 m 106 ls []) := by
              intro H locs ls TH hS hl
              obtain ⟨zi10, ezi10⟩ : ∃ z : Int32, z = y2_2 + Int32.ofInt 1 := ⟨_, rfl⟩
              have hzi10 : zi10.toInt = y2_2.toInt + 1 := by rw [ezi10]; have : ((Int32.ofInt 1).toInt) = 1 := (by decide);  exact (ia_add (by omega) (by omega)).trans (by omega)
              refine lv_iinc (v := zi10) (lv' := [(2, .int zi10), (0, .ref a0), (1, .int x1)]) hx hb dX4_goRound_106 hl (k := 0) rfl ezi10.symm (by decide) rfl (fun ls hl => ?_)
              refine lv_goto (tgt := 2) hx hb dX4_goRound_109 (by decide) ?_
              exact ih2 (n2 - 1) (by   omega) zi10 _ _ _ ls (by omega) (by omega) (by   omega) hG2 TH hS (lv_sub hl [0, 1, 2] rfl)
            refine lv_icmp_ge (tgt := 106) hx hb dX4_goRound_23 (by decide) (fun hc11 => ?_) (fun hc11 => ?_)
            · have hf12 : xi9.toInt ≤ y15_3.toInt := by have z := (fa_le _ _).mp hc11;  omega
              exact hJ106  _ _ ls  TH hS (lv_sub hl [1, 2, 3] rfl)
            · have hf13 : ¬ (xi9.toInt ≤ y15_3.toInt) := fun q => hc11 ((fa_le _ _).mpr (by  omega))
              refine lv_aload_n hx hb dX4_goRound_26 rfl (lv_at hl 2 rfl) ?_
              refine tw_get (ci := 4) (C := RX4) (T := TX4) (N := 7) hx hb hB cx_inX4 hown hK TH hm0 hk0 rfl ⟨by decide, rfl⟩ 2 (by decide) cw_199 (fun _ h9 => h9) dX4_goRound_27 (fun hv => ?_)
              obtain ⟨xr14, hxr14, hmxr14, hkxr14⟩ : ∃ a : Nat, tw_fv Eg15 a0 2 = .ref a ∧ a ∈ L ∧ kp a = 150 := hv
              rw [hxr14]
              refine lv_iload_n hx hb dX4_goRound_30 rfl (lv_at hl 1 rfl) ?_
              refine tw_iald (k := 150) (t0 := 0) (n := 40) (lo := (-1)) (hi := 39) hx hb hK TH hmxr14 hkxr14 (by decide) rfl rfl (i := y2_2) (vp_in_iff.mpr ⟨by  omega, by  omega⟩) dX4_goRound_31 (fun hxe15a hxe15b => ?_)
              obtain ⟨xe15, exe15⟩ : ∃ z : Int32, tw_iv Eg15 xr14 (Int32.toNatClampNeg y2_2) = z := ⟨_, rfl⟩
              rw [exe15] at hxe15a hxe15b ⊢
              refine lv_iconst (v := (-1)) hx hb dX4_goRound_32 (by decide) ?_
              refine lv_icmp_ne (tgt := 106) hx hb dX4_goRound_33 (by decide) (fun hc16 => ?_) (fun hc16 => ?_)
              · have hf17 : ¬ (xe15.toInt = (-1)) := fun q => hc16 ((fa_eq _ _).mpr (by have : (((-1) : Int32).toInt) = (-1) := (by decide); omega))
                exact hJ106  _ _ ls  TH hS (lv_sub hl [1, 2, 3] rfl)
              · have hf18 : xe15.toInt = (-1) := by have z := (fa_eq _ _).mp hc16; have : (((-1) : Int32).toInt) = (-1) := (by decide); omega
                refine lv_aload_n hx hb dX4_goRound_36 rfl (lv_at hl 2 rfl) ?_
                refine tw_get (ci := 4) (C := RX4) (T := TX4) (N := 7) hx hb hB cx_inX4 hown hK TH hm0 hk0 rfl ⟨by decide, rfl⟩ 3 (by decide) cw_200 (fun _ h9 => h9) dX4_goRound_37 (fun hv => ?_)
                obtain ⟨xr19, hxr19, hmxr19, hkxr19⟩ : ∃ a : Nat, tw_fv Eg15 a0 3 = .ref a ∧ a ∈ L ∧ kp a = 151 := hv
                rw [hxr19]
                refine lv_iload_n hx hb dX4_goRound_40 rfl (lv_at hl 0 rfl) ?_
                refine tw_iald (k := 151) (t0 := 0) (n := 40) (lo := (-1)) (hi := 39) hx hb hK TH hmxr19 hkxr19 (by decide) rfl rfl (i := y15_3) (vp_in_iff.mpr ⟨by  omega, by  omega⟩) dX4_goRound_41 (fun hxe20a hxe20b => ?_)
                obtain ⟨xe20, exe20⟩ : ∃ z : Int32, tw_iv Eg15 xr19 (Int32.toNatClampNeg y15_3) = z := ⟨_, rfl⟩
                rw [exe20] at hxe20a hxe20b ⊢
                refine lv_iconst (v := (-1)) hx hb dX4_goRound_42 (by decide) ?_
                have hJ100 : ∀  (Eg100 : Nat → va_E) (H : Heap) (locs : List Loc) (ls : Array Slot), tw_fr kp L [] [150, 151] Eg15 Eg100 → tw_H D cs kp L Eg100 A H → va_S A s.heap H locs → lv_has ls 4 [(3, .int y15_3), (2, .int y2_2), (0, .ref a0), (1, .int x1)] → W p l e { frames := 3, cells := 0, slots := 0, locals := 71 } s m [.ref a0, .int x1].toArray below meth c H locs 0 0 (MQ below (tw_Q D cs kp0 L0 (fun v kq Lq Eq => v = none ∧ kp = kq ∧ L = Lq ∧ tw_fr kp L [] [150, 151] E Eq) A) [.ref a0, .int x1].toArray s 0 0 A) (F0 m 100 ls []) := by
                  intro Eg100 H locs ls hG100 TH hS hl
                  have hF := hF.tr hG100 (fun _ h => ⟨h, rfl⟩) (by decide) (by decide)
                  have hG2 := hG2.tr hG100 (fun _ h => ⟨h, rfl⟩) (by decide) (by decide)
                  have hG15 := hG15.tr hG100 (fun _ h => ⟨h, rfl⟩) (by decide) (by decide)
                  have hmf21 : tw_fv Eg100 a0 0 = .ref xr1 := (hG100.1 a0 0 hm0 (by rw [hk0]; decide)).trans hmf6
                  have hmf22 : tw_fv Eg100 xr1 0 = .int xi2 := (hG100.1 xr1 0 hmxr1 (by rw [hkxr1]; decide)).trans hmf7
                  have hmf23 : tw_fv Eg100 a0 1 = .ref xr8 := (hG100.1 a0 1 hm0 (by rw [hk0]; decide)).trans hxr8
                  have hmf24 : tw_fv Eg100 xr8 0 = .int xi9 := (hG100.1 xr8 0 hmxr8 (by rw [hkxr8]; decide)).trans hxi9
                  have hmf25 : tw_fv Eg100 a0 2 = .ref xr14 := (hG100.1 a0 2 hm0 (by rw [hk0]; decide)).trans hxr14
                  have hmf26 : tw_fv Eg100 a0 3 = .ref xr19 := (hG100.1 a0 3 hm0 (by rw [hk0]; decide)).trans hxr19
                  obtain ⟨zi27, ezi27⟩ : ∃ z : Int32, z = y15_3 + Int32.ofInt 1 := ⟨_, rfl⟩
                  have hzi27 : zi27.toInt = y15_3.toInt + 1 := by rw [ezi27]; have : ((Int32.ofInt 1).toInt) = 1 := (by decide);  exact (ia_add (by omega) (by omega)).trans (by omega)
                  refine lv_iinc (v := zi27) (lv' := [(3, .int zi27), (2, .int y2_2), (0, .ref a0), (1, .int x1)]) hx hb dX4_goRound_100 hl (k := 0) rfl ezi27.symm (by decide) rfl (fun ls hl => ?_)
                  refine lv_goto (tgt := 15) hx hb dX4_goRound_103 (by decide) ?_
                  exact ih15 (n15 - 1) (by   omega) zi27 _ _ _ ls (by omega) (by omega) (by   omega) hG15 TH hS (lv_sub hl [0, 1, 2, 3] rfl)
                have hG100 : tw_fr kp L [] [150, 151] Eg15 Eg15 := tw_fr.rf
                refine lv_icmp_ne (tgt := 100) hx hb dX4_goRound_43 (by decide) (fun hc28 => ?_) (fun hc28 => ?_)
                · have hf29 : ¬ (xe20.toInt = (-1)) := fun q => hc28 ((fa_eq _ _).mpr (by have : (((-1) : Int32).toInt) = (-1) := (by decide); omega))
                  exact hJ100  _ _ _ ls hG100 TH hS (lv_sub hl [0, 1, 2, 3] rfl)
                · have hf30 : xe20.toInt = (-1) := by have z := (fa_eq _ _).mp hc28; have : (((-1) : Int32).toInt) = (-1) := (by decide); omega
                  refine lv_aload_n hx hb dX4_goRound_46 rfl (lv_at hl 2 rfl) ?_
                  refine tw_get (ci := 4) (C := RX4) (T := TX4) (N := 7) hx hb hB cx_inX4 hown hK TH hm0 hk0 rfl ⟨by decide, rfl⟩ 0 (by decide) cw_197 (fun _ h9 => h9) dX4_goRound_47 (fun hv => ?_)
                  rw [hmf6]
                  refine tw_get (ci := 10) (C := RX10) (T := TX10) (N := 8) hx hb hB cx_inX10 hown hK TH hmxr1 hkxr1 rfl ⟨by decide, rfl⟩ 5 (by decide) cw_142 (fun _ h9 => h9) dX4_goRound_50 (fun hv => ?_)
                  obtain ⟨xr31, hxr31, hmxr31, hkxr31⟩ : ∃ a : Nat, tw_fv Eg15 xr1 5 = .ref a ∧ a ∈ L ∧ kp a = 114 := hv
                  rw [hxr31]
                  refine lv_iload_n hx hb dX4_goRound_53 rfl (lv_at hl 1 rfl) ?_
                  refine tw_iald (k := 114) (t0 := 0) (n := 40) (lo := (-1)) (hi := 9) hx hb hK TH hmxr31 hkxr31 (by decide) rfl rfl (i := y2_2) (vp_in_iff.mpr ⟨by  omega, by  omega⟩) dX4_goRound_54 (fun hxe32a hxe32b => ?_)
                  obtain ⟨xe32, exe32⟩ : ∃ z : Int32, tw_iv Eg15 xr31 (Int32.toNatClampNeg y2_2) = z := ⟨_, rfl⟩
                  rw [exe32] at hxe32a hxe32b ⊢
                  refine lv_aload_n hx hb dX4_goRound_55 rfl (lv_at hl 2 rfl) ?_
                  refine tw_get (ci := 4) (C := RX4) (T := TX4) (N := 7) hx hb hB cx_inX4 hown hK TH hm0 hk0 rfl ⟨by decide, rfl⟩ 1 (by decide) cw_198 (fun _ h9 => h9) dX4_goRound_56 (fun hv => ?_)
                  rw [hxr8]
                  refine tw_get (ci := 10) (C := RX10) (T := TX10) (N := 8) hx hb hB cx_inX10 hown hK TH hmxr8 hkxr8 rfl ⟨by decide, rfl⟩ 5 (by decide) cw_142 (fun _ h9 => h9) dX4_goRound_59 (fun hv => ?_)
                  obtain ⟨xr33, hxr33, hmxr33, hkxr33⟩ : ∃ a : Nat, tw_fv Eg15 xr8 5 = .ref a ∧ a ∈ L ∧ kp a = 114 := hv
                  rw [hxr33]
                  refine lv_iload_n hx hb dX4_goRound_62 rfl (lv_at hl 0 rfl) ?_
                  refine tw_iald (k := 114) (t0 := 0) (n := 40) (lo := (-1)) (hi := 9) hx hb hK TH hmxr33 hkxr33 (by decide) rfl rfl (i := y15_3) (vp_in_iff.mpr ⟨by  omega, by  omega⟩) dX4_goRound_63 (fun hxe34a hxe34b => ?_)
                  obtain ⟨xe34, exe34⟩ : ∃ z : Int32, tw_iv Eg15 xr33 (Int32.toNatClampNeg y15_3) = z := ⟨_, rfl⟩
                  rw [exe34] at hxe34a hxe34b ⊢
                  refine lv_icmp_ne (tgt := 100) hx hb dX4_goRound_64 (by decide) (fun hc35 => ?_) (fun hc35 => ?_)
                  · have hf36 : ¬ (xe32.toInt = xe34.toInt) := fun q => hc35 ((fa_eq _ _).mpr (by  omega))
                    exact hJ100  _ _ _ ls hG100 TH hS (lv_sub hl [0, 1, 2, 3] rfl)
                  · have hf37 : xe32.toInt = xe34.toInt := by have z := (fa_eq _ _).mp hc35;  omega
                    refine lv_aload_n hx hb dX4_goRound_67 rfl (lv_at hl 2 rfl) ?_
                    refine lv_iload_n hx hb dX4_goRound_68 rfl (lv_at hl 3 rfl) ?_
                    refine lv_iload_n hx hb dX4_goRound_69 rfl (lv_at hl 1 rfl) ?_
                    refine lv_iload_n hx hb dX4_goRound_70 rfl (lv_at hl 0 rfl) ?_
                    refine tw_Vc (o := a0) (ci := 4) (n := 3) (post := (fun v kq Lq Eq => (∃ x : Int32, v = some (.int x) ∧ 0 ≤ x.toInt ∧ x.toInt ≤ 1 ∧ (x.toInt ≠ 0 → x1.toInt = 1 → ∀ n : Int, xt_is Eg15 (tw_fa Eg15 a0 0) y2_2.toInt n → y15_3.toInt + n ≤ 40)) ∧ kp = kq ∧ L = Lq ∧ Eg15 = Eq)) (As := [.int x1, .int y2_2, .int y15_3]) (rest := []) ⟨hx, hb, hml, hown, hB⟩ (fun sz => tX4_agree l D cs a0 x1 y2_2 y15_3 hm0 hk0 (by omega) (by omega) (by omega) (by omega) (by omega) (by omega) sz) cg_4_94_X4_agree rfl rfl (by decide +kernel) ⟨Nat.le_of_ble_eq_true rfl, Nat.le_of_ble_eq_true rfl⟩ hK hN TH hS hA rfl hm0 hk0 (by decide) rfl hl.1 rfl (Nat.le_of_ble_eq_true rfl) dX4_goRound_71 ⟨Nat.le_of_ble_eq_true rfl, Nat.le_of_ble_eq_true rfl⟩ (fun v38 kp38 L38 E38 H locs hq38 hx38 TH hS => ?_)
                    obtain ⟨⟨xc39, rfl, hxc39a, hxc39b, hpoxc39_0⟩, rfl, rfl, rfl⟩ := hq38
                    refine W.eq (g2 := F0 m 74 ls [.int xc39]) rfl ?_
                    refine lv_if_eq (tgt := 100) hx hb dX4_goRound_74 (by decide) (fun hc40 => ?_) (fun hc40 => ?_)
                    · have hf41 : xc39.toInt = 0 := by have z := (fa_eq _ _).mp hc40; have : ((0 : Int32).toInt) = 0 := (by decide); omega
                      exact hJ100  _ _ _ ls hG100 TH hS (lv_sub hl [0, 1, 2, 3] rfl)
                    · have hf42 : ¬ (xc39.toInt = 0) := fun q => hc40 ((fa_eq _ _).mpr (by have : ((0 : Int32).toInt) = 0 := (by decide); omega))
                      refine lv_aload_n hx hb dX4_goRound_77 rfl (lv_at hl 2 rfl) ?_
                      refine lv_iload_n hx hb dX4_goRound_78 rfl (lv_at hl 1 rfl) ?_
                      refine lv_iload_n hx hb dX4_goRound_79 rfl (lv_at hl 0 rfl) ?_
                      refine lv_iload_n hx hb dX4_goRound_80 rfl (lv_at hl 3 rfl) ?_
                      refine lv_iconst (v := 1) hx hb dX4_goRound_81 (by decide) ?_
                      have hJ97 : ∀ (z97_0 : Int32) (H : Heap) (locs : List Loc) (ls : Array Slot), 1 ≤ z97_0.toInt → z97_0.toInt ≤ 40 → (y2_2.toInt + z97_0.toInt ≤ 40) → (y15_3.toInt + z97_0.toInt ≤ 40) → tw_H D cs kp L Eg15 A H → va_S A s.heap H locs → lv_has ls 4 [(3, .int y15_3), (2, .int y2_2), (0, .ref a0), (1, .int x1)] → W p l e { frames := 3, cells := 0, slots := 0, locals := 71 } s m [.ref a0, .int x1].toArray below meth c H locs 0 0 (MQ below (tw_Q D cs kp0 L0 (fun v kq Lq Eq => v = none ∧ kp = kq ∧ L = Lq ∧ tw_fr kp L [] [150, 151] E Eq) A) [.ref a0, .int x1].toArray s 0 0 A) (F0 m 97 ls [.int z97_0, .int y15_3, .int y2_2, .ref a0]) := by
                        intro z97_0 H locs ls hz97_0a hz97_0b hin97_0 hin97_1 TH hS hl
                        refine tw_Vc (o := a0) (ci := 4) (n := 3) (post := (fun v kq Lq Eq => v = none ∧ kp = kq ∧ L = Lq ∧ tw_fr kp L [] [150, 151] Eg15 Eq)) (As := [.int y2_2, .int y15_3, .int z97_0]) (rest := []) ⟨hx, hb, hml, hown, hB⟩ (fun sz => tX4_linkAll l D cs a0 y2_2 y15_3 z97_0 hm0 hk0 (by omega) (by omega) (by omega) (by omega) (by omega) (by omega) (by  omega) (by  omega) sz) cg_4_101_X4_linkAll rfl rfl (by decide +kernel) ⟨Nat.le_of_ble_eq_true rfl, Nat.le_of_ble_eq_true rfl⟩ hK hN TH hS hA rfl hm0 hk0 (by decide) rfl hl.1 rfl (Nat.le_of_ble_eq_true rfl) dX4_goRound_97 ⟨Nat.le_of_ble_eq_true rfl, Nat.le_of_ble_eq_true rfl⟩ (fun v43 kp43 L43 E43 H locs hq43 hx43 TH hS => ?_)
                        obtain ⟨rfl, rfl, rfl, hst43⟩ := hq43
                        have hF := hF.tr hst43 (fun _ h => ⟨h, rfl⟩) (by decide) (by decide)
                        have hG2 := hG2.tr hst43 (fun _ h => ⟨h, rfl⟩) (by decide) (by decide)
                        have hG15 := hG15.tr hst43 (fun _ h => ⟨h, rfl⟩) (by decide) (by decide)
                        have hG100 := hG100.tr hst43 (fun _ h => ⟨h, rfl⟩) (by decide) (by decide)
                        have hmf45 : tw_fv E43 a0 0 = .ref xr1 := (hst43.1 a0 0 hm0 (by rw [hk0]; decide)).trans hmf6
                        have hmf46 : tw_fv E43 xr1 0 = .int xi2 := (hst43.1 xr1 0 hmxr1 (by rw [hkxr1]; decide)).trans hmf7
                        have hmf47 : tw_fv E43 a0 1 = .ref xr8 := (hst43.1 a0 1 hm0 (by rw [hk0]; decide)).trans hxr8
                        have hmf48 : tw_fv E43 xr8 0 = .int xi9 := (hst43.1 xr8 0 hmxr8 (by rw [hkxr8]; decide)).trans hxi9
                        have hmf49 : tw_fv E43 a0 2 = .ref xr14 := (hst43.1 a0 2 hm0 (by rw [hk0]; decide)).trans hxr14
                        have hmf50 : tw_fv E43 a0 3 = .ref xr19 := (hst43.1 a0 3 hm0 (by rw [hk0]; decide)).trans hxr19
                        have hmf51 : tw_fv E43 xr1 5 = .ref xr31 := (hst43.1 xr1 5 hmxr1 (by rw [hkxr1]; decide)).trans hxr31
                        have hmf52 : tw_fv E43 xr8 5 = .ref xr33 := (hst43.1 xr8 5 hmxr8 (by rw [hkxr8]; decide)).trans hxr33
                        refine W.eq (g2 := F0 m 100 ls []) rfl ?_
                        exact hJ100  _ _ _ ls hG100 TH hS (lv_sub hl [0, 1, 2, 3] rfl)
                      refine lv_icmp_ne (tgt := 96) hx hb dX4_goRound_82 (by decide) (fun hc53 => ?_) (fun hc53 => ?_)
                      · have hf54 : ¬ (x1.toInt = 1) := fun q => hc53 ((fa_eq _ _).mpr (by have : ((1 : Int32).toInt) = 1 := (by decide); omega))
                        refine lv_iconst (v := 1) hx hb dX4_goRound_96 (by decide) ?_
                        exact hJ97 (1 : Int32) _ _ ls (by have : ((1 : Int32).toInt) = 1 := (by decide); omega) (by have : ((1 : Int32).toInt) = 1 := (by decide); omega) (by have : ((1 : Int32).toInt) = 1 := (by decide); omega) (by have : ((1 : Int32).toInt) = 1 := (by decide); omega) TH hS (lv_sub hl [0, 1, 2, 3] rfl)
                      · have hf55 : x1.toInt = 1 := by have z := (fa_eq _ _).mp hc53; have : ((1 : Int32).toInt) = 1 := (by decide); omega
                        refine lv_aload_n hx hb dX4_goRound_85 rfl (lv_at hl 2 rfl) ?_
                        refine tw_get (ci := 4) (C := RX4) (T := TX4) (N := 7) hx hb hB cx_inX4 hown hK TH hm0 hk0 rfl ⟨by decide, rfl⟩ 0 (by decide) cw_197 (fun _ h9 => h9) dX4_goRound_86 (fun hv => ?_)
                        rw [hmf6]
                        refine lv_iload_n hx hb dX4_goRound_89 rfl (lv_at hl 1 rfl) ?_
                        refine tw_Vc (o := xr1) (ci := 10) (n := 1) (post := (fun v kq Lq Eq => (∃ x : Int32, v = some (.int x) ∧ 1 ≤ x.toInt ∧ x.toInt ≤ 40 ∧ (y2_2.toInt + x.toInt ≤ 40) ∧ (xt_is Eg15 xr1 y2_2.toInt x.toInt)) ∧ kp = kq ∧ L = Lq ∧ Eg15 = Eq)) (As := [.int y2_2]) (rest := [.int y15_3, .int y2_2, .ref a0]) ⟨hx, hb, hml, hown, hB⟩ (fun sz => tX10_extent l D cs xr1 y2_2 hmxr1 hkxr1 (by omega) (by omega) sz) cg_4_98_X10_extent rfl rfl (by decide +kernel) ⟨Nat.le_of_ble_eq_true rfl, Nat.le_of_ble_eq_true rfl⟩ hK hN TH hS hA rfl hmxr1 hkxr1 (by decide) rfl hl.1 rfl (Nat.le_of_ble_eq_true rfl) dX4_goRound_90 ⟨Nat.le_of_ble_eq_true rfl, Nat.le_of_ble_eq_true rfl⟩ (fun v56 kp56 L56 E56 H locs hq56 hx56 TH hS => ?_)
                        obtain ⟨⟨xc57, rfl, hxc57a, hxc57b, hpoxc57_0, hpoxc57_1⟩, rfl, rfl, rfl⟩ := hq56
                        refine W.eq (g2 := F0 m 93 ls [.int xc57, .int y15_3, .int y2_2, .ref a0]) rfl ?_
                        refine lv_goto (tgt := 97) hx hb dX4_goRound_93 (by decide) ?_
                        exact hJ97 xc57 _ _ ls (by omega) (by omega) (by  omega) (by  have := hpoxc39_0 (by omega) (by omega) _ (by rw [tw_fa_of hmf6]; exact hpoxc57_1); omega) TH hS (lv_sub hl [0, 1, 2, 3] rfl)
        exact hJ15 40 (1 : Int32) _ _ _ ls (by have : ((1 : Int32).toInt) = 1 := (by decide); omega) (by have : ((1 : Int32).toInt) = 1 := (by decide); omega) (by have : ((1 : Int32).toInt) = 1 := (by decide);  omega) tw_fr.rf TH hS (lv_sub hl [0, 1, 2, 3] rfl)
  exact hJ2 40 (1 : Int32) _ _ _ ls (by have : ((1 : Int32).toInt) = 1 := (by decide); omega) (by have : ((1 : Int32).toInt) = 1 := (by decide); omega) (by have : ((1 : Int32).toInt) = 1 := (by decide);  omega) tw_fr.rf TH hS (lv_sub hl [0, 1, 2] rfl)
set_option maxHeartbeats 4000000 in
set_option maxRecDepth 100000 in
theorem tX4_wholeCost (l : Launch) (D : va_G) (cs : Nat → ClassId) {kp : Nat → Nat} {L : List Nat} {E : Nat → va_E} (a0 : Nat) (hm0 : a0 ∈ L) (hk0 : kp a0 = 4) (sz : Nat) : Met l yX4_wholeCost (.code yX4_wholeCost cX4_wholeCost 3 (some .int) :: cx_big) { frames := 2, cells := 0, slots := 0, locals := 46 } (tw_P D cs kp L E [.ref a0] sz) (tw_Q D cs kp L (fun v kq Lq Eq => (∃ x : Int32, v = some (.int x)) ∧ kp = kq ∧ L = Lq ∧ E = Eq) (va_A (va_pl L E) sz)) 0 0 (va_A (va_pl L E) sz) := by
  refine tw_ofW (by decide) (Nat.le_of_ble_eq_true rfl) ?_
  intro p e s m below meth c A ls hx hb hr hml hB hown hlocks hK hN hA TH hS hl
  have hown : s.vm.findClass "TreeMerge$Matcher" = some m.cls := hown
  have hl : lv_has ls 3 [(0, .ref a0)] := hl
  obtain ⟨kp0, ekp⟩ : ∃ z, z = kp := ⟨_, rfl⟩
  obtain ⟨L0, eL⟩ : ∃ z, z = L := ⟨_, rfl⟩
  rw [show tw_Q D cs kp L = tw_Q D cs kp0 L0 by rw [ekp, eL]]
  have hex : ∀ a : Nat, a ∈ L0 → a ∈ L ∧ kp a = kp0 a := fun a h => ⟨by rw [← eL]; exact h, by rw [ekp]⟩
  refine lv_iconst (v := 2) hx hb dX4_wholeCost_0 (by decide) ?_
  refine lv_aload_n hx hb dX4_wholeCost_1 rfl (lv_at hl 0 rfl) ?_
  refine tw_get (ci := 4) (C := RX4) (T := TX4) (N := 7) hx hb hB cx_inX4 hown hK TH hm0 hk0 rfl ⟨by decide, rfl⟩ 0 (by decide) cw_197 (fun _ h9 => h9) dX4_wholeCost_2 (fun hv => ?_)
  obtain ⟨xr1, hxr1, hmxr1, hkxr1⟩ : ∃ a : Nat, tw_fv E a0 0 = .ref a ∧ a ∈ L ∧ kp a = 10 := hv
  rw [hxr1]
  refine tw_get (ci := 10) (C := RX10) (T := TX10) (N := 8) hx hb hB cx_inX10 hown hK TH hmxr1 hkxr1 rfl ⟨by decide, rfl⟩ 0 (by decide) cw_118 (fun _ h9 => h9) dX4_wholeCost_5 (fun hv => ?_)
  obtain ⟨xi2, hxi2, hxi2a, hxi2b⟩ : ∃ x : Int32, tw_fv E xr1 0 = .int x ∧ 0 ≤ x.toInt ∧ x.toInt ≤ 40 := hv
  rw [hxi2]
  refine lv_aload_n hx hb dX4_wholeCost_8 rfl (lv_at hl 0 rfl) ?_
  refine tw_get (ci := 4) (C := RX4) (T := TX4) (N := 7) hx hb hB cx_inX4 hown hK TH hm0 hk0 rfl ⟨by decide, rfl⟩ 1 (by decide) cw_198 (fun _ h9 => h9) dX4_wholeCost_9 (fun hv => ?_)
  obtain ⟨xr3, hxr3, hmxr3, hkxr3⟩ : ∃ a : Nat, tw_fv E a0 1 = .ref a ∧ a ∈ L ∧ kp a = 10 := hv
  rw [hxr3]
  refine tw_get (ci := 10) (C := RX10) (T := TX10) (N := 8) hx hb hB cx_inX10 hown hK TH hmxr3 hkxr3 rfl ⟨by decide, rfl⟩ 0 (by decide) cw_118 (fun _ h9 => h9) dX4_wholeCost_12 (fun hv => ?_)
  obtain ⟨xi4, hxi4, hxi4a, hxi4b⟩ : ∃ x : Int32, tw_fv E xr3 0 = .int x ∧ 0 ≤ x.toInt ∧ x.toInt ≤ 40 := hv
  rw [hxi4]
  refine lv_iadd hx hb dX4_wholeCost_15 ?_
  refine lv_topi (fun zi5 ezi5 => ?_)
  have hzi5 : zi5.toInt = xi2.toInt + xi4.toInt := by rw [ezi5];  have := ia_lo xi2; have := ia_hi xi2; have := ia_lo xi4; have := ia_hi xi4; exact (ia_add (by omega) (by omega)).trans (by omega)
  refine lv_iconst (v := 2) hx hb dX4_wholeCost_16 (by decide) ?_
  refine lv_aload_n hx hb dX4_wholeCost_17 rfl (lv_at hl 0 rfl) ?_
  refine tw_Vc (o := a0) (ci := 4) (n := 0) (post := (fun v kq Lq Eq => (∃ x : Int32, v = some (.int x)) ∧ kp = kq ∧ L = Lq ∧ E = Eq)) (As := []) (rest := [.int 2, .int zi5, .int 2]) ⟨hx, hb, hml, hown, hB⟩ (fun sz => tX4_pairs l D cs a0 hm0 hk0 sz) cg_4_111_X4_pairs rfl rfl (by decide +kernel) ⟨Nat.le_of_ble_eq_true rfl, Nat.le_of_ble_eq_true rfl⟩ hK hN TH hS hA rfl hm0 hk0 (by decide) rfl hl.1 rfl (Nat.le_of_ble_eq_true rfl) dX4_wholeCost_18 ⟨Nat.le_of_ble_eq_true rfl, Nat.le_of_ble_eq_true rfl⟩ (fun v6 kp6 L6 E6 H locs hq6 hx6 TH hS => ?_)
  obtain ⟨⟨xc7, rfl⟩, rfl, rfl, rfl⟩ := hq6
  refine W.eq (g2 := F0 m 21 ls [.int xc7, .int 2, .int zi5, .int 2]) rfl ?_
  refine lv_imul hx hb dX4_wholeCost_21 ?_
  refine lv_topi (fun zi8 ezi8 => ?_)
  refine lv_isub hx hb dX4_wholeCost_22 ?_
  refine lv_topi (fun zi9 ezi9 => ?_)
  refine lv_imul hx hb dX4_wholeCost_23 ?_
  refine lv_topi (fun zi10 ezi10 => ?_)
  refine lv_istore_n (lv' := [(1, .int zi10), (0, .ref a0)]) hx hb dX4_wholeCost_24 rfl hl (by decide) rfl (fun ls hl => ?_)
  refine lv_iconst (v := 0) hx hb dX4_wholeCost_25 (by decide) ?_
  refine lv_istore_n (lv' := [(2, .int 0), (1, .int zi10), (0, .ref a0)]) hx hb dX4_wholeCost_26 rfl hl (by decide) rfl (fun ls hl => ?_)
  have hJ27 : ∀ (n27 : Nat) (y27_2 : Int32) (y27_1 : Int32) (H : Heap) (locs : List Loc) (ls : Array Slot), 0 ≤ y27_2.toInt → y27_2.toInt ≤ 40 → 40 - y27_2.toInt ≤ (n27 : Int) → tw_H D cs kp L E A H → va_S A s.heap H locs → lv_has ls 3 [(2, .int y27_2), (1, .int y27_1), (0, .ref a0)] → W p l e { frames := 2, cells := 0, slots := 0, locals := 46 } s m [.ref a0].toArray below meth c H locs 0 0 (MQ below (tw_Q D cs kp0 L0 (fun v kq Lq Eq => (∃ x : Int32, v = some (.int x)) ∧ kp = kq ∧ L = Lq ∧ E = Eq) A) [.ref a0].toArray s 0 0 A) (F0 m 27 ls []) := by
    intro n27
    induction n27 using Nat.strongRecOn with
    | _ n27 ih27 =>
      intro y27_2 y27_1 H locs ls hy27_2a hy27_2b hmeas27 TH hS hl
      refine lv_iload_n hx hb dX4_wholeCost_27 rfl (lv_at hl 0 rfl) ?_
      refine lv_aload_n hx hb dX4_wholeCost_28 rfl (lv_at hl 2 rfl) ?_
      refine tw_get (ci := 4) (C := RX4) (T := TX4) (N := 7) hx hb hB cx_inX4 hown hK TH hm0 hk0 rfl ⟨by decide, rfl⟩ 0 (by decide) cw_197 (fun _ h9 => h9) dX4_wholeCost_29 (fun hv => ?_)
      rw [hxr1]
      refine tw_get (ci := 10) (C := RX10) (T := TX10) (N := 8) hx hb hB cx_inX10 hown hK TH hmxr1 hkxr1 rfl ⟨by decide, rfl⟩ 0 (by decide) cw_118 (fun _ h9 => h9) dX4_wholeCost_32 (fun hv => ?_)
      rw [hxi2]
      refine lv_icmp_ge (tgt := 68) hx hb dX4_wholeCost_35 (by decide) (fun hc11 => ?_) (fun hc11 => ?_)
      · have hf12 : xi2.toInt ≤ y27_2.toInt := by have z := (fa_le _ _).mp hc11;  omega
        refine lv_iload_n hx hb dX4_wholeCost_68 rfl (lv_at hl 1 rfl) ?_
        exact tw_iret hx hb hr hlocks TH hS hex ⟨⟨_, rfl⟩, rfl, rfl, rfl⟩ (Nat.le_of_ble_eq_true rfl) (Nat.le_of_ble_eq_true rfl) dX4_wholeCost_69
      · have hf13 : ¬ (xi2.toInt ≤ y27_2.toInt) := fun q => hc11 ((fa_le _ _).mpr (by  omega))
        refine lv_aload_n hx hb dX4_wholeCost_38 rfl (lv_at hl 2 rfl) ?_
        refine tw_get (ci := 4) (C := RX4) (T := TX4) (N := 7) hx hb hB cx_inX4 hown hK TH hm0 hk0 rfl ⟨by decide, rfl⟩ 2 (by decide) cw_199 (fun _ h9 => h9) dX4_wholeCost_39 (fun hv => ?_)
        obtain ⟨xr14, hxr14, hmxr14, hkxr14⟩ : ∃ a : Nat, tw_fv E a0 2 = .ref a ∧ a ∈ L ∧ kp a = 150 := hv
        rw [hxr14]
        refine lv_iload_n hx hb dX4_wholeCost_42 rfl (lv_at hl 0 rfl) ?_
        refine tw_iald (k := 150) (t0 := 0) (n := 40) (lo := (-1)) (hi := 39) hx hb hK TH hmxr14 hkxr14 (by decide) rfl rfl (i := y27_2) (vp_in_iff.mpr ⟨by  omega, by  omega⟩) dX4_wholeCost_43 (fun hxe15a hxe15b => ?_)
        obtain ⟨xe15, exe15⟩ : ∃ z : Int32, tw_iv E xr14 (Int32.toNatClampNeg y27_2) = z := ⟨_, rfl⟩
        rw [exe15] at hxe15a hxe15b ⊢
        refine lv_iconst (v := (-1)) hx hb dX4_wholeCost_44 (by decide) ?_
        have hJ62 : ∀ (y62_1 : Int32) (H : Heap) (locs : List Loc) (ls : Array Slot), tw_H D cs kp L E A H → va_S A s.heap H locs → lv_has ls 3 [(2, .int y27_2), (1, .int y62_1), (0, .ref a0)] → W p l e { frames := 2, cells := 0, slots := 0, locals := 46 } s m [.ref a0].toArray below meth c H locs 0 0 (MQ below (tw_Q D cs kp0 L0 (fun v kq Lq Eq => (∃ x : Int32, v = some (.int x)) ∧ kp = kq ∧ L = Lq ∧ E = Eq) A) [.ref a0].toArray s 0 0 A) (F0 m 62 ls []) := by
          intro y62_1 H locs ls TH hS hl
          obtain ⟨zi16, ezi16⟩ : ∃ z : Int32, z = y27_2 + Int32.ofInt 1 := ⟨_, rfl⟩
          have hzi16 : zi16.toInt = y27_2.toInt + 1 := by rw [ezi16]; have : ((Int32.ofInt 1).toInt) = 1 := (by decide);  exact (ia_add (by omega) (by omega)).trans (by omega)
          refine lv_iinc (v := zi16) (lv' := [(2, .int zi16), (1, .int y62_1), (0, .ref a0)]) hx hb dX4_wholeCost_62 hl (k := 0) rfl ezi16.symm (by decide) rfl (fun ls hl => ?_)
          refine lv_goto (tgt := 27) hx hb dX4_wholeCost_65 (by decide) ?_
          exact ih27 (n27 - 1) (by   omega) zi16 y62_1 _ _ ls (by omega) (by omega) (by   omega) TH hS (lv_sub hl [0, 1, 2] rfl)
        refine lv_icmp_eq (tgt := 62) hx hb dX4_wholeCost_45 (by decide) (fun hc17 => ?_) (fun hc17 => ?_)
        · have hf18 : xe15.toInt = (-1) := by have z := (fa_eq _ _).mp hc17; have : (((-1) : Int32).toInt) = (-1) := (by decide); omega
          exact hJ62 y27_1 _ _ ls  TH hS (lv_sub hl [0, 1, 2] rfl)
        · have hf19 : ¬ (xe15.toInt = (-1)) := fun q => hc17 ((fa_eq _ _).mpr (by have : (((-1) : Int32).toInt) = (-1) := (by decide); omega))
          refine lv_iload_n hx hb dX4_wholeCost_48 rfl (lv_at hl 1 rfl) ?_
          refine lv_aload_n hx hb dX4_wholeCost_49 rfl (lv_at hl 2 rfl) ?_
          refine lv_iload_n hx hb dX4_wholeCost_50 rfl (lv_at hl 0 rfl) ?_
          refine lv_aload_n hx hb dX4_wholeCost_51 rfl (lv_at hl 2 rfl) ?_
          refine tw_get (ci := 4) (C := RX4) (T := TX4) (N := 7) hx hb hB cx_inX4 hown hK TH hm0 hk0 rfl ⟨by decide, rfl⟩ 2 (by decide) cw_199 (fun _ h9 => h9) dX4_wholeCost_52 (fun hv => ?_)
          rw [hxr14]
          refine lv_iload_n hx hb dX4_wholeCost_55 rfl (lv_at hl 0 rfl) ?_
          refine tw_iald (k := 150) (t0 := 0) (n := 40) (lo := (-1)) (hi := 39) hx hb hK TH hmxr14 hkxr14 (by decide) rfl rfl (i := y27_2) (vp_in_iff.mpr ⟨by  omega, by  omega⟩) dX4_wholeCost_56 (fun hxe20a hxe20b => ?_)
          rw [exe15]
          refine tw_Vc (o := a0) (ci := 4) (n := 2) (post := (fun v kq Lq Eq => (∃ x : Int32, v = some (.int x) ∧ 0 ≤ x.toInt ∧ x.toInt ≤ 2) ∧ kp = kq ∧ L = Lq ∧ E = Eq)) (As := [.int y27_2, .int xe15]) (rest := [.int y27_1]) ⟨hx, hb, hml, hown, hB⟩ (fun sz => tX4_pairCost l D cs a0 y27_2 xe15 hm0 hk0 (by omega) (by omega) (by omega) (by omega) sz) cg_4_49_X4_pairCost rfl rfl (by decide +kernel) ⟨Nat.le_of_ble_eq_true rfl, Nat.le_of_ble_eq_true rfl⟩ hK hN TH hS hA rfl hm0 hk0 (by decide) rfl hl.1 rfl (Nat.le_of_ble_eq_true rfl) dX4_wholeCost_57 ⟨Nat.le_of_ble_eq_true rfl, Nat.le_of_ble_eq_true rfl⟩ (fun v21 kp21 L21 E21 H locs hq21 hx21 TH hS => ?_)
          obtain ⟨⟨xc22, rfl, hxc22a, hxc22b⟩, rfl, rfl, rfl⟩ := hq21
          refine W.eq (g2 := F0 m 60 ls [.int xc22, .int y27_1]) rfl ?_
          refine lv_iadd hx hb dX4_wholeCost_60 ?_
          refine lv_topi (fun zi23 ezi23 => ?_)
          refine lv_istore_n (lv' := [(1, .int zi23), (2, .int y27_2), (0, .ref a0)]) hx hb dX4_wholeCost_61 rfl hl (by decide) rfl (fun ls hl => ?_)
          exact hJ62 zi23 _ _ ls  TH hS (lv_sub hl [1, 0, 2] rfl)
  exact hJ27 41 (0 : Int32) zi10 _ _ ls (by have : ((0 : Int32).toInt) = 0 := (by decide); omega) (by have : ((0 : Int32).toInt) = 0 := (by decide); omega) (by have : ((0 : Int32).toInt) = 0 := (by decide);  omega) TH hS (lv_sub hl [0, 1, 2] rfl)
set_option maxHeartbeats 4000000 in
set_option maxRecDepth 100000 in
theorem tX4_bound (l : Launch) (D : va_G) (cs : Nat → ClassId) {kp : Nat → Nat} {L : List Nat} {E : Nat → va_E} (a0 : Nat) (hm0 : a0 ∈ L) (hk0 : kp a0 = 4) (sz : Nat) : Met l yX4_bound (.code yX4_bound cX4_bound 5 (some .int) :: cx_big) { frames := 1, cells := 0, slots := 0, locals := 21 } (tw_P D cs kp L E [.ref a0] sz) (tw_Q D cs kp L (fun v kq Lq Eq => (∃ x : Int32, v = some (.int x)) ∧ kp = kq ∧ L = Lq ∧ E = Eq) (va_A (va_pl L E) sz)) 0 0 (va_A (va_pl L E) sz) := by
  refine tw_ofW (by decide) (Nat.le_of_ble_eq_true rfl) ?_
  intro p e s m below meth c A ls hx hb hr hml hB hown hlocks hK hN hA TH hS hl
  have hown : s.vm.findClass "TreeMerge$Matcher" = some m.cls := hown
  have hl : lv_has ls 5 [(0, .ref a0)] := hl
  obtain ⟨kp0, ekp⟩ : ∃ z, z = kp := ⟨_, rfl⟩
  obtain ⟨L0, eL⟩ : ∃ z, z = L := ⟨_, rfl⟩
  rw [show tw_Q D cs kp L = tw_Q D cs kp0 L0 by rw [ekp, eL]]
  have hex : ∀ a : Nat, a ∈ L0 → a ∈ L ∧ kp a = kp0 a := fun a h => ⟨by rw [← eL]; exact h, by rw [ekp]⟩
  refine lv_iconst (v := 0) hx hb dX4_bound_0 (by decide) ?_
  refine lv_istore_n (lv' := [(1, .int 0), (0, .ref a0)]) hx hb dX4_bound_1 rfl hl (by decide) rfl (fun ls hl => ?_)
  refine lv_iconst (v := 0) hx hb dX4_bound_2 (by decide) ?_
  refine lv_istore_n (lv' := [(2, .int 0), (1, .int 0), (0, .ref a0)]) hx hb dX4_bound_3 rfl hl (by decide) rfl (fun ls hl => ?_)
  have hJ4 : ∀ (n4 : Nat) (y4_2 : Int32) (y4_1 : Int32) (H : Heap) (locs : List Loc) (ls : Array Slot), 0 ≤ y4_2.toInt → y4_2.toInt ≤ 10 → 10 - y4_2.toInt ≤ (n4 : Int) → tw_H D cs kp L E A H → va_S A s.heap H locs → lv_has ls 5 [(2, .int y4_2), (1, .int y4_1), (0, .ref a0)] → W p l e { frames := 1, cells := 0, slots := 0, locals := 21 } s m [.ref a0].toArray below meth c H locs 0 0 (MQ below (tw_Q D cs kp0 L0 (fun v kq Lq Eq => (∃ x : Int32, v = some (.int x)) ∧ kp = kq ∧ L = Lq ∧ E = Eq) A) [.ref a0].toArray s 0 0 A) (F0 m 4 ls []) := by
    intro n4
    induction n4 using Nat.strongRecOn with
    | _ n4 ih4 =>
      intro y4_2 y4_1 H locs ls hy4_2a hy4_2b hmeas4 TH hS hl
      refine lv_iload_n hx hb dX4_bound_4 rfl (lv_at hl 0 rfl) ?_
      refine lv_bipush (v := 10) hx hb dX4_bound_5 (by decide) ?_
      refine lv_icmp_ge (tgt := 111) hx hb dX4_bound_7 (by decide) (fun hc1 => ?_) (fun hc1 => ?_)
      · have hf2 : 10 ≤ y4_2.toInt := by have z := (fa_le _ _).mp hc1; have : ((10 : Int32).toInt) = 10 := (by decide); omega
        refine lv_iconst (v := 2) hx hb dX4_bound_111 (by decide) ?_
        refine lv_iload_n hx hb dX4_bound_112 rfl (lv_at hl 1 rfl) ?_
        refine lv_imul hx hb dX4_bound_113 ?_
        refine lv_topi (fun zi3 ezi3 => ?_)
        exact tw_iret hx hb hr hlocks TH hS hex ⟨⟨_, rfl⟩, rfl, rfl, rfl⟩ (Nat.le_of_ble_eq_true rfl) (Nat.le_of_ble_eq_true rfl) dX4_bound_114
      · have hf4 : ¬ (10 ≤ y4_2.toInt) := fun q => hc1 ((fa_le _ _).mpr (by have : ((10 : Int32).toInt) = 10 := (by decide); omega))
        refine lv_iconst (v := 0) hx hb dX4_bound_10 (by decide) ?_
        refine lv_istore_n (lv' := [(3, .int 0), (2, .int y4_2), (1, .int y4_1), (0, .ref a0)]) hx hb dX4_bound_11 rfl hl (by decide) rfl (fun ls hl => ?_)
        refine lv_iconst (v := 0) hx hb dX4_bound_12 (by decide) ?_
        refine lv_istore (lv' := [(4, .int 0), (3, .int 0), (2, .int y4_2), (1, .int y4_1), (0, .ref a0)]) hx hb dX4_bound_13 hl (by decide) rfl (fun ls hl => ?_)
        have hJ15 : ∀ (n15 : Nat) (y15_4 : Int32) (y15_3 : Int32) (H : Heap) (locs : List Loc) (ls : Array Slot), 0 ≤ y15_4.toInt → y15_4.toInt ≤ 40 → 40 - y15_4.toInt ≤ (n15 : Int) → tw_H D cs kp L E A H → va_S A s.heap H locs → lv_has ls 5 [(4, .int y15_4), (3, .int y15_3), (2, .int y4_2), (1, .int y4_1), (0, .ref a0)] → W p l e { frames := 1, cells := 0, slots := 0, locals := 21 } s m [.ref a0].toArray below meth c H locs 0 0 (MQ below (tw_Q D cs kp0 L0 (fun v kq Lq Eq => (∃ x : Int32, v = some (.int x)) ∧ kp = kq ∧ L = Lq ∧ E = Eq) A) [.ref a0].toArray s 0 0 A) (F0 m 15 ls []) := by
          intro n15
          induction n15 using Nat.strongRecOn with
          | _ n15 ih15 =>
            intro y15_4 y15_3 H locs ls hy15_4a hy15_4b hmeas15 TH hS hl
            refine lv_iload hx hb dX4_bound_15 (lv_at hl 0 rfl) ?_
            refine lv_aload_n hx hb dX4_bound_17 rfl (lv_at hl 4 rfl) ?_
            refine tw_get (ci := 4) (C := RX4) (T := TX4) (N := 7) hx hb hB cx_inX4 hown hK TH hm0 hk0 rfl ⟨by decide, rfl⟩ 0 (by decide) cw_197 (fun _ h9 => h9) dX4_bound_18 (fun hv => ?_)
            obtain ⟨xr5, hxr5, hmxr5, hkxr5⟩ : ∃ a : Nat, tw_fv E a0 0 = .ref a ∧ a ∈ L ∧ kp a = 10 := hv
            rw [hxr5]
            refine tw_get (ci := 10) (C := RX10) (T := TX10) (N := 8) hx hb hB cx_inX10 hown hK TH hmxr5 hkxr5 rfl ⟨by decide, rfl⟩ 0 (by decide) cw_118 (fun _ h9 => h9) dX4_bound_21 (fun hv => ?_)
            obtain ⟨xi6, hxi6, hxi6a, hxi6b⟩ : ∃ x : Int32, tw_fv E xr5 0 = .int x ∧ 0 ≤ x.toInt ∧ x.toInt ≤ 40 := hv
            rw [hxi6]
            refine lv_icmp_ge (tgt := 55) hx hb dX4_bound_24 (by decide) (fun hc7 => ?_) (fun hc7 => ?_)
            · have hf8 : xi6.toInt ≤ y15_4.toInt := by have z := (fa_le _ _).mp hc7;  omega
              refine lv_iconst (v := 0) hx hb dX4_bound_55 (by decide) ?_
              refine lv_istore (lv' := [(4, .int 0), (3, .int y15_3), (2, .int y4_2), (1, .int y4_1), (0, .ref a0)]) hx hb dX4_bound_56 hl (by decide) rfl (fun ls hl => ?_)
              have hJ58 : ∀ (n58 : Nat) (y58_4 : Int32) (y58_3 : Int32) (H : Heap) (locs : List Loc) (ls : Array Slot), 0 ≤ y58_4.toInt → y58_4.toInt ≤ 40 → 40 - y58_4.toInt ≤ (n58 : Int) → tw_H D cs kp L E A H → va_S A s.heap H locs → lv_has ls 5 [(4, .int y58_4), (3, .int y58_3), (2, .int y4_2), (1, .int y4_1), (0, .ref a0)] → W p l e { frames := 1, cells := 0, slots := 0, locals := 21 } s m [.ref a0].toArray below meth c H locs 0 0 (MQ below (tw_Q D cs kp0 L0 (fun v kq Lq Eq => (∃ x : Int32, v = some (.int x)) ∧ kp = kq ∧ L = Lq ∧ E = Eq) A) [.ref a0].toArray s 0 0 A) (F0 m 58 ls []) := by
                intro n58
                induction n58 using Nat.strongRecOn with
                | _ n58 ih58 =>
                  intro y58_4 y58_3 H locs ls hy58_4a hy58_4b hmeas58 TH hS hl
                  refine lv_iload hx hb dX4_bound_58 (lv_at hl 0 rfl) ?_
                  refine lv_aload_n hx hb dX4_bound_60 rfl (lv_at hl 4 rfl) ?_
                  refine tw_get (ci := 4) (C := RX4) (T := TX4) (N := 7) hx hb hB cx_inX4 hown hK TH hm0 hk0 rfl ⟨by decide, rfl⟩ 1 (by decide) cw_198 (fun _ h9 => h9) dX4_bound_61 (fun hv => ?_)
                  obtain ⟨xr9, hxr9, hmxr9, hkxr9⟩ : ∃ a : Nat, tw_fv E a0 1 = .ref a ∧ a ∈ L ∧ kp a = 10 := hv
                  rw [hxr9]
                  refine tw_get (ci := 10) (C := RX10) (T := TX10) (N := 8) hx hb hB cx_inX10 hown hK TH hmxr9 hkxr9 rfl ⟨by decide, rfl⟩ 0 (by decide) cw_118 (fun _ h9 => h9) dX4_bound_64 (fun hv => ?_)
                  obtain ⟨xi10, hxi10, hxi10a, hxi10b⟩ : ∃ x : Int32, tw_fv E xr9 0 = .int x ∧ 0 ≤ x.toInt ∧ x.toInt ≤ 40 := hv
                  rw [hxi10]
                  refine lv_icmp_ge (tgt := 98) hx hb dX4_bound_67 (by decide) (fun hc11 => ?_) (fun hc11 => ?_)
                  · have hf12 : xi10.toInt ≤ y58_4.toInt := by have z := (fa_le _ _).mp hc11;  omega
                    refine lv_iload_n hx hb dX4_bound_98 rfl (lv_at hl 3 rfl) ?_
                    refine lv_iload_n hx hb dX4_bound_99 rfl (lv_at hl 1 rfl) ?_
                    refine va_mabs hx hb (hml.trans hl.1.symm) hown (hB _ cw_760) (hB _ cw_761) (hB _ cw_19) (hB _ cw_762) (Nat.le_of_ble_eq_true rfl) (Nat.le_of_ble_eq_true rfl) (Nat.le_of_ble_eq_true rfl) (Nat.le_of_ble_eq_true rfl) dX4_bound_100 ?_
                    refine lv_topi (fun zi13 ezi13 => ?_)
                    refine lv_iadd hx hb dX4_bound_103 ?_
                    refine lv_topi (fun zi14 ezi14 => ?_)
                    refine lv_istore_n (lv' := [(1, .int zi14), (4, .int y58_4), (3, .int y58_3), (2, .int y4_2), (0, .ref a0)]) hx hb dX4_bound_104 rfl hl (by decide) rfl (fun ls hl => ?_)
                    obtain ⟨zi15, ezi15⟩ : ∃ z : Int32, z = y4_2 + Int32.ofInt 1 := ⟨_, rfl⟩
                    have hzi15 : zi15.toInt = y4_2.toInt + 1 := by rw [ezi15]; have : ((Int32.ofInt 1).toInt) = 1 := (by decide);  exact (ia_add (by omega) (by omega)).trans (by omega)
                    refine lv_iinc (v := zi15) (lv' := [(2, .int zi15), (1, .int zi14), (4, .int y58_4), (3, .int y58_3), (0, .ref a0)]) hx hb dX4_bound_105 hl (k := 3) rfl ezi15.symm (by decide) rfl (fun ls hl => ?_)
                    refine lv_goto (tgt := 4) hx hb dX4_bound_108 (by decide) ?_
                    exact ih4 (n4 - 1) (by   omega) zi15 zi14 _ _ ls (by omega) (by omega) (by   omega) TH hS (lv_sub hl [0, 1, 4] rfl)
                  · have hf16 : ¬ (xi10.toInt ≤ y58_4.toInt) := fun q => hc11 ((fa_le _ _).mpr (by  omega))
                    refine lv_iload_n hx hb dX4_bound_70 rfl (lv_at hl 1 rfl) ?_
                    refine lv_aload_n hx hb dX4_bound_71 rfl (lv_at hl 4 rfl) ?_
                    refine tw_get (ci := 4) (C := RX4) (T := TX4) (N := 7) hx hb hB cx_inX4 hown hK TH hm0 hk0 rfl ⟨by decide, rfl⟩ 1 (by decide) cw_198 (fun _ h9 => h9) dX4_bound_72 (fun hv => ?_)
                    rw [hxr9]
                    refine tw_get (ci := 10) (C := RX10) (T := TX10) (N := 8) hx hb hB cx_inX10 hown hK TH hmxr9 hkxr9 rfl ⟨by decide, rfl⟩ 5 (by decide) cw_142 (fun _ h9 => h9) dX4_bound_75 (fun hv => ?_)
                    obtain ⟨xr17, hxr17, hmxr17, hkxr17⟩ : ∃ a : Nat, tw_fv E xr9 5 = .ref a ∧ a ∈ L ∧ kp a = 114 := hv
                    rw [hxr17]
                    refine lv_iload hx hb dX4_bound_78 (lv_at hl 0 rfl) ?_
                    refine tw_iald (k := 114) (t0 := 0) (n := 40) (lo := (-1)) (hi := 9) hx hb hK TH hmxr17 hkxr17 (by decide) rfl rfl (i := y58_4) (vp_in_iff.mpr ⟨by  omega, by  omega⟩) dX4_bound_80 (fun hxe18a hxe18b => ?_)
                    obtain ⟨xe18, exe18⟩ : ∃ z : Int32, tw_iv E xr17 (Int32.toNatClampNeg y58_4) = z := ⟨_, rfl⟩
                    rw [exe18] at hxe18a hxe18b ⊢
                    refine lv_iload_n hx hb dX4_bound_81 rfl (lv_at hl 2 rfl) ?_
                    have hJ90 : ∀ (z90_0 : Int32) (H : Heap) (locs : List Loc) (ls : Array Slot), 0 ≤ z90_0.toInt → z90_0.toInt ≤ 1 → tw_H D cs kp L E A H → va_S A s.heap H locs → lv_has ls 5 [(4, .int y58_4), (2, .int y4_2), (1, .int y4_1), (0, .ref a0)] → W p l e { frames := 1, cells := 0, slots := 0, locals := 21 } s m [.ref a0].toArray below meth c H locs 0 0 (MQ below (tw_Q D cs kp0 L0 (fun v kq Lq Eq => (∃ x : Int32, v = some (.int x)) ∧ kp = kq ∧ L = Lq ∧ E = Eq) A) [.ref a0].toArray s 0 0 A) (F0 m 90 ls [.int z90_0, .int y58_3]) := by
                      intro z90_0 H locs ls hz90_0a hz90_0b TH hS hl
                      refine lv_isub hx hb dX4_bound_90 ?_
                      refine lv_topi (fun zi19 ezi19 => ?_)
                      refine lv_istore_n (lv' := [(3, .int zi19), (4, .int y58_4), (2, .int y4_2), (1, .int y4_1), (0, .ref a0)]) hx hb dX4_bound_91 rfl hl (by decide) rfl (fun ls hl => ?_)
                      obtain ⟨zi20, ezi20⟩ : ∃ z : Int32, z = y58_4 + Int32.ofInt 1 := ⟨_, rfl⟩
                      have hzi20 : zi20.toInt = y58_4.toInt + 1 := by rw [ezi20]; have : ((Int32.ofInt 1).toInt) = 1 := (by decide);  exact (ia_add (by omega) (by omega)).trans (by omega)
                      refine lv_iinc (v := zi20) (lv' := [(4, .int zi20), (3, .int zi19), (2, .int y4_2), (1, .int y4_1), (0, .ref a0)]) hx hb dX4_bound_92 hl (k := 1) rfl ezi20.symm (by decide) rfl (fun ls hl => ?_)
                      refine lv_goto (tgt := 58) hx hb dX4_bound_95 (by decide) ?_
                      exact ih58 (n58 - 1) (by   omega) zi20 zi19 _ _ ls (by omega) (by omega) (by   omega) TH hS (lv_sub hl [0, 1, 2, 3, 4] rfl)
                    refine lv_icmp_ne (tgt := 89) hx hb dX4_bound_82 (by decide) (fun hc21 => ?_) (fun hc21 => ?_)
                    · have hf22 : ¬ (xe18.toInt = y4_2.toInt) := fun q => hc21 ((fa_eq _ _).mpr (by  omega))
                      refine lv_iconst (v := 0) hx hb dX4_bound_89 (by decide) ?_
                      exact hJ90 (0 : Int32) _ _ ls (by have : ((0 : Int32).toInt) = 0 := (by decide); omega) (by have : ((0 : Int32).toInt) = 0 := (by decide); omega) TH hS (lv_sub hl [0, 2, 3, 4] rfl)
                    · have hf23 : xe18.toInt = y4_2.toInt := by have z := (fa_eq _ _).mp hc21;  omega
                      refine lv_iconst (v := 1) hx hb dX4_bound_85 (by decide) ?_
                      refine lv_goto (tgt := 90) hx hb dX4_bound_86 (by decide) ?_
                      exact hJ90 (1 : Int32) _ _ ls (by have : ((1 : Int32).toInt) = 1 := (by decide); omega) (by have : ((1 : Int32).toInt) = 1 := (by decide); omega) TH hS (lv_sub hl [0, 2, 3, 4] rfl)
              exact hJ58 41 (0 : Int32) y15_3 _ _ ls (by have : ((0 : Int32).toInt) = 0 := (by decide); omega) (by have : ((0 : Int32).toInt) = 0 := (by decide); omega) (by have : ((0 : Int32).toInt) = 0 := (by decide);  omega) TH hS (lv_sub hl [0, 1, 2, 3, 4] rfl)
            · have hf24 : ¬ (xi6.toInt ≤ y15_4.toInt) := fun q => hc7 ((fa_le _ _).mpr (by  omega))
              refine lv_iload_n hx hb dX4_bound_27 rfl (lv_at hl 1 rfl) ?_
              refine lv_aload_n hx hb dX4_bound_28 rfl (lv_at hl 4 rfl) ?_
              refine tw_get (ci := 4) (C := RX4) (T := TX4) (N := 7) hx hb hB cx_inX4 hown hK TH hm0 hk0 rfl ⟨by decide, rfl⟩ 0 (by decide) cw_197 (fun _ h9 => h9) dX4_bound_29 (fun hv => ?_)
              rw [hxr5]
              refine tw_get (ci := 10) (C := RX10) (T := TX10) (N := 8) hx hb hB cx_inX10 hown hK TH hmxr5 hkxr5 rfl ⟨by decide, rfl⟩ 5 (by decide) cw_142 (fun _ h9 => h9) dX4_bound_32 (fun hv => ?_)
              obtain ⟨xr25, hxr25, hmxr25, hkxr25⟩ : ∃ a : Nat, tw_fv E xr5 5 = .ref a ∧ a ∈ L ∧ kp a = 114 := hv
              rw [hxr25]
              refine lv_iload hx hb dX4_bound_35 (lv_at hl 0 rfl) ?_
              refine tw_iald (k := 114) (t0 := 0) (n := 40) (lo := (-1)) (hi := 9) hx hb hK TH hmxr25 hkxr25 (by decide) rfl rfl (i := y15_4) (vp_in_iff.mpr ⟨by  omega, by  omega⟩) dX4_bound_37 (fun hxe26a hxe26b => ?_)
              obtain ⟨xe26, exe26⟩ : ∃ z : Int32, tw_iv E xr25 (Int32.toNatClampNeg y15_4) = z := ⟨_, rfl⟩
              rw [exe26] at hxe26a hxe26b ⊢
              refine lv_iload_n hx hb dX4_bound_38 rfl (lv_at hl 2 rfl) ?_
              have hJ47 : ∀ (z47_0 : Int32) (H : Heap) (locs : List Loc) (ls : Array Slot), 0 ≤ z47_0.toInt → z47_0.toInt ≤ 1 → tw_H D cs kp L E A H → va_S A s.heap H locs → lv_has ls 5 [(4, .int y15_4), (2, .int y4_2), (1, .int y4_1), (0, .ref a0)] → W p l e { frames := 1, cells := 0, slots := 0, locals := 21 } s m [.ref a0].toArray below meth c H locs 0 0 (MQ below (tw_Q D cs kp0 L0 (fun v kq Lq Eq => (∃ x : Int32, v = some (.int x)) ∧ kp = kq ∧ L = Lq ∧ E = Eq) A) [.ref a0].toArray s 0 0 A) (F0 m 47 ls [.int z47_0, .int y15_3]) := by
                intro z47_0 H locs ls hz47_0a hz47_0b TH hS hl
                refine lv_iadd hx hb dX4_bound_47 ?_
                refine lv_topi (fun zi27 ezi27 => ?_)
                refine lv_istore_n (lv' := [(3, .int zi27), (4, .int y15_4), (2, .int y4_2), (1, .int y4_1), (0, .ref a0)]) hx hb dX4_bound_48 rfl hl (by decide) rfl (fun ls hl => ?_)
                obtain ⟨zi28, ezi28⟩ : ∃ z : Int32, z = y15_4 + Int32.ofInt 1 := ⟨_, rfl⟩
                have hzi28 : zi28.toInt = y15_4.toInt + 1 := by rw [ezi28]; have : ((Int32.ofInt 1).toInt) = 1 := (by decide);  exact (ia_add (by omega) (by omega)).trans (by omega)
                refine lv_iinc (v := zi28) (lv' := [(4, .int zi28), (3, .int zi27), (2, .int y4_2), (1, .int y4_1), (0, .ref a0)]) hx hb dX4_bound_49 hl (k := 1) rfl ezi28.symm (by decide) rfl (fun ls hl => ?_)
                refine lv_goto (tgt := 15) hx hb dX4_bound_52 (by decide) ?_
                exact ih15 (n15 - 1) (by   omega) zi28 zi27 _ _ ls (by omega) (by omega) (by   omega) TH hS (lv_sub hl [0, 1, 2, 3, 4] rfl)
              refine lv_icmp_ne (tgt := 46) hx hb dX4_bound_39 (by decide) (fun hc29 => ?_) (fun hc29 => ?_)
              · have hf30 : ¬ (xe26.toInt = y4_2.toInt) := fun q => hc29 ((fa_eq _ _).mpr (by  omega))
                refine lv_iconst (v := 0) hx hb dX4_bound_46 (by decide) ?_
                exact hJ47 (0 : Int32) _ _ ls (by have : ((0 : Int32).toInt) = 0 := (by decide); omega) (by have : ((0 : Int32).toInt) = 0 := (by decide); omega) TH hS (lv_sub hl [0, 2, 3, 4] rfl)
              · have hf31 : xe26.toInt = y4_2.toInt := by have z := (fa_eq _ _).mp hc29;  omega
                refine lv_iconst (v := 1) hx hb dX4_bound_42 (by decide) ?_
                refine lv_goto (tgt := 47) hx hb dX4_bound_43 (by decide) ?_
                exact hJ47 (1 : Int32) _ _ ls (by have : ((1 : Int32).toInt) = 1 := (by decide); omega) (by have : ((1 : Int32).toInt) = 1 := (by decide); omega) TH hS (lv_sub hl [0, 2, 3, 4] rfl)
        exact hJ15 41 (0 : Int32) (0 : Int32) _ _ ls (by have : ((0 : Int32).toInt) = 0 := (by decide); omega) (by have : ((0 : Int32).toInt) = 0 := (by decide); omega) (by have : ((0 : Int32).toInt) = 0 := (by decide);  omega) TH hS (lv_sub hl [0, 1, 2, 3, 4] rfl)
  exact hJ4 11 (0 : Int32) (0 : Int32) _ _ ls (by have : ((0 : Int32).toInt) = 0 := (by decide); omega) (by have : ((0 : Int32).toInt) = 0 := (by decide); omega) (by have : ((0 : Int32).toInt) = 0 := (by decide);  omega) TH hS (lv_sub hl [0, 1, 2] rfl)
set_option maxHeartbeats 4000000 in
set_option maxRecDepth 100000 in
theorem tX4_numberFor (l : Launch) (D : va_G) (cs : Nat → ClassId) {kp : Nat → Nat} {L : List Nat} {E : Nat → va_E} (a0 : Nat) (x1 : Int32) (hm0 : a0 ∈ L) (hk0 : kp a0 = 4) (sz : Nat) : Met l yX4_numberFor (.code yX4_numberFor cX4_numberFor 2 (some .int) :: cx_big) { frames := 0, cells := 0, slots := 0, locals := 0 } (tw_P D cs kp L E [.ref a0, .int x1] sz) (tw_Q D cs kp L (fun v kq Lq Eq => (∃ x : Int32, v = some (.int x) ∧ (-1) ≤ x.toInt ∧ x.toInt ≤ 149) ∧ kp = kq ∧ L = Lq ∧ E = Eq) (va_A (va_pl L E) sz)) 0 0 (va_A (va_pl L E) sz) := by
  refine tw_ofW (by decide) (Nat.le_of_ble_eq_true rfl) ?_
  intro p e s m below meth c A ls hx hb hr hml hB hown hlocks hK hN hA TH hS hl
  have hown : s.vm.findClass "TreeMerge$Matcher" = some m.cls := hown
  have hl : lv_has ls 2 [(0, .ref a0), (1, .int x1)] := hl
  obtain ⟨kp0, ekp⟩ : ∃ z, z = kp := ⟨_, rfl⟩
  obtain ⟨L0, eL⟩ : ∃ z, z = L := ⟨_, rfl⟩
  rw [show tw_Q D cs kp L = tw_Q D cs kp0 L0 by rw [ekp, eL]]
  have hex : ∀ a : Nat, a ∈ L0 → a ∈ L ∧ kp a = kp0 a := fun a h => ⟨by rw [← eL]; exact h, by rw [ekp]⟩
  refine lv_iload_n hx hb dX4_numberFor_0 rfl (lv_at hl 1 rfl) ?_
  refine lv_if_lt (tgt := 37) hx hb dX4_numberFor_1 (by decide) (fun hc1 => ?_) (fun hc1 => ?_)
  · have hf2 : x1.toInt < 0 := by have z := (fa_lt _ _).mp hc1; have : ((0 : Int32).toInt) = 0 := (by decide); omega
    refine lv_iconst (v := (-1)) hx hb dX4_numberFor_37 (by decide) ?_
    exact tw_iret hx hb hr hlocks TH hS hex ⟨⟨_, rfl, (show (-1) ≤ Int32.toInt (-1) from by have : (((-1) : Int32).toInt) = (-1) := (by decide); omega), (show Int32.toInt (-1) ≤ 149 from by have : (((-1) : Int32).toInt) = (-1) := (by decide); omega)⟩, rfl, rfl, rfl⟩ (Nat.le_of_ble_eq_true rfl) (Nat.le_of_ble_eq_true rfl) dX4_numberFor_38
  · have hf3 : ¬ (x1.toInt < 0) := fun q => hc1 ((fa_lt _ _).mpr (by have : ((0 : Int32).toInt) = 0 := (by decide); omega))
    refine lv_iload_n hx hb dX4_numberFor_4 rfl (lv_at hl 1 rfl) ?_
    refine lv_bipush (v := 40) hx hb dX4_numberFor_5 (by decide) ?_
    refine lv_icmp_ge (tgt := 37) hx hb dX4_numberFor_7 (by decide) (fun hc4 => ?_) (fun hc4 => ?_)
    · have hf5 : 40 ≤ x1.toInt := by have z := (fa_le _ _).mp hc4; have : ((40 : Int32).toInt) = 40 := (by decide); omega
      refine lv_iconst (v := (-1)) hx hb dX4_numberFor_37 (by decide) ?_
      exact tw_iret hx hb hr hlocks TH hS hex ⟨⟨_, rfl, (show (-1) ≤ Int32.toInt (-1) from by have : (((-1) : Int32).toInt) = (-1) := (by decide); omega), (show Int32.toInt (-1) ≤ 149 from by have : (((-1) : Int32).toInt) = (-1) := (by decide); omega)⟩, rfl, rfl, rfl⟩ (Nat.le_of_ble_eq_true rfl) (Nat.le_of_ble_eq_true rfl) dX4_numberFor_38
    · have hf6 : ¬ (40 ≤ x1.toInt) := fun q => hc4 ((fa_le _ _).mpr (by have : ((40 : Int32).toInt) = 40 := (by decide); omega))
      refine lv_aload_n hx hb dX4_numberFor_10 rfl (lv_at hl 0 rfl) ?_
      refine tw_get (ci := 4) (C := RX4) (T := TX4) (N := 7) hx hb hB cx_inX4 hown hK TH hm0 hk0 rfl ⟨by decide, rfl⟩ 3 (by decide) cw_200 (fun _ h9 => h9) dX4_numberFor_11 (fun hv => ?_)
      obtain ⟨xr7, hxr7, hmxr7, hkxr7⟩ : ∃ a : Nat, tw_fv E a0 3 = .ref a ∧ a ∈ L ∧ kp a = 151 := hv
      rw [hxr7]
      refine lv_iload_n hx hb dX4_numberFor_14 rfl (lv_at hl 1 rfl) ?_
      refine tw_iald (k := 151) (t0 := 0) (n := 40) (lo := (-1)) (hi := 39) hx hb hK TH hmxr7 hkxr7 (by decide) rfl rfl (i := x1) (vp_in_iff.mpr ⟨by  omega, by  omega⟩) dX4_numberFor_15 (fun hxe8a hxe8b => ?_)
      obtain ⟨xe8, exe8⟩ : ∃ z : Int32, tw_iv E xr7 (Int32.toNatClampNeg x1) = z := ⟨_, rfl⟩
      rw [exe8] at hxe8a hxe8b ⊢
      refine lv_iconst (v := (-1)) hx hb dX4_numberFor_16 (by decide) ?_
      refine lv_icmp_eq (tgt := 37) hx hb dX4_numberFor_17 (by decide) (fun hc9 => ?_) (fun hc9 => ?_)
      · have hf10 : xe8.toInt = (-1) := by have z := (fa_eq _ _).mp hc9; have : (((-1) : Int32).toInt) = (-1) := (by decide); omega
        refine lv_iconst (v := (-1)) hx hb dX4_numberFor_37 (by decide) ?_
        exact tw_iret hx hb hr hlocks TH hS hex ⟨⟨_, rfl, (show (-1) ≤ Int32.toInt (-1) from by have : (((-1) : Int32).toInt) = (-1) := (by decide); omega), (show Int32.toInt (-1) ≤ 149 from by have : (((-1) : Int32).toInt) = (-1) := (by decide); omega)⟩, rfl, rfl, rfl⟩ (Nat.le_of_ble_eq_true rfl) (Nat.le_of_ble_eq_true rfl) dX4_numberFor_38
      · have hf11 : ¬ (xe8.toInt = (-1)) := fun q => hc9 ((fa_eq _ _).mpr (by have : (((-1) : Int32).toInt) = (-1) := (by decide); omega))
        refine lv_aload_n hx hb dX4_numberFor_20 rfl (lv_at hl 0 rfl) ?_
        refine tw_get (ci := 4) (C := RX4) (T := TX4) (N := 7) hx hb hB cx_inX4 hown hK TH hm0 hk0 rfl ⟨by decide, rfl⟩ 0 (by decide) cw_197 (fun _ h9 => h9) dX4_numberFor_21 (fun hv => ?_)
        obtain ⟨xr12, hxr12, hmxr12, hkxr12⟩ : ∃ a : Nat, tw_fv E a0 0 = .ref a ∧ a ∈ L ∧ kp a = 10 := hv
        rw [hxr12]
        refine tw_get (ci := 10) (C := RX10) (T := TX10) (N := 8) hx hb hB cx_inX10 hown hK TH hmxr12 hkxr12 rfl ⟨by decide, rfl⟩ 1 (by decide) cw_126 (fun _ h9 => h9) dX4_numberFor_24 (fun hv => ?_)
        obtain ⟨xr13, hxr13, hmxr13, hkxr13⟩ : ∃ a : Nat, tw_fv E xr12 1 = .ref a ∧ a ∈ L ∧ kp a = 110 := hv
        rw [hxr13]
        refine lv_aload_n hx hb dX4_numberFor_27 rfl (lv_at hl 0 rfl) ?_
        refine tw_get (ci := 4) (C := RX4) (T := TX4) (N := 7) hx hb hB cx_inX4 hown hK TH hm0 hk0 rfl ⟨by decide, rfl⟩ 3 (by decide) cw_200 (fun _ h9 => h9) dX4_numberFor_28 (fun hv => ?_)
        rw [hxr7]
        refine lv_iload_n hx hb dX4_numberFor_31 rfl (lv_at hl 1 rfl) ?_
        refine tw_iald (k := 151) (t0 := 0) (n := 40) (lo := (-1)) (hi := 39) hx hb hK TH hmxr7 hkxr7 (by decide) rfl rfl (i := x1) (vp_in_iff.mpr ⟨by  omega, by  omega⟩) dX4_numberFor_32 (fun hxe14a hxe14b => ?_)
        rw [exe8]
        refine tw_iald (k := 110) (t0 := 0) (n := 40) (lo := (-1)) (hi := 149) hx hb hK TH hmxr13 hkxr13 (by decide) rfl rfl (i := xe8) (vp_in_iff.mpr ⟨by  omega, by  omega⟩) dX4_numberFor_33 (fun hxe15a hxe15b => ?_)
        obtain ⟨xe15, exe15⟩ : ∃ z : Int32, tw_iv E xr13 (Int32.toNatClampNeg xe8) = z := ⟨_, rfl⟩
        rw [exe15] at hxe15a hxe15b ⊢
        refine lv_goto (tgt := 38) hx hb dX4_numberFor_34 (by decide) ?_
        exact tw_iret hx hb hr hlocks TH hS hex ⟨⟨_, rfl, (show (-1) ≤ Int32.toInt xe15 from by  omega), (show Int32.toInt xe15 ≤ 149 from by  omega)⟩, rfl, rfl, rfl⟩ (Nat.le_of_ble_eq_true rfl) (Nat.le_of_ble_eq_true rfl) dX4_numberFor_38
set_option maxHeartbeats 4000000 in
set_option maxRecDepth 100000 in
theorem tX4_search_v6 (l : Launch) (D : va_G) (cs : Nat → ClassId) {kp : Nat → Nat} {L : List Nat} {E : Nat → va_E} (a0 : Nat) (x1 : Int32) (x2 : Int32) (x3 : Int32) (hm0 : a0 ∈ L) (hk0 : kp a0 = 4) (hp1a : 6 ≤ x1.toInt) (hp1b : x1.toInt ≤ 6) (sz : Nat) : Met l yX4_search (.code yX4_search cX4_search 6 none :: cx_big) { frames := 1, cells := 0, slots := 0, locals := 40 } (tw_P D cs kp L E [.ref a0, .int x1, .int x2, .int x3] sz) (tw_Q D cs kp L (fun v kq Lq Eq => v = none ∧ kp = kq ∧ L = Lq ∧ tw_fr kp L [(4, 5)] [152] E Eq) (va_A (va_pl L E) sz)) 0 0 (va_A (va_pl L E) sz) := by
  refine tw_ofW (by decide) (Nat.le_of_ble_eq_true rfl) ?_
  intro p e s m below meth c A ls hx hb hr hml hB hown hlocks hK hN hA TH hS hl
  have hown : s.vm.findClass "TreeMerge$Matcher" = some m.cls := hown
  have hl : lv_has ls 6 [(0, .ref a0), (1, .int x1), (2, .int x2), (3, .int x3)] := hl
  obtain ⟨kp0, ekp⟩ : ∃ z, z = kp := ⟨_, rfl⟩
  obtain ⟨L0, eL⟩ : ∃ z, z = L := ⟨_, rfl⟩
  rw [show tw_Q D cs kp L = tw_Q D cs kp0 L0 by rw [ekp, eL]]
  have hex : ∀ a : Nat, a ∈ L0 → a ∈ L ∧ kp a = kp0 a := fun a h => ⟨by rw [← eL]; exact h, by rw [ekp]⟩
  have hF : tw_fr kp L [(4, 5)] [152] E E := tw_fr.rf
  refine lv_iload_n hx hb dX4_search_0 rfl (lv_at hl 2 rfl) ?_
  refine lv_iconst (v := 2) hx hb dX4_search_1 (by decide) ?_
  refine lv_iload_n hx hb dX4_search_2 rfl (lv_at hl 3 rfl) ?_
  refine lv_aload_n hx hb dX4_search_3 rfl (lv_at hl 0 rfl) ?_
  refine tw_get (ci := 4) (C := RX4) (T := TX4) (N := 7) hx hb hB cx_inX4 hown hK TH hm0 hk0 rfl ⟨by decide, rfl⟩ 0 (by decide) cw_197 (fun _ h9 => h9) dX4_search_4 (fun hv => ?_)
  obtain ⟨xr1, hxr1, hmxr1, hkxr1⟩ : ∃ a : Nat, tw_fv E a0 0 = .ref a ∧ a ∈ L ∧ kp a = 10 := hv
  rw [hxr1]
  refine tw_get (ci := 10) (C := RX10) (T := TX10) (N := 8) hx hb hB cx_inX10 hown hK TH hmxr1 hkxr1 rfl ⟨by decide, rfl⟩ 0 (by decide) cw_118 (fun _ h9 => h9) dX4_search_7 (fun hv => ?_)
  obtain ⟨xi2, hxi2, hxi2a, hxi2b⟩ : ∃ x : Int32, tw_fv E xr1 0 = .int x ∧ 0 ≤ x.toInt ∧ x.toInt ≤ 40 := hv
  rw [hxi2]
  refine lv_iload_n hx hb dX4_search_10 rfl (lv_at hl 1 rfl) ?_
  refine lv_isub hx hb dX4_search_11 ?_
  refine lv_topi (fun zi3 ezi3 => ?_)
  have hzi3 : zi3.toInt = xi2.toInt - x1.toInt := by rw [ezi3];  have := ia_lo xi2; have := ia_hi xi2; have := ia_lo x1; have := ia_hi x1; exact (ia_sub (by omega) (by omega)).trans (by omega)
  refine lv_isub hx hb dX4_search_12 ?_
  refine lv_topi (fun zi4 ezi4 => ?_)
  refine va_mabs hx hb (hml.trans hl.1.symm) hown (hB _ cw_760) (hB _ cw_761) (hB _ cw_19) (hB _ cw_762) (Nat.le_of_ble_eq_true rfl) (Nat.le_of_ble_eq_true rfl) (Nat.le_of_ble_eq_true rfl) (Nat.le_of_ble_eq_true rfl) dX4_search_13 ?_
  refine lv_topi (fun zi5 ezi5 => ?_)
  refine lv_imul hx hb dX4_search_16 ?_
  refine lv_topi (fun zi6 ezi6 => ?_)
  refine lv_iadd hx hb dX4_search_17 ?_
  refine lv_topi (fun zi7 ezi7 => ?_)
  refine lv_istore (lv' := [(4, .int zi7), (0, .ref a0), (1, .int x1), (2, .int x2), (3, .int x3)]) hx hb dX4_search_18 hl (by decide) rfl (fun ls hl => ?_)
  refine lv_iload hx hb dX4_search_20 (lv_at hl 0 rfl) ?_
  refine lv_aload_n hx hb dX4_search_22 rfl (lv_at hl 1 rfl) ?_
  refine tw_get (ci := 4) (C := RX4) (T := TX4) (N := 7) hx hb hB cx_inX4 hown hK TH hm0 hk0 rfl ⟨by decide, rfl⟩ 5 (by decide) cw_202 (fun _ h9 => h9) dX4_search_23 (fun hv => ?_)
  obtain ⟨xi8, hxi8, hxi8a, hxi8b⟩ : ∃ x : Int32, tw_fv E a0 5 = .int x ∧ (-2147483648) ≤ x.toInt ∧ x.toInt ≤ 2147483647 := hv
  rw [hxi8]
  refine lv_icmp_lt (tgt := 30) hx hb dX4_search_26 (by decide) (fun hc9 => ?_) (fun hc9 => ?_)
  · have hf10 : zi7.toInt < xi8.toInt := by have z := (fa_lt _ _).mp hc9;  omega
    refine lv_iload_n hx hb dX4_search_30 rfl (lv_at hl 2 rfl) ?_
    refine lv_aload_n hx hb dX4_search_31 rfl (lv_at hl 1 rfl) ?_
    refine tw_get (ci := 4) (C := RX4) (T := TX4) (N := 7) hx hb hB cx_inX4 hown hK TH hm0 hk0 rfl ⟨by decide, rfl⟩ 0 (by decide) cw_197 (fun _ h9 => h9) dX4_search_32 (fun hv => ?_)
    rw [hxr1]
    refine tw_get (ci := 10) (C := RX10) (T := TX10) (N := 8) hx hb hB cx_inX10 hown hK TH hmxr1 hkxr1 rfl ⟨by decide, rfl⟩ 0 (by decide) cw_118 (fun _ h9 => h9) dX4_search_35 (fun hv => ?_)
    rw [hxi2]
    have hJ47 : ∀  (H : Heap) (locs : List Loc) (ls : Array Slot), tw_H D cs kp L E A H → va_S A s.heap H locs → lv_has ls 6 [(4, .int zi7), (0, .ref a0)] → W p l e { frames := 1, cells := 0, slots := 0, locals := 40 } s m [.ref a0, .int x1, .int x2, .int x3].toArray below meth c H locs 0 0 (MQ below (tw_Q D cs kp0 L0 (fun v kq Lq Eq => v = none ∧ kp = kq ∧ L = Lq ∧ tw_fr kp L [(4, 5)] [152] E Eq) A) [.ref a0, .int x1, .int x2, .int x3].toArray s 0 0 A) (F0 m 47 ls []) := by
      intro H locs ls TH hS hl
      refine lv_aload_n hx hb dX4_search_47 rfl (lv_at hl 1 rfl) ?_
      refine lv_iload hx hb dX4_search_48 (lv_at hl 0 rfl) ?_
      refine tw_put (ci := 4) (v := .int zi7) (ty := .int) (C := RX4) (T := TX4) (N := 7) hx hb hB cx_inX4 tyX4 tyX4_ok nmX4 hown hK TH hS hm0 hk0 rfl ⟨by decide, rfl⟩ 5 (by decide) cw_202 (fun _ h9 => h9) rfl (by decide +kernel) rfl rfl ⟨_, rfl, (ia_lo _), (ia_hi _)⟩ dX4_search_50 (fun H locs E11 TH hS hmf15 hp12 hp13 => ?_)
      have hst14 : tw_fr kp L [(4, 5)] [] E E11 := tw_fr.put tw_fr.rf (fun _ => hk0) (by decide) hp12 hp13 (by decide)
      have hF := hF.tr hst14 (fun _ h => ⟨h, rfl⟩) (by decide) (by decide)
      have hmf16 : tw_fv E11 a0 0 = .ref xr1 := (hst14.1 a0 0 hm0 (by rw [hk0]; decide)).trans hxr1
      have hmf17 : tw_fv E11 xr1 0 = .int xi2 := (hst14.1 xr1 0 hmxr1 (by rw [hkxr1]; decide)).trans hxi2
      refine lv_aload_n hx hb dX4_search_53 rfl (lv_at hl 1 rfl) ?_
      refine tw_get (ci := 4) (C := RX4) (T := TX4) (N := 7) hx hb hB cx_inX4 hown hK TH hm0 hk0 rfl ⟨by decide, rfl⟩ 2 (by decide) cw_199 (fun _ h9 => h9) dX4_search_54 (fun hv => ?_)
      obtain ⟨xr18, hxr18, hmxr18, hkxr18⟩ : ∃ a : Nat, tw_fv E11 a0 2 = .ref a ∧ a ∈ L ∧ kp a = 150 := hv
      rw [hxr18]
      refine lv_iconst (v := 0) hx hb dX4_search_57 (by decide) ?_
      refine lv_aload_n hx hb dX4_search_58 rfl (lv_at hl 1 rfl) ?_
      refine tw_get (ci := 4) (C := RX4) (T := TX4) (N := 7) hx hb hB cx_inX4 hown hK TH hm0 hk0 rfl ⟨by decide, rfl⟩ 4 (by decide) cw_201 (fun _ h9 => h9) dX4_search_59 (fun hv => ?_)
      obtain ⟨xr19, hxr19, hmxr19, hkxr19⟩ : ∃ a : Nat, tw_fv E11 a0 4 = .ref a ∧ a ∈ L ∧ kp a = 152 := hv
      rw [hxr19]
      refine lv_iconst (v := 0) hx hb dX4_search_62 (by decide) ?_
      refine lv_bipush (v := 40) hx hb dX4_search_63 (by decide) ?_
      refine tw_copyi (n0 := 40) (n1 := 40) (lo0 := (-1)) (hi0 := 39) (lo := (-1)) (hi := 39) hx hb (hml.trans hl.1.symm) hown (hB _ cw_763) (hB _ cw_606) (hB _ cw_605) (hB _ cw_18) hK TH hS hmxr18 hkxr18 (by decide) rfl hmxr19 hkxr19 (by decide) rfl (by decide) (by decide) (by have : ((0 : Int32).toInt) = 0 := (by decide); omega) (by have : ((0 : Int32).toInt) = 0 := (by decide); omega) (by have : ((40 : Int32).toInt) = 40 := (by decide); omega) (by have : ((0 : Int32).toInt) = 0 := (by decide); have : ((40 : Int32).toInt) = 40 := (by decide); omega) (by have : ((0 : Int32).toInt) = 0 := (by decide); have : ((40 : Int32).toInt) = 40 := (by decide); omega) (Nat.le_of_ble_eq_true rfl) (Nat.le_of_ble_eq_true rfl) dX4_search_65 (fun H locs E20 TH hS hp21 hp22 hp23 => ?_)
      have hst24 : tw_fr kp L [] [152] E11 E20 := tw_fr.ast tw_fr.rf (fun _ => hkxr19) hp21 hp22 (by decide)
      have hF := hF.tr hst24 (fun _ h => ⟨h, rfl⟩) (by decide) (by decide)
      have hmf25 : tw_fv E20 a0 0 = .ref xr1 := (hst24.1 a0 0 hm0 (by rw [hk0]; decide)).trans hmf16
      have hmf26 : tw_fv E20 xr1 0 = .int xi2 := (hst24.1 xr1 0 hmxr1 (by rw [hkxr1]; decide)).trans hmf17
      have hmf27 : tw_fv E20 a0 5 = .int zi7 := (hst24.1 a0 5 hm0 (by rw [hk0]; decide)).trans hmf15
      have hmf28 : tw_fv E20 a0 2 = .ref xr18 := (hst24.1 a0 2 hm0 (by rw [hk0]; decide)).trans hxr18
      have hmf29 : tw_fv E20 a0 4 = .ref xr19 := (hst24.1 a0 4 hm0 (by rw [hk0]; decide)).trans hxr19
      exact tw_vret hx hb hr hlocks TH hS hex ⟨rfl, rfl, rfl, hF⟩ (Nat.le_of_ble_eq_true rfl) (Nat.le_of_ble_eq_true rfl) dX4_search_68
    refine lv_icmp_ge (tgt := 47) hx hb dX4_search_38 (by decide) (fun hc30 => ?_) (fun hc30 => ?_)
    · have hf31 : xi2.toInt ≤ x1.toInt := by have z := (fa_le _ _).mp hc30;  omega
      exact hJ47  _ _ ls  TH hS (lv_sub hl [0, 1] rfl)
    · have hf32 : ¬ (xi2.toInt ≤ x1.toInt) := fun q => hc30 ((fa_le _ _).mpr (by  omega))
      refine lv_iload_n hx hb dX4_search_41 rfl (lv_at hl 2 rfl) ?_
      refine lv_bipush (v := 6) hx hb dX4_search_42 (by decide) ?_
      refine lv_icmp_lt (tgt := 69) hx hb dX4_search_44 (by decide) (fun hc33 => ?_) (fun hc33 => ?_)
      · have hf34 : x1.toInt < 6 := by have z := (fa_lt _ _).mp hc33; have : ((6 : Int32).toInt) = 6 := (by decide); omega
        exfalso; omega
      · have hf35 : ¬ (x1.toInt < 6) := fun q => hc33 ((fa_lt _ _).mpr (by have : ((6 : Int32).toInt) = 6 := (by decide); omega))
        exact hJ47  _ _ ls  TH hS (lv_sub hl [0, 1] rfl)
  · have hf36 : ¬ (zi7.toInt < xi8.toInt) := fun q => hc9 ((fa_lt _ _).mpr (by  omega))
    exact tw_vret hx hb hr hlocks TH hS hex ⟨rfl, rfl, rfl, hF⟩ (Nat.le_of_ble_eq_true rfl) (Nat.le_of_ble_eq_true rfl) dX4_search_29
set_option maxHeartbeats 4000000 in
set_option maxRecDepth 100000 in
theorem tX4_search_v5 (l : Launch) (D : va_G) (cs : Nat → ClassId) {kp : Nat → Nat} {L : List Nat} {E : Nat → va_E} (a0 : Nat) (x1 : Int32) (x2 : Int32) (x3 : Int32) (hm0 : a0 ∈ L) (hk0 : kp a0 = 4) (hp1a : 5 ≤ x1.toInt) (hp1b : x1.toInt ≤ 5) (sz : Nat) : Met l yX4_search (.code yX4_search cX4_search 6 none :: cx_big) { frames := 2, cells := 0, slots := 0, locals := 65 } (tw_P D cs kp L E [.ref a0, .int x1, .int x2, .int x3] sz) (tw_Q D cs kp L (fun v kq Lq Eq => v = none ∧ kp = kq ∧ L = Lq ∧ tw_fr kp L [(4, 5)] [150, 151, 152] E Eq) (va_A (va_pl L E) sz)) 0 0 (va_A (va_pl L E) sz) := by
  refine tw_ofW (by decide) (Nat.le_of_ble_eq_true rfl) ?_
  intro p e s m below meth c A ls hx hb hr hml hB hown hlocks hK hN hA TH hS hl
  have hown : s.vm.findClass "TreeMerge$Matcher" = some m.cls := hown
  have hl : lv_has ls 6 [(0, .ref a0), (1, .int x1), (2, .int x2), (3, .int x3)] := hl
  obtain ⟨kp0, ekp⟩ : ∃ z, z = kp := ⟨_, rfl⟩
  obtain ⟨L0, eL⟩ : ∃ z, z = L := ⟨_, rfl⟩
  rw [show tw_Q D cs kp L = tw_Q D cs kp0 L0 by rw [ekp, eL]]
  have hex : ∀ a : Nat, a ∈ L0 → a ∈ L ∧ kp a = kp0 a := fun a h => ⟨by rw [← eL]; exact h, by rw [ekp]⟩
  have hF : tw_fr kp L [(4, 5)] [150, 151, 152] E E := tw_fr.rf
  refine lv_iload_n hx hb dX4_search_0 rfl (lv_at hl 2 rfl) ?_
  refine lv_iconst (v := 2) hx hb dX4_search_1 (by decide) ?_
  refine lv_iload_n hx hb dX4_search_2 rfl (lv_at hl 3 rfl) ?_
  refine lv_aload_n hx hb dX4_search_3 rfl (lv_at hl 0 rfl) ?_
  refine tw_get (ci := 4) (C := RX4) (T := TX4) (N := 7) hx hb hB cx_inX4 hown hK TH hm0 hk0 rfl ⟨by decide, rfl⟩ 0 (by decide) cw_197 (fun _ h9 => h9) dX4_search_4 (fun hv => ?_)
  obtain ⟨xr1, hxr1, hmxr1, hkxr1⟩ : ∃ a : Nat, tw_fv E a0 0 = .ref a ∧ a ∈ L ∧ kp a = 10 := hv
  rw [hxr1]
  refine tw_get (ci := 10) (C := RX10) (T := TX10) (N := 8) hx hb hB cx_inX10 hown hK TH hmxr1 hkxr1 rfl ⟨by decide, rfl⟩ 0 (by decide) cw_118 (fun _ h9 => h9) dX4_search_7 (fun hv => ?_)
  obtain ⟨xi2, hxi2, hxi2a, hxi2b⟩ : ∃ x : Int32, tw_fv E xr1 0 = .int x ∧ 0 ≤ x.toInt ∧ x.toInt ≤ 40 := hv
  rw [hxi2]
  refine lv_iload_n hx hb dX4_search_10 rfl (lv_at hl 1 rfl) ?_
  refine lv_isub hx hb dX4_search_11 ?_
  refine lv_topi (fun zi3 ezi3 => ?_)
  have hzi3 : zi3.toInt = xi2.toInt - x1.toInt := by rw [ezi3];  have := ia_lo xi2; have := ia_hi xi2; have := ia_lo x1; have := ia_hi x1; exact (ia_sub (by omega) (by omega)).trans (by omega)
  refine lv_isub hx hb dX4_search_12 ?_
  refine lv_topi (fun zi4 ezi4 => ?_)
  refine va_mabs hx hb (hml.trans hl.1.symm) hown (hB _ cw_760) (hB _ cw_761) (hB _ cw_19) (hB _ cw_762) (Nat.le_of_ble_eq_true rfl) (Nat.le_of_ble_eq_true rfl) (Nat.le_of_ble_eq_true rfl) (Nat.le_of_ble_eq_true rfl) dX4_search_13 ?_
  refine lv_topi (fun zi5 ezi5 => ?_)
  refine lv_imul hx hb dX4_search_16 ?_
  refine lv_topi (fun zi6 ezi6 => ?_)
  refine lv_iadd hx hb dX4_search_17 ?_
  refine lv_topi (fun zi7 ezi7 => ?_)
  refine lv_istore (lv' := [(4, .int zi7), (0, .ref a0), (1, .int x1), (2, .int x2), (3, .int x3)]) hx hb dX4_search_18 hl (by decide) rfl (fun ls hl => ?_)
  refine lv_iload hx hb dX4_search_20 (lv_at hl 0 rfl) ?_
  refine lv_aload_n hx hb dX4_search_22 rfl (lv_at hl 1 rfl) ?_
  refine tw_get (ci := 4) (C := RX4) (T := TX4) (N := 7) hx hb hB cx_inX4 hown hK TH hm0 hk0 rfl ⟨by decide, rfl⟩ 5 (by decide) cw_202 (fun _ h9 => h9) dX4_search_23 (fun hv => ?_)
  obtain ⟨xi8, hxi8, hxi8a, hxi8b⟩ : ∃ x : Int32, tw_fv E a0 5 = .int x ∧ (-2147483648) ≤ x.toInt ∧ x.toInt ≤ 2147483647 := hv
  rw [hxi8]
  refine lv_icmp_lt (tgt := 30) hx hb dX4_search_26 (by decide) (fun hc9 => ?_) (fun hc9 => ?_)
  · have hf10 : zi7.toInt < xi8.toInt := by have z := (fa_lt _ _).mp hc9;  omega
    refine lv_iload_n hx hb dX4_search_30 rfl (lv_at hl 2 rfl) ?_
    refine lv_aload_n hx hb dX4_search_31 rfl (lv_at hl 1 rfl) ?_
    refine tw_get (ci := 4) (C := RX4) (T := TX4) (N := 7) hx hb hB cx_inX4 hown hK TH hm0 hk0 rfl ⟨by decide, rfl⟩ 0 (by decide) cw_197 (fun _ h9 => h9) dX4_search_32 (fun hv => ?_)
    rw [hxr1]
    refine tw_get (ci := 10) (C := RX10) (T := TX10) (N := 8) hx hb hB cx_inX10 hown hK TH hmxr1 hkxr1 rfl ⟨by decide, rfl⟩ 0 (by decide) cw_118 (fun _ h9 => h9) dX4_search_35 (fun hv => ?_)
    rw [hxi2]
    have hJ47 : ∀  (H : Heap) (locs : List Loc) (ls : Array Slot), tw_H D cs kp L E A H → va_S A s.heap H locs → lv_has ls 6 [(4, .int zi7), (0, .ref a0)] → W p l e { frames := 2, cells := 0, slots := 0, locals := 65 } s m [.ref a0, .int x1, .int x2, .int x3].toArray below meth c H locs 0 0 (MQ below (tw_Q D cs kp0 L0 (fun v kq Lq Eq => v = none ∧ kp = kq ∧ L = Lq ∧ tw_fr kp L [(4, 5)] [150, 151, 152] E Eq) A) [.ref a0, .int x1, .int x2, .int x3].toArray s 0 0 A) (F0 m 47 ls []) := by
      intro H locs ls TH hS hl
      refine lv_aload_n hx hb dX4_search_47 rfl (lv_at hl 1 rfl) ?_
      refine lv_iload hx hb dX4_search_48 (lv_at hl 0 rfl) ?_
      refine tw_put (ci := 4) (v := .int zi7) (ty := .int) (C := RX4) (T := TX4) (N := 7) hx hb hB cx_inX4 tyX4 tyX4_ok nmX4 hown hK TH hS hm0 hk0 rfl ⟨by decide, rfl⟩ 5 (by decide) cw_202 (fun _ h9 => h9) rfl (by decide +kernel) rfl rfl ⟨_, rfl, (ia_lo _), (ia_hi _)⟩ dX4_search_50 (fun H locs E11 TH hS hmf15 hp12 hp13 => ?_)
      have hst14 : tw_fr kp L [(4, 5)] [] E E11 := tw_fr.put tw_fr.rf (fun _ => hk0) (by decide) hp12 hp13 (by decide)
      have hF := hF.tr hst14 (fun _ h => ⟨h, rfl⟩) (by decide) (by decide)
      have hmf16 : tw_fv E11 a0 0 = .ref xr1 := (hst14.1 a0 0 hm0 (by rw [hk0]; decide)).trans hxr1
      have hmf17 : tw_fv E11 xr1 0 = .int xi2 := (hst14.1 xr1 0 hmxr1 (by rw [hkxr1]; decide)).trans hxi2
      refine lv_aload_n hx hb dX4_search_53 rfl (lv_at hl 1 rfl) ?_
      refine tw_get (ci := 4) (C := RX4) (T := TX4) (N := 7) hx hb hB cx_inX4 hown hK TH hm0 hk0 rfl ⟨by decide, rfl⟩ 2 (by decide) cw_199 (fun _ h9 => h9) dX4_search_54 (fun hv => ?_)
      obtain ⟨xr18, hxr18, hmxr18, hkxr18⟩ : ∃ a : Nat, tw_fv E11 a0 2 = .ref a ∧ a ∈ L ∧ kp a = 150 := hv
      rw [hxr18]
      refine lv_iconst (v := 0) hx hb dX4_search_57 (by decide) ?_
      refine lv_aload_n hx hb dX4_search_58 rfl (lv_at hl 1 rfl) ?_
      refine tw_get (ci := 4) (C := RX4) (T := TX4) (N := 7) hx hb hB cx_inX4 hown hK TH hm0 hk0 rfl ⟨by decide, rfl⟩ 4 (by decide) cw_201 (fun _ h9 => h9) dX4_search_59 (fun hv => ?_)
      obtain ⟨xr19, hxr19, hmxr19, hkxr19⟩ : ∃ a : Nat, tw_fv E11 a0 4 = .ref a ∧ a ∈ L ∧ kp a = 152 := hv
      rw [hxr19]
      refine lv_iconst (v := 0) hx hb dX4_search_62 (by decide) ?_
      refine lv_bipush (v := 40) hx hb dX4_search_63 (by decide) ?_
      refine tw_copyi (n0 := 40) (n1 := 40) (lo0 := (-1)) (hi0 := 39) (lo := (-1)) (hi := 39) hx hb (hml.trans hl.1.symm) hown (hB _ cw_763) (hB _ cw_606) (hB _ cw_605) (hB _ cw_18) hK TH hS hmxr18 hkxr18 (by decide) rfl hmxr19 hkxr19 (by decide) rfl (by decide) (by decide) (by have : ((0 : Int32).toInt) = 0 := (by decide); omega) (by have : ((0 : Int32).toInt) = 0 := (by decide); omega) (by have : ((40 : Int32).toInt) = 40 := (by decide); omega) (by have : ((0 : Int32).toInt) = 0 := (by decide); have : ((40 : Int32).toInt) = 40 := (by decide); omega) (by have : ((0 : Int32).toInt) = 0 := (by decide); have : ((40 : Int32).toInt) = 40 := (by decide); omega) (Nat.le_of_ble_eq_true rfl) (Nat.le_of_ble_eq_true rfl) dX4_search_65 (fun H locs E20 TH hS hp21 hp22 hp23 => ?_)
      have hst24 : tw_fr kp L [] [152] E11 E20 := tw_fr.ast tw_fr.rf (fun _ => hkxr19) hp21 hp22 (by decide)
      have hF := hF.tr hst24 (fun _ h => ⟨h, rfl⟩) (by decide) (by decide)
      have hmf25 : tw_fv E20 a0 0 = .ref xr1 := (hst24.1 a0 0 hm0 (by rw [hk0]; decide)).trans hmf16
      have hmf26 : tw_fv E20 xr1 0 = .int xi2 := (hst24.1 xr1 0 hmxr1 (by rw [hkxr1]; decide)).trans hmf17
      have hmf27 : tw_fv E20 a0 5 = .int zi7 := (hst24.1 a0 5 hm0 (by rw [hk0]; decide)).trans hmf15
      have hmf28 : tw_fv E20 a0 2 = .ref xr18 := (hst24.1 a0 2 hm0 (by rw [hk0]; decide)).trans hxr18
      have hmf29 : tw_fv E20 a0 4 = .ref xr19 := (hst24.1 a0 4 hm0 (by rw [hk0]; decide)).trans hxr19
      exact tw_vret hx hb hr hlocks TH hS hex ⟨rfl, rfl, rfl, hF⟩ (Nat.le_of_ble_eq_true rfl) (Nat.le_of_ble_eq_true rfl) dX4_search_68
    refine lv_icmp_ge (tgt := 47) hx hb dX4_search_38 (by decide) (fun hc30 => ?_) (fun hc30 => ?_)
    · have hf31 : xi2.toInt ≤ x1.toInt := by have z := (fa_le _ _).mp hc30;  omega
      exact hJ47  _ _ ls  TH hS (lv_sub hl [0, 1] rfl)
    · have hf32 : ¬ (xi2.toInt ≤ x1.toInt) := fun q => hc30 ((fa_le _ _).mpr (by  omega))
      refine lv_iload_n hx hb dX4_search_41 rfl (lv_at hl 2 rfl) ?_
      refine lv_bipush (v := 6) hx hb dX4_search_42 (by decide) ?_
      refine lv_icmp_lt (tgt := 69) hx hb dX4_search_44 (by decide) (fun hc33 => ?_) (fun hc33 => ?_)
      · have hf34 : x1.toInt < 6 := by have z := (fa_lt _ _).mp hc33; have : ((6 : Int32).toInt) = 6 := (by decide); omega
        refine lv_iconst (v := 1) hx hb dX4_search_69 (by decide) ?_
        refine lv_istore (lv' := [(5, .int 1), (4, .int zi7), (0, .ref a0), (1, .int x1), (2, .int x2), (3, .int x3)]) hx hb dX4_search_70 hl (by decide) rfl (fun ls hl => ?_)
        have hJ72 : ∀ (n72 : Nat) (y72_5 : Int32) (Eg72 : Nat → va_E) (H : Heap) (locs : List Loc) (ls : Array Slot), 1 ≤ y72_5.toInt → y72_5.toInt ≤ 40 → 40 - y72_5.toInt ≤ (n72 : Int) → tw_fr kp L [(4, 5)] [150, 151, 152] E Eg72 → tw_H D cs kp L Eg72 A H → va_S A s.heap H locs → lv_has ls 6 [(5, .int y72_5), (0, .ref a0), (1, .int x1), (2, .int x2), (3, .int x3)] → W p l e { frames := 2, cells := 0, slots := 0, locals := 65 } s m [.ref a0, .int x1, .int x2, .int x3].toArray below meth c H locs 0 0 (MQ below (tw_Q D cs kp0 L0 (fun v kq Lq Eq => v = none ∧ kp = kq ∧ L = Lq ∧ tw_fr kp L [(4, 5)] [150, 151, 152] E Eq) A) [.ref a0, .int x1, .int x2, .int x3].toArray s 0 0 A) (F0 m 72 ls []) := by
          intro n72
          induction n72 using Nat.strongRecOn with
          | _ n72 ih72 =>
            intro y72_5 Eg72 H locs ls hy72_5a hy72_5b hmeas72 hG72 TH hS hl
            have hF := hF.tr hG72 (fun _ h => ⟨h, rfl⟩) (by decide) (by decide)
            have hmf35 : tw_fv Eg72 a0 0 = .ref xr1 := (hG72.1 a0 0 hm0 (by rw [hk0]; decide)).trans hxr1
            have hmf36 : tw_fv Eg72 xr1 0 = .int xi2 := (hG72.1 xr1 0 hmxr1 (by rw [hkxr1]; decide)).trans hxi2
            refine lv_iload hx hb dX4_search_72 (lv_at hl 0 rfl) ?_
            refine lv_aload_n hx hb dX4_search_74 rfl (lv_at hl 1 rfl) ?_
            refine tw_get (ci := 4) (C := RX4) (T := TX4) (N := 7) hx hb hB cx_inX4 hown hK TH hm0 hk0 rfl ⟨by decide, rfl⟩ 1 (by decide) cw_198 (fun _ h9 => h9) dX4_search_75 (fun hv => ?_)
            obtain ⟨xr37, hxr37, hmxr37, hkxr37⟩ : ∃ a : Nat, tw_fv Eg72 a0 1 = .ref a ∧ a ∈ L ∧ kp a = 10 := hv
            rw [hxr37]
            refine tw_get (ci := 10) (C := RX10) (T := TX10) (N := 8) hx hb hB cx_inX10 hown hK TH hmxr37 hkxr37 rfl ⟨by decide, rfl⟩ 0 (by decide) cw_118 (fun _ h9 => h9) dX4_search_78 (fun hv => ?_)
            obtain ⟨xi38, hxi38, hxi38a, hxi38b⟩ : ∃ x : Int32, tw_fv Eg72 xr37 0 = .int x ∧ 0 ≤ x.toInt ∧ x.toInt ≤ 40 := hv
            rw [hxi38]
            refine lv_icmp_ge (tgt := 164) hx hb dX4_search_81 (by decide) (fun hc39 => ?_) (fun hc39 => ?_)
            · have hf40 : xi38.toInt ≤ y72_5.toInt := by have z := (fa_le _ _).mp hc39;  omega
              refine lv_aload_n hx hb dX4_search_164 rfl (lv_at hl 1 rfl) ?_
              refine lv_iload_n hx hb dX4_search_165 rfl (lv_at hl 2 rfl) ?_
              refine lv_iconst (v := 1) hx hb dX4_search_166 (by decide) ?_
              refine lv_iadd hx hb dX4_search_167 ?_
              refine lv_topi (fun zi41 ezi41 => ?_)
              have hzi41 : zi41.toInt = x1.toInt + 1 := by rw [ezi41]; have : ((1 : Int32).toInt) = 1 := (by decide); have := ia_lo x1; have := ia_hi x1; exact (ia_add (by omega) (by omega)).trans (by omega)
              refine lv_iload_n hx hb dX4_search_168 rfl (lv_at hl 3 rfl) ?_
              refine lv_iconst (v := 2) hx hb dX4_search_169 (by decide) ?_
              refine lv_iadd hx hb dX4_search_170 ?_
              refine lv_topi (fun zi42 ezi42 => ?_)
              refine lv_iload_n hx hb dX4_search_171 rfl (lv_at hl 4 rfl) ?_
              refine tw_Vc (o := a0) (ci := 4) (n := 3) (post := (fun v kq Lq Eq => v = none ∧ kp = kq ∧ L = Lq ∧ tw_fr kp L [(4, 5)] [152] Eg72 Eq)) (As := [.int zi41, .int zi42, .int x3]) (rest := []) ⟨hx, hb, hml, hown, hB⟩ (fun sz => tX4_search_v6 l D cs a0 zi41 zi42 x3 hm0 hk0 (by omega) (by omega) sz) cg_4_53_X4_search rfl rfl (by decide +kernel) ⟨Nat.le_of_ble_eq_true rfl, Nat.le_of_ble_eq_true rfl⟩ hK hN TH hS hA rfl hm0 hk0 (by decide) rfl hl.1 rfl (Nat.le_of_ble_eq_true rfl) dX4_search_172 ⟨Nat.le_of_ble_eq_true rfl, Nat.le_of_ble_eq_true rfl⟩ (fun v43 kp43 L43 E43 H locs hq43 hx43 TH hS => ?_)
              obtain ⟨rfl, rfl, rfl, hst43⟩ := hq43
              have hF := hF.tr hst43 (fun _ h => ⟨h, rfl⟩) (by decide) (by decide)
              have hG72 := hG72.tr hst43 (fun _ h => ⟨h, rfl⟩) (by decide) (by decide)
              have hmf45 : tw_fv E43 a0 0 = .ref xr1 := (hst43.1 a0 0 hm0 (by rw [hk0]; decide)).trans hmf35
              have hmf46 : tw_fv E43 xr1 0 = .int xi2 := (hst43.1 xr1 0 hmxr1 (by rw [hkxr1]; decide)).trans hmf36
              have hmf47 : tw_fv E43 a0 1 = .ref xr37 := (hst43.1 a0 1 hm0 (by rw [hk0]; decide)).trans hxr37
              have hmf48 : tw_fv E43 xr37 0 = .int xi38 := (hst43.1 xr37 0 hmxr37 (by rw [hkxr37]; decide)).trans hxi38
              refine W.eq (g2 := F0 m 175 ls []) rfl ?_
              exact tw_vret hx hb hr hlocks TH hS hex ⟨rfl, rfl, rfl, hF⟩ (Nat.le_of_ble_eq_true rfl) (Nat.le_of_ble_eq_true rfl) dX4_search_175
            · have hf49 : ¬ (xi38.toInt ≤ y72_5.toInt) := fun q => hc39 ((fa_le _ _).mpr (by  omega))
              refine lv_aload_n hx hb dX4_search_84 rfl (lv_at hl 1 rfl) ?_
              refine tw_get (ci := 4) (C := RX4) (T := TX4) (N := 7) hx hb hB cx_inX4 hown hK TH hm0 hk0 rfl ⟨by decide, rfl⟩ 3 (by decide) cw_200 (fun _ h9 => h9) dX4_search_85 (fun hv => ?_)
              obtain ⟨xr50, hxr50, hmxr50, hkxr50⟩ : ∃ a : Nat, tw_fv Eg72 a0 3 = .ref a ∧ a ∈ L ∧ kp a = 151 := hv
              rw [hxr50]
              refine lv_iload hx hb dX4_search_88 (lv_at hl 0 rfl) ?_
              refine tw_iald (k := 151) (t0 := 0) (n := 40) (lo := (-1)) (hi := 39) hx hb hK TH hmxr50 hkxr50 (by decide) rfl rfl (i := y72_5) (vp_in_iff.mpr ⟨by  omega, by  omega⟩) dX4_search_90 (fun hxe51a hxe51b => ?_)
              obtain ⟨xe51, exe51⟩ : ∃ z : Int32, tw_iv Eg72 xr50 (Int32.toNatClampNeg y72_5) = z := ⟨_, rfl⟩
              rw [exe51] at hxe51a hxe51b ⊢
              refine lv_iconst (v := (-1)) hx hb dX4_search_91 (by decide) ?_
              have hJ158 : ∀  (Eg158 : Nat → va_E) (H : Heap) (locs : List Loc) (ls : Array Slot), tw_fr kp L [(4, 5)] [150, 151, 152] Eg72 Eg158 → tw_H D cs kp L Eg158 A H → va_S A s.heap H locs → lv_has ls 6 [(5, .int y72_5), (0, .ref a0), (1, .int x1), (2, .int x2), (3, .int x3)] → W p l e { frames := 2, cells := 0, slots := 0, locals := 65 } s m [.ref a0, .int x1, .int x2, .int x3].toArray below meth c H locs 0 0 (MQ below (tw_Q D cs kp0 L0 (fun v kq Lq Eq => v = none ∧ kp = kq ∧ L = Lq ∧ tw_fr kp L [(4, 5)] [150, 151, 152] E Eq) A) [.ref a0, .int x1, .int x2, .int x3].toArray s 0 0 A) (F0 m 158 ls []) := by
                intro Eg158 H locs ls hG158 TH hS hl
                have hF := hF.tr hG158 (fun _ h => ⟨h, rfl⟩) (by decide) (by decide)
                have hG72 := hG72.tr hG158 (fun _ h => ⟨h, rfl⟩) (by decide) (by decide)
                have hmf52 : tw_fv Eg158 a0 0 = .ref xr1 := (hG158.1 a0 0 hm0 (by rw [hk0]; decide)).trans hmf35
                have hmf53 : tw_fv Eg158 xr1 0 = .int xi2 := (hG158.1 xr1 0 hmxr1 (by rw [hkxr1]; decide)).trans hmf36
                have hmf54 : tw_fv Eg158 a0 1 = .ref xr37 := (hG158.1 a0 1 hm0 (by rw [hk0]; decide)).trans hxr37
                have hmf55 : tw_fv Eg158 xr37 0 = .int xi38 := (hG158.1 xr37 0 hmxr37 (by rw [hkxr37]; decide)).trans hxi38
                have hmf56 : tw_fv Eg158 a0 3 = .ref xr50 := (hG158.1 a0 3 hm0 (by rw [hk0]; decide)).trans hxr50
                obtain ⟨zi57, ezi57⟩ : ∃ z : Int32, z = y72_5 + Int32.ofInt 1 := ⟨_, rfl⟩
                have hzi57 : zi57.toInt = y72_5.toInt + 1 := by rw [ezi57]; have : ((Int32.ofInt 1).toInt) = 1 := (by decide);  exact (ia_add (by omega) (by omega)).trans (by omega)
                refine lv_iinc (v := zi57) (lv' := [(5, .int zi57), (0, .ref a0), (1, .int x1), (2, .int x2), (3, .int x3)]) hx hb dX4_search_158 hl (k := 0) rfl ezi57.symm (by decide) rfl (fun ls hl => ?_)
                refine lv_goto (tgt := 72) hx hb dX4_search_161 (by decide) ?_
                exact ih72 (n72 - 1) (by   omega) zi57 _ _ _ ls (by omega) (by omega) (by   omega) hG72 TH hS (lv_sub hl [0, 1, 2, 3, 4] rfl)
              have hG158 : tw_fr kp L [(4, 5)] [150, 151, 152] Eg72 Eg72 := tw_fr.rf
              refine lv_icmp_ne (tgt := 158) hx hb dX4_search_92 (by decide) (fun hc58 => ?_) (fun hc58 => ?_)
              · have hf59 : ¬ (xe51.toInt = (-1)) := fun q => hc58 ((fa_eq _ _).mpr (by have : (((-1) : Int32).toInt) = (-1) := (by decide); omega))
                exact hJ158  _ _ _ ls hG158 TH hS (lv_sub hl [0, 1, 2, 3, 4] rfl)
              · have hf60 : xe51.toInt = (-1) := by have z := (fa_eq _ _).mp hc58; have : (((-1) : Int32).toInt) = (-1) := (by decide); omega
                refine lv_aload_n hx hb dX4_search_95 rfl (lv_at hl 1 rfl) ?_
                refine tw_get (ci := 4) (C := RX4) (T := TX4) (N := 7) hx hb hB cx_inX4 hown hK TH hm0 hk0 rfl ⟨by decide, rfl⟩ 0 (by decide) cw_197 (fun _ h9 => h9) dX4_search_96 (fun hv => ?_)
                rw [hmf35]
                refine tw_get (ci := 10) (C := RX10) (T := TX10) (N := 8) hx hb hB cx_inX10 hown hK TH hmxr1 hkxr1 rfl ⟨by decide, rfl⟩ 5 (by decide) cw_142 (fun _ h9 => h9) dX4_search_99 (fun hv => ?_)
                obtain ⟨xr61, hxr61, hmxr61, hkxr61⟩ : ∃ a : Nat, tw_fv Eg72 xr1 5 = .ref a ∧ a ∈ L ∧ kp a = 114 := hv
                rw [hxr61]
                refine lv_iload_n hx hb dX4_search_102 rfl (lv_at hl 2 rfl) ?_
                refine tw_iald (k := 114) (t0 := 0) (n := 40) (lo := (-1)) (hi := 9) hx hb hK TH hmxr61 hkxr61 (by decide) rfl rfl (i := x1) (vp_in_iff.mpr ⟨by  omega, by  omega⟩) dX4_search_103 (fun hxe62a hxe62b => ?_)
                obtain ⟨xe62, exe62⟩ : ∃ z : Int32, tw_iv Eg72 xr61 (Int32.toNatClampNeg x1) = z := ⟨_, rfl⟩
                rw [exe62] at hxe62a hxe62b ⊢
                refine lv_aload_n hx hb dX4_search_104 rfl (lv_at hl 1 rfl) ?_
                refine tw_get (ci := 4) (C := RX4) (T := TX4) (N := 7) hx hb hB cx_inX4 hown hK TH hm0 hk0 rfl ⟨by decide, rfl⟩ 1 (by decide) cw_198 (fun _ h9 => h9) dX4_search_105 (fun hv => ?_)
                rw [hxr37]
                refine tw_get (ci := 10) (C := RX10) (T := TX10) (N := 8) hx hb hB cx_inX10 hown hK TH hmxr37 hkxr37 rfl ⟨by decide, rfl⟩ 5 (by decide) cw_142 (fun _ h9 => h9) dX4_search_108 (fun hv => ?_)
                obtain ⟨xr63, hxr63, hmxr63, hkxr63⟩ : ∃ a : Nat, tw_fv Eg72 xr37 5 = .ref a ∧ a ∈ L ∧ kp a = 114 := hv
                rw [hxr63]
                refine lv_iload hx hb dX4_search_111 (lv_at hl 0 rfl) ?_
                refine tw_iald (k := 114) (t0 := 0) (n := 40) (lo := (-1)) (hi := 9) hx hb hK TH hmxr63 hkxr63 (by decide) rfl rfl (i := y72_5) (vp_in_iff.mpr ⟨by  omega, by  omega⟩) dX4_search_113 (fun hxe64a hxe64b => ?_)
                obtain ⟨xe64, exe64⟩ : ∃ z : Int32, tw_iv Eg72 xr63 (Int32.toNatClampNeg y72_5) = z := ⟨_, rfl⟩
                rw [exe64] at hxe64a hxe64b ⊢
                refine lv_icmp_ne (tgt := 158) hx hb dX4_search_114 (by decide) (fun hc65 => ?_) (fun hc65 => ?_)
                · have hf66 : ¬ (xe62.toInt = xe64.toInt) := fun q => hc65 ((fa_eq _ _).mpr (by  omega))
                  exact hJ158  _ _ _ ls hG158 TH hS (lv_sub hl [0, 1, 2, 3, 4] rfl)
                · have hf67 : xe62.toInt = xe64.toInt := by have z := (fa_eq _ _).mp hc65;  omega
                  refine lv_aload_n hx hb dX4_search_117 rfl (lv_at hl 1 rfl) ?_
                  refine lv_iload_n hx hb dX4_search_118 rfl (lv_at hl 2 rfl) ?_
                  refine lv_iload hx hb dX4_search_119 (lv_at hl 0 rfl) ?_
                  refine tw_Vc (o := a0) (ci := 4) (n := 2) (post := (fun v kq Lq Eq => v = none ∧ kp = kq ∧ L = Lq ∧ tw_fr kp L [] [150, 151] Eg72 Eq)) (As := [.int x1, .int y72_5]) (rest := []) ⟨hx, hb, hml, hown, hB⟩ (fun sz => tX4_link l D cs a0 x1 y72_5 hm0 hk0 (by omega) (by omega) (by omega) (by omega) sz) cg_4_34_X4_link rfl rfl (by decide +kernel) ⟨Nat.le_of_ble_eq_true rfl, Nat.le_of_ble_eq_true rfl⟩ hK hN TH hS hA rfl hm0 hk0 (by decide) rfl hl.1 rfl (Nat.le_of_ble_eq_true rfl) dX4_search_121 ⟨Nat.le_of_ble_eq_true rfl, Nat.le_of_ble_eq_true rfl⟩ (fun v68 kp68 L68 E68 H locs hq68 hx68 TH hS => ?_)
                  obtain ⟨rfl, rfl, rfl, hst68⟩ := hq68
                  have hF := hF.tr hst68 (fun _ h => ⟨h, rfl⟩) (by decide) (by decide)
                  have hG72 := hG72.tr hst68 (fun _ h => ⟨h, rfl⟩) (by decide) (by decide)
                  have hG158 := hG158.tr hst68 (fun _ h => ⟨h, rfl⟩) (by decide) (by decide)
                  have hmf70 : tw_fv E68 a0 0 = .ref xr1 := (hst68.1 a0 0 hm0 (by rw [hk0]; decide)).trans hmf35
                  have hmf71 : tw_fv E68 xr1 0 = .int xi2 := (hst68.1 xr1 0 hmxr1 (by rw [hkxr1]; decide)).trans hmf36
                  have hmf72 : tw_fv E68 a0 1 = .ref xr37 := (hst68.1 a0 1 hm0 (by rw [hk0]; decide)).trans hxr37
                  have hmf73 : tw_fv E68 xr37 0 = .int xi38 := (hst68.1 xr37 0 hmxr37 (by rw [hkxr37]; decide)).trans hxi38
                  have hmf74 : tw_fv E68 a0 3 = .ref xr50 := (hst68.1 a0 3 hm0 (by rw [hk0]; decide)).trans hxr50
                  have hmf75 : tw_fv E68 xr1 5 = .ref xr61 := (hst68.1 xr1 5 hmxr1 (by rw [hkxr1]; decide)).trans hxr61
                  have hmf76 : tw_fv E68 xr37 5 = .ref xr63 := (hst68.1 xr37 5 hmxr37 (by rw [hkxr37]; decide)).trans hxr63
                  refine W.eq (g2 := F0 m 124 ls []) rfl ?_
                  refine lv_aload_n hx hb dX4_search_124 rfl (lv_at hl 1 rfl) ?_
                  refine lv_iload_n hx hb dX4_search_125 rfl (lv_at hl 2 rfl) ?_
                  refine lv_iconst (v := 1) hx hb dX4_search_126 (by decide) ?_
                  refine lv_iadd hx hb dX4_search_127 ?_
                  refine lv_topi (fun zi77 ezi77 => ?_)
                  have hzi77 : zi77.toInt = x1.toInt + 1 := by rw [ezi77]; have : ((1 : Int32).toInt) = 1 := (by decide); have := ia_lo x1; have := ia_hi x1; exact (ia_add (by omega) (by omega)).trans (by omega)
                  refine lv_iload_n hx hb dX4_search_128 rfl (lv_at hl 3 rfl) ?_
                  refine lv_aload_n hx hb dX4_search_129 rfl (lv_at hl 1 rfl) ?_
                  refine lv_iload_n hx hb dX4_search_130 rfl (lv_at hl 2 rfl) ?_
                  refine lv_iload hx hb dX4_search_131 (lv_at hl 0 rfl) ?_
                  refine tw_Vc (o := a0) (ci := 4) (n := 2) (post := (fun v kq Lq Eq => (∃ x : Int32, v = some (.int x) ∧ 0 ≤ x.toInt ∧ x.toInt ≤ 2) ∧ kp = kq ∧ L = Lq ∧ E68 = Eq)) (As := [.int x1, .int y72_5]) (rest := [.int x2, .int zi77, .ref a0]) ⟨hx, hb, hml, hown, hB⟩ (fun sz => tX4_pairCost l D cs a0 x1 y72_5 hm0 hk0 (by omega) (by omega) (by omega) (by omega) sz) cg_4_49_X4_pairCost rfl rfl (by decide +kernel) ⟨Nat.le_of_ble_eq_true rfl, Nat.le_of_ble_eq_true rfl⟩ hK hN TH hS hA rfl hm0 hk0 (by decide) rfl hl.1 rfl (Nat.le_of_ble_eq_true rfl) dX4_search_133 ⟨Nat.le_of_ble_eq_true rfl, Nat.le_of_ble_eq_true rfl⟩ (fun v78 kp78 L78 E78 H locs hq78 hx78 TH hS => ?_)
                  obtain ⟨⟨xc79, rfl, hxc79a, hxc79b⟩, rfl, rfl, rfl⟩ := hq78
                  refine W.eq (g2 := F0 m 136 ls [.int xc79, .int x2, .int zi77, .ref a0]) rfl ?_
                  refine lv_iadd hx hb dX4_search_136 ?_
                  refine lv_topi (fun zi80 ezi80 => ?_)
                  refine lv_iload_n hx hb dX4_search_137 rfl (lv_at hl 4 rfl) ?_
                  refine lv_iconst (v := 1) hx hb dX4_search_138 (by decide) ?_
                  refine lv_isub hx hb dX4_search_139 ?_
                  refine lv_topi (fun zi81 ezi81 => ?_)
                  refine tw_Vc (o := a0) (ci := 4) (n := 3) (post := (fun v kq Lq Eq => v = none ∧ kp = kq ∧ L = Lq ∧ tw_fr kp L [(4, 5)] [152] E68 Eq)) (As := [.int zi77, .int zi80, .int zi81]) (rest := []) ⟨hx, hb, hml, hown, hB⟩ (fun sz => tX4_search_v6 l D cs a0 zi77 zi80 zi81 hm0 hk0 (by omega) (by omega) sz) cg_4_53_X4_search rfl rfl (by decide +kernel) ⟨Nat.le_of_ble_eq_true rfl, Nat.le_of_ble_eq_true rfl⟩ hK hN TH hS hA rfl hm0 hk0 (by decide) rfl hl.1 rfl (Nat.le_of_ble_eq_true rfl) dX4_search_140 ⟨Nat.le_of_ble_eq_true rfl, Nat.le_of_ble_eq_true rfl⟩ (fun v82 kp82 L82 E82 H locs hq82 hx82 TH hS => ?_)
                  obtain ⟨rfl, rfl, rfl, hst82⟩ := hq82
                  have hF := hF.tr hst82 (fun _ h => ⟨h, rfl⟩) (by decide) (by decide)
                  have hG72 := hG72.tr hst82 (fun _ h => ⟨h, rfl⟩) (by decide) (by decide)
                  have hG158 := hG158.tr hst82 (fun _ h => ⟨h, rfl⟩) (by decide) (by decide)
                  have hmf84 : tw_fv E82 a0 0 = .ref xr1 := (hst82.1 a0 0 hm0 (by rw [hk0]; decide)).trans hmf70
                  have hmf85 : tw_fv E82 xr1 0 = .int xi2 := (hst82.1 xr1 0 hmxr1 (by rw [hkxr1]; decide)).trans hmf71
                  have hmf86 : tw_fv E82 a0 1 = .ref xr37 := (hst82.1 a0 1 hm0 (by rw [hk0]; decide)).trans hmf72
                  have hmf87 : tw_fv E82 xr37 0 = .int xi38 := (hst82.1 xr37 0 hmxr37 (by rw [hkxr37]; decide)).trans hmf73
                  have hmf88 : tw_fv E82 a0 3 = .ref xr50 := (hst82.1 a0 3 hm0 (by rw [hk0]; decide)).trans hmf74
                  have hmf89 : tw_fv E82 xr1 5 = .ref xr61 := (hst82.1 xr1 5 hmxr1 (by rw [hkxr1]; decide)).trans hmf75
                  have hmf90 : tw_fv E82 xr37 5 = .ref xr63 := (hst82.1 xr37 5 hmxr37 (by rw [hkxr37]; decide)).trans hmf76
                  refine W.eq (g2 := F0 m 143 ls []) rfl ?_
                  refine lv_aload_n hx hb dX4_search_143 rfl (lv_at hl 1 rfl) ?_
                  refine tw_get (ci := 4) (C := RX4) (T := TX4) (N := 7) hx hb hB cx_inX4 hown hK TH hm0 hk0 rfl ⟨by decide, rfl⟩ 2 (by decide) cw_199 (fun _ h9 => h9) dX4_search_144 (fun hv => ?_)
                  obtain ⟨xr91, hxr91, hmxr91, hkxr91⟩ : ∃ a : Nat, tw_fv E82 a0 2 = .ref a ∧ a ∈ L ∧ kp a = 150 := hv
                  rw [hxr91]
                  refine lv_iload_n hx hb dX4_search_147 rfl (lv_at hl 2 rfl) ?_
                  refine lv_iconst (v := (-1)) hx hb dX4_search_148 (by decide) ?_
                  refine tw_iast (k := 150) (n := 40) (lo := (-1)) (hi := 39) hx hb hK TH hS hmxr91 hkxr91 (by decide) rfl (i := x1) (x := (-1)) (vp_in_iff.mpr ⟨by  omega, by  omega⟩) (by have : (((-1) : Int32).toInt) = (-1) := (by decide); omega) (by have : (((-1) : Int32).toInt) = (-1) := (by decide); omega) dX4_search_149 (fun H locs E92 TH hS hp93 hp94 hp95 => ?_)
                  have hst96 : tw_fr kp L [] [150] E82 E92 := tw_fr.ast tw_fr.rf (fun _ => hkxr91) hp93 hp94 (by decide)
                  have hF := hF.tr hst96 (fun _ h => ⟨h, rfl⟩) (by decide) (by decide)
                  have hG72 := hG72.tr hst96 (fun _ h => ⟨h, rfl⟩) (by decide) (by decide)
                  have hG158 := hG158.tr hst96 (fun _ h => ⟨h, rfl⟩) (by decide) (by decide)
                  have hmf97 : tw_fv E92 a0 0 = .ref xr1 := (hst96.1 a0 0 hm0 (by rw [hk0]; decide)).trans hmf84
                  have hmf98 : tw_fv E92 xr1 0 = .int xi2 := (hst96.1 xr1 0 hmxr1 (by rw [hkxr1]; decide)).trans hmf85
                  have hmf99 : tw_fv E92 a0 1 = .ref xr37 := (hst96.1 a0 1 hm0 (by rw [hk0]; decide)).trans hmf86
                  have hmf100 : tw_fv E92 xr37 0 = .int xi38 := (hst96.1 xr37 0 hmxr37 (by rw [hkxr37]; decide)).trans hmf87
                  have hmf101 : tw_fv E92 a0 3 = .ref xr50 := (hst96.1 a0 3 hm0 (by rw [hk0]; decide)).trans hmf88
                  have hmf102 : tw_fv E92 xr1 5 = .ref xr61 := (hst96.1 xr1 5 hmxr1 (by rw [hkxr1]; decide)).trans hmf89
                  have hmf103 : tw_fv E92 xr37 5 = .ref xr63 := (hst96.1 xr37 5 hmxr37 (by rw [hkxr37]; decide)).trans hmf90
                  have hmf104 : tw_fv E92 a0 2 = .ref xr91 := (hst96.1 a0 2 hm0 (by rw [hk0]; decide)).trans hxr91
                  refine lv_aload_n hx hb dX4_search_150 rfl (lv_at hl 1 rfl) ?_
                  refine tw_get (ci := 4) (C := RX4) (T := TX4) (N := 7) hx hb hB cx_inX4 hown hK TH hm0 hk0 rfl ⟨by decide, rfl⟩ 3 (by decide) cw_200 (fun _ h9 => h9) dX4_search_151 (fun hv => ?_)
                  rw [hmf101]
                  refine lv_iload hx hb dX4_search_154 (lv_at hl 0 rfl) ?_
                  refine lv_iconst (v := (-1)) hx hb dX4_search_156 (by decide) ?_
                  refine tw_iast (k := 151) (n := 40) (lo := (-1)) (hi := 39) hx hb hK TH hS hmxr50 hkxr50 (by decide) rfl (i := y72_5) (x := (-1)) (vp_in_iff.mpr ⟨by  omega, by  omega⟩) (by have : (((-1) : Int32).toInt) = (-1) := (by decide); omega) (by have : (((-1) : Int32).toInt) = (-1) := (by decide); omega) dX4_search_157 (fun H locs E105 TH hS hp106 hp107 hp108 => ?_)
                  have hst109 : tw_fr kp L [] [151] E92 E105 := tw_fr.ast tw_fr.rf (fun _ => hkxr50) hp106 hp107 (by decide)
                  have hF := hF.tr hst109 (fun _ h => ⟨h, rfl⟩) (by decide) (by decide)
                  have hG72 := hG72.tr hst109 (fun _ h => ⟨h, rfl⟩) (by decide) (by decide)
                  have hG158 := hG158.tr hst109 (fun _ h => ⟨h, rfl⟩) (by decide) (by decide)
                  have hmf110 : tw_fv E105 a0 0 = .ref xr1 := (hst109.1 a0 0 hm0 (by rw [hk0]; decide)).trans hmf97
                  have hmf111 : tw_fv E105 xr1 0 = .int xi2 := (hst109.1 xr1 0 hmxr1 (by rw [hkxr1]; decide)).trans hmf98
                  have hmf112 : tw_fv E105 a0 1 = .ref xr37 := (hst109.1 a0 1 hm0 (by rw [hk0]; decide)).trans hmf99
                  have hmf113 : tw_fv E105 xr37 0 = .int xi38 := (hst109.1 xr37 0 hmxr37 (by rw [hkxr37]; decide)).trans hmf100
                  have hmf114 : tw_fv E105 a0 3 = .ref xr50 := (hst109.1 a0 3 hm0 (by rw [hk0]; decide)).trans hmf101
                  have hmf115 : tw_fv E105 xr1 5 = .ref xr61 := (hst109.1 xr1 5 hmxr1 (by rw [hkxr1]; decide)).trans hmf102
                  have hmf116 : tw_fv E105 xr37 5 = .ref xr63 := (hst109.1 xr37 5 hmxr37 (by rw [hkxr37]; decide)).trans hmf103
                  have hmf117 : tw_fv E105 a0 2 = .ref xr91 := (hst109.1 a0 2 hm0 (by rw [hk0]; decide)).trans hmf104
                  exact hJ158  _ _ _ ls hG158 TH hS (lv_sub hl [0, 1, 2, 3, 4] rfl)
        exact hJ72 40 (1 : Int32) _ _ _ ls (by have : ((1 : Int32).toInt) = 1 := (by decide); omega) (by have : ((1 : Int32).toInt) = 1 := (by decide); omega) (by have : ((1 : Int32).toInt) = 1 := (by decide);  omega) tw_fr.rf TH hS (lv_sub hl [0, 2, 3, 4, 5] rfl)
      · have hf118 : ¬ (x1.toInt < 6) := fun q => hc33 ((fa_lt _ _).mpr (by have : ((6 : Int32).toInt) = 6 := (by decide); omega))
        exfalso; omega
  · have hf119 : ¬ (zi7.toInt < xi8.toInt) := fun q => hc9 ((fa_lt _ _).mpr (by  omega))
    exact tw_vret hx hb hr hlocks TH hS hex ⟨rfl, rfl, rfl, hF⟩ (Nat.le_of_ble_eq_true rfl) (Nat.le_of_ble_eq_true rfl) dX4_search_29
set_option maxHeartbeats 4000000 in
set_option maxRecDepth 100000 in
theorem tX4_search_v4 (l : Launch) (D : va_G) (cs : Nat → ClassId) {kp : Nat → Nat} {L : List Nat} {E : Nat → va_E} (a0 : Nat) (x1 : Int32) (x2 : Int32) (x3 : Int32) (hm0 : a0 ∈ L) (hk0 : kp a0 = 4) (hp1a : 4 ≤ x1.toInt) (hp1b : x1.toInt ≤ 4) (sz : Nat) : Met l yX4_search (.code yX4_search cX4_search 6 none :: cx_big) { frames := 3, cells := 0, slots := 0, locals := 90 } (tw_P D cs kp L E [.ref a0, .int x1, .int x2, .int x3] sz) (tw_Q D cs kp L (fun v kq Lq Eq => v = none ∧ kp = kq ∧ L = Lq ∧ tw_fr kp L [(4, 5)] [150, 151, 152] E Eq) (va_A (va_pl L E) sz)) 0 0 (va_A (va_pl L E) sz) := by
  refine tw_ofW (by decide) (Nat.le_of_ble_eq_true rfl) ?_
  intro p e s m below meth c A ls hx hb hr hml hB hown hlocks hK hN hA TH hS hl
  have hown : s.vm.findClass "TreeMerge$Matcher" = some m.cls := hown
  have hl : lv_has ls 6 [(0, .ref a0), (1, .int x1), (2, .int x2), (3, .int x3)] := hl
  obtain ⟨kp0, ekp⟩ : ∃ z, z = kp := ⟨_, rfl⟩
  obtain ⟨L0, eL⟩ : ∃ z, z = L := ⟨_, rfl⟩
  rw [show tw_Q D cs kp L = tw_Q D cs kp0 L0 by rw [ekp, eL]]
  have hex : ∀ a : Nat, a ∈ L0 → a ∈ L ∧ kp a = kp0 a := fun a h => ⟨by rw [← eL]; exact h, by rw [ekp]⟩
  have hF : tw_fr kp L [(4, 5)] [150, 151, 152] E E := tw_fr.rf
  refine lv_iload_n hx hb dX4_search_0 rfl (lv_at hl 2 rfl) ?_
  refine lv_iconst (v := 2) hx hb dX4_search_1 (by decide) ?_
  refine lv_iload_n hx hb dX4_search_2 rfl (lv_at hl 3 rfl) ?_
  refine lv_aload_n hx hb dX4_search_3 rfl (lv_at hl 0 rfl) ?_
  refine tw_get (ci := 4) (C := RX4) (T := TX4) (N := 7) hx hb hB cx_inX4 hown hK TH hm0 hk0 rfl ⟨by decide, rfl⟩ 0 (by decide) cw_197 (fun _ h9 => h9) dX4_search_4 (fun hv => ?_)
  obtain ⟨xr1, hxr1, hmxr1, hkxr1⟩ : ∃ a : Nat, tw_fv E a0 0 = .ref a ∧ a ∈ L ∧ kp a = 10 := hv
  rw [hxr1]
  refine tw_get (ci := 10) (C := RX10) (T := TX10) (N := 8) hx hb hB cx_inX10 hown hK TH hmxr1 hkxr1 rfl ⟨by decide, rfl⟩ 0 (by decide) cw_118 (fun _ h9 => h9) dX4_search_7 (fun hv => ?_)
  obtain ⟨xi2, hxi2, hxi2a, hxi2b⟩ : ∃ x : Int32, tw_fv E xr1 0 = .int x ∧ 0 ≤ x.toInt ∧ x.toInt ≤ 40 := hv
  rw [hxi2]
  refine lv_iload_n hx hb dX4_search_10 rfl (lv_at hl 1 rfl) ?_
  refine lv_isub hx hb dX4_search_11 ?_
  refine lv_topi (fun zi3 ezi3 => ?_)
  have hzi3 : zi3.toInt = xi2.toInt - x1.toInt := by rw [ezi3];  have := ia_lo xi2; have := ia_hi xi2; have := ia_lo x1; have := ia_hi x1; exact (ia_sub (by omega) (by omega)).trans (by omega)
  refine lv_isub hx hb dX4_search_12 ?_
  refine lv_topi (fun zi4 ezi4 => ?_)
  refine va_mabs hx hb (hml.trans hl.1.symm) hown (hB _ cw_760) (hB _ cw_761) (hB _ cw_19) (hB _ cw_762) (Nat.le_of_ble_eq_true rfl) (Nat.le_of_ble_eq_true rfl) (Nat.le_of_ble_eq_true rfl) (Nat.le_of_ble_eq_true rfl) dX4_search_13 ?_
  refine lv_topi (fun zi5 ezi5 => ?_)
  refine lv_imul hx hb dX4_search_16 ?_
  refine lv_topi (fun zi6 ezi6 => ?_)
  refine lv_iadd hx hb dX4_search_17 ?_
  refine lv_topi (fun zi7 ezi7 => ?_)
  refine lv_istore (lv' := [(4, .int zi7), (0, .ref a0), (1, .int x1), (2, .int x2), (3, .int x3)]) hx hb dX4_search_18 hl (by decide) rfl (fun ls hl => ?_)
  refine lv_iload hx hb dX4_search_20 (lv_at hl 0 rfl) ?_
  refine lv_aload_n hx hb dX4_search_22 rfl (lv_at hl 1 rfl) ?_
  refine tw_get (ci := 4) (C := RX4) (T := TX4) (N := 7) hx hb hB cx_inX4 hown hK TH hm0 hk0 rfl ⟨by decide, rfl⟩ 5 (by decide) cw_202 (fun _ h9 => h9) dX4_search_23 (fun hv => ?_)
  obtain ⟨xi8, hxi8, hxi8a, hxi8b⟩ : ∃ x : Int32, tw_fv E a0 5 = .int x ∧ (-2147483648) ≤ x.toInt ∧ x.toInt ≤ 2147483647 := hv
  rw [hxi8]
  refine lv_icmp_lt (tgt := 30) hx hb dX4_search_26 (by decide) (fun hc9 => ?_) (fun hc9 => ?_)
  · have hf10 : zi7.toInt < xi8.toInt := by have z := (fa_lt _ _).mp hc9;  omega
    refine lv_iload_n hx hb dX4_search_30 rfl (lv_at hl 2 rfl) ?_
    refine lv_aload_n hx hb dX4_search_31 rfl (lv_at hl 1 rfl) ?_
    refine tw_get (ci := 4) (C := RX4) (T := TX4) (N := 7) hx hb hB cx_inX4 hown hK TH hm0 hk0 rfl ⟨by decide, rfl⟩ 0 (by decide) cw_197 (fun _ h9 => h9) dX4_search_32 (fun hv => ?_)
    rw [hxr1]
    refine tw_get (ci := 10) (C := RX10) (T := TX10) (N := 8) hx hb hB cx_inX10 hown hK TH hmxr1 hkxr1 rfl ⟨by decide, rfl⟩ 0 (by decide) cw_118 (fun _ h9 => h9) dX4_search_35 (fun hv => ?_)
    rw [hxi2]
    have hJ47 : ∀  (H : Heap) (locs : List Loc) (ls : Array Slot), tw_H D cs kp L E A H → va_S A s.heap H locs → lv_has ls 6 [(4, .int zi7), (0, .ref a0)] → W p l e { frames := 3, cells := 0, slots := 0, locals := 90 } s m [.ref a0, .int x1, .int x2, .int x3].toArray below meth c H locs 0 0 (MQ below (tw_Q D cs kp0 L0 (fun v kq Lq Eq => v = none ∧ kp = kq ∧ L = Lq ∧ tw_fr kp L [(4, 5)] [150, 151, 152] E Eq) A) [.ref a0, .int x1, .int x2, .int x3].toArray s 0 0 A) (F0 m 47 ls []) := by
      intro H locs ls TH hS hl
      refine lv_aload_n hx hb dX4_search_47 rfl (lv_at hl 1 rfl) ?_
      refine lv_iload hx hb dX4_search_48 (lv_at hl 0 rfl) ?_
      refine tw_put (ci := 4) (v := .int zi7) (ty := .int) (C := RX4) (T := TX4) (N := 7) hx hb hB cx_inX4 tyX4 tyX4_ok nmX4 hown hK TH hS hm0 hk0 rfl ⟨by decide, rfl⟩ 5 (by decide) cw_202 (fun _ h9 => h9) rfl (by decide +kernel) rfl rfl ⟨_, rfl, (ia_lo _), (ia_hi _)⟩ dX4_search_50 (fun H locs E11 TH hS hmf15 hp12 hp13 => ?_)
      have hst14 : tw_fr kp L [(4, 5)] [] E E11 := tw_fr.put tw_fr.rf (fun _ => hk0) (by decide) hp12 hp13 (by decide)
      have hF := hF.tr hst14 (fun _ h => ⟨h, rfl⟩) (by decide) (by decide)
      have hmf16 : tw_fv E11 a0 0 = .ref xr1 := (hst14.1 a0 0 hm0 (by rw [hk0]; decide)).trans hxr1
      have hmf17 : tw_fv E11 xr1 0 = .int xi2 := (hst14.1 xr1 0 hmxr1 (by rw [hkxr1]; decide)).trans hxi2
      refine lv_aload_n hx hb dX4_search_53 rfl (lv_at hl 1 rfl) ?_
      refine tw_get (ci := 4) (C := RX4) (T := TX4) (N := 7) hx hb hB cx_inX4 hown hK TH hm0 hk0 rfl ⟨by decide, rfl⟩ 2 (by decide) cw_199 (fun _ h9 => h9) dX4_search_54 (fun hv => ?_)
      obtain ⟨xr18, hxr18, hmxr18, hkxr18⟩ : ∃ a : Nat, tw_fv E11 a0 2 = .ref a ∧ a ∈ L ∧ kp a = 150 := hv
      rw [hxr18]
      refine lv_iconst (v := 0) hx hb dX4_search_57 (by decide) ?_
      refine lv_aload_n hx hb dX4_search_58 rfl (lv_at hl 1 rfl) ?_
      refine tw_get (ci := 4) (C := RX4) (T := TX4) (N := 7) hx hb hB cx_inX4 hown hK TH hm0 hk0 rfl ⟨by decide, rfl⟩ 4 (by decide) cw_201 (fun _ h9 => h9) dX4_search_59 (fun hv => ?_)
      obtain ⟨xr19, hxr19, hmxr19, hkxr19⟩ : ∃ a : Nat, tw_fv E11 a0 4 = .ref a ∧ a ∈ L ∧ kp a = 152 := hv
      rw [hxr19]
      refine lv_iconst (v := 0) hx hb dX4_search_62 (by decide) ?_
      refine lv_bipush (v := 40) hx hb dX4_search_63 (by decide) ?_
      refine tw_copyi (n0 := 40) (n1 := 40) (lo0 := (-1)) (hi0 := 39) (lo := (-1)) (hi := 39) hx hb (hml.trans hl.1.symm) hown (hB _ cw_763) (hB _ cw_606) (hB _ cw_605) (hB _ cw_18) hK TH hS hmxr18 hkxr18 (by decide) rfl hmxr19 hkxr19 (by decide) rfl (by decide) (by decide) (by have : ((0 : Int32).toInt) = 0 := (by decide); omega) (by have : ((0 : Int32).toInt) = 0 := (by decide); omega) (by have : ((40 : Int32).toInt) = 40 := (by decide); omega) (by have : ((0 : Int32).toInt) = 0 := (by decide); have : ((40 : Int32).toInt) = 40 := (by decide); omega) (by have : ((0 : Int32).toInt) = 0 := (by decide); have : ((40 : Int32).toInt) = 40 := (by decide); omega) (Nat.le_of_ble_eq_true rfl) (Nat.le_of_ble_eq_true rfl) dX4_search_65 (fun H locs E20 TH hS hp21 hp22 hp23 => ?_)
      have hst24 : tw_fr kp L [] [152] E11 E20 := tw_fr.ast tw_fr.rf (fun _ => hkxr19) hp21 hp22 (by decide)
      have hF := hF.tr hst24 (fun _ h => ⟨h, rfl⟩) (by decide) (by decide)
      have hmf25 : tw_fv E20 a0 0 = .ref xr1 := (hst24.1 a0 0 hm0 (by rw [hk0]; decide)).trans hmf16
      have hmf26 : tw_fv E20 xr1 0 = .int xi2 := (hst24.1 xr1 0 hmxr1 (by rw [hkxr1]; decide)).trans hmf17
      have hmf27 : tw_fv E20 a0 5 = .int zi7 := (hst24.1 a0 5 hm0 (by rw [hk0]; decide)).trans hmf15
      have hmf28 : tw_fv E20 a0 2 = .ref xr18 := (hst24.1 a0 2 hm0 (by rw [hk0]; decide)).trans hxr18
      have hmf29 : tw_fv E20 a0 4 = .ref xr19 := (hst24.1 a0 4 hm0 (by rw [hk0]; decide)).trans hxr19
      exact tw_vret hx hb hr hlocks TH hS hex ⟨rfl, rfl, rfl, hF⟩ (Nat.le_of_ble_eq_true rfl) (Nat.le_of_ble_eq_true rfl) dX4_search_68
    refine lv_icmp_ge (tgt := 47) hx hb dX4_search_38 (by decide) (fun hc30 => ?_) (fun hc30 => ?_)
    · have hf31 : xi2.toInt ≤ x1.toInt := by have z := (fa_le _ _).mp hc30;  omega
      exact hJ47  _ _ ls  TH hS (lv_sub hl [0, 1] rfl)
    · have hf32 : ¬ (xi2.toInt ≤ x1.toInt) := fun q => hc30 ((fa_le _ _).mpr (by  omega))
      refine lv_iload_n hx hb dX4_search_41 rfl (lv_at hl 2 rfl) ?_
      refine lv_bipush (v := 6) hx hb dX4_search_42 (by decide) ?_
      refine lv_icmp_lt (tgt := 69) hx hb dX4_search_44 (by decide) (fun hc33 => ?_) (fun hc33 => ?_)
      · have hf34 : x1.toInt < 6 := by have z := (fa_lt _ _).mp hc33; have : ((6 : Int32).toInt) = 6 := (by decide); omega
        refine lv_iconst (v := 1) hx hb dX4_search_69 (by decide) ?_
        refine lv_istore (lv' := [(5, .int 1), (4, .int zi7), (0, .ref a0), (1, .int x1), (2, .int x2), (3, .int x3)]) hx hb dX4_search_70 hl (by decide) rfl (fun ls hl => ?_)
        have hJ72 : ∀ (n72 : Nat) (y72_5 : Int32) (Eg72 : Nat → va_E) (H : Heap) (locs : List Loc) (ls : Array Slot), 1 ≤ y72_5.toInt → y72_5.toInt ≤ 40 → 40 - y72_5.toInt ≤ (n72 : Int) → tw_fr kp L [(4, 5)] [150, 151, 152] E Eg72 → tw_H D cs kp L Eg72 A H → va_S A s.heap H locs → lv_has ls 6 [(5, .int y72_5), (0, .ref a0), (1, .int x1), (2, .int x2), (3, .int x3)] → W p l e { frames := 3, cells := 0, slots := 0, locals := 90 } s m [.ref a0, .int x1, .int x2, .int x3].toArray below meth c H locs 0 0 (MQ below (tw_Q D cs kp0 L0 (fun v kq Lq Eq => v = none ∧ kp = kq ∧ L = Lq ∧ tw_fr kp L [(4, 5)] [150, 151, 152] E Eq) A) [.ref a0, .int x1, .int x2, .int x3].toArray s 0 0 A) (F0 m 72 ls []) := by
          intro n72
          induction n72 using Nat.strongRecOn with
          | _ n72 ih72 =>
            intro y72_5 Eg72 H locs ls hy72_5a hy72_5b hmeas72 hG72 TH hS hl
            have hF := hF.tr hG72 (fun _ h => ⟨h, rfl⟩) (by decide) (by decide)
            have hmf35 : tw_fv Eg72 a0 0 = .ref xr1 := (hG72.1 a0 0 hm0 (by rw [hk0]; decide)).trans hxr1
            have hmf36 : tw_fv Eg72 xr1 0 = .int xi2 := (hG72.1 xr1 0 hmxr1 (by rw [hkxr1]; decide)).trans hxi2
            refine lv_iload hx hb dX4_search_72 (lv_at hl 0 rfl) ?_
            refine lv_aload_n hx hb dX4_search_74 rfl (lv_at hl 1 rfl) ?_
            refine tw_get (ci := 4) (C := RX4) (T := TX4) (N := 7) hx hb hB cx_inX4 hown hK TH hm0 hk0 rfl ⟨by decide, rfl⟩ 1 (by decide) cw_198 (fun _ h9 => h9) dX4_search_75 (fun hv => ?_)
            obtain ⟨xr37, hxr37, hmxr37, hkxr37⟩ : ∃ a : Nat, tw_fv Eg72 a0 1 = .ref a ∧ a ∈ L ∧ kp a = 10 := hv
            rw [hxr37]
            refine tw_get (ci := 10) (C := RX10) (T := TX10) (N := 8) hx hb hB cx_inX10 hown hK TH hmxr37 hkxr37 rfl ⟨by decide, rfl⟩ 0 (by decide) cw_118 (fun _ h9 => h9) dX4_search_78 (fun hv => ?_)
            obtain ⟨xi38, hxi38, hxi38a, hxi38b⟩ : ∃ x : Int32, tw_fv Eg72 xr37 0 = .int x ∧ 0 ≤ x.toInt ∧ x.toInt ≤ 40 := hv
            rw [hxi38]
            refine lv_icmp_ge (tgt := 164) hx hb dX4_search_81 (by decide) (fun hc39 => ?_) (fun hc39 => ?_)
            · have hf40 : xi38.toInt ≤ y72_5.toInt := by have z := (fa_le _ _).mp hc39;  omega
              refine lv_aload_n hx hb dX4_search_164 rfl (lv_at hl 1 rfl) ?_
              refine lv_iload_n hx hb dX4_search_165 rfl (lv_at hl 2 rfl) ?_
              refine lv_iconst (v := 1) hx hb dX4_search_166 (by decide) ?_
              refine lv_iadd hx hb dX4_search_167 ?_
              refine lv_topi (fun zi41 ezi41 => ?_)
              have hzi41 : zi41.toInt = x1.toInt + 1 := by rw [ezi41]; have : ((1 : Int32).toInt) = 1 := (by decide); have := ia_lo x1; have := ia_hi x1; exact (ia_add (by omega) (by omega)).trans (by omega)
              refine lv_iload_n hx hb dX4_search_168 rfl (lv_at hl 3 rfl) ?_
              refine lv_iconst (v := 2) hx hb dX4_search_169 (by decide) ?_
              refine lv_iadd hx hb dX4_search_170 ?_
              refine lv_topi (fun zi42 ezi42 => ?_)
              refine lv_iload_n hx hb dX4_search_171 rfl (lv_at hl 4 rfl) ?_
              refine tw_Vc (o := a0) (ci := 4) (n := 3) (post := (fun v kq Lq Eq => v = none ∧ kp = kq ∧ L = Lq ∧ tw_fr kp L [(4, 5)] [150, 151, 152] Eg72 Eq)) (As := [.int zi41, .int zi42, .int x3]) (rest := []) ⟨hx, hb, hml, hown, hB⟩ (fun sz => tX4_search_v5 l D cs a0 zi41 zi42 x3 hm0 hk0 (by omega) (by omega) sz) cg_4_53_X4_search rfl rfl (by decide +kernel) ⟨Nat.le_of_ble_eq_true rfl, Nat.le_of_ble_eq_true rfl⟩ hK hN TH hS hA rfl hm0 hk0 (by decide) rfl hl.1 rfl (Nat.le_of_ble_eq_true rfl) dX4_search_172 ⟨Nat.le_of_ble_eq_true rfl, Nat.le_of_ble_eq_true rfl⟩ (fun v43 kp43 L43 E43 H locs hq43 hx43 TH hS => ?_)
              obtain ⟨rfl, rfl, rfl, hst43⟩ := hq43
              have hF := hF.tr hst43 (fun _ h => ⟨h, rfl⟩) (by decide) (by decide)
              have hG72 := hG72.tr hst43 (fun _ h => ⟨h, rfl⟩) (by decide) (by decide)
              have hmf45 : tw_fv E43 a0 0 = .ref xr1 := (hst43.1 a0 0 hm0 (by rw [hk0]; decide)).trans hmf35
              have hmf46 : tw_fv E43 xr1 0 = .int xi2 := (hst43.1 xr1 0 hmxr1 (by rw [hkxr1]; decide)).trans hmf36
              have hmf47 : tw_fv E43 a0 1 = .ref xr37 := (hst43.1 a0 1 hm0 (by rw [hk0]; decide)).trans hxr37
              have hmf48 : tw_fv E43 xr37 0 = .int xi38 := (hst43.1 xr37 0 hmxr37 (by rw [hkxr37]; decide)).trans hxi38
              refine W.eq (g2 := F0 m 175 ls []) rfl ?_
              exact tw_vret hx hb hr hlocks TH hS hex ⟨rfl, rfl, rfl, hF⟩ (Nat.le_of_ble_eq_true rfl) (Nat.le_of_ble_eq_true rfl) dX4_search_175
            · have hf49 : ¬ (xi38.toInt ≤ y72_5.toInt) := fun q => hc39 ((fa_le _ _).mpr (by  omega))
              refine lv_aload_n hx hb dX4_search_84 rfl (lv_at hl 1 rfl) ?_
              refine tw_get (ci := 4) (C := RX4) (T := TX4) (N := 7) hx hb hB cx_inX4 hown hK TH hm0 hk0 rfl ⟨by decide, rfl⟩ 3 (by decide) cw_200 (fun _ h9 => h9) dX4_search_85 (fun hv => ?_)
              obtain ⟨xr50, hxr50, hmxr50, hkxr50⟩ : ∃ a : Nat, tw_fv Eg72 a0 3 = .ref a ∧ a ∈ L ∧ kp a = 151 := hv
              rw [hxr50]
              refine lv_iload hx hb dX4_search_88 (lv_at hl 0 rfl) ?_
              refine tw_iald (k := 151) (t0 := 0) (n := 40) (lo := (-1)) (hi := 39) hx hb hK TH hmxr50 hkxr50 (by decide) rfl rfl (i := y72_5) (vp_in_iff.mpr ⟨by  omega, by  omega⟩) dX4_search_90 (fun hxe51a hxe51b => ?_)
              obtain ⟨xe51, exe51⟩ : ∃ z : Int32, tw_iv Eg72 xr50 (Int32.toNatClampNeg y72_5) = z := ⟨_, rfl⟩
              rw [exe51] at hxe51a hxe51b ⊢
              refine lv_iconst (v := (-1)) hx hb dX4_search_91 (by decide) ?_
              have hJ158 : ∀  (Eg158 : Nat → va_E) (H : Heap) (locs : List Loc) (ls : Array Slot), tw_fr kp L [(4, 5)] [150, 151, 152] Eg72 Eg158 → tw_H D cs kp L Eg158 A H → va_S A s.heap H locs → lv_has ls 6 [(5, .int y72_5), (0, .ref a0), (1, .int x1), (2, .int x2), (3, .int x3)] → W p l e { frames := 3, cells := 0, slots := 0, locals := 90 } s m [.ref a0, .int x1, .int x2, .int x3].toArray below meth c H locs 0 0 (MQ below (tw_Q D cs kp0 L0 (fun v kq Lq Eq => v = none ∧ kp = kq ∧ L = Lq ∧ tw_fr kp L [(4, 5)] [150, 151, 152] E Eq) A) [.ref a0, .int x1, .int x2, .int x3].toArray s 0 0 A) (F0 m 158 ls []) := by
                intro Eg158 H locs ls hG158 TH hS hl
                have hF := hF.tr hG158 (fun _ h => ⟨h, rfl⟩) (by decide) (by decide)
                have hG72 := hG72.tr hG158 (fun _ h => ⟨h, rfl⟩) (by decide) (by decide)
                have hmf52 : tw_fv Eg158 a0 0 = .ref xr1 := (hG158.1 a0 0 hm0 (by rw [hk0]; decide)).trans hmf35
                have hmf53 : tw_fv Eg158 xr1 0 = .int xi2 := (hG158.1 xr1 0 hmxr1 (by rw [hkxr1]; decide)).trans hmf36
                have hmf54 : tw_fv Eg158 a0 1 = .ref xr37 := (hG158.1 a0 1 hm0 (by rw [hk0]; decide)).trans hxr37
                have hmf55 : tw_fv Eg158 xr37 0 = .int xi38 := (hG158.1 xr37 0 hmxr37 (by rw [hkxr37]; decide)).trans hxi38
                have hmf56 : tw_fv Eg158 a0 3 = .ref xr50 := (hG158.1 a0 3 hm0 (by rw [hk0]; decide)).trans hxr50
                obtain ⟨zi57, ezi57⟩ : ∃ z : Int32, z = y72_5 + Int32.ofInt 1 := ⟨_, rfl⟩
                have hzi57 : zi57.toInt = y72_5.toInt + 1 := by rw [ezi57]; have : ((Int32.ofInt 1).toInt) = 1 := (by decide);  exact (ia_add (by omega) (by omega)).trans (by omega)
                refine lv_iinc (v := zi57) (lv' := [(5, .int zi57), (0, .ref a0), (1, .int x1), (2, .int x2), (3, .int x3)]) hx hb dX4_search_158 hl (k := 0) rfl ezi57.symm (by decide) rfl (fun ls hl => ?_)
                refine lv_goto (tgt := 72) hx hb dX4_search_161 (by decide) ?_
                exact ih72 (n72 - 1) (by   omega) zi57 _ _ _ ls (by omega) (by omega) (by   omega) hG72 TH hS (lv_sub hl [0, 1, 2, 3, 4] rfl)
              have hG158 : tw_fr kp L [(4, 5)] [150, 151, 152] Eg72 Eg72 := tw_fr.rf
              refine lv_icmp_ne (tgt := 158) hx hb dX4_search_92 (by decide) (fun hc58 => ?_) (fun hc58 => ?_)
              · have hf59 : ¬ (xe51.toInt = (-1)) := fun q => hc58 ((fa_eq _ _).mpr (by have : (((-1) : Int32).toInt) = (-1) := (by decide); omega))
                exact hJ158  _ _ _ ls hG158 TH hS (lv_sub hl [0, 1, 2, 3, 4] rfl)
              · have hf60 : xe51.toInt = (-1) := by have z := (fa_eq _ _).mp hc58; have : (((-1) : Int32).toInt) = (-1) := (by decide); omega
                refine lv_aload_n hx hb dX4_search_95 rfl (lv_at hl 1 rfl) ?_
                refine tw_get (ci := 4) (C := RX4) (T := TX4) (N := 7) hx hb hB cx_inX4 hown hK TH hm0 hk0 rfl ⟨by decide, rfl⟩ 0 (by decide) cw_197 (fun _ h9 => h9) dX4_search_96 (fun hv => ?_)
                rw [hmf35]
                refine tw_get (ci := 10) (C := RX10) (T := TX10) (N := 8) hx hb hB cx_inX10 hown hK TH hmxr1 hkxr1 rfl ⟨by decide, rfl⟩ 5 (by decide) cw_142 (fun _ h9 => h9) dX4_search_99 (fun hv => ?_)
                obtain ⟨xr61, hxr61, hmxr61, hkxr61⟩ : ∃ a : Nat, tw_fv Eg72 xr1 5 = .ref a ∧ a ∈ L ∧ kp a = 114 := hv
                rw [hxr61]
                refine lv_iload_n hx hb dX4_search_102 rfl (lv_at hl 2 rfl) ?_
                refine tw_iald (k := 114) (t0 := 0) (n := 40) (lo := (-1)) (hi := 9) hx hb hK TH hmxr61 hkxr61 (by decide) rfl rfl (i := x1) (vp_in_iff.mpr ⟨by  omega, by  omega⟩) dX4_search_103 (fun hxe62a hxe62b => ?_)
                obtain ⟨xe62, exe62⟩ : ∃ z : Int32, tw_iv Eg72 xr61 (Int32.toNatClampNeg x1) = z := ⟨_, rfl⟩
                rw [exe62] at hxe62a hxe62b ⊢
                refine lv_aload_n hx hb dX4_search_104 rfl (lv_at hl 1 rfl) ?_
                refine tw_get (ci := 4) (C := RX4) (T := TX4) (N := 7) hx hb hB cx_inX4 hown hK TH hm0 hk0 rfl ⟨by decide, rfl⟩ 1 (by decide) cw_198 (fun _ h9 => h9) dX4_search_105 (fun hv => ?_)
                rw [hxr37]
                refine tw_get (ci := 10) (C := RX10) (T := TX10) (N := 8) hx hb hB cx_inX10 hown hK TH hmxr37 hkxr37 rfl ⟨by decide, rfl⟩ 5 (by decide) cw_142 (fun _ h9 => h9) dX4_search_108 (fun hv => ?_)
                obtain ⟨xr63, hxr63, hmxr63, hkxr63⟩ : ∃ a : Nat, tw_fv Eg72 xr37 5 = .ref a ∧ a ∈ L ∧ kp a = 114 := hv
                rw [hxr63]
                refine lv_iload hx hb dX4_search_111 (lv_at hl 0 rfl) ?_
                refine tw_iald (k := 114) (t0 := 0) (n := 40) (lo := (-1)) (hi := 9) hx hb hK TH hmxr63 hkxr63 (by decide) rfl rfl (i := y72_5) (vp_in_iff.mpr ⟨by  omega, by  omega⟩) dX4_search_113 (fun hxe64a hxe64b => ?_)
                obtain ⟨xe64, exe64⟩ : ∃ z : Int32, tw_iv Eg72 xr63 (Int32.toNatClampNeg y72_5) = z := ⟨_, rfl⟩
                rw [exe64] at hxe64a hxe64b ⊢
                refine lv_icmp_ne (tgt := 158) hx hb dX4_search_114 (by decide) (fun hc65 => ?_) (fun hc65 => ?_)
                · have hf66 : ¬ (xe62.toInt = xe64.toInt) := fun q => hc65 ((fa_eq _ _).mpr (by  omega))
                  exact hJ158  _ _ _ ls hG158 TH hS (lv_sub hl [0, 1, 2, 3, 4] rfl)
                · have hf67 : xe62.toInt = xe64.toInt := by have z := (fa_eq _ _).mp hc65;  omega
                  refine lv_aload_n hx hb dX4_search_117 rfl (lv_at hl 1 rfl) ?_
                  refine lv_iload_n hx hb dX4_search_118 rfl (lv_at hl 2 rfl) ?_
                  refine lv_iload hx hb dX4_search_119 (lv_at hl 0 rfl) ?_
                  refine tw_Vc (o := a0) (ci := 4) (n := 2) (post := (fun v kq Lq Eq => v = none ∧ kp = kq ∧ L = Lq ∧ tw_fr kp L [] [150, 151] Eg72 Eq)) (As := [.int x1, .int y72_5]) (rest := []) ⟨hx, hb, hml, hown, hB⟩ (fun sz => tX4_link l D cs a0 x1 y72_5 hm0 hk0 (by omega) (by omega) (by omega) (by omega) sz) cg_4_34_X4_link rfl rfl (by decide +kernel) ⟨Nat.le_of_ble_eq_true rfl, Nat.le_of_ble_eq_true rfl⟩ hK hN TH hS hA rfl hm0 hk0 (by decide) rfl hl.1 rfl (Nat.le_of_ble_eq_true rfl) dX4_search_121 ⟨Nat.le_of_ble_eq_true rfl, Nat.le_of_ble_eq_true rfl⟩ (fun v68 kp68 L68 E68 H locs hq68 hx68 TH hS => ?_)
                  obtain ⟨rfl, rfl, rfl, hst68⟩ := hq68
                  have hF := hF.tr hst68 (fun _ h => ⟨h, rfl⟩) (by decide) (by decide)
                  have hG72 := hG72.tr hst68 (fun _ h => ⟨h, rfl⟩) (by decide) (by decide)
                  have hG158 := hG158.tr hst68 (fun _ h => ⟨h, rfl⟩) (by decide) (by decide)
                  have hmf70 : tw_fv E68 a0 0 = .ref xr1 := (hst68.1 a0 0 hm0 (by rw [hk0]; decide)).trans hmf35
                  have hmf71 : tw_fv E68 xr1 0 = .int xi2 := (hst68.1 xr1 0 hmxr1 (by rw [hkxr1]; decide)).trans hmf36
                  have hmf72 : tw_fv E68 a0 1 = .ref xr37 := (hst68.1 a0 1 hm0 (by rw [hk0]; decide)).trans hxr37
                  have hmf73 : tw_fv E68 xr37 0 = .int xi38 := (hst68.1 xr37 0 hmxr37 (by rw [hkxr37]; decide)).trans hxi38
                  have hmf74 : tw_fv E68 a0 3 = .ref xr50 := (hst68.1 a0 3 hm0 (by rw [hk0]; decide)).trans hxr50
                  have hmf75 : tw_fv E68 xr1 5 = .ref xr61 := (hst68.1 xr1 5 hmxr1 (by rw [hkxr1]; decide)).trans hxr61
                  have hmf76 : tw_fv E68 xr37 5 = .ref xr63 := (hst68.1 xr37 5 hmxr37 (by rw [hkxr37]; decide)).trans hxr63
                  refine W.eq (g2 := F0 m 124 ls []) rfl ?_
                  refine lv_aload_n hx hb dX4_search_124 rfl (lv_at hl 1 rfl) ?_
                  refine lv_iload_n hx hb dX4_search_125 rfl (lv_at hl 2 rfl) ?_
                  refine lv_iconst (v := 1) hx hb dX4_search_126 (by decide) ?_
                  refine lv_iadd hx hb dX4_search_127 ?_
                  refine lv_topi (fun zi77 ezi77 => ?_)
                  have hzi77 : zi77.toInt = x1.toInt + 1 := by rw [ezi77]; have : ((1 : Int32).toInt) = 1 := (by decide); have := ia_lo x1; have := ia_hi x1; exact (ia_add (by omega) (by omega)).trans (by omega)
                  refine lv_iload_n hx hb dX4_search_128 rfl (lv_at hl 3 rfl) ?_
                  refine lv_aload_n hx hb dX4_search_129 rfl (lv_at hl 1 rfl) ?_
                  refine lv_iload_n hx hb dX4_search_130 rfl (lv_at hl 2 rfl) ?_
                  refine lv_iload hx hb dX4_search_131 (lv_at hl 0 rfl) ?_
                  refine tw_Vc (o := a0) (ci := 4) (n := 2) (post := (fun v kq Lq Eq => (∃ x : Int32, v = some (.int x) ∧ 0 ≤ x.toInt ∧ x.toInt ≤ 2) ∧ kp = kq ∧ L = Lq ∧ E68 = Eq)) (As := [.int x1, .int y72_5]) (rest := [.int x2, .int zi77, .ref a0]) ⟨hx, hb, hml, hown, hB⟩ (fun sz => tX4_pairCost l D cs a0 x1 y72_5 hm0 hk0 (by omega) (by omega) (by omega) (by omega) sz) cg_4_49_X4_pairCost rfl rfl (by decide +kernel) ⟨Nat.le_of_ble_eq_true rfl, Nat.le_of_ble_eq_true rfl⟩ hK hN TH hS hA rfl hm0 hk0 (by decide) rfl hl.1 rfl (Nat.le_of_ble_eq_true rfl) dX4_search_133 ⟨Nat.le_of_ble_eq_true rfl, Nat.le_of_ble_eq_true rfl⟩ (fun v78 kp78 L78 E78 H locs hq78 hx78 TH hS => ?_)
                  obtain ⟨⟨xc79, rfl, hxc79a, hxc79b⟩, rfl, rfl, rfl⟩ := hq78
                  refine W.eq (g2 := F0 m 136 ls [.int xc79, .int x2, .int zi77, .ref a0]) rfl ?_
                  refine lv_iadd hx hb dX4_search_136 ?_
                  refine lv_topi (fun zi80 ezi80 => ?_)
                  refine lv_iload_n hx hb dX4_search_137 rfl (lv_at hl 4 rfl) ?_
                  refine lv_iconst (v := 1) hx hb dX4_search_138 (by decide) ?_
                  refine lv_isub hx hb dX4_search_139 ?_
                  refine lv_topi (fun zi81 ezi81 => ?_)
                  refine tw_Vc (o := a0) (ci := 4) (n := 3) (post := (fun v kq Lq Eq => v = none ∧ kp = kq ∧ L = Lq ∧ tw_fr kp L [(4, 5)] [150, 151, 152] E68 Eq)) (As := [.int zi77, .int zi80, .int zi81]) (rest := []) ⟨hx, hb, hml, hown, hB⟩ (fun sz => tX4_search_v5 l D cs a0 zi77 zi80 zi81 hm0 hk0 (by omega) (by omega) sz) cg_4_53_X4_search rfl rfl (by decide +kernel) ⟨Nat.le_of_ble_eq_true rfl, Nat.le_of_ble_eq_true rfl⟩ hK hN TH hS hA rfl hm0 hk0 (by decide) rfl hl.1 rfl (Nat.le_of_ble_eq_true rfl) dX4_search_140 ⟨Nat.le_of_ble_eq_true rfl, Nat.le_of_ble_eq_true rfl⟩ (fun v82 kp82 L82 E82 H locs hq82 hx82 TH hS => ?_)
                  obtain ⟨rfl, rfl, rfl, hst82⟩ := hq82
                  have hF := hF.tr hst82 (fun _ h => ⟨h, rfl⟩) (by decide) (by decide)
                  have hG72 := hG72.tr hst82 (fun _ h => ⟨h, rfl⟩) (by decide) (by decide)
                  have hG158 := hG158.tr hst82 (fun _ h => ⟨h, rfl⟩) (by decide) (by decide)
                  have hmf84 : tw_fv E82 a0 0 = .ref xr1 := (hst82.1 a0 0 hm0 (by rw [hk0]; decide)).trans hmf70
                  have hmf85 : tw_fv E82 xr1 0 = .int xi2 := (hst82.1 xr1 0 hmxr1 (by rw [hkxr1]; decide)).trans hmf71
                  have hmf86 : tw_fv E82 a0 1 = .ref xr37 := (hst82.1 a0 1 hm0 (by rw [hk0]; decide)).trans hmf72
                  have hmf87 : tw_fv E82 xr37 0 = .int xi38 := (hst82.1 xr37 0 hmxr37 (by rw [hkxr37]; decide)).trans hmf73
                  have hmf88 : tw_fv E82 a0 3 = .ref xr50 := (hst82.1 a0 3 hm0 (by rw [hk0]; decide)).trans hmf74
                  have hmf89 : tw_fv E82 xr1 5 = .ref xr61 := (hst82.1 xr1 5 hmxr1 (by rw [hkxr1]; decide)).trans hmf75
                  have hmf90 : tw_fv E82 xr37 5 = .ref xr63 := (hst82.1 xr37 5 hmxr37 (by rw [hkxr37]; decide)).trans hmf76
                  refine W.eq (g2 := F0 m 143 ls []) rfl ?_
                  refine lv_aload_n hx hb dX4_search_143 rfl (lv_at hl 1 rfl) ?_
                  refine tw_get (ci := 4) (C := RX4) (T := TX4) (N := 7) hx hb hB cx_inX4 hown hK TH hm0 hk0 rfl ⟨by decide, rfl⟩ 2 (by decide) cw_199 (fun _ h9 => h9) dX4_search_144 (fun hv => ?_)
                  obtain ⟨xr91, hxr91, hmxr91, hkxr91⟩ : ∃ a : Nat, tw_fv E82 a0 2 = .ref a ∧ a ∈ L ∧ kp a = 150 := hv
                  rw [hxr91]
                  refine lv_iload_n hx hb dX4_search_147 rfl (lv_at hl 2 rfl) ?_
                  refine lv_iconst (v := (-1)) hx hb dX4_search_148 (by decide) ?_
                  refine tw_iast (k := 150) (n := 40) (lo := (-1)) (hi := 39) hx hb hK TH hS hmxr91 hkxr91 (by decide) rfl (i := x1) (x := (-1)) (vp_in_iff.mpr ⟨by  omega, by  omega⟩) (by have : (((-1) : Int32).toInt) = (-1) := (by decide); omega) (by have : (((-1) : Int32).toInt) = (-1) := (by decide); omega) dX4_search_149 (fun H locs E92 TH hS hp93 hp94 hp95 => ?_)
                  have hst96 : tw_fr kp L [] [150] E82 E92 := tw_fr.ast tw_fr.rf (fun _ => hkxr91) hp93 hp94 (by decide)
                  have hF := hF.tr hst96 (fun _ h => ⟨h, rfl⟩) (by decide) (by decide)
                  have hG72 := hG72.tr hst96 (fun _ h => ⟨h, rfl⟩) (by decide) (by decide)
                  have hG158 := hG158.tr hst96 (fun _ h => ⟨h, rfl⟩) (by decide) (by decide)
                  have hmf97 : tw_fv E92 a0 0 = .ref xr1 := (hst96.1 a0 0 hm0 (by rw [hk0]; decide)).trans hmf84
                  have hmf98 : tw_fv E92 xr1 0 = .int xi2 := (hst96.1 xr1 0 hmxr1 (by rw [hkxr1]; decide)).trans hmf85
                  have hmf99 : tw_fv E92 a0 1 = .ref xr37 := (hst96.1 a0 1 hm0 (by rw [hk0]; decide)).trans hmf86
                  have hmf100 : tw_fv E92 xr37 0 = .int xi38 := (hst96.1 xr37 0 hmxr37 (by rw [hkxr37]; decide)).trans hmf87
                  have hmf101 : tw_fv E92 a0 3 = .ref xr50 := (hst96.1 a0 3 hm0 (by rw [hk0]; decide)).trans hmf88
                  have hmf102 : tw_fv E92 xr1 5 = .ref xr61 := (hst96.1 xr1 5 hmxr1 (by rw [hkxr1]; decide)).trans hmf89
                  have hmf103 : tw_fv E92 xr37 5 = .ref xr63 := (hst96.1 xr37 5 hmxr37 (by rw [hkxr37]; decide)).trans hmf90
                  have hmf104 : tw_fv E92 a0 2 = .ref xr91 := (hst96.1 a0 2 hm0 (by rw [hk0]; decide)).trans hxr91
                  refine lv_aload_n hx hb dX4_search_150 rfl (lv_at hl 1 rfl) ?_
                  refine tw_get (ci := 4) (C := RX4) (T := TX4) (N := 7) hx hb hB cx_inX4 hown hK TH hm0 hk0 rfl ⟨by decide, rfl⟩ 3 (by decide) cw_200 (fun _ h9 => h9) dX4_search_151 (fun hv => ?_)
                  rw [hmf101]
                  refine lv_iload hx hb dX4_search_154 (lv_at hl 0 rfl) ?_
                  refine lv_iconst (v := (-1)) hx hb dX4_search_156 (by decide) ?_
                  refine tw_iast (k := 151) (n := 40) (lo := (-1)) (hi := 39) hx hb hK TH hS hmxr50 hkxr50 (by decide) rfl (i := y72_5) (x := (-1)) (vp_in_iff.mpr ⟨by  omega, by  omega⟩) (by have : (((-1) : Int32).toInt) = (-1) := (by decide); omega) (by have : (((-1) : Int32).toInt) = (-1) := (by decide); omega) dX4_search_157 (fun H locs E105 TH hS hp106 hp107 hp108 => ?_)
                  have hst109 : tw_fr kp L [] [151] E92 E105 := tw_fr.ast tw_fr.rf (fun _ => hkxr50) hp106 hp107 (by decide)
                  have hF := hF.tr hst109 (fun _ h => ⟨h, rfl⟩) (by decide) (by decide)
                  have hG72 := hG72.tr hst109 (fun _ h => ⟨h, rfl⟩) (by decide) (by decide)
                  have hG158 := hG158.tr hst109 (fun _ h => ⟨h, rfl⟩) (by decide) (by decide)
                  have hmf110 : tw_fv E105 a0 0 = .ref xr1 := (hst109.1 a0 0 hm0 (by rw [hk0]; decide)).trans hmf97
                  have hmf111 : tw_fv E105 xr1 0 = .int xi2 := (hst109.1 xr1 0 hmxr1 (by rw [hkxr1]; decide)).trans hmf98
                  have hmf112 : tw_fv E105 a0 1 = .ref xr37 := (hst109.1 a0 1 hm0 (by rw [hk0]; decide)).trans hmf99
                  have hmf113 : tw_fv E105 xr37 0 = .int xi38 := (hst109.1 xr37 0 hmxr37 (by rw [hkxr37]; decide)).trans hmf100
                  have hmf114 : tw_fv E105 a0 3 = .ref xr50 := (hst109.1 a0 3 hm0 (by rw [hk0]; decide)).trans hmf101
                  have hmf115 : tw_fv E105 xr1 5 = .ref xr61 := (hst109.1 xr1 5 hmxr1 (by rw [hkxr1]; decide)).trans hmf102
                  have hmf116 : tw_fv E105 xr37 5 = .ref xr63 := (hst109.1 xr37 5 hmxr37 (by rw [hkxr37]; decide)).trans hmf103
                  have hmf117 : tw_fv E105 a0 2 = .ref xr91 := (hst109.1 a0 2 hm0 (by rw [hk0]; decide)).trans hmf104
                  exact hJ158  _ _ _ ls hG158 TH hS (lv_sub hl [0, 1, 2, 3, 4] rfl)
        exact hJ72 40 (1 : Int32) _ _ _ ls (by have : ((1 : Int32).toInt) = 1 := (by decide); omega) (by have : ((1 : Int32).toInt) = 1 := (by decide); omega) (by have : ((1 : Int32).toInt) = 1 := (by decide);  omega) tw_fr.rf TH hS (lv_sub hl [0, 2, 3, 4, 5] rfl)
      · have hf118 : ¬ (x1.toInt < 6) := fun q => hc33 ((fa_lt _ _).mpr (by have : ((6 : Int32).toInt) = 6 := (by decide); omega))
        exfalso; omega
  · have hf119 : ¬ (zi7.toInt < xi8.toInt) := fun q => hc9 ((fa_lt _ _).mpr (by  omega))
    exact tw_vret hx hb hr hlocks TH hS hex ⟨rfl, rfl, rfl, hF⟩ (Nat.le_of_ble_eq_true rfl) (Nat.le_of_ble_eq_true rfl) dX4_search_29
