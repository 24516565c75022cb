set_option maxHeartbeats 4000000 in
set_option maxRecDepth 100000 in
theorem tX4_search_v3 (l : Launch) (D : va_G) (cs : Nat → ClassId) {kp : Nat → Nat} {L : List Nat} {E : Nat → va_E} (a0 : Nat) (x1 : Int32) (x2 : Int32) (x3 : Int32) (hm0 : a0 ∈ L) (hk0 : kp a0 = 4) (hp1a : 3 ≤ x1.toInt) (hp1b : x1.toInt ≤ 3) (sz : Nat) : Met l yX4_search (.code yX4_search cX4_search 6 none :: cx_big) { frames := 4, cells := 0, slots := 0, locals := 115 } (tw_P D cs kp L E [.ref a0, .int x1, .int x2, .int x3] sz) (tw_Q D cs kp L (fun v kq Lq Eq => v = none ∧ kp = kq ∧ L = Lq ∧ tw_fr kp L [(4, 5)] [150, 151, 152] E Eq) (va_A (va_pl L E) sz)) 0 0 (va_A (va_pl L E) sz) := by
  refine tw_ofW (by decide) (Nat.le_of_ble_eq_true rfl) ?_
  intro p e s m below meth c A ls hx hb hr hml hB hown hlocks hK hN hA TH hS hl
  have hown : s.vm.findClass "TreeMerge$Matcher" = some m.cls := hown
  have hl : lv_has ls 6 [(0, .ref a0), (1, .int x1), (2, .int x2), (3, .int x3)] := hl
  obtain ⟨kp0, ekp⟩ : ∃ z, z = kp := ⟨_, rfl⟩
  obtain ⟨L0, eL⟩ : ∃ z, z = L := ⟨_, rfl⟩
  rw [show tw_Q D cs kp L = tw_Q D cs kp0 L0 by rw [ekp, eL]]
  have hex : ∀ a : Nat, a ∈ L0 → a ∈ L ∧ kp a = kp0 a := fun a h => ⟨by rw [← eL]; exact h, by rw [ekp]⟩
  have hF : tw_fr kp L [(4, 5)] [150, 151, 152] E E := tw_fr.rf
  refine lv_iload_n hx hb dX4_search_0 rfl (lv_at hl 2 rfl) ?_
  refine lv_iconst (v := 2) hx hb dX4_search_1 (by decide) ?_
  refine lv_iload_n hx hb dX4_search_2 rfl (lv_at hl 3 rfl) ?_
  refine lv_aload_n hx hb dX4_search_3 rfl (lv_at hl 0 rfl) ?_
  refine tw_get (ci := 4) (C := RX4) (T := TX4) (N := 7) hx hb hB cx_inX4 hown hK TH hm0 hk0 rfl ⟨by decide, rfl⟩ 0 (by decide) cw_197 (fun _ h9 => h9) dX4_search_4 (fun hv => ?_)
  obtain ⟨xr1, hxr1, hmxr1, hkxr1⟩ : ∃ a : Nat, tw_fv E a0 0 = .ref a ∧ a ∈ L ∧ kp a = 10 := hv
  rw [hxr1]
  refine tw_get (ci := 10) (C := RX10) (T := TX10) (N := 8) hx hb hB cx_inX10 hown hK TH hmxr1 hkxr1 rfl ⟨by decide, rfl⟩ 0 (by decide) cw_118 (fun _ h9 => h9) dX4_search_7 (fun hv => ?_)
  obtain ⟨xi2, hxi2, hxi2a, hxi2b⟩ : ∃ x : Int32, tw_fv E xr1 0 = .int x ∧ 0 ≤ x.toInt ∧ x.toInt ≤ 40 := hv
  rw [hxi2]
  refine lv_iload_n hx hb dX4_search_10 rfl (lv_at hl 1 rfl) ?_
  refine lv_isub hx hb dX4_search_11 ?_
  refine lv_topi (fun zi3 ezi3 => ?_)
  have hzi3 : zi3.toInt = xi2.toInt - x1.toInt := by rw [ezi3];  have := ia_lo xi2; have := ia_hi xi2; have := ia_lo x1; have := ia_hi x1; exact (ia_sub (by omega) (by omega)).trans (by omega)
  refine lv_isub hx hb dX4_search_12 ?_
  refine lv_topi (fun zi4 ezi4 => ?_)
  refine va_mabs hx hb (hml.trans hl.1.symm) hown (hB _ cw_760) (hB _ cw_761) (hB _ cw_19) (hB _ cw_762) (Nat.le_of_ble_eq_true rfl) (Nat.le_of_ble_eq_true rfl) (Nat.le_of_ble_eq_true rfl) (Nat.le_of_ble_eq_true rfl) dX4_search_13 ?_
  refine lv_topi (fun zi5 ezi5 => ?_)
  refine lv_imul hx hb dX4_search_16 ?_
  refine lv_topi (fun zi6 ezi6 => ?_)
  refine lv_iadd hx hb dX4_search_17 ?_
  refine lv_topi (fun zi7 ezi7 => ?_)
  refine lv_istore (lv' := [(4, .int zi7), (0, .ref a0), (1, .int x1), (2, .int x2), (3, .int x3)]) hx hb dX4_search_18 hl (by decide) rfl (fun ls hl => ?_)
  refine lv_iload hx hb dX4_search_20 (lv_at hl 0 rfl) ?_
  refine lv_aload_n hx hb dX4_search_22 rfl (lv_at hl 1 rfl) ?_
  refine tw_get (ci := 4) (C := RX4) (T := TX4) (N := 7) hx hb hB cx_inX4 hown hK TH hm0 hk0 rfl ⟨by decide, rfl⟩ 5 (by decide) cw_202 (fun _ h9 => h9) dX4_search_23 (fun hv => ?_)
  obtain ⟨xi8, hxi8, hxi8a, hxi8b⟩ : ∃ x : Int32, tw_fv E a0 5 = .int x ∧ (-2147483648) ≤ x.toInt ∧ x.toInt ≤ 2147483647 := hv
  rw [hxi8]
  refine lv_icmp_lt (tgt := 30) hx hb dX4_search_26 (by decide) (fun hc9 => ?_) (fun hc9 => ?_)
  · have hf10 : zi7.toInt < xi8.toInt := by have z := (fa_lt _ _).mp hc9;  omega
    refine lv_iload_n hx hb dX4_search_30 rfl (lv_at hl 2 rfl) ?_
    refine lv_aload_n hx hb dX4_search_31 rfl (lv_at hl 1 rfl) ?_
    refine tw_get (ci := 4) (C := RX4) (T := TX4) (N := 7) hx hb hB cx_inX4 hown hK TH hm0 hk0 rfl ⟨by decide, rfl⟩ 0 (by decide) cw_197 (fun _ h9 => h9) dX4_search_32 (fun hv => ?_)
    rw [hxr1]
    refine tw_get (ci := 10) (C := RX10) (T := TX10) (N := 8) hx hb hB cx_inX10 hown hK TH hmxr1 hkxr1 rfl ⟨by decide, rfl⟩ 0 (by decide) cw_118 (fun _ h9 => h9) dX4_search_35 (fun hv => ?_)
    rw [hxi2]
    have hJ47 : ∀  (H : Heap) (locs : List Loc) (ls : Array Slot), tw_H D cs kp L E A H → va_S A s.heap H locs → lv_has ls 6 [(4, .int zi7), (0, .ref a0)] → W p l e { frames := 4, cells := 0, slots := 0, locals := 115 } s m [.ref a0, .int x1, .int x2, .int x3].toArray below meth c H locs 0 0 (MQ below (tw_Q D cs kp0 L0 (fun v kq Lq Eq => v = none ∧ kp = kq ∧ L = Lq ∧ tw_fr kp L [(4, 5)] [150, 151, 152] E Eq) A) [.ref a0, .int x1, .int x2, .int x3].toArray s 0 0 A) (F0 m 47 ls []) := by
      intro H locs ls TH hS hl
      refine lv_aload_n hx hb dX4_search_47 rfl (lv_at hl 1 rfl) ?_
      refine lv_iload hx hb dX4_search_48 (lv_at hl 0 rfl) ?_
      refine tw_put (ci := 4) (v := .int zi7) (ty := .int) (C := RX4) (T := TX4) (N := 7) hx hb hB cx_inX4 tyX4 tyX4_ok nmX4 hown hK TH hS hm0 hk0 rfl ⟨by decide, rfl⟩ 5 (by decide) cw_202 (fun _ h9 => h9) rfl (by decide +kernel) rfl rfl ⟨_, rfl, (ia_lo _), (ia_hi _)⟩ dX4_search_50 (fun H locs E11 TH hS hmf15 hp12 hp13 => ?_)
      have hst14 : tw_fr kp L [(4, 5)] [] E E11 := tw_fr.put tw_fr.rf (fun _ => hk0) (by decide) hp12 hp13 (by decide)
      have hF := hF.tr hst14 (fun _ h => ⟨h, rfl⟩) (by decide) (by decide)
      have hmf16 : tw_fv E11 a0 0 = .ref xr1 := (hst14.1 a0 0 hm0 (by rw [hk0]; decide)).trans hxr1
      have hmf17 : tw_fv E11 xr1 0 = .int xi2 := (hst14.1 xr1 0 hmxr1 (by rw [hkxr1]; decide)).trans hxi2
      refine lv_aload_n hx hb dX4_search_53 rfl (lv_at hl 1 rfl) ?_
      refine tw_get (ci := 4) (C := RX4) (T := TX4) (N := 7) hx hb hB cx_inX4 hown hK TH hm0 hk0 rfl ⟨by decide, rfl⟩ 2 (by decide) cw_199 (fun _ h9 => h9) dX4_search_54 (fun hv => ?_)
      obtain ⟨xr18, hxr18, hmxr18, hkxr18⟩ : ∃ a : Nat, tw_fv E11 a0 2 = .ref a ∧ a ∈ L ∧ kp a = 150 := hv
      rw [hxr18]
      refine lv_iconst (v := 0) hx hb dX4_search_57 (by decide) ?_
      refine lv_aload_n hx hb dX4_search_58 rfl (lv_at hl 1 rfl) ?_
      refine tw_get (ci := 4) (C := RX4) (T := TX4) (N := 7) hx hb hB cx_inX4 hown hK TH hm0 hk0 rfl ⟨by decide, rfl⟩ 4 (by decide) cw_201 (fun _ h9 => h9) dX4_search_59 (fun hv => ?_)
      obtain ⟨xr19, hxr19, hmxr19, hkxr19⟩ : ∃ a : Nat, tw_fv E11 a0 4 = .ref a ∧ a ∈ L ∧ kp a = 152 := hv
      rw [hxr19]
      refine lv_iconst (v := 0) hx hb dX4_search_62 (by decide) ?_
      refine lv_bipush (v := 40) hx hb dX4_search_63 (by decide) ?_
      refine tw_copyi (n0 := 40) (n1 := 40) (lo0 := (-1)) (hi0 := 39) (lo := (-1)) (hi := 39) hx hb (hml.trans hl.1.symm) hown (hB _ cw_763) (hB _ cw_606) (hB _ cw_605) (hB _ cw_18) hK TH hS hmxr18 hkxr18 (by decide) rfl hmxr19 hkxr19 (by decide) rfl (by decide) (by decide) (by have : ((0 : Int32).toInt) = 0 := (by decide); omega) (by have : ((0 : Int32).toInt) = 0 := (by decide); omega) (by have : ((40 : Int32).toInt) = 40 := (by decide); omega) (by have : ((0 : Int32).toInt) = 0 := (by decide); have : ((40 : Int32).toInt) = 40 := (by decide); omega) (by have : ((0 : Int32).toInt) = 0 := (by decide); have : ((40 : Int32).toInt) = 40 := (by decide); omega) (Nat.le_of_ble_eq_true rfl) (Nat.le_of_ble_eq_true rfl) dX4_search_65 (fun H locs E20 TH hS hp21 hp22 hp23 => ?_)
      have hst24 : tw_fr kp L [] [152] E11 E20 := tw_fr.ast tw_fr.rf (fun _ => hkxr19) hp21 hp22 (by decide)
      have hF := hF.tr hst24 (fun _ h => ⟨h, rfl⟩) (by decide) (by decide)
      have hmf25 : tw_fv E20 a0 0 = .ref xr1 := (hst24.1 a0 0 hm0 (by rw [hk0]; decide)).trans hmf16
      have hmf26 : tw_fv E20 xr1 0 = .int xi2 := (hst24.1 xr1 0 hmxr1 (by rw [hkxr1]; decide)).trans hmf17
      have hmf27 : tw_fv E20 a0 5 = .int zi7 := (hst24.1 a0 5 hm0 (by rw [hk0]; decide)).trans hmf15
      have hmf28 : tw_fv E20 a0 2 = .ref xr18 := (hst24.1 a0 2 hm0 (by rw [hk0]; decide)).trans hxr18
      have hmf29 : tw_fv E20 a0 4 = .ref xr19 := (hst24.1 a0 4 hm0 (by rw [hk0]; decide)).trans hxr19
      exact tw_vret hx hb hr hlocks TH hS hex ⟨rfl, rfl, rfl, hF⟩ (Nat.le_of_ble_eq_true rfl) (Nat.le_of_ble_eq_true rfl) dX4_search_68
    refine lv_icmp_ge (tgt := 47) hx hb dX4_search_38 (by decide) (fun hc30 => ?_) (fun hc30 => ?_)
    · have hf31 : xi2.toInt ≤ x1.toInt := by have z := (fa_le _ _).mp hc30;  omega
      exact hJ47  _ _ ls  TH hS (lv_sub hl [0, 1] rfl)
    · have hf32 : ¬ (xi2.toInt ≤ x1.toInt) := fun q => hc30 ((fa_le _ _).mpr (by  omega))
      refine lv_iload_n hx hb dX4_search_41 rfl (lv_at hl 2 rfl) ?_
      refine lv_bipush (v := 6) hx hb dX4_search_42 (by decide) ?_
      refine lv_icmp_lt (tgt := 69) hx hb dX4_search_44 (by decide) (fun hc33 => ?_) (fun hc33 => ?_)
      · have hf34 : x1.toInt < 6 := by have z := (fa_lt _ _).mp hc33; have : ((6 : Int32).toInt) = 6 := (by decide); omega
        refine lv_iconst (v := 1) hx hb dX4_search_69 (by decide) ?_
        refine lv_istore (lv' := [(5, .int 1), (4, .int zi7), (0, .ref a0), (1, .int x1), (2, .int x2), (3, .int x3)]) hx hb dX4_search_70 hl (by decide) rfl (fun ls hl => ?_)
        have hJ72 : ∀ (n72 : Nat) (y72_5 : Int32) (Eg72 : Nat → va_E) (H : Heap) (locs : List Loc) (ls : Array Slot), 1 ≤ y72_5.toInt → y72_5.toInt ≤ 40 → 40 - y72_5.toInt ≤ (n72 : Int) → tw_fr kp L [(4, 5)] [150, 151, 152] E Eg72 → tw_H D cs kp L Eg72 A H → va_S A s.heap H locs → lv_has ls 6 [(5, .int y72_5), (0, .ref a0), (1, .int x1), (2, .int x2), (3, .int x3)] → W p l e { frames := 4, cells := 0, slots := 0, locals := 115 } s m [.ref a0, .int x1, .int x2, .int x3].toArray below meth c H locs 0 0 (MQ below (tw_Q D cs kp0 L0 (fun v kq Lq Eq => v = none ∧ kp = kq ∧ L = Lq ∧ tw_fr kp L [(4, 5)] [150, 151, 152] E Eq) A) [.ref a0, .int x1, .int x2, .int x3].toArray s 0 0 A) (F0 m 72 ls []) := by
          intro n72
          induction n72 using Nat.strongRecOn with
          | _ n72 ih72 =>
            intro y72_5 Eg72 H locs ls hy72_5a hy72_5b hmeas72 hG72 TH hS hl
            have hF := hF.tr hG72 (fun _ h => ⟨h, rfl⟩) (by decide) (by decide)
            have hmf35 : tw_fv Eg72 a0 0 = .ref xr1 := (hG72.1 a0 0 hm0 (by rw [hk0]; decide)).trans hxr1
            have hmf36 : tw_fv Eg72 xr1 0 = .int xi2 := (hG72.1 xr1 0 hmxr1 (by rw [hkxr1]; decide)).trans hxi2
            refine lv_iload hx hb dX4_search_72 (lv_at hl 0 rfl) ?_
            refine lv_aload_n hx hb dX4_search_74 rfl (lv_at hl 1 rfl) ?_
            refine tw_get (ci := 4) (C := RX4) (T := TX4) (N := 7) hx hb hB cx_inX4 hown hK TH hm0 hk0 rfl ⟨by decide, rfl⟩ 1 (by decide) cw_198 (fun _ h9 => h9) dX4_search_75 (fun hv => ?_)
            obtain ⟨xr37, hxr37, hmxr37, hkxr37⟩ : ∃ a : Nat, tw_fv Eg72 a0 1 = .ref a ∧ a ∈ L ∧ kp a = 10 := hv
            rw [hxr37]
            refine tw_get (ci := 10) (C := RX10) (T := TX10) (N := 8) hx hb hB cx_inX10 hown hK TH hmxr37 hkxr37 rfl ⟨by decide, rfl⟩ 0 (by decide) cw_118 (fun _ h9 => h9) dX4_search_78 (fun hv => ?_)
            obtain ⟨xi38, hxi38, hxi38a, hxi38b⟩ : ∃ x : Int32, tw_fv Eg72 xr37 0 = .int x ∧ 0 ≤ x.toInt ∧ x.toInt ≤ 40 := hv
            rw [hxi38]
            refine lv_icmp_ge (tgt := 164) hx hb dX4_search_81 (by decide) (fun hc39 => ?_) (fun hc39 => ?_)
            · have hf40 : xi38.toInt ≤ y72_5.toInt := by have z := (fa_le _ _).mp hc39;  omega
              refine lv_aload_n hx hb dX4_search_164 rfl (lv_at hl 1 rfl) ?_
              refine lv_iload_n hx hb dX4_search_165 rfl (lv_at hl 2 rfl) ?_
              refine lv_iconst (v := 1) hx hb dX4_search_166 (by decide) ?_
              refine lv_iadd hx hb dX4_search_167 ?_
              refine lv_topi (fun zi41 ezi41 => ?_)
              have hzi41 : zi41.toInt = x1.toInt + 1 := by rw [ezi41]; have : ((1 : Int32).toInt) = 1 := (by decide); have := ia_lo x1; have := ia_hi x1; exact (ia_add (by omega) (by omega)).trans (by omega)
              refine lv_iload_n hx hb dX4_search_168 rfl (lv_at hl 3 rfl) ?_
              refine lv_iconst (v := 2) hx hb dX4_search_169 (by decide) ?_
              refine lv_iadd hx hb dX4_search_170 ?_
              refine lv_topi (fun zi42 ezi42 => ?_)
              refine lv_iload_n hx hb dX4_search_171 rfl (lv_at hl 4 rfl) ?_
              refine tw_Vc (o := a0) (ci := 4) (n := 3) (post := (fun v kq Lq Eq => v = none ∧ kp = kq ∧ L = Lq ∧ tw_fr kp L [(4, 5)] [150, 151, 152] Eg72 Eq)) (As := [.int zi41, .int zi42, .int x3]) (rest := []) ⟨hx, hb, hml, hown, hB⟩ (fun sz => tX4_search_v4 l D cs a0 zi41 zi42 x3 hm0 hk0 (by omega) (by omega) sz) cg_4_53_X4_search rfl rfl (by decide +kernel) ⟨Nat.le_of_ble_eq_true rfl, Nat.le_of_ble_eq_true rfl⟩ hK hN TH hS hA rfl hm0 hk0 (by decide) rfl hl.1 rfl (Nat.le_of_ble_eq_true rfl) dX4_search_172 ⟨Nat.le_of_ble_eq_true rfl, Nat.le_of_ble_eq_true rfl⟩ (fun v43 kp43 L43 E43 H locs hq43 hx43 TH hS => ?_)
              obtain ⟨rfl, rfl, rfl, hst43⟩ := hq43
              have hF := hF.tr hst43 (fun _ h => ⟨h, rfl⟩) (by decide) (by decide)
              have hG72 := hG72.tr hst43 (fun _ h => ⟨h, rfl⟩) (by decide) (by decide)
              have hmf45 : tw_fv E43 a0 0 = .ref xr1 := (hst43.1 a0 0 hm0 (by rw [hk0]; decide)).trans hmf35
              have hmf46 : tw_fv E43 xr1 0 = .int xi2 := (hst43.1 xr1 0 hmxr1 (by rw [hkxr1]; decide)).trans hmf36
              have hmf47 : tw_fv E43 a0 1 = .ref xr37 := (hst43.1 a0 1 hm0 (by rw [hk0]; decide)).trans hxr37
              have hmf48 : tw_fv E43 xr37 0 = .int xi38 := (hst43.1 xr37 0 hmxr37 (by rw [hkxr37]; decide)).trans hxi38
              refine W.eq (g2 := F0 m 175 ls []) rfl ?_
              exact tw_vret hx hb hr hlocks TH hS hex ⟨rfl, rfl, rfl, hF⟩ (Nat.le_of_ble_eq_true rfl) (Nat.le_of_ble_eq_true rfl) dX4_search_175
            · have hf49 : ¬ (xi38.toInt ≤ y72_5.toInt) := fun q => hc39 ((fa_le _ _).mpr (by  omega))
              refine lv_aload_n hx hb dX4_search_84 rfl (lv_at hl 1 rfl) ?_
              refine tw_get (ci := 4) (C := RX4) (T := TX4) (N := 7) hx hb hB cx_inX4 hown hK TH hm0 hk0 rfl ⟨by decide, rfl⟩ 3 (by decide) cw_200 (fun _ h9 => h9) dX4_search_85 (fun hv => ?_)
              obtain ⟨xr50, hxr50, hmxr50, hkxr50⟩ : ∃ a : Nat, tw_fv Eg72 a0 3 = .ref a ∧ a ∈ L ∧ kp a = 151 := hv
              rw [hxr50]
              refine lv_iload hx hb dX4_search_88 (lv_at hl 0 rfl) ?_
              refine tw_iald (k := 151) (t0 := 0) (n := 40) (lo := (-1)) (hi := 39) hx hb hK TH hmxr50 hkxr50 (by decide) rfl rfl (i := y72_5) (vp_in_iff.mpr ⟨by  omega, by  omega⟩) dX4_search_90 (fun hxe51a hxe51b => ?_)
              obtain ⟨xe51, exe51⟩ : ∃ z : Int32, tw_iv Eg72 xr50 (Int32.toNatClampNeg y72_5) = z := ⟨_, rfl⟩
              rw [exe51] at hxe51a hxe51b ⊢
              refine lv_iconst (v := (-1)) hx hb dX4_search_91 (by decide) ?_
              have hJ158 : ∀  (Eg158 : Nat → va_E) (H : Heap) (locs : List Loc) (ls : Array Slot), tw_fr kp L [(4, 5)] [150, 151, 152] Eg72 Eg158 → tw_H D cs kp L Eg158 A H → va_S A s.heap H locs → lv_has ls 6 [(5, .int y72_5), (0, .ref a0), (1, .int x1), (2, .int x2), (3, .int x3)] → W p l e { frames := 4, cells := 0, slots := 0, locals := 115 } s m [.ref a0, .int x1, .int x2, .int x3].toArray below meth c H locs 0 0 (MQ below (tw_Q D cs kp0 L0 (fun v kq Lq Eq => v = none ∧ kp = kq ∧ L = Lq ∧ tw_fr kp L [(4, 5)] [150, 151, 152] E Eq) A) [.ref a0, .int x1, .int x2, .int x3].toArray s 0 0 A) (F0 m 158 ls []) := by
                intro Eg158 H locs ls hG158 TH hS hl
                have hF := hF.tr hG158 (fun _ h => ⟨h, rfl⟩) (by decide) (by decide)
                have hG72 := hG72.tr hG158 (fun _ h => ⟨h, rfl⟩) (by decide) (by decide)
                have hmf52 : tw_fv Eg158 a0 0 = .ref xr1 := (hG158.1 a0 0 hm0 (by rw [hk0]; decide)).trans hmf35
                have hmf53 : tw_fv Eg158 xr1 0 = .int xi2 := (hG158.1 xr1 0 hmxr1 (by rw [hkxr1]; decide)).trans hmf36
                have hmf54 : tw_fv Eg158 a0 1 = .ref xr37 := (hG158.1 a0 1 hm0 (by rw [hk0]; decide)).trans hxr37
                have hmf55 : tw_fv Eg158 xr37 0 = .int xi38 := (hG158.1 xr37 0 hmxr37 (by rw [hkxr37]; decide)).trans hxi38
                have hmf56 : tw_fv Eg158 a0 3 = .ref xr50 := (hG158.1 a0 3 hm0 (by rw [hk0]; decide)).trans hxr50
                obtain ⟨zi57, ezi57⟩ : ∃ z : Int32, z = y72_5 + Int32.ofInt 1 := ⟨_, rfl⟩
                have hzi57 : zi57.toInt = y72_5.toInt + 1 := by rw [ezi57]; have : ((Int32.ofInt 1).toInt) = 1 := (by decide);  exact (ia_add (by omega) (by omega)).trans (by omega)
                refine lv_iinc (v := zi57) (lv' := [(5, .int zi57), (0, .ref a0), (1, .int x1), (2, .int x2), (3, .int x3)]) hx hb dX4_search_158 hl (k := 0) rfl ezi57.symm (by decide) rfl (fun ls hl => ?_)
                refine lv_goto (tgt := 72) hx hb dX4_search_161 (by decide) ?_
                exact ih72 (n72 - 1) (by   omega) zi57 _ _ _ ls (by omega) (by omega) (by   omega) hG72 TH hS (lv_sub hl [0, 1, 2, 3, 4] rfl)
              have hG158 : tw_fr kp L [(4, 5)] [150, 151, 152] Eg72 Eg72 := tw_fr.rf
              refine lv_icmp_ne (tgt := 158) hx hb dX4_search_92 (by decide) (fun hc58 => ?_) (fun hc58 => ?_)
              · have hf59 : ¬ (xe51.toInt = (-1)) := fun q => hc58 ((fa_eq _ _).mpr (by have : (((-1) : Int32).toInt) = (-1) := (by decide); omega))
                exact hJ158  _ _ _ ls hG158 TH hS (lv_sub hl [0, 1, 2, 3, 4] rfl)
              · have hf60 : xe51.toInt = (-1) := by have z := (fa_eq _ _).mp hc58; have : (((-1) : Int32).toInt) = (-1) := (by decide); omega
                refine lv_aload_n hx hb dX4_search_95 rfl (lv_at hl 1 rfl) ?_
                refine tw_get (ci := 4) (C := RX4) (T := TX4) (N := 7) hx hb hB cx_inX4 hown hK TH hm0 hk0 rfl ⟨by decide, rfl⟩ 0 (by decide) cw_197 (fun _ h9 => h9) dX4_search_96 (fun hv => ?_)
                rw [hmf35]
                refine tw_get (ci := 10) (C := RX10) (T := TX10) (N := 8) hx hb hB cx_inX10 hown hK TH hmxr1 hkxr1 rfl ⟨by decide, rfl⟩ 5 (by decide) cw_142 (fun _ h9 => h9) dX4_search_99 (fun hv => ?_)
                obtain ⟨xr61, hxr61, hmxr61, hkxr61⟩ : ∃ a : Nat, tw_fv Eg72 xr1 5 = .ref a ∧ a ∈ L ∧ kp a = 114 := hv
                rw [hxr61]
                refine lv_iload_n hx hb dX4_search_102 rfl (lv_at hl 2 rfl) ?_
                refine tw_iald (k := 114) (t0 := 0) (n := 40) (lo := (-1)) (hi := 9) hx hb hK TH hmxr61 hkxr61 (by decide) rfl rfl (i := x1) (vp_in_iff.mpr ⟨by  omega, by  omega⟩) dX4_search_103 (fun hxe62a hxe62b => ?_)
                obtain ⟨xe62, exe62⟩ : ∃ z : Int32, tw_iv Eg72 xr61 (Int32.toNatClampNeg x1) = z := ⟨_, rfl⟩
                rw [exe62] at hxe62a hxe62b ⊢
                refine lv_aload_n hx hb dX4_search_104 rfl (lv_at hl 1 rfl) ?_
                refine tw_get (ci := 4) (C := RX4) (T := TX4) (N := 7) hx hb hB cx_inX4 hown hK TH hm0 hk0 rfl ⟨by decide, rfl⟩ 1 (by decide) cw_198 (fun _ h9 => h9) dX4_search_105 (fun hv => ?_)
                rw [hxr37]
                refine tw_get (ci := 10) (C := RX10) (T := TX10) (N := 8) hx hb hB cx_inX10 hown hK TH hmxr37 hkxr37 rfl ⟨by decide, rfl⟩ 5 (by decide) cw_142 (fun _ h9 => h9) dX4_search_108 (fun hv => ?_)
                obtain ⟨xr63, hxr63, hmxr63, hkxr63⟩ : ∃ a : Nat, tw_fv Eg72 xr37 5 = .ref a ∧ a ∈ L ∧ kp a = 114 := hv
                rw [hxr63]
                refine lv_iload hx hb dX4_search_111 (lv_at hl 0 rfl) ?_
                refine tw_iald (k := 114) (t0 := 0) (n := 40) (lo := (-1)) (hi := 9) hx hb hK TH hmxr63 hkxr63 (by decide) rfl rfl (i := y72_5) (vp_in_iff.mpr ⟨by  omega, by  omega⟩) dX4_search_113 (fun hxe64a hxe64b => ?_)
                obtain ⟨xe64, exe64⟩ : ∃ z : Int32, tw_iv Eg72 xr63 (Int32.toNatClampNeg y72_5) = z := ⟨_, rfl⟩
                rw [exe64] at hxe64a hxe64b ⊢
                refine lv_icmp_ne (tgt := 158) hx hb dX4_search_114 (by decide) (fun hc65 => ?_) (fun hc65 => ?_)
                · have hf66 : ¬ (xe62.toInt = xe64.toInt) := fun q => hc65 ((fa_eq _ _).mpr (by  omega))
                  exact hJ158  _ _ _ ls hG158 TH hS (lv_sub hl [0, 1, 2, 3, 4] rfl)
                · have hf67 : xe62.toInt = xe64.toInt := by have z := (fa_eq _ _).mp hc65;  omega
                  refine lv_aload_n hx hb dX4_search_117 rfl (lv_at hl 1 rfl) ?_
                  refine lv_iload_n hx hb dX4_search_118 rfl (lv_at hl 2 rfl) ?_
                  refine lv_iload hx hb dX4_search_119 (lv_at hl 0 rfl) ?_
                  refine tw_Vc (o := a0) (ci := 4) (n := 2) (post := (fun v kq Lq Eq => v = none ∧ kp = kq ∧ L = Lq ∧ tw_fr kp L [] [150, 151] Eg72 Eq)) (As := [.int x1, .int y72_5]) (rest := []) ⟨hx, hb, hml, hown, hB⟩ (fun sz => tX4_link l D cs a0 x1 y72_5 hm0 hk0 (by omega) (by omega) (by omega) (by omega) sz) cg_4_34_X4_link rfl rfl (by decide +kernel) ⟨Nat.le_of_ble_eq_true rfl, Nat.le_of_ble_eq_true rfl⟩ hK hN TH hS hA rfl hm0 hk0 (by decide) rfl hl.1 rfl (Nat.le_of_ble_eq_true rfl) dX4_search_121 ⟨Nat.le_of_ble_eq_true rfl, Nat.le_of_ble_eq_true rfl⟩ (fun v68 kp68 L68 E68 H locs hq68 hx68 TH hS => ?_)
                  obtain ⟨rfl, rfl, rfl, hst68⟩ := hq68
                  have hF := hF.tr hst68 (fun _ h => ⟨h, rfl⟩) (by decide) (by decide)
                  have hG72 := hG72.tr hst68 (fun _ h => ⟨h, rfl⟩) (by decide) (by decide)
                  have hG158 := hG158.tr hst68 (fun _ h => ⟨h, rfl⟩) (by decide) (by decide)
                  have hmf70 : tw_fv E68 a0 0 = .ref xr1 := (hst68.1 a0 0 hm0 (by rw [hk0]; decide)).trans hmf35
                  have hmf71 : tw_fv E68 xr1 0 = .int xi2 := (hst68.1 xr1 0 hmxr1 (by rw [hkxr1]; decide)).trans hmf36
                  have hmf72 : tw_fv E68 a0 1 = .ref xr37 := (hst68.1 a0 1 hm0 (by rw [hk0]; decide)).trans hxr37
                  have hmf73 : tw_fv E68 xr37 0 = .int xi38 := (hst68.1 xr37 0 hmxr37 (by rw [hkxr37]; decide)).trans hxi38
                  have hmf74 : tw_fv E68 a0 3 = .ref xr50 := (hst68.1 a0 3 hm0 (by rw [hk0]; decide)).trans hxr50
                  have hmf75 : tw_fv E68 xr1 5 = .ref xr61 := (hst68.1 xr1 5 hmxr1 (by rw [hkxr1]; decide)).trans hxr61
                  have hmf76 : tw_fv E68 xr37 5 = .ref xr63 := (hst68.1 xr37 5 hmxr37 (by rw [hkxr37]; decide)).trans hxr63
                  refine W.eq (g2 := F0 m 124 ls []) rfl ?_
                  refine lv_aload_n hx hb dX4_search_124 rfl (lv_at hl 1 rfl) ?_
                  refine lv_iload_n hx hb dX4_search_125 rfl (lv_at hl 2 rfl) ?_
                  refine lv_iconst (v := 1) hx hb dX4_search_126 (by decide) ?_
                  refine lv_iadd hx hb dX4_search_127 ?_
                  refine lv_topi (fun zi77 ezi77 => ?_)
                  have hzi77 : zi77.toInt = x1.toInt + 1 := by rw [ezi77]; have : ((1 : Int32).toInt) = 1 := (by decide); have := ia_lo x1; have := ia_hi x1; exact (ia_add (by omega) (by omega)).trans (by omega)
                  refine lv_iload_n hx hb dX4_search_128 rfl (lv_at hl 3 rfl) ?_
                  refine lv_aload_n hx hb dX4_search_129 rfl (lv_at hl 1 rfl) ?_
                  refine lv_iload_n hx hb dX4_search_130 rfl (lv_at hl 2 rfl) ?_
                  refine lv_iload hx hb dX4_search_131 (lv_at hl 0 rfl) ?_
                  refine tw_Vc (o := a0) (ci := 4) (n := 2) (post := (fun v kq Lq Eq => (∃ x : Int32, v = some (.int x) ∧ 0 ≤ x.toInt ∧ x.toInt ≤ 2) ∧ kp = kq ∧ L = Lq ∧ E68 = Eq)) (As := [.int x1, .int y72_5]) (rest := [.int x2, .int zi77, .ref a0]) ⟨hx, hb, hml, hown, hB⟩ (fun sz => tX4_pairCost l D cs a0 x1 y72_5 hm0 hk0 (by omega) (by omega) (by omega) (by omega) sz) cg_4_49_X4_pairCost rfl rfl (by decide +kernel) ⟨Nat.le_of_ble_eq_true rfl, Nat.le_of_ble_eq_true rfl⟩ hK hN TH hS hA rfl hm0 hk0 (by decide) rfl hl.1 rfl (Nat.le_of_ble_eq_true rfl) dX4_search_133 ⟨Nat.le_of_ble_eq_true rfl, Nat.le_of_ble_eq_true rfl⟩ (fun v78 kp78 L78 E78 H locs hq78 hx78 TH hS => ?_)
                  obtain ⟨⟨xc79, rfl, hxc79a, hxc79b⟩, rfl, rfl, rfl⟩ := hq78
                  refine W.eq (g2 := F0 m 136 ls [.int xc79, .int x2, .int zi77, .ref a0]) rfl ?_
                  refine lv_iadd hx hb dX4_search_136 ?_
                  refine lv_topi (fun zi80 ezi80 => ?_)
                  refine lv_iload_n hx hb dX4_search_137 rfl (lv_at hl 4 rfl) ?_
                  refine lv_iconst (v := 1) hx hb dX4_search_138 (by decide) ?_
                  refine lv_isub hx hb dX4_search_139 ?_
                  refine lv_topi (fun zi81 ezi81 => ?_)
                  refine tw_Vc (o := a0) (ci := 4) (n := 3) (post := (fun v kq Lq Eq => v = none ∧ kp = kq ∧ L = Lq ∧ tw_fr kp L [(4, 5)] [150, 151, 152] E68 Eq)) (As := [.int zi77, .int zi80, .int zi81]) (rest := []) ⟨hx, hb, hml, hown, hB⟩ (fun sz => tX4_search_v4 l D cs a0 zi77 zi80 zi81 hm0 hk0 (by omega) (by omega) sz) cg_4_53_X4_search rfl rfl (by decide +kernel) ⟨Nat.le_of_ble_eq_true rfl, Nat.le_of_ble_eq_true rfl⟩ hK hN TH hS hA rfl hm0 hk0 (by decide) rfl hl.1 rfl (Nat.le_of_ble_eq_true rfl) dX4_search_140 ⟨Nat.le_of_ble_eq_true rfl, Nat.le_of_ble_eq_true rfl⟩ (fun v82 kp82 L82 E82 H locs hq82 hx82 TH hS => ?_)
                  obtain ⟨rfl, rfl, rfl, hst82⟩ := hq82
                  have hF := hF.tr hst82 (fun _ h => ⟨h, rfl⟩) (by decide) (by decide)
                  have hG72 := hG72.tr hst82 (fun _ h => ⟨h, rfl⟩) (by decide) (by decide)
                  have hG158 := hG158.tr hst82 (fun _ h => ⟨h, rfl⟩) (by decide) (by decide)
                  have hmf84 : tw_fv E82 a0 0 = .ref xr1 := (hst82.1 a0 0 hm0 (by rw [hk0]; decide)).trans hmf70
                  have hmf85 : tw_fv E82 xr1 0 = .int xi2 := (hst82.1 xr1 0 hmxr1 (by rw [hkxr1]; decide)).trans hmf71
                  have hmf86 : tw_fv E82 a0 1 = .ref xr37 := (hst82.1 a0 1 hm0 (by rw [hk0]; decide)).trans hmf72
                  have hmf87 : tw_fv E82 xr37 0 = .int xi38 := (hst82.1 xr37 0 hmxr37 (by rw [hkxr37]; decide)).trans hmf73
                  have hmf88 : tw_fv E82 a0 3 = .ref xr50 := (hst82.1 a0 3 hm0 (by rw [hk0]; decide)).trans hmf74
                  have hmf89 : tw_fv E82 xr1 5 = .ref xr61 := (hst82.1 xr1 5 hmxr1 (by rw [hkxr1]; decide)).trans hmf75
                  have hmf90 : tw_fv E82 xr37 5 = .ref xr63 := (hst82.1 xr37 5 hmxr37 (by rw [hkxr37]; decide)).trans hmf76
                  refine W.eq (g2 := F0 m 143 ls []) rfl ?_
                  refine lv_aload_n hx hb dX4_search_143 rfl (lv_at hl 1 rfl) ?_
                  refine tw_get (ci := 4) (C := RX4) (T := TX4) (N := 7) hx hb hB cx_inX4 hown hK TH hm0 hk0 rfl ⟨by decide, rfl⟩ 2 (by decide) cw_199 (fun _ h9 => h9) dX4_search_144 (fun hv => ?_)
                  obtain ⟨xr91, hxr91, hmxr91, hkxr91⟩ : ∃ a : Nat, tw_fv E82 a0 2 = .ref a ∧ a ∈ L ∧ kp a = 150 := hv
                  rw [hxr91]
                  refine lv_iload_n hx hb dX4_search_147 rfl (lv_at hl 2 rfl) ?_
                  refine lv_iconst (v := (-1)) hx hb dX4_search_148 (by decide) ?_
                  refine tw_iast (k := 150) (n := 40) (lo := (-1)) (hi := 39) hx hb hK TH hS hmxr91 hkxr91 (by decide) rfl (i := x1) (x := (-1)) (vp_in_iff.mpr ⟨by  omega, by  omega⟩) (by have : (((-1) : Int32).toInt) = (-1) := (by decide); omega) (by have : (((-1) : Int32).toInt) = (-1) := (by decide); omega) dX4_search_149 (fun H locs E92 TH hS hp93 hp94 hp95 => ?_)
                  have hst96 : tw_fr kp L [] [150] E82 E92 := tw_fr.ast tw_fr.rf (fun _ => hkxr91) hp93 hp94 (by decide)
                  have hF := hF.tr hst96 (fun _ h => ⟨h, rfl⟩) (by decide) (by decide)
                  have hG72 := hG72.tr hst96 (fun _ h => ⟨h, rfl⟩) (by decide) (by decide)
                  have hG158 := hG158.tr hst96 (fun _ h => ⟨h, rfl⟩) (by decide) (by decide)
                  have hmf97 : tw_fv E92 a0 0 = .ref xr1 := (hst96.1 a0 0 hm0 (by rw [hk0]; decide)).trans hmf84
                  have hmf98 : tw_fv E92 xr1 0 = .int xi2 := (hst96.1 xr1 0 hmxr1 (by rw [hkxr1]; decide)).trans hmf85
                  have hmf99 : tw_fv E92 a0 1 = .ref xr37 := (hst96.1 a0 1 hm0 (by rw [hk0]; decide)).trans hmf86
                  have hmf100 : tw_fv E92 xr37 0 = .int xi38 := (hst96.1 xr37 0 hmxr37 (by rw [hkxr37]; decide)).trans hmf87
                  have hmf101 : tw_fv E92 a0 3 = .ref xr50 := (hst96.1 a0 3 hm0 (by rw [hk0]; decide)).trans hmf88
                  have hmf102 : tw_fv E92 xr1 5 = .ref xr61 := (hst96.1 xr1 5 hmxr1 (by rw [hkxr1]; decide)).trans hmf89
                  have hmf103 : tw_fv E92 xr37 5 = .ref xr63 := (hst96.1 xr37 5 hmxr37 (by rw [hkxr37]; decide)).trans hmf90
                  have hmf104 : tw_fv E92 a0 2 = .ref xr91 := (hst96.1 a0 2 hm0 (by rw [hk0]; decide)).trans hxr91
                  refine lv_aload_n hx hb dX4_search_150 rfl (lv_at hl 1 rfl) ?_
                  refine tw_get (ci := 4) (C := RX4) (T := TX4) (N := 7) hx hb hB cx_inX4 hown hK TH hm0 hk0 rfl ⟨by decide, rfl⟩ 3 (by decide) cw_200 (fun _ h9 => h9) dX4_search_151 (fun hv => ?_)
                  rw [hmf101]
                  refine lv_iload hx hb dX4_search_154 (lv_at hl 0 rfl) ?_
                  refine lv_iconst (v := (-1)) hx hb dX4_search_156 (by decide) ?_
                  refine tw_iast (k := 151) (n := 40) (lo := (-1)) (hi := 39) hx hb hK TH hS hmxr50 hkxr50 (by decide) rfl (i := y72_5) (x := (-1)) (vp_in_iff.mpr ⟨by  omega, by  omega⟩) (by have : (((-1) : Int32).toInt) = (-1) := (by decide); omega) (by have : (((-1) : Int32).toInt) = (-1) := (by decide); omega) dX4_search_157 (fun H locs E105 TH hS hp106 hp107 hp108 => ?_)
                  have hst109 : tw_fr kp L [] [151] E92 E105 := tw_fr.ast tw_fr.rf (fun _ => hkxr50) hp106 hp107 (by decide)
                  have hF := hF.tr hst109 (fun _ h => ⟨h, rfl⟩) (by decide) (by decide)
                  have hG72 := hG72.tr hst109 (fun _ h => ⟨h, rfl⟩) (by decide) (by decide)
                  have hG158 := hG158.tr hst109 (fun _ h => ⟨h, rfl⟩) (by decide) (by decide)
                  have hmf110 : tw_fv E105 a0 0 = .ref xr1 := (hst109.1 a0 0 hm0 (by rw [hk0]; decide)).trans hmf97
                  have hmf111 : tw_fv E105 xr1 0 = .int xi2 := (hst109.1 xr1 0 hmxr1 (by rw [hkxr1]; decide)).trans hmf98
                  have hmf112 : tw_fv E105 a0 1 = .ref xr37 := (hst109.1 a0 1 hm0 (by rw [hk0]; decide)).trans hmf99
                  have hmf113 : tw_fv E105 xr37 0 = .int xi38 := (hst109.1 xr37 0 hmxr37 (by rw [hkxr37]; decide)).trans hmf100
                  have hmf114 : tw_fv E105 a0 3 = .ref xr50 := (hst109.1 a0 3 hm0 (by rw [hk0]; decide)).trans hmf101
                  have hmf115 : tw_fv E105 xr1 5 = .ref xr61 := (hst109.1 xr1 5 hmxr1 (by rw [hkxr1]; decide)).trans hmf102
                  have hmf116 : tw_fv E105 xr37 5 = .ref xr63 := (hst109.1 xr37 5 hmxr37 (by rw [hkxr37]; decide)).trans hmf103
                  have hmf117 : tw_fv E105 a0 2 = .ref xr91 := (hst109.1 a0 2 hm0 (by rw [hk0]; decide)).trans hmf104
                  exact hJ158  _ _ _ ls hG158 TH hS (lv_sub hl [0, 1, 2, 3, 4] rfl)
        exact hJ72 40 (1 : Int32) _ _ _ ls (by have : ((1 : Int32).toInt) = 1 := (by decide); omega) (by have : ((1 : Int32).toInt) = 1 := (by decide); omega) (by have : ((1 : Int32).toInt) = 1 := (by decide);  omega) tw_fr.rf TH hS (lv_sub hl [0, 2, 3, 4, 5] rfl)
      · have hf118 : ¬ (x1.toInt < 6) := fun q => hc33 ((fa_lt _ _).mpr (by have : ((6 : Int32).toInt) = 6 := (by decide); omega))
        exfalso; omega
  · have hf119 : ¬ (zi7.toInt < xi8.toInt) := fun q => hc9 ((fa_lt _ _).mpr (by  omega))
    exact tw_vret hx hb hr hlocks TH hS hex ⟨rfl, rfl, rfl, hF⟩ (Nat.le_of_ble_eq_true rfl) (Nat.le_of_ble_eq_true rfl) dX4_search_29
set_option maxHeartbeats 4000000 in
set_option maxRecDepth 100000 in
theorem tX4_search_v2 (l : Launch) (D : va_G) (cs : Nat → ClassId) {kp : Nat → Nat} {L : List Nat} {E : Nat → va_E} (a0 : Nat) (x1 : Int32) (x2 : Int32) (x3 : Int32) (hm0 : a0 ∈ L) (hk0 : kp a0 = 4) (hp1a : 2 ≤ x1.toInt) (hp1b : x1.toInt ≤ 2) (sz : Nat) : Met l yX4_search (.code yX4_search cX4_search 6 none :: cx_big) { frames := 5, cells := 0, slots := 0, locals := 140 } (tw_P D cs kp L E [.ref a0, .int x1, .int x2, .int x3] sz) (tw_Q D cs kp L (fun v kq Lq Eq => v = none ∧ kp = kq ∧ L = Lq ∧ tw_fr kp L [(4, 5)] [150, 151, 152] E Eq) (va_A (va_pl L E) sz)) 0 0 (va_A (va_pl L E) sz) := by
  refine tw_ofW (by decide) (Nat.le_of_ble_eq_true rfl) ?_
  intro p e s m below meth c A ls hx hb hr hml hB hown hlocks hK hN hA TH hS hl
  have hown : s.vm.findClass "TreeMerge$Matcher" = some m.cls := hown
  have hl : lv_has ls 6 [(0, .ref a0), (1, .int x1), (2, .int x2), (3, .int x3)] := hl
  obtain ⟨kp0, ekp⟩ : ∃ z, z = kp := ⟨_, rfl⟩
  obtain ⟨L0, eL⟩ : ∃ z, z = L := ⟨_, rfl⟩
  rw [show tw_Q D cs kp L = tw_Q D cs kp0 L0 by rw [ekp, eL]]
  have hex : ∀ a : Nat, a ∈ L0 → a ∈ L ∧ kp a = kp0 a := fun a h => ⟨by rw [← eL]; exact h, by rw [ekp]⟩
  have hF : tw_fr kp L [(4, 5)] [150, 151, 152] E E := tw_fr.rf
  refine lv_iload_n hx hb dX4_search_0 rfl (lv_at hl 2 rfl) ?_
  refine lv_iconst (v := 2) hx hb dX4_search_1 (by decide) ?_
  refine lv_iload_n hx hb dX4_search_2 rfl (lv_at hl 3 rfl) ?_
  refine lv_aload_n hx hb dX4_search_3 rfl (lv_at hl 0 rfl) ?_
  refine tw_get (ci := 4) (C := RX4) (T := TX4) (N := 7) hx hb hB cx_inX4 hown hK TH hm0 hk0 rfl ⟨by decide, rfl⟩ 0 (by decide) cw_197 (fun _ h9 => h9) dX4_search_4 (fun hv => ?_)
  obtain ⟨xr1, hxr1, hmxr1, hkxr1⟩ : ∃ a : Nat, tw_fv E a0 0 = .ref a ∧ a ∈ L ∧ kp a = 10 := hv
  rw [hxr1]
  refine tw_get (ci := 10) (C := RX10) (T := TX10) (N := 8) hx hb hB cx_inX10 hown hK TH hmxr1 hkxr1 rfl ⟨by decide, rfl⟩ 0 (by decide) cw_118 (fun _ h9 => h9) dX4_search_7 (fun hv => ?_)
  obtain ⟨xi2, hxi2, hxi2a, hxi2b⟩ : ∃ x : Int32, tw_fv E xr1 0 = .int x ∧ 0 ≤ x.toInt ∧ x.toInt ≤ 40 := hv
  rw [hxi2]
  refine lv_iload_n hx hb dX4_search_10 rfl (lv_at hl 1 rfl) ?_
  refine lv_isub hx hb dX4_search_11 ?_
  refine lv_topi (fun zi3 ezi3 => ?_)
  have hzi3 : zi3.toInt = xi2.toInt - x1.toInt := by rw [ezi3];  have := ia_lo xi2; have := ia_hi xi2; have := ia_lo x1; have := ia_hi x1; exact (ia_sub (by omega) (by omega)).trans (by omega)
  refine lv_isub hx hb dX4_search_12 ?_
  refine lv_topi (fun zi4 ezi4 => ?_)
  refine va_mabs hx hb (hml.trans hl.1.symm) hown (hB _ cw_760) (hB _ cw_761) (hB _ cw_19) (hB _ cw_762) (Nat.le_of_ble_eq_true rfl) (Nat.le_of_ble_eq_true rfl) (Nat.le_of_ble_eq_true rfl) (Nat.le_of_ble_eq_true rfl) dX4_search_13 ?_
  refine lv_topi (fun zi5 ezi5 => ?_)
  refine lv_imul hx hb dX4_search_16 ?_
  refine lv_topi (fun zi6 ezi6 => ?_)
  refine lv_iadd hx hb dX4_search_17 ?_
  refine lv_topi (fun zi7 ezi7 => ?_)
  refine lv_istore (lv' := [(4, .int zi7), (0, .ref a0), (1, .int x1), (2, .int x2), (3, .int x3)]) hx hb dX4_search_18 hl (by decide) rfl (fun ls hl => ?_)
  refine lv_iload hx hb dX4_search_20 (lv_at hl 0 rfl) ?_
  refine lv_aload_n hx hb dX4_search_22 rfl (lv_at hl 1 rfl) ?_
  refine tw_get (ci := 4) (C := RX4) (T := TX4) (N := 7) hx hb hB cx_inX4 hown hK TH hm0 hk0 rfl ⟨by decide, rfl⟩ 5 (by decide) cw_202 (fun _ h9 => h9) dX4_search_23 (fun hv => ?_)
  obtain ⟨xi8, hxi8, hxi8a, hxi8b⟩ : ∃ x : Int32, tw_fv E a0 5 = .int x ∧ (-2147483648) ≤ x.toInt ∧ x.toInt ≤ 2147483647 := hv
  rw [hxi8]
  refine lv_icmp_lt (tgt := 30) hx hb dX4_search_26 (by decide) (fun hc9 => ?_) (fun hc9 => ?_)
  · have hf10 : zi7.toInt < xi8.toInt := by have z := (fa_lt _ _).mp hc9;  omega
    refine lv_iload_n hx hb dX4_search_30 rfl (lv_at hl 2 rfl) ?_
    refine lv_aload_n hx hb dX4_search_31 rfl (lv_at hl 1 rfl) ?_
    refine tw_get (ci := 4) (C := RX4) (T := TX4) (N := 7) hx hb hB cx_inX4 hown hK TH hm0 hk0 rfl ⟨by decide, rfl⟩ 0 (by decide) cw_197 (fun _ h9 => h9) dX4_search_32 (fun hv => ?_)
    rw [hxr1]
    refine tw_get (ci := 10) (C := RX10) (T := TX10) (N := 8) hx hb hB cx_inX10 hown hK TH hmxr1 hkxr1 rfl ⟨by decide, rfl⟩ 0 (by decide) cw_118 (fun _ h9 => h9) dX4_search_35 (fun hv => ?_)
    rw [hxi2]
    have hJ47 : ∀  (H : Heap) (locs : List Loc) (ls : Array Slot), tw_H D cs kp L E A H → va_S A s.heap H locs → lv_has ls 6 [(4, .int zi7), (0, .ref a0)] → W p l e { frames := 5, cells := 0, slots := 0, locals := 140 } s m [.ref a0, .int x1, .int x2, .int x3].toArray below meth c H locs 0 0 (MQ below (tw_Q D cs kp0 L0 (fun v kq Lq Eq => v = none ∧ kp = kq ∧ L = Lq ∧ tw_fr kp L [(4, 5)] [150, 151, 152] E Eq) A) [.ref a0, .int x1, .int x2, .int x3].toArray s 0 0 A) (F0 m 47 ls []) := by
      intro H locs ls TH hS hl
      refine lv_aload_n hx hb dX4_search_47 rfl (lv_at hl 1 rfl) ?_
      refine lv_iload hx hb dX4_search_48 (lv_at hl 0 rfl) ?_
      refine tw_put (ci := 4) (v := .int zi7) (ty := .int) (C := RX4) (T := TX4) (N := 7) hx hb hB cx_inX4 tyX4 tyX4_ok nmX4 hown hK TH hS hm0 hk0 rfl ⟨by decide, rfl⟩ 5 (by decide) cw_202 (fun _ h9 => h9) rfl (by decide +kernel) rfl rfl ⟨_, rfl, (ia_lo _), (ia_hi _)⟩ dX4_search_50 (fun H locs E11 TH hS hmf15 hp12 hp13 => ?_)
      have hst14 : tw_fr kp L [(4, 5)] [] E E11 := tw_fr.put tw_fr.rf (fun _ => hk0) (by decide) hp12 hp13 (by decide)
      have hF := hF.tr hst14 (fun _ h => ⟨h, rfl⟩) (by decide) (by decide)
      have hmf16 : tw_fv E11 a0 0 = .ref xr1 := (hst14.1 a0 0 hm0 (by rw [hk0]; decide)).trans hxr1
      have hmf17 : tw_fv E11 xr1 0 = .int xi2 := (hst14.1 xr1 0 hmxr1 (by rw [hkxr1]; decide)).trans hxi2
      refine lv_aload_n hx hb dX4_search_53 rfl (lv_at hl 1 rfl) ?_
      refine tw_get (ci := 4) (C := RX4) (T := TX4) (N := 7) hx hb hB cx_inX4 hown hK TH hm0 hk0 rfl ⟨by decide, rfl⟩ 2 (by decide) cw_199 (fun _ h9 => h9) dX4_search_54 (fun hv => ?_)
      obtain ⟨xr18, hxr18, hmxr18, hkxr18⟩ : ∃ a : Nat, tw_fv E11 a0 2 = .ref a ∧ a ∈ L ∧ kp a = 150 := hv
      rw [hxr18]
      refine lv_iconst (v := 0) hx hb dX4_search_57 (by decide) ?_
      refine lv_aload_n hx hb dX4_search_58 rfl (lv_at hl 1 rfl) ?_
      refine tw_get (ci := 4) (C := RX4) (T := TX4) (N := 7) hx hb hB cx_inX4 hown hK TH hm0 hk0 rfl ⟨by decide, rfl⟩ 4 (by decide) cw_201 (fun _ h9 => h9) dX4_search_59 (fun hv => ?_)
      obtain ⟨xr19, hxr19, hmxr19, hkxr19⟩ : ∃ a : Nat, tw_fv E11 a0 4 = .ref a ∧ a ∈ L ∧ kp a = 152 := hv
      rw [hxr19]
      refine lv_iconst (v := 0) hx hb dX4_search_62 (by decide) ?_
      refine lv_bipush (v := 40) hx hb dX4_search_63 (by decide) ?_
      refine tw_copyi (n0 := 40) (n1 := 40) (lo0 := (-1)) (hi0 := 39) (lo := (-1)) (hi := 39) hx hb (hml.trans hl.1.symm) hown (hB _ cw_763) (hB _ cw_606) (hB _ cw_605) (hB _ cw_18) hK TH hS hmxr18 hkxr18 (by decide) rfl hmxr19 hkxr19 (by decide) rfl (by decide) (by decide) (by have : ((0 : Int32).toInt) = 0 := (by decide); omega) (by have : ((0 : Int32).toInt) = 0 := (by decide); omega) (by have : ((40 : Int32).toInt) = 40 := (by decide); omega) (by have : ((0 : Int32).toInt) = 0 := (by decide); have : ((40 : Int32).toInt) = 40 := (by decide); omega) (by have : ((0 : Int32).toInt) = 0 := (by decide); have : ((40 : Int32).toInt) = 40 := (by decide); omega) (Nat.le_of_ble_eq_true rfl) (Nat.le_of_ble_eq_true rfl) dX4_search_65 (fun H locs E20 TH hS hp21 hp22 hp23 => ?_)
      have hst24 : tw_fr kp L [] [152] E11 E20 := tw_fr.ast tw_fr.rf (fun _ => hkxr19) hp21 hp22 (by decide)
      have hF := hF.tr hst24 (fun _ h => ⟨h, rfl⟩) (by decide) (by decide)
      have hmf25 : tw_fv E20 a0 0 = .ref xr1 := (hst24.1 a0 0 hm0 (by rw [hk0]; decide)).trans hmf16
      have hmf26 : tw_fv E20 xr1 0 = .int xi2 := (hst24.1 xr1 0 hmxr1 (by rw [hkxr1]; decide)).trans hmf17
      have hmf27 : tw_fv E20 a0 5 = .int zi7 := (hst24.1 a0 5 hm0 (by rw [hk0]; decide)).trans hmf15
      have hmf28 : tw_fv E20 a0 2 = .ref xr18 := (hst24.1 a0 2 hm0 (by rw [hk0]; decide)).trans hxr18
      have hmf29 : tw_fv E20 a0 4 = .ref xr19 := (hst24.1 a0 4 hm0 (by rw [hk0]; decide)).trans hxr19
      exact tw_vret hx hb hr hlocks TH hS hex ⟨rfl, rfl, rfl, hF⟩ (Nat.le_of_ble_eq_true rfl) (Nat.le_of_ble_eq_true rfl) dX4_search_68
    refine lv_icmp_ge (tgt := 47) hx hb dX4_search_38 (by decide) (fun hc30 => ?_) (fun hc30 => ?_)
    · have hf31 : xi2.toInt ≤ x1.toInt := by have z := (fa_le _ _).mp hc30;  omega
      exact hJ47  _ _ ls  TH hS (lv_sub hl [0, 1] rfl)
    · have hf32 : ¬ (xi2.toInt ≤ x1.toInt) := fun q => hc30 ((fa_le _ _).mpr (by  omega))
      refine lv_iload_n hx hb dX4_search_41 rfl (lv_at hl 2 rfl) ?_
      refine lv_bipush (v := 6) hx hb dX4_search_42 (by decide) ?_
      refine lv_icmp_lt (tgt := 69) hx hb dX4_search_44 (by decide) (fun hc33 => ?_) (fun hc33 => ?_)
      · have hf34 : x1.toInt < 6 := by have z := (fa_lt _ _).mp hc33; have : ((6 : Int32).toInt) = 6 := (by decide); omega
        refine lv_iconst (v := 1) hx hb dX4_search_69 (by decide) ?_
        refine lv_istore (lv' := [(5, .int 1), (4, .int zi7), (0, .ref a0), (1, .int x1), (2, .int x2), (3, .int x3)]) hx hb dX4_search_70 hl (by decide) rfl (fun ls hl => ?_)
        have hJ72 : ∀ (n72 : Nat) (y72_5 : Int32) (Eg72 : Nat → va_E) (H : Heap) (locs : List Loc) (ls : Array Slot), 1 ≤ y72_5.toInt → y72_5.toInt ≤ 40 → 40 - y72_5.toInt ≤ (n72 : Int) → tw_fr kp L [(4, 5)] [150, 151, 152] E Eg72 → tw_H D cs kp L Eg72 A H → va_S A s.heap H locs → lv_has ls 6 [(5, .int y72_5), (0, .ref a0), (1, .int x1), (2, .int x2), (3, .int x3)] → W p l e { frames := 5, cells := 0, slots := 0, locals := 140 } s m [.ref a0, .int x1, .int x2, .int x3].toArray below meth c H locs 0 0 (MQ below (tw_Q D cs kp0 L0 (fun v kq Lq Eq => v = none ∧ kp = kq ∧ L = Lq ∧ tw_fr kp L [(4, 5)] [150, 151, 152] E Eq) A) [.ref a0, .int x1, .int x2, .int x3].toArray s 0 0 A) (F0 m 72 ls []) := by
          intro n72
          induction n72 using Nat.strongRecOn with
          | _ n72 ih72 =>
            intro y72_5 Eg72 H locs ls hy72_5a hy72_5b hmeas72 hG72 TH hS hl
            have hF := hF.tr hG72 (fun _ h => ⟨h, rfl⟩) (by decide) (by decide)
            have hmf35 : tw_fv Eg72 a0 0 = .ref xr1 := (hG72.1 a0 0 hm0 (by rw [hk0]; decide)).trans hxr1
            have hmf36 : tw_fv Eg72 xr1 0 = .int xi2 := (hG72.1 xr1 0 hmxr1 (by rw [hkxr1]; decide)).trans hxi2
            refine lv_iload hx hb dX4_search_72 (lv_at hl 0 rfl) ?_
            refine lv_aload_n hx hb dX4_search_74 rfl (lv_at hl 1 rfl) ?_
            refine tw_get (ci := 4) (C := RX4) (T := TX4) (N := 7) hx hb hB cx_inX4 hown hK TH hm0 hk0 rfl ⟨by decide, rfl⟩ 1 (by decide) cw_198 (fun _ h9 => h9) dX4_search_75 (fun hv => ?_)
            obtain ⟨xr37, hxr37, hmxr37, hkxr37⟩ : ∃ a : Nat, tw_fv Eg72 a0 1 = .ref a ∧ a ∈ L ∧ kp a = 10 := hv
            rw [hxr37]
            refine tw_get (ci := 10) (C := RX10) (T := TX10) (N := 8) hx hb hB cx_inX10 hown hK TH hmxr37 hkxr37 rfl ⟨by decide, rfl⟩ 0 (by decide) cw_118 (fun _ h9 => h9) dX4_search_78 (fun hv => ?_)
            obtain ⟨xi38, hxi38, hxi38a, hxi38b⟩ : ∃ x : Int32, tw_fv Eg72 xr37 0 = .int x ∧ 0 ≤ x.toInt ∧ x.toInt ≤ 40 := hv
            rw [hxi38]
            refine lv_icmp_ge (tgt := 164) hx hb dX4_search_81 (by decide) (fun hc39 => ?_) (fun hc39 => ?_)
            · have hf40 : xi38.toInt ≤ y72_5.toInt := by have z := (fa_le _ _).mp hc39;  omega
              refine lv_aload_n hx hb dX4_search_164 rfl (lv_at hl 1 rfl) ?_
              refine lv_iload_n hx hb dX4_search_165 rfl (lv_at hl 2 rfl) ?_
              refine lv_iconst (v := 1) hx hb dX4_search_166 (by decide) ?_
              refine lv_iadd hx hb dX4_search_167 ?_
              refine lv_topi (fun zi41 ezi41 => ?_)
              have hzi41 : zi41.toInt = x1.toInt + 1 := by rw [ezi41]; have : ((1 : Int32).toInt) = 1 := (by decide); have := ia_lo x1; have := ia_hi x1; exact (ia_add (by omega) (by omega)).trans (by omega)
              refine lv_iload_n hx hb dX4_search_168 rfl (lv_at hl 3 rfl) ?_
              refine lv_iconst (v := 2) hx hb dX4_search_169 (by decide) ?_
              refine lv_iadd hx hb dX4_search_170 ?_
              refine lv_topi (fun zi42 ezi42 => ?_)
              refine lv_iload_n hx hb dX4_search_171 rfl (lv_at hl 4 rfl) ?_
              refine tw_Vc (o := a0) (ci := 4) (n := 3) (post := (fun v kq Lq Eq => v = none ∧ kp = kq ∧ L = Lq ∧ tw_fr kp L [(4, 5)] [150, 151, 152] Eg72 Eq)) (As := [.int zi41, .int zi42, .int x3]) (rest := []) ⟨hx, hb, hml, hown, hB⟩ (fun sz => tX4_search_v3 l D cs a0 zi41 zi42 x3 hm0 hk0 (by omega) (by omega) sz) cg_4_53_X4_search rfl rfl (by decide +kernel) ⟨Nat.le_of_ble_eq_true rfl, Nat.le_of_ble_eq_true rfl⟩ hK hN TH hS hA rfl hm0 hk0 (by decide) rfl hl.1 rfl (Nat.le_of_ble_eq_true rfl) dX4_search_172 ⟨Nat.le_of_ble_eq_true rfl, Nat.le_of_ble_eq_true rfl⟩ (fun v43 kp43 L43 E43 H locs hq43 hx43 TH hS => ?_)
              obtain ⟨rfl, rfl, rfl, hst43⟩ := hq43
              have hF := hF.tr hst43 (fun _ h => ⟨h, rfl⟩) (by decide) (by decide)
              have hG72 := hG72.tr hst43 (fun _ h => ⟨h, rfl⟩) (by decide) (by decide)
              have hmf45 : tw_fv E43 a0 0 = .ref xr1 := (hst43.1 a0 0 hm0 (by rw [hk0]; decide)).trans hmf35
              have hmf46 : tw_fv E43 xr1 0 = .int xi2 := (hst43.1 xr1 0 hmxr1 (by rw [hkxr1]; decide)).trans hmf36
              have hmf47 : tw_fv E43 a0 1 = .ref xr37 := (hst43.1 a0 1 hm0 (by rw [hk0]; decide)).trans hxr37
              have hmf48 : tw_fv E43 xr37 0 = .int xi38 := (hst43.1 xr37 0 hmxr37 (by rw [hkxr37]; decide)).trans hxi38
              refine W.eq (g2 := F0 m 175 ls []) rfl ?_
              exact tw_vret hx hb hr hlocks TH hS hex ⟨rfl, rfl, rfl, hF⟩ (Nat.le_of_ble_eq_true rfl) (Nat.le_of_ble_eq_true rfl) dX4_search_175
            · have hf49 : ¬ (xi38.toInt ≤ y72_5.toInt) := fun q => hc39 ((fa_le _ _).mpr (by  omega))
              refine lv_aload_n hx hb dX4_search_84 rfl (lv_at hl 1 rfl) ?_
              refine tw_get (ci := 4) (C := RX4) (T := TX4) (N := 7) hx hb hB cx_inX4 hown hK TH hm0 hk0 rfl ⟨by decide, rfl⟩ 3 (by decide) cw_200 (fun _ h9 => h9) dX4_search_85 (fun hv => ?_)
              obtain ⟨xr50, hxr50, hmxr50, hkxr50⟩ : ∃ a : Nat, tw_fv Eg72 a0 3 = .ref a ∧ a ∈ L ∧ kp a = 151 := hv
              rw [hxr50]
              refine lv_iload hx hb dX4_search_88 (lv_at hl 0 rfl) ?_
              refine tw_iald (k := 151) (t0 := 0) (n := 40) (lo := (-1)) (hi := 39) hx hb hK TH hmxr50 hkxr50 (by decide) rfl rfl (i := y72_5) (vp_in_iff.mpr ⟨by  omega, by  omega⟩) dX4_search_90 (fun hxe51a hxe51b => ?_)
              obtain ⟨xe51, exe51⟩ : ∃ z : Int32, tw_iv Eg72 xr50 (Int32.toNatClampNeg y72_5) = z := ⟨_, rfl⟩
              rw [exe51] at hxe51a hxe51b ⊢
              refine lv_iconst (v := (-1)) hx hb dX4_search_91 (by decide) ?_
              have hJ158 : ∀  (Eg158 : Nat → va_E) (H : Heap) (locs : List Loc) (ls : Array Slot), tw_fr kp L [(4, 5)] [150, 151, 152] Eg72 Eg158 → tw_H D cs kp L Eg158 A H → va_S A s.heap H locs → lv_has ls 6 [(5, .int y72_5), (0, .ref a0), (1, .int x1), (2, .int x2), (3, .int x3)] → W p l e { frames := 5, cells := 0, slots := 0, locals := 140 } s m [.ref a0, .int x1, .int x2, .int x3].toArray below meth c H locs 0 0 (MQ below (tw_Q D cs kp0 L0 (fun v kq Lq Eq => v = none ∧ kp = kq ∧ L = Lq ∧ tw_fr kp L [(4, 5)] [150, 151, 152] E Eq) A) [.ref a0, .int x1, .int x2, .int x3].toArray s 0 0 A) (F0 m 158 ls []) := by
                intro Eg158 H locs ls hG158 TH hS hl
                have hF := hF.tr hG158 (fun _ h => ⟨h, rfl⟩) (by decide) (by decide)
                have hG72 := hG72.tr hG158 (fun _ h => ⟨h, rfl⟩) (by decide) (by decide)
                have hmf52 : tw_fv Eg158 a0 0 = .ref xr1 := (hG158.1 a0 0 hm0 (by rw [hk0]; decide)).trans hmf35
                have hmf53 : tw_fv Eg158 xr1 0 = .int xi2 := (hG158.1 xr1 0 hmxr1 (by rw [hkxr1]; decide)).trans hmf36
                have hmf54 : tw_fv Eg158 a0 1 = .ref xr37 := (hG158.1 a0 1 hm0 (by rw [hk0]; decide)).trans hxr37
                have hmf55 : tw_fv Eg158 xr37 0 = .int xi38 := (hG158.1 xr37 0 hmxr37 (by rw [hkxr37]; decide)).trans hxi38
                have hmf56 : tw_fv Eg158 a0 3 = .ref xr50 := (hG158.1 a0 3 hm0 (by rw [hk0]; decide)).trans hxr50
                obtain ⟨zi57, ezi57⟩ : ∃ z : Int32, z = y72_5 + Int32.ofInt 1 := ⟨_, rfl⟩
                have hzi57 : zi57.toInt = y72_5.toInt + 1 := by rw [ezi57]; have : ((Int32.ofInt 1).toInt) = 1 := (by decide);  exact (ia_add (by omega) (by omega)).trans (by omega)
                refine lv_iinc (v := zi57) (lv' := [(5, .int zi57), (0, .ref a0), (1, .int x1), (2, .int x2), (3, .int x3)]) hx hb dX4_search_158 hl (k := 0) rfl ezi57.symm (by decide) rfl (fun ls hl => ?_)
                refine lv_goto (tgt := 72) hx hb dX4_search_161 (by decide) ?_
                exact ih72 (n72 - 1) (by   omega) zi57 _ _ _ ls (by omega) (by omega) (by   omega) hG72 TH hS (lv_sub hl [0, 1, 2, 3, 4] rfl)
              have hG158 : tw_fr kp L [(4, 5)] [150, 151, 152] Eg72 Eg72 := tw_fr.rf
              refine lv_icmp_ne (tgt := 158) hx hb dX4_search_92 (by decide) (fun hc58 => ?_) (fun hc58 => ?_)
              · have hf59 : ¬ (xe51.toInt = (-1)) := fun q => hc58 ((fa_eq _ _).mpr (by have : (((-1) : Int32).toInt) = (-1) := (by decide); omega))
                exact hJ158  _ _ _ ls hG158 TH hS (lv_sub hl [0, 1, 2, 3, 4] rfl)
              · have hf60 : xe51.toInt = (-1) := by have z := (fa_eq _ _).mp hc58; have : (((-1) : Int32).toInt) = (-1) := (by decide); omega
                refine lv_aload_n hx hb dX4_search_95 rfl (lv_at hl 1 rfl) ?_
                refine tw_get (ci := 4) (C := RX4) (T := TX4) (N := 7) hx hb hB cx_inX4 hown hK TH hm0 hk0 rfl ⟨by decide, rfl⟩ 0 (by decide) cw_197 (fun _ h9 => h9) dX4_search_96 (fun hv => ?_)
                rw [hmf35]
                refine tw_get (ci := 10) (C := RX10) (T := TX10) (N := 8) hx hb hB cx_inX10 hown hK TH hmxr1 hkxr1 rfl ⟨by decide, rfl⟩ 5 (by decide) cw_142 (fun _ h9 => h9) dX4_search_99 (fun hv => ?_)
                obtain ⟨xr61, hxr61, hmxr61, hkxr61⟩ : ∃ a : Nat, tw_fv Eg72 xr1 5 = .ref a ∧ a ∈ L ∧ kp a = 114 := hv
                rw [hxr61]
                refine lv_iload_n hx hb dX4_search_102 rfl (lv_at hl 2 rfl) ?_
                refine tw_iald (k := 114) (t0 := 0) (n := 40) (lo := (-1)) (hi := 9) hx hb hK TH hmxr61 hkxr61 (by decide) rfl rfl (i := x1) (vp_in_iff.mpr ⟨by  omega, by  omega⟩) dX4_search_103 (fun hxe62a hxe62b => ?_)
                obtain ⟨xe62, exe62⟩ : ∃ z : Int32, tw_iv Eg72 xr61 (Int32.toNatClampNeg x1) = z := ⟨_, rfl⟩
                rw [exe62] at hxe62a hxe62b ⊢
                refine lv_aload_n hx hb dX4_search_104 rfl (lv_at hl 1 rfl) ?_
                refine tw_get (ci := 4) (C := RX4) (T := TX4) (N := 7) hx hb hB cx_inX4 hown hK TH hm0 hk0 rfl ⟨by decide, rfl⟩ 1 (by decide) cw_198 (fun _ h9 => h9) dX4_search_105 (fun hv => ?_)
                rw [hxr37]
                refine tw_get (ci := 10) (C := RX10) (T := TX10) (N := 8) hx hb hB cx_inX10 hown hK TH hmxr37 hkxr37 rfl ⟨by decide, rfl⟩ 5 (by decide) cw_142 (fun _ h9 => h9) dX4_search_108 (fun hv => ?_)
                obtain ⟨xr63, hxr63, hmxr63, hkxr63⟩ : ∃ a : Nat, tw_fv Eg72 xr37 5 = .ref a ∧ a ∈ L ∧ kp a = 114 := hv
                rw [hxr63]
                refine lv_iload hx hb dX4_search_111 (lv_at hl 0 rfl) ?_
                refine tw_iald (k := 114) (t0 := 0) (n := 40) (lo := (-1)) (hi := 9) hx hb hK TH hmxr63 hkxr63 (by decide) rfl rfl (i := y72_5) (vp_in_iff.mpr ⟨by  omega, by  omega⟩) dX4_search_113 (fun hxe64a hxe64b => ?_)
                obtain ⟨xe64, exe64⟩ : ∃ z : Int32, tw_iv Eg72 xr63 (Int32.toNatClampNeg y72_5) = z := ⟨_, rfl⟩
                rw [exe64] at hxe64a hxe64b ⊢
                refine lv_icmp_ne (tgt := 158) hx hb dX4_search_114 (by decide) (fun hc65 => ?_) (fun hc65 => ?_)
                · have hf66 : ¬ (xe62.toInt = xe64.toInt) := fun q => hc65 ((fa_eq _ _).mpr (by  omega))
                  exact hJ158  _ _ _ ls hG158 TH hS (lv_sub hl [0, 1, 2, 3, 4] rfl)
                · have hf67 : xe62.toInt = xe64.toInt := by have z := (fa_eq _ _).mp hc65;  omega
                  refine lv_aload_n hx hb dX4_search_117 rfl (lv_at hl 1 rfl) ?_
                  refine lv_iload_n hx hb dX4_search_118 rfl (lv_at hl 2 rfl) ?_
                  refine lv_iload hx hb dX4_search_119 (lv_at hl 0 rfl) ?_
                  refine tw_Vc (o := a0) (ci := 4) (n := 2) (post := (fun v kq Lq Eq => v = none ∧ kp = kq ∧ L = Lq ∧ tw_fr kp L [] [150, 151] Eg72 Eq)) (As := [.int x1, .int y72_5]) (rest := []) ⟨hx, hb, hml, hown, hB⟩ (fun sz => tX4_link l D cs a0 x1 y72_5 hm0 hk0 (by omega) (by omega) (by omega) (by omega) sz) cg_4_34_X4_link rfl rfl (by decide +kernel) ⟨Nat.le_of_ble_eq_true rfl, Nat.le_of_ble_eq_true rfl⟩ hK hN TH hS hA rfl hm0 hk0 (by decide) rfl hl.1 rfl (Nat.le_of_ble_eq_true rfl) dX4_search_121 ⟨Nat.le_of_ble_eq_true rfl, Nat.le_of_ble_eq_true rfl⟩ (fun v68 kp68 L68 E68 H locs hq68 hx68 TH hS => ?_)
                  obtain ⟨rfl, rfl, rfl, hst68⟩ := hq68
                  have hF := hF.tr hst68 (fun _ h => ⟨h, rfl⟩) (by decide) (by decide)
                  have hG72 := hG72.tr hst68 (fun _ h => ⟨h, rfl⟩) (by decide) (by decide)
                  have hG158 := hG158.tr hst68 (fun _ h => ⟨h, rfl⟩) (by decide) (by decide)
                  have hmf70 : tw_fv E68 a0 0 = .ref xr1 := (hst68.1 a0 0 hm0 (by rw [hk0]; decide)).trans hmf35
                  have hmf71 : tw_fv E68 xr1 0 = .int xi2 := (hst68.1 xr1 0 hmxr1 (by rw [hkxr1]; decide)).trans hmf36
                  have hmf72 : tw_fv E68 a0 1 = .ref xr37 := (hst68.1 a0 1 hm0 (by rw [hk0]; decide)).trans hxr37
                  have hmf73 : tw_fv E68 xr37 0 = .int xi38 := (hst68.1 xr37 0 hmxr37 (by rw [hkxr37]; decide)).trans hxi38
                  have hmf74 : tw_fv E68 a0 3 = .ref xr50 := (hst68.1 a0 3 hm0 (by rw [hk0]; decide)).trans hxr50
                  have hmf75 : tw_fv E68 xr1 5 = .ref xr61 := (hst68.1 xr1 5 hmxr1 (by rw [hkxr1]; decide)).trans hxr61
                  have hmf76 : tw_fv E68 xr37 5 = .ref xr63 := (hst68.1 xr37 5 hmxr37 (by rw [hkxr37]; decide)).trans hxr63
                  refine W.eq (g2 := F0 m 124 ls []) rfl ?_
                  refine lv_aload_n hx hb dX4_search_124 rfl (lv_at hl 1 rfl) ?_
                  refine lv_iload_n hx hb dX4_search_125 rfl (lv_at hl 2 rfl) ?_
                  refine lv_iconst (v := 1) hx hb dX4_search_126 (by decide) ?_
                  refine lv_iadd hx hb dX4_search_127 ?_
                  refine lv_topi (fun zi77 ezi77 => ?_)
                  have hzi77 : zi77.toInt = x1.toInt + 1 := by rw [ezi77]; have : ((1 : Int32).toInt) = 1 := (by decide); have := ia_lo x1; have := ia_hi x1; exact (ia_add (by omega) (by omega)).trans (by omega)
                  refine lv_iload_n hx hb dX4_search_128 rfl (lv_at hl 3 rfl) ?_
                  refine lv_aload_n hx hb dX4_search_129 rfl (lv_at hl 1 rfl) ?_
                  refine lv_iload_n hx hb dX4_search_130 rfl (lv_at hl 2 rfl) ?_
                  refine lv_iload hx hb dX4_search_131 (lv_at hl 0 rfl) ?_
                  refine tw_Vc (o := a0) (ci := 4) (n := 2) (post := (fun v kq Lq Eq => (∃ x : Int32, v = some (.int x) ∧ 0 ≤ x.toInt ∧ x.toInt ≤ 2) ∧ kp = kq ∧ L = Lq ∧ E68 = Eq)) (As := [.int x1, .int y72_5]) (rest := [.int x2, .int zi77, .ref a0]) ⟨hx, hb, hml, hown, hB⟩ (fun sz => tX4_pairCost l D cs a0 x1 y72_5 hm0 hk0 (by omega) (by omega) (by omega) (by omega) sz) cg_4_49_X4_pairCost rfl rfl (by decide +kernel) ⟨Nat.le_of_ble_eq_true rfl, Nat.le_of_ble_eq_true rfl⟩ hK hN TH hS hA rfl hm0 hk0 (by decide) rfl hl.1 rfl (Nat.le_of_ble_eq_true rfl) dX4_search_133 ⟨Nat.le_of_ble_eq_true rfl, Nat.le_of_ble_eq_true rfl⟩ (fun v78 kp78 L78 E78 H locs hq78 hx78 TH hS => ?_)
                  obtain ⟨⟨xc79, rfl, hxc79a, hxc79b⟩, rfl, rfl, rfl⟩ := hq78
                  refine W.eq (g2 := F0 m 136 ls [.int xc79, .int x2, .int zi77, .ref a0]) rfl ?_
                  refine lv_iadd hx hb dX4_search_136 ?_
                  refine lv_topi (fun zi80 ezi80 => ?_)
                  refine lv_iload_n hx hb dX4_search_137 rfl (lv_at hl 4 rfl) ?_
                  refine lv_iconst (v := 1) hx hb dX4_search_138 (by decide) ?_
                  refine lv_isub hx hb dX4_search_139 ?_
                  refine lv_topi (fun zi81 ezi81 => ?_)
                  refine tw_Vc (o := a0) (ci := 4) (n := 3) (post := (fun v kq Lq Eq => v = none ∧ kp = kq ∧ L = Lq ∧ tw_fr kp L [(4, 5)] [150, 151, 152] E68 Eq)) (As := [.int zi77, .int zi80, .int zi81]) (rest := []) ⟨hx, hb, hml, hown, hB⟩ (fun sz => tX4_search_v3 l D cs a0 zi77 zi80 zi81 hm0 hk0 (by omega) (by omega) sz) cg_4_53_X4_search rfl rfl (by decide +kernel) ⟨Nat.le_of_ble_eq_true rfl, Nat.le_of_ble_eq_true rfl⟩ hK hN TH hS hA rfl hm0 hk0 (by decide) rfl hl.1 rfl (Nat.le_of_ble_eq_true rfl) dX4_search_140 ⟨Nat.le_of_ble_eq_true rfl, Nat.le_of_ble_eq_true rfl⟩ (fun v82 kp82 L82 E82 H locs hq82 hx82 TH hS => ?_)
                  obtain ⟨rfl, rfl, rfl, hst82⟩ := hq82
                  have hF := hF.tr hst82 (fun _ h => ⟨h, rfl⟩) (by decide) (by decide)
                  have hG72 := hG72.tr hst82 (fun _ h => ⟨h, rfl⟩) (by decide) (by decide)
                  have hG158 := hG158.tr hst82 (fun _ h => ⟨h, rfl⟩) (by decide) (by decide)
                  have hmf84 : tw_fv E82 a0 0 = .ref xr1 := (hst82.1 a0 0 hm0 (by rw [hk0]; decide)).trans hmf70
                  have hmf85 : tw_fv E82 xr1 0 = .int xi2 := (hst82.1 xr1 0 hmxr1 (by rw [hkxr1]; decide)).trans hmf71
                  have hmf86 : tw_fv E82 a0 1 = .ref xr37 := (hst82.1 a0 1 hm0 (by rw [hk0]; decide)).trans hmf72
                  have hmf87 : tw_fv E82 xr37 0 = .int xi38 := (hst82.1 xr37 0 hmxr37 (by rw [hkxr37]; decide)).trans hmf73
                  have hmf88 : tw_fv E82 a0 3 = .ref xr50 := (hst82.1 a0 3 hm0 (by rw [hk0]; decide)).trans hmf74
                  have hmf89 : tw_fv E82 xr1 5 = .ref xr61 := (hst82.1 xr1 5 hmxr1 (by rw [hkxr1]; decide)).trans hmf75
                  have hmf90 : tw_fv E82 xr37 5 = .ref xr63 := (hst82.1 xr37 5 hmxr37 (by rw [hkxr37]; decide)).trans hmf76
                  refine W.eq (g2 := F0 m 143 ls []) rfl ?_
                  refine lv_aload_n hx hb dX4_search_143 rfl (lv_at hl 1 rfl) ?_
                  refine tw_get (ci := 4) (C := RX4) (T := TX4) (N := 7) hx hb hB cx_inX4 hown hK TH hm0 hk0 rfl ⟨by decide, rfl⟩ 2 (by decide) cw_199 (fun _ h9 => h9) dX4_search_144 (fun hv => ?_)
                  obtain ⟨xr91, hxr91, hmxr91, hkxr91⟩ : ∃ a : Nat, tw_fv E82 a0 2 = .ref a ∧ a ∈ L ∧ kp a = 150 := hv
                  rw [hxr91]
                  refine lv_iload_n hx hb dX4_search_147 rfl (lv_at hl 2 rfl) ?_
                  refine lv_iconst (v := (-1)) hx hb dX4_search_148 (by decide) ?_
                  refine tw_iast (k := 150) (n := 40) (lo := (-1)) (hi := 39) hx hb hK TH hS hmxr91 hkxr91 (by decide) rfl (i := x1) (x := (-1)) (vp_in_iff.mpr ⟨by  omega, by  omega⟩) (by have : (((-1) : Int32).toInt) = (-1) := (by decide); omega) (by have : (((-1) : Int32).toInt) = (-1) := (by decide); omega) dX4_search_149 (fun H locs E92 TH hS hp93 hp94 hp95 => ?_)
                  have hst96 : tw_fr kp L [] [150] E82 E92 := tw_fr.ast tw_fr.rf (fun _ => hkxr91) hp93 hp94 (by decide)
                  have hF := hF.tr hst96 (fun _ h => ⟨h, rfl⟩) (by decide) (by decide)
                  have hG72 := hG72.tr hst96 (fun _ h => ⟨h, rfl⟩) (by decide) (by decide)
                  have hG158 := hG158.tr hst96 (fun _ h => ⟨h, rfl⟩) (by decide) (by decide)
                  have hmf97 : tw_fv E92 a0 0 = .ref xr1 := (hst96.1 a0 0 hm0 (by rw [hk0]; decide)).trans hmf84
                  have hmf98 : tw_fv E92 xr1 0 = .int xi2 := (hst96.1 xr1 0 hmxr1 (by rw [hkxr1]; decide)).trans hmf85
                  have hmf99 : tw_fv E92 a0 1 = .ref xr37 := (hst96.1 a0 1 hm0 (by rw [hk0]; decide)).trans hmf86
                  have hmf100 : tw_fv E92 xr37 0 = .int xi38 := (hst96.1 xr37 0 hmxr37 (by rw [hkxr37]; decide)).trans hmf87
                  have hmf101 : tw_fv E92 a0 3 = .ref xr50 := (hst96.1 a0 3 hm0 (by rw [hk0]; decide)).trans hmf88
                  have hmf102 : tw_fv E92 xr1 5 = .ref xr61 := (hst96.1 xr1 5 hmxr1 (by rw [hkxr1]; decide)).trans hmf89
                  have hmf103 : tw_fv E92 xr37 5 = .ref xr63 := (hst96.1 xr37 5 hmxr37 (by rw [hkxr37]; decide)).trans hmf90
                  have hmf104 : tw_fv E92 a0 2 = .ref xr91 := (hst96.1 a0 2 hm0 (by rw [hk0]; decide)).trans hxr91
                  refine lv_aload_n hx hb dX4_search_150 rfl (lv_at hl 1 rfl) ?_
                  refine tw_get (ci := 4) (C := RX4) (T := TX4) (N := 7) hx hb hB cx_inX4 hown hK TH hm0 hk0 rfl ⟨by decide, rfl⟩ 3 (by decide) cw_200 (fun _ h9 => h9) dX4_search_151 (fun hv => ?_)
                  rw [hmf101]
                  refine lv_iload hx hb dX4_search_154 (lv_at hl 0 rfl) ?_
                  refine lv_iconst (v := (-1)) hx hb dX4_search_156 (by decide) ?_
                  refine tw_iast (k := 151) (n := 40) (lo := (-1)) (hi := 39) hx hb hK TH hS hmxr50 hkxr50 (by decide) rfl (i := y72_5) (x := (-1)) (vp_in_iff.mpr ⟨by  omega, by  omega⟩) (by have : (((-1) : Int32).toInt) = (-1) := (by decide); omega) (by have : (((-1) : Int32).toInt) = (-1) := (by decide); omega) dX4_search_157 (fun H locs E105 TH hS hp106 hp107 hp108 => ?_)
                  have hst109 : tw_fr kp L [] [151] E92 E105 := tw_fr.ast tw_fr.rf (fun _ => hkxr50) hp106 hp107 (by decide)
                  have hF := hF.tr hst109 (fun _ h => ⟨h, rfl⟩) (by decide) (by decide)
                  have hG72 := hG72.tr hst109 (fun _ h => ⟨h, rfl⟩) (by decide) (by decide)
                  have hG158 := hG158.tr hst109 (fun _ h => ⟨h, rfl⟩) (by decide) (by decide)
                  have hmf110 : tw_fv E105 a0 0 = .ref xr1 := (hst109.1 a0 0 hm0 (by rw [hk0]; decide)).trans hmf97
                  have hmf111 : tw_fv E105 xr1 0 = .int xi2 := (hst109.1 xr1 0 hmxr1 (by rw [hkxr1]; decide)).trans hmf98
                  have hmf112 : tw_fv E105 a0 1 = .ref xr37 := (hst109.1 a0 1 hm0 (by rw [hk0]; decide)).trans hmf99
                  have hmf113 : tw_fv E105 xr37 0 = .int xi38 := (hst109.1 xr37 0 hmxr37 (by rw [hkxr37]; decide)).trans hmf100
                  have hmf114 : tw_fv E105 a0 3 = .ref xr50 := (hst109.1 a0 3 hm0 (by rw [hk0]; decide)).trans hmf101
                  have hmf115 : tw_fv E105 xr1 5 = .ref xr61 := (hst109.1 xr1 5 hmxr1 (by rw [hkxr1]; decide)).trans hmf102
                  have hmf116 : tw_fv E105 xr37 5 = .ref xr63 := (hst109.1 xr37 5 hmxr37 (by rw [hkxr37]; decide)).trans hmf103
                  have hmf117 : tw_fv E105 a0 2 = .ref xr91 := (hst109.1 a0 2 hm0 (by rw [hk0]; decide)).trans hmf104
                  exact hJ158  _ _ _ ls hG158 TH hS (lv_sub hl [0, 1, 2, 3, 4] rfl)
        exact hJ72 40 (1 : Int32) _ _ _ ls (by have : ((1 : Int32).toInt) = 1 := (by decide); omega) (by have : ((1 : Int32).toInt) = 1 := (by decide); omega) (by have : ((1 : Int32).toInt) = 1 := (by decide);  omega) tw_fr.rf TH hS (lv_sub hl [0, 2, 3, 4, 5] rfl)
      · have hf118 : ¬ (x1.toInt < 6) := fun q => hc33 ((fa_lt _ _).mpr (by have : ((6 : Int32).toInt) = 6 := (by decide); omega))
        exfalso; omega
  · have hf119 : ¬ (zi7.toInt < xi8.toInt) := fun q => hc9 ((fa_lt _ _).mpr (by  omega))
    exact tw_vret hx hb hr hlocks TH hS hex ⟨rfl, rfl, rfl, hF⟩ (Nat.le_of_ble_eq_true rfl) (Nat.le_of_ble_eq_true rfl) dX4_search_29
set_option maxHeartbeats 4000000 in
set_option maxRecDepth 100000 in
theorem tX4_search_v1 (l : Launch) (D : va_G) (cs : Nat → ClassId) {kp : Nat → Nat} {L : List Nat} {E : Nat → va_E} (a0 : Nat) (x1 : Int32) (x2 : Int32) (x3 : Int32) (hm0 : a0 ∈ L) (hk0 : kp a0 = 4) (hp1a : 1 ≤ x1.toInt) (hp1b : x1.toInt ≤ 1) (sz : Nat) : Met l yX4_search (.code yX4_search cX4_search 6 none :: cx_big) { frames := 6, cells := 0, slots := 0, locals := 165 } (tw_P D cs kp L E [.ref a0, .int x1, .int x2, .int x3] sz) (tw_Q D cs kp L (fun v kq Lq Eq => v = none ∧ kp = kq ∧ L = Lq ∧ tw_fr kp L [(4, 5)] [150, 151, 152] E Eq) (va_A (va_pl L E) sz)) 0 0 (va_A (va_pl L E) sz) := by
  refine tw_ofW (by decide) (Nat.le_of_ble_eq_true rfl) ?_
  intro p e s m below meth c A ls hx hb hr hml hB hown hlocks hK hN hA TH hS hl
  have hown : s.vm.findClass "TreeMerge$Matcher" = some m.cls := hown
  have hl : lv_has ls 6 [(0, .ref a0), (1, .int x1), (2, .int x2), (3, .int x3)] := hl
  obtain ⟨kp0, ekp⟩ : ∃ z, z = kp := ⟨_, rfl⟩
  obtain ⟨L0, eL⟩ : ∃ z, z = L := ⟨_, rfl⟩
  rw [show tw_Q D cs kp L = tw_Q D cs kp0 L0 by rw [ekp, eL]]
  have hex : ∀ a : Nat, a ∈ L0 → a ∈ L ∧ kp a = kp0 a := fun a h => ⟨by rw [← eL]; exact h, by rw [ekp]⟩
  have hF : tw_fr kp L [(4, 5)] [150, 151, 152] E E := tw_fr.rf
  refine lv_iload_n hx hb dX4_search_0 rfl (lv_at hl 2 rfl) ?_
  refine lv_iconst (v := 2) hx hb dX4_search_1 (by decide) ?_
  refine lv_iload_n hx hb dX4_search_2 rfl (lv_at hl 3 rfl) ?_
  refine lv_aload_n hx hb dX4_search_3 rfl (lv_at hl 0 rfl) ?_
  refine tw_get (ci := 4) (C := RX4) (T := TX4) (N := 7) hx hb hB cx_inX4 hown hK TH hm0 hk0 rfl ⟨by decide, rfl⟩ 0 (by decide) cw_197 (fun _ h9 => h9) dX4_search_4 (fun hv => ?_)
  obtain ⟨xr1, hxr1, hmxr1, hkxr1⟩ : ∃ a : Nat, tw_fv E a0 0 = .ref a ∧ a ∈ L ∧ kp a = 10 := hv
  rw [hxr1]
  refine tw_get (ci := 10) (C := RX10) (T := TX10) (N := 8) hx hb hB cx_inX10 hown hK TH hmxr1 hkxr1 rfl ⟨by decide, rfl⟩ 0 (by decide) cw_118 (fun _ h9 => h9) dX4_search_7 (fun hv => ?_)
  obtain ⟨xi2, hxi2, hxi2a, hxi2b⟩ : ∃ x : Int32, tw_fv E xr1 0 = .int x ∧ 0 ≤ x.toInt ∧ x.toInt ≤ 40 := hv
  rw [hxi2]
  refine lv_iload_n hx hb dX4_search_10 rfl (lv_at hl 1 rfl) ?_
  refine lv_isub hx hb dX4_search_11 ?_
  refine lv_topi (fun zi3 ezi3 => ?_)
  have hzi3 : zi3.toInt = xi2.toInt - x1.toInt := by rw [ezi3];  have := ia_lo xi2; have := ia_hi xi2; have := ia_lo x1; have := ia_hi x1; exact (ia_sub (by omega) (by omega)).trans (by omega)
  refine lv_isub hx hb dX4_search_12 ?_
  refine lv_topi (fun zi4 ezi4 => ?_)
  refine va_mabs hx hb (hml.trans hl.1.symm) hown (hB _ cw_760) (hB _ cw_761) (hB _ cw_19) (hB _ cw_762) (Nat.le_of_ble_eq_true rfl) (Nat.le_of_ble_eq_true rfl) (Nat.le_of_ble_eq_true rfl) (Nat.le_of_ble_eq_true rfl) dX4_search_13 ?_
  refine lv_topi (fun zi5 ezi5 => ?_)
  refine lv_imul hx hb dX4_search_16 ?_
  refine lv_topi (fun zi6 ezi6 => ?_)
  refine lv_iadd hx hb dX4_search_17 ?_
  refine lv_topi (fun zi7 ezi7 => ?_)
  refine lv_istore (lv' := [(4, .int zi7), (0, .ref a0), (1, .int x1), (2, .int x2), (3, .int x3)]) hx hb dX4_search_18 hl (by decide) rfl (fun ls hl => ?_)
  refine lv_iload hx hb dX4_search_20 (lv_at hl 0 rfl) ?_
  refine lv_aload_n hx hb dX4_search_22 rfl (lv_at hl 1 rfl) ?_
  refine tw_get (ci := 4) (C := RX4) (T := TX4) (N := 7) hx hb hB cx_inX4 hown hK TH hm0 hk0 rfl ⟨by decide, rfl⟩ 5 (by decide) cw_202 (fun _ h9 => h9) dX4_search_23 (fun hv => ?_)
  obtain ⟨xi8, hxi8, hxi8a, hxi8b⟩ : ∃ x : Int32, tw_fv E a0 5 = .int x ∧ (-2147483648) ≤ x.toInt ∧ x.toInt ≤ 2147483647 := hv
  rw [hxi8]
  refine lv_icmp_lt (tgt := 30) hx hb dX4_search_26 (by decide) (fun hc9 => ?_) (fun hc9 => ?_)
  · have hf10 : zi7.toInt < xi8.toInt := by have z := (fa_lt _ _).mp hc9;  omega
    refine lv_iload_n hx hb dX4_search_30 rfl (lv_at hl 2 rfl) ?_
    refine lv_aload_n hx hb dX4_search_31 rfl (lv_at hl 1 rfl) ?_
    refine tw_get (ci := 4) (C := RX4) (T := TX4) (N := 7) hx hb hB cx_inX4 hown hK TH hm0 hk0 rfl ⟨by decide, rfl⟩ 0 (by decide) cw_197 (fun _ h9 => h9) dX4_search_32 (fun hv => ?_)
    rw [hxr1]
    refine tw_get (ci := 10) (C := RX10) (T := TX10) (N := 8) hx hb hB cx_inX10 hown hK TH hmxr1 hkxr1 rfl ⟨by decide, rfl⟩ 0 (by decide) cw_118 (fun _ h9 => h9) dX4_search_35 (fun hv => ?_)
    rw [hxi2]
    have hJ47 : ∀  (H : Heap) (locs : List Loc) (ls : Array Slot), tw_H D cs kp L E A H → va_S A s.heap H locs → lv_has ls 6 [(4, .int zi7), (0, .ref a0)] → W p l e { frames := 6, cells := 0, slots := 0, locals := 165 } s m [.ref a0, .int x1, .int x2, .int x3].toArray below meth c H locs 0 0 (MQ below (tw_Q D cs kp0 L0 (fun v kq Lq Eq => v = none ∧ kp = kq ∧ L = Lq ∧ tw_fr kp L [(4, 5)] [150, 151, 152] E Eq) A) [.ref a0, .int x1, .int x2, .int x3].toArray s 0 0 A) (F0 m 47 ls []) := by
      intro H locs ls TH hS hl
      refine lv_aload_n hx hb dX4_search_47 rfl (lv_at hl 1 rfl) ?_
      refine lv_iload hx hb dX4_search_48 (lv_at hl 0 rfl) ?_
      refine tw_put (ci := 4) (v := .int zi7) (ty := .int) (C := RX4) (T := TX4) (N := 7) hx hb hB cx_inX4 tyX4 tyX4_ok nmX4 hown hK TH hS hm0 hk0 rfl ⟨by decide, rfl⟩ 5 (by decide) cw_202 (fun _ h9 => h9) rfl (by decide +kernel) rfl rfl ⟨_, rfl, (ia_lo _), (ia_hi _)⟩ dX4_search_50 (fun H locs E11 TH hS hmf15 hp12 hp13 => ?_)
      have hst14 : tw_fr kp L [(4, 5)] [] E E11 := tw_fr.put tw_fr.rf (fun _ => hk0) (by decide) hp12 hp13 (by decide)
      have hF := hF.tr hst14 (fun _ h => ⟨h, rfl⟩) (by decide) (by decide)
      have hmf16 : tw_fv E11 a0 0 = .ref xr1 := (hst14.1 a0 0 hm0 (by rw [hk0]; decide)).trans hxr1
      have hmf17 : tw_fv E11 xr1 0 = .int xi2 := (hst14.1 xr1 0 hmxr1 (by rw [hkxr1]; decide)).trans hxi2
      refine lv_aload_n hx hb dX4_search_53 rfl (lv_at hl 1 rfl) ?_
      refine tw_get (ci := 4) (C := RX4) (T := TX4) (N := 7) hx hb hB cx_inX4 hown hK TH hm0 hk0 rfl ⟨by decide, rfl⟩ 2 (by decide) cw_199 (fun _ h9 => h9) dX4_search_54 (fun hv => ?_)
      obtain ⟨xr18, hxr18, hmxr18, hkxr18⟩ : ∃ a : Nat, tw_fv E11 a0 2 = .ref a ∧ a ∈ L ∧ kp a = 150 := hv
      rw [hxr18]
      refine lv_iconst (v := 0) hx hb dX4_search_57 (by decide) ?_
      refine lv_aload_n hx hb dX4_search_58 rfl (lv_at hl 1 rfl) ?_
      refine tw_get (ci := 4) (C := RX4) (T := TX4) (N := 7) hx hb hB cx_inX4 hown hK TH hm0 hk0 rfl ⟨by decide, rfl⟩ 4 (by decide) cw_201 (fun _ h9 => h9) dX4_search_59 (fun hv => ?_)
      obtain ⟨xr19, hxr19, hmxr19, hkxr19⟩ : ∃ a : Nat, tw_fv E11 a0 4 = .ref a ∧ a ∈ L ∧ kp a = 152 := hv
      rw [hxr19]
      refine lv_iconst (v := 0) hx hb dX4_search_62 (by decide) ?_
      refine lv_bipush (v := 40) hx hb dX4_search_63 (by decide) ?_
      refine tw_copyi (n0 := 40) (n1 := 40) (lo0 := (-1)) (hi0 := 39) (lo := (-1)) (hi := 39) hx hb (hml.trans hl.1.symm) hown (hB _ cw_763) (hB _ cw_606) (hB _ cw_605) (hB _ cw_18) hK TH hS hmxr18 hkxr18 (by decide) rfl hmxr19 hkxr19 (by decide) rfl (by decide) (by decide) (by have : ((0 : Int32).toInt) = 0 := (by decide); omega) (by have : ((0 : Int32).toInt) = 0 := (by decide); omega) (by have : ((40 : Int32).toInt) = 40 := (by decide); omega) (by have : ((0 : Int32).toInt) = 0 := (by decide); have : ((40 : Int32).toInt) = 40 := (by decide); omega) (by have : ((0 : Int32).toInt) = 0 := (by decide); have : ((40 : Int32).toInt) = 40 := (by decide); omega) (Nat.le_of_ble_eq_true rfl) (Nat.le_of_ble_eq_true rfl) dX4_search_65 (fun H locs E20 TH hS hp21 hp22 hp23 => ?_)
      have hst24 : tw_fr kp L [] [152] E11 E20 := tw_fr.ast tw_fr.rf (fun _ => hkxr19) hp21 hp22 (by decide)
      have hF := hF.tr hst24 (fun _ h => ⟨h, rfl⟩) (by decide) (by decide)
      have hmf25 : tw_fv E20 a0 0 = .ref xr1 := (hst24.1 a0 0 hm0 (by rw [hk0]; decide)).trans hmf16
      have hmf26 : tw_fv E20 xr1 0 = .int xi2 := (hst24.1 xr1 0 hmxr1 (by rw [hkxr1]; decide)).trans hmf17
      have hmf27 : tw_fv E20 a0 5 = .int zi7 := (hst24.1 a0 5 hm0 (by rw [hk0]; decide)).trans hmf15
      have hmf28 : tw_fv E20 a0 2 = .ref xr18 := (hst24.1 a0 2 hm0 (by rw [hk0]; decide)).trans hxr18
      have hmf29 : tw_fv E20 a0 4 = .ref xr19 := (hst24.1 a0 4 hm0 (by rw [hk0]; decide)).trans hxr19
      exact tw_vret hx hb hr hlocks TH hS hex ⟨rfl, rfl, rfl, hF⟩ (Nat.le_of_ble_eq_true rfl) (Nat.le_of_ble_eq_true rfl) dX4_search_68
    refine lv_icmp_ge (tgt := 47) hx hb dX4_search_38 (by decide) (fun hc30 => ?_) (fun hc30 => ?_)
    · have hf31 : xi2.toInt ≤ x1.toInt := by have z := (fa_le _ _).mp hc30;  omega
      exact hJ47  _ _ ls  TH hS (lv_sub hl [0, 1] rfl)
    · have hf32 : ¬ (xi2.toInt ≤ x1.toInt) := fun q => hc30 ((fa_le _ _).mpr (by  omega))
      refine lv_iload_n hx hb dX4_search_41 rfl (lv_at hl 2 rfl) ?_
      refine lv_bipush (v := 6) hx hb dX4_search_42 (by decide) ?_
      refine lv_icmp_lt (tgt := 69) hx hb dX4_search_44 (by decide) (fun hc33 => ?_) (fun hc33 => ?_)
      · have hf34 : x1.toInt < 6 := by have z := (fa_lt _ _).mp hc33; have : ((6 : Int32).toInt) = 6 := (by decide); omega
        refine lv_iconst (v := 1) hx hb dX4_search_69 (by decide) ?_
        refine lv_istore (lv' := [(5, .int 1), (4, .int zi7), (0, .ref a0), (1, .int x1), (2, .int x2), (3, .int x3)]) hx hb dX4_search_70 hl (by decide) rfl (fun ls hl => ?_)
        have hJ72 : ∀ (n72 : Nat) (y72_5 : Int32) (Eg72 : Nat → va_E) (H : Heap) (locs : List Loc) (ls : Array Slot), 1 ≤ y72_5.toInt → y72_5.toInt ≤ 40 → 40 - y72_5.toInt ≤ (n72 : Int) → tw_fr kp L [(4, 5)] [150, 151, 152] E Eg72 → tw_H D cs kp L Eg72 A H → va_S A s.heap H locs → lv_has ls 6 [(5, .int y72_5), (0, .ref a0), (1, .int x1), (2, .int x2), (3, .int x3)] → W p l e { frames := 6, cells := 0, slots := 0, locals := 165 } s m [.ref a0, .int x1, .int x2, .int x3].toArray below meth c H locs 0 0 (MQ below (tw_Q D cs kp0 L0 (fun v kq Lq Eq => v = none ∧ kp = kq ∧ L = Lq ∧ tw_fr kp L [(4, 5)] [150, 151, 152] E Eq) A) [.ref a0, .int x1, .int x2, .int x3].toArray s 0 0 A) (F0 m 72 ls []) := by
          intro n72
          induction n72 using Nat.strongRecOn with
          | _ n72 ih72 =>
            intro y72_5 Eg72 H locs ls hy72_5a hy72_5b hmeas72 hG72 TH hS hl
            have hF := hF.tr hG72 (fun _ h => ⟨h, rfl⟩) (by decide) (by decide)
            have hmf35 : tw_fv Eg72 a0 0 = .ref xr1 := (hG72.1 a0 0 hm0 (by rw [hk0]; decide)).trans hxr1
            have hmf36 : tw_fv Eg72 xr1 0 = .int xi2 := (hG72.1 xr1 0 hmxr1 (by rw [hkxr1]; decide)).trans hxi2
            refine lv_iload hx hb dX4_search_72 (lv_at hl 0 rfl) ?_
            refine lv_aload_n hx hb dX4_search_74 rfl (lv_at hl 1 rfl) ?_
            refine tw_get (ci := 4) (C := RX4) (T := TX4) (N := 7) hx hb hB cx_inX4 hown hK TH hm0 hk0 rfl ⟨by decide, rfl⟩ 1 (by decide) cw_198 (fun _ h9 => h9) dX4_search_75 (fun hv => ?_)
            obtain ⟨xr37, hxr37, hmxr37, hkxr37⟩ : ∃ a : Nat, tw_fv Eg72 a0 1 = .ref a ∧ a ∈ L ∧ kp a = 10 := hv
            rw [hxr37]
            refine tw_get (ci := 10) (C := RX10) (T := TX10) (N := 8) hx hb hB cx_inX10 hown hK TH hmxr37 hkxr37 rfl ⟨by decide, rfl⟩ 0 (by decide) cw_118 (fun _ h9 => h9) dX4_search_78 (fun hv => ?_)
            obtain ⟨xi38, hxi38, hxi38a, hxi38b⟩ : ∃ x : Int32, tw_fv Eg72 xr37 0 = .int x ∧ 0 ≤ x.toInt ∧ x.toInt ≤ 40 := hv
            rw [hxi38]
            refine lv_icmp_ge (tgt := 164) hx hb dX4_search_81 (by decide) (fun hc39 => ?_) (fun hc39 => ?_)
            · have hf40 : xi38.toInt ≤ y72_5.toInt := by have z := (fa_le _ _).mp hc39;  omega
              refine lv_aload_n hx hb dX4_search_164 rfl (lv_at hl 1 rfl) ?_
              refine lv_iload_n hx hb dX4_search_165 rfl (lv_at hl 2 rfl) ?_
              refine lv_iconst (v := 1) hx hb dX4_search_166 (by decide) ?_
              refine lv_iadd hx hb dX4_search_167 ?_
              refine lv_topi (fun zi41 ezi41 => ?_)
              have hzi41 : zi41.toInt = x1.toInt + 1 := by rw [ezi41]; have : ((1 : Int32).toInt) = 1 := (by decide); have := ia_lo x1; have := ia_hi x1; exact (ia_add (by omega) (by omega)).trans (by omega)
              refine lv_iload_n hx hb dX4_search_168 rfl (lv_at hl 3 rfl) ?_
              refine lv_iconst (v := 2) hx hb dX4_search_169 (by decide) ?_
              refine lv_iadd hx hb dX4_search_170 ?_
              refine lv_topi (fun zi42 ezi42 => ?_)
              refine lv_iload_n hx hb dX4_search_171 rfl (lv_at hl 4 rfl) ?_
              refine tw_Vc (o := a0) (ci := 4) (n := 3) (post := (fun v kq Lq Eq => v = none ∧ kp = kq ∧ L = Lq ∧ tw_fr kp L [(4, 5)] [150, 151, 152] Eg72 Eq)) (As := [.int zi41, .int zi42, .int x3]) (rest := []) ⟨hx, hb, hml, hown, hB⟩ (fun sz => tX4_search_v2 l D cs a0 zi41 zi42 x3 hm0 hk0 (by omega) (by omega) sz) cg_4_53_X4_search rfl rfl (by decide +kernel) ⟨Nat.le_of_ble_eq_true rfl, Nat.le_of_ble_eq_true rfl⟩ hK hN TH hS hA rfl hm0 hk0 (by decide) rfl hl.1 rfl (Nat.le_of_ble_eq_true rfl) dX4_search_172 ⟨Nat.le_of_ble_eq_true rfl, Nat.le_of_ble_eq_true rfl⟩ (fun v43 kp43 L43 E43 H locs hq43 hx43 TH hS => ?_)
              obtain ⟨rfl, rfl, rfl, hst43⟩ := hq43
              have hF := hF.tr hst43 (fun _ h => ⟨h, rfl⟩) (by decide) (by decide)
              have hG72 := hG72.tr hst43 (fun _ h => ⟨h, rfl⟩) (by decide) (by decide)
              have hmf45 : tw_fv E43 a0 0 = .ref xr1 := (hst43.1 a0 0 hm0 (by rw [hk0]; decide)).trans hmf35
              have hmf46 : tw_fv E43 xr1 0 = .int xi2 := (hst43.1 xr1 0 hmxr1 (by rw [hkxr1]; decide)).trans hmf36
              have hmf47 : tw_fv E43 a0 1 = .ref xr37 := (hst43.1 a0 1 hm0 (by rw [hk0]; decide)).trans hxr37
              have hmf48 : tw_fv E43 xr37 0 = .int xi38 := (hst43.1 xr37 0 hmxr37 (by rw [hkxr37]; decide)).trans hxi38
              refine W.eq (g2 := F0 m 175 ls []) rfl ?_
              exact tw_vret hx hb hr hlocks TH hS hex ⟨rfl, rfl, rfl, hF⟩ (Nat.le_of_ble_eq_true rfl) (Nat.le_of_ble_eq_true rfl) dX4_search_175
            · have hf49 : ¬ (xi38.toInt ≤ y72_5.toInt) := fun q => hc39 ((fa_le _ _).mpr (by  omega))
              refine lv_aload_n hx hb dX4_search_84 rfl (lv_at hl 1 rfl) ?_
              refine tw_get (ci := 4) (C := RX4) (T := TX4) (N := 7) hx hb hB cx_inX4 hown hK TH hm0 hk0 rfl ⟨by decide, rfl⟩ 3 (by decide) cw_200 (fun _ h9 => h9) dX4_search_85 (fun hv => ?_)
              obtain ⟨xr50, hxr50, hmxr50, hkxr50⟩ : ∃ a : Nat, tw_fv Eg72 a0 3 = .ref a ∧ a ∈ L ∧ kp a = 151 := hv
              rw [hxr50]
              refine lv_iload hx hb dX4_search_88 (lv_at hl 0 rfl) ?_
              refine tw_iald (k := 151) (t0 := 0) (n := 40) (lo := (-1)) (hi := 39) hx hb hK TH hmxr50 hkxr50 (by decide) rfl rfl (i := y72_5) (vp_in_iff.mpr ⟨by  omega, by  omega⟩) dX4_search_90 (fun hxe51a hxe51b => ?_)
              obtain ⟨xe51, exe51⟩ : ∃ z : Int32, tw_iv Eg72 xr50 (Int32.toNatClampNeg y72_5) = z := ⟨_, rfl⟩
              rw [exe51] at hxe51a hxe51b ⊢
              refine lv_iconst (v := (-1)) hx hb dX4_search_91 (by decide) ?_
              have hJ158 : ∀  (Eg158 : Nat → va_E) (H : Heap) (locs : List Loc) (ls : Array Slot), tw_fr kp L [(4, 5)] [150, 151, 152] Eg72 Eg158 → tw_H D cs kp L Eg158 A H → va_S A s.heap H locs → lv_has ls 6 [(5, .int y72_5), (0, .ref a0), (1, .int x1), (2, .int x2), (3, .int x3)] → W p l e { frames := 6, cells := 0, slots := 0, locals := 165 } s m [.ref a0, .int x1, .int x2, .int x3].toArray below meth c H locs 0 0 (MQ below (tw_Q D cs kp0 L0 (fun v kq Lq Eq => v = none ∧ kp = kq ∧ L = Lq ∧ tw_fr kp L [(4, 5)] [150, 151, 152] E Eq) A) [.ref a0, .int x1, .int x2, .int x3].toArray s 0 0 A) (F0 m 158 ls []) := by
                intro Eg158 H locs ls hG158 TH hS hl
                have hF := hF.tr hG158 (fun _ h => ⟨h, rfl⟩) (by decide) (by decide)
                have hG72 := hG72.tr hG158 (fun _ h => ⟨h, rfl⟩) (by decide) (by decide)
                have hmf52 : tw_fv Eg158 a0 0 = .ref xr1 := (hG158.1 a0 0 hm0 (by rw [hk0]; decide)).trans hmf35
                have hmf53 : tw_fv Eg158 xr1 0 = .int xi2 := (hG158.1 xr1 0 hmxr1 (by rw [hkxr1]; decide)).trans hmf36
                have hmf54 : tw_fv Eg158 a0 1 = .ref xr37 := (hG158.1 a0 1 hm0 (by rw [hk0]; decide)).trans hxr37
                have hmf55 : tw_fv Eg158 xr37 0 = .int xi38 := (hG158.1 xr37 0 hmxr37 (by rw [hkxr37]; decide)).trans hxi38
                have hmf56 : tw_fv Eg158 a0 3 = .ref xr50 := (hG158.1 a0 3 hm0 (by rw [hk0]; decide)).trans hxr50
                obtain ⟨zi57, ezi57⟩ : ∃ z : Int32, z = y72_5 + Int32.ofInt 1 := ⟨_, rfl⟩
                have hzi57 : zi57.toInt = y72_5.toInt + 1 := by rw [ezi57]; have : ((Int32.ofInt 1).toInt) = 1 := (by decide);  exact (ia_add (by omega) (by omega)).trans (by omega)
                refine lv_iinc (v := zi57) (lv' := [(5, .int zi57), (0, .ref a0), (1, .int x1), (2, .int x2), (3, .int x3)]) hx hb dX4_search_158 hl (k := 0) rfl ezi57.symm (by decide) rfl (fun ls hl => ?_)
                refine lv_goto (tgt := 72) hx hb dX4_search_161 (by decide) ?_
                exact ih72 (n72 - 1) (by   omega) zi57 _ _ _ ls (by omega) (by omega) (by   omega) hG72 TH hS (lv_sub hl [0, 1, 2, 3, 4] rfl)
              have hG158 : tw_fr kp L [(4, 5)] [150, 151, 152] Eg72 Eg72 := tw_fr.rf
              refine lv_icmp_ne (tgt := 158) hx hb dX4_search_92 (by decide) (fun hc58 => ?_) (fun hc58 => ?_)
              · have hf59 : ¬ (xe51.toInt = (-1)) := fun q => hc58 ((fa_eq _ _).mpr (by have : (((-1) : Int32).toInt) = (-1) := (by decide); omega))
                exact hJ158  _ _ _ ls hG158 TH hS (lv_sub hl [0, 1, 2, 3, 4] rfl)
              · have hf60 : xe51.toInt = (-1) := by have z := (fa_eq _ _).mp hc58; have : (((-1) : Int32).toInt) = (-1) := (by decide); omega
                refine lv_aload_n hx hb dX4_search_95 rfl (lv_at hl 1 rfl) ?_
                refine tw_get (ci := 4) (C := RX4) (T := TX4) (N := 7) hx hb hB cx_inX4 hown hK TH hm0 hk0 rfl ⟨by decide, rfl⟩ 0 (by decide) cw_197 (fun _ h9 => h9) dX4_search_96 (fun hv => ?_)
                rw [hmf35]
                refine tw_get (ci := 10) (C := RX10) (T := TX10) (N := 8) hx hb hB cx_inX10 hown hK TH hmxr1 hkxr1 rfl ⟨by decide, rfl⟩ 5 (by decide) cw_142 (fun _ h9 => h9) dX4_search_99 (fun hv => ?_)
                obtain ⟨xr61, hxr61, hmxr61, hkxr61⟩ : ∃ a : Nat, tw_fv Eg72 xr1 5 = .ref a ∧ a ∈ L ∧ kp a = 114 := hv
                rw [hxr61]
                refine lv_iload_n hx hb dX4_search_102 rfl (lv_at hl 2 rfl) ?_
                refine tw_iald (k := 114) (t0 := 0) (n := 40) (lo := (-1)) (hi := 9) hx hb hK TH hmxr61 hkxr61 (by decide) rfl rfl (i := x1) (vp_in_iff.mpr ⟨by  omega, by  omega⟩) dX4_search_103 (fun hxe62a hxe62b => ?_)
                obtain ⟨xe62, exe62⟩ : ∃ z : Int32, tw_iv Eg72 xr61 (Int32.toNatClampNeg x1) = z := ⟨_, rfl⟩
                rw [exe62] at hxe62a hxe62b ⊢
                refine lv_aload_n hx hb dX4_search_104 rfl (lv_at hl 1 rfl) ?_
                refine tw_get (ci := 4) (C := RX4) (T := TX4) (N := 7) hx hb hB cx_inX4 hown hK TH hm0 hk0 rfl ⟨by decide, rfl⟩ 1 (by decide) cw_198 (fun _ h9 => h9) dX4_search_105 (fun hv => ?_)
                rw [hxr37]
                refine tw_get (ci := 10) (C := RX10) (T := TX10) (N := 8) hx hb hB cx_inX10 hown hK TH hmxr37 hkxr37 rfl ⟨by decide, rfl⟩ 5 (by decide) cw_142 (fun _ h9 => h9) dX4_search_108 (fun hv => ?_)
                obtain ⟨xr63, hxr63, hmxr63, hkxr63⟩ : ∃ a : Nat, tw_fv Eg72 xr37 5 = .ref a ∧ a ∈ L ∧ kp a = 114 := hv
                rw [hxr63]
                refine lv_iload hx hb dX4_search_111 (lv_at hl 0 rfl) ?_
                refine tw_iald (k := 114) (t0 := 0) (n := 40) (lo := (-1)) (hi := 9) hx hb hK TH hmxr63 hkxr63 (by decide) rfl rfl (i := y72_5) (vp_in_iff.mpr ⟨by  omega, by  omega⟩) dX4_search_113 (fun hxe64a hxe64b => ?_)
                obtain ⟨xe64, exe64⟩ : ∃ z : Int32, tw_iv Eg72 xr63 (Int32.toNatClampNeg y72_5) = z := ⟨_, rfl⟩
                rw [exe64] at hxe64a hxe64b ⊢
                refine lv_icmp_ne (tgt := 158) hx hb dX4_search_114 (by decide) (fun hc65 => ?_) (fun hc65 => ?_)
                · have hf66 : ¬ (xe62.toInt = xe64.toInt) := fun q => hc65 ((fa_eq _ _).mpr (by  omega))
                  exact hJ158  _ _ _ ls hG158 TH hS (lv_sub hl [0, 1, 2, 3, 4] rfl)
                · have hf67 : xe62.toInt = xe64.toInt := by have z := (fa_eq _ _).mp hc65;  omega
                  refine lv_aload_n hx hb dX4_search_117 rfl (lv_at hl 1 rfl) ?_
                  refine lv_iload_n hx hb dX4_search_118 rfl (lv_at hl 2 rfl) ?_
                  refine lv_iload hx hb dX4_search_119 (lv_at hl 0 rfl) ?_
                  refine tw_Vc (o := a0) (ci := 4) (n := 2) (post := (fun v kq Lq Eq => v = none ∧ kp = kq ∧ L = Lq ∧ tw_fr kp L [] [150, 151] Eg72 Eq)) (As := [.int x1, .int y72_5]) (rest := []) ⟨hx, hb, hml, hown, hB⟩ (fun sz => tX4_link l D cs a0 x1 y72_5 hm0 hk0 (by omega) (by omega) (by omega) (by omega) sz) cg_4_34_X4_link rfl rfl (by decide +kernel) ⟨Nat.le_of_ble_eq_true rfl, Nat.le_of_ble_eq_true rfl⟩ hK hN TH hS hA rfl hm0 hk0 (by decide) rfl hl.1 rfl (Nat.le_of_ble_eq_true rfl) dX4_search_121 ⟨Nat.le_of_ble_eq_true rfl, Nat.le_of_ble_eq_true rfl⟩ (fun v68 kp68 L68 E68 H locs hq68 hx68 TH hS => ?_)
                  obtain ⟨rfl, rfl, rfl, hst68⟩ := hq68
                  have hF := hF.tr hst68 (fun _ h => ⟨h, rfl⟩) (by decide) (by decide)
                  have hG72 := hG72.tr hst68 (fun _ h => ⟨h, rfl⟩) (by decide) (by decide)
                  have hG158 := hG158.tr hst68 (fun _ h => ⟨h, rfl⟩) (by decide) (by decide)
                  have hmf70 : tw_fv E68 a0 0 = .ref xr1 := (hst68.1 a0 0 hm0 (by rw [hk0]; decide)).trans hmf35
                  have hmf71 : tw_fv E68 xr1 0 = .int xi2 := (hst68.1 xr1 0 hmxr1 (by rw [hkxr1]; decide)).trans hmf36
                  have hmf72 : tw_fv E68 a0 1 = .ref xr37 := (hst68.1 a0 1 hm0 (by rw [hk0]; decide)).trans hxr37
                  have hmf73 : tw_fv E68 xr37 0 = .int xi38 := (hst68.1 xr37 0 hmxr37 (by rw [hkxr37]; decide)).trans hxi38
                  have hmf74 : tw_fv E68 a0 3 = .ref xr50 := (hst68.1 a0 3 hm0 (by rw [hk0]; decide)).trans hxr50
                  have hmf75 : tw_fv E68 xr1 5 = .ref xr61 := (hst68.1 xr1 5 hmxr1 (by rw [hkxr1]; decide)).trans hxr61
                  have hmf76 : tw_fv E68 xr37 5 = .ref xr63 := (hst68.1 xr37 5 hmxr37 (by rw [hkxr37]; decide)).trans hxr63
                  refine W.eq (g2 := F0 m 124 ls []) rfl ?_
                  refine lv_aload_n hx hb dX4_search_124 rfl (lv_at hl 1 rfl) ?_
                  refine lv_iload_n hx hb dX4_search_125 rfl (lv_at hl 2 rfl) ?_
                  refine lv_iconst (v := 1) hx hb dX4_search_126 (by decide) ?_
                  refine lv_iadd hx hb dX4_search_127 ?_
                  refine lv_topi (fun zi77 ezi77 => ?_)
                  have hzi77 : zi77.toInt = x1.toInt + 1 := by rw [ezi77]; have : ((1 : Int32).toInt) = 1 := (by decide); have := ia_lo x1; have := ia_hi x1; exact (ia_add (by omega) (by omega)).trans (by omega)
                  refine lv_iload_n hx hb dX4_search_128 rfl (lv_at hl 3 rfl) ?_
                  refine lv_aload_n hx hb dX4_search_129 rfl (lv_at hl 1 rfl) ?_
                  refine lv_iload_n hx hb dX4_search_130 rfl (lv_at hl 2 rfl) ?_
                  refine lv_iload hx hb dX4_search_131 (lv_at hl 0 rfl) ?_
                  refine tw_Vc (o := a0) (ci := 4) (n := 2) (post := (fun v kq Lq Eq => (∃ x : Int32, v = some (.int x) ∧ 0 ≤ x.toInt ∧ x.toInt ≤ 2) ∧ kp = kq ∧ L = Lq ∧ E68 = Eq)) (As := [.int x1, .int y72_5]) (rest := [.int x2, .int zi77, .ref a0]) ⟨hx, hb, hml, hown, hB⟩ (fun sz => tX4_pairCost l D cs a0 x1 y72_5 hm0 hk0 (by omega) (by omega) (by omega) (by omega) sz) cg_4_49_X4_pairCost rfl rfl (by decide +kernel) ⟨Nat.le_of_ble_eq_true rfl, Nat.le_of_ble_eq_true rfl⟩ hK hN TH hS hA rfl hm0 hk0 (by decide) rfl hl.1 rfl (Nat.le_of_ble_eq_true rfl) dX4_search_133 ⟨Nat.le_of_ble_eq_true rfl, Nat.le_of_ble_eq_true rfl⟩ (fun v78 kp78 L78 E78 H locs hq78 hx78 TH hS => ?_)
                  obtain ⟨⟨xc79, rfl, hxc79a, hxc79b⟩, rfl, rfl, rfl⟩ := hq78
                  refine W.eq (g2 := F0 m 136 ls [.int xc79, .int x2, .int zi77, .ref a0]) rfl ?_
                  refine lv_iadd hx hb dX4_search_136 ?_
                  refine lv_topi (fun zi80 ezi80 => ?_)
                  refine lv_iload_n hx hb dX4_search_137 rfl (lv_at hl 4 rfl) ?_
                  refine lv_iconst (v := 1) hx hb dX4_search_138 (by decide) ?_
                  refine lv_isub hx hb dX4_search_139 ?_
                  refine lv_topi (fun zi81 ezi81 => ?_)
                  refine tw_Vc (o := a0) (ci := 4) (n := 3) (post := (fun v kq Lq Eq => v = none ∧ kp = kq ∧ L = Lq ∧ tw_fr kp L [(4, 5)] [150, 151, 152] E68 Eq)) (As := [.int zi77, .int zi80, .int zi81]) (rest := []) ⟨hx, hb, hml, hown, hB⟩ (fun sz => tX4_search_v2 l D cs a0 zi77 zi80 zi81 hm0 hk0 (by omega) (by omega) sz) cg_4_53_X4_search rfl rfl (by decide +kernel) ⟨Nat.le_of_ble_eq_true rfl, Nat.le_of_ble_eq_true rfl⟩ hK hN TH hS hA rfl hm0 hk0 (by decide) rfl hl.1 rfl (Nat.le_of_ble_eq_true rfl) dX4_search_140 ⟨Nat.le_of_ble_eq_true rfl, Nat.le_of_ble_eq_true rfl⟩ (fun v82 kp82 L82 E82 H locs hq82 hx82 TH hS => ?_)
                  obtain ⟨rfl, rfl, rfl, hst82⟩ := hq82
                  have hF := hF.tr hst82 (fun _ h => ⟨h, rfl⟩) (by decide) (by decide)
                  have hG72 := hG72.tr hst82 (fun _ h => ⟨h, rfl⟩) (by decide) (by decide)
                  have hG158 := hG158.tr hst82 (fun _ h => ⟨h, rfl⟩) (by decide) (by decide)
                  have hmf84 : tw_fv E82 a0 0 = .ref xr1 := (hst82.1 a0 0 hm0 (by rw [hk0]; decide)).trans hmf70
                  have hmf85 : tw_fv E82 xr1 0 = .int xi2 := (hst82.1 xr1 0 hmxr1 (by rw [hkxr1]; decide)).trans hmf71
                  have hmf86 : tw_fv E82 a0 1 = .ref xr37 := (hst82.1 a0 1 hm0 (by rw [hk0]; decide)).trans hmf72
                  have hmf87 : tw_fv E82 xr37 0 = .int xi38 := (hst82.1 xr37 0 hmxr37 (by rw [hkxr37]; decide)).trans hmf73
                  have hmf88 : tw_fv E82 a0 3 = .ref xr50 := (hst82.1 a0 3 hm0 (by rw [hk0]; decide)).trans hmf74
                  have hmf89 : tw_fv E82 xr1 5 = .ref xr61 := (hst82.1 xr1 5 hmxr1 (by rw [hkxr1]; decide)).trans hmf75
                  have hmf90 : tw_fv E82 xr37 5 = .ref xr63 := (hst82.1 xr37 5 hmxr37 (by rw [hkxr37]; decide)).trans hmf76
                  refine W.eq (g2 := F0 m 143 ls []) rfl ?_
                  refine lv_aload_n hx hb dX4_search_143 rfl (lv_at hl 1 rfl) ?_
                  refine tw_get (ci := 4) (C := RX4) (T := TX4) (N := 7) hx hb hB cx_inX4 hown hK TH hm0 hk0 rfl ⟨by decide, rfl⟩ 2 (by decide) cw_199 (fun _ h9 => h9) dX4_search_144 (fun hv => ?_)
                  obtain ⟨xr91, hxr91, hmxr91, hkxr91⟩ : ∃ a : Nat, tw_fv E82 a0 2 = .ref a ∧ a ∈ L ∧ kp a = 150 := hv
                  rw [hxr91]
                  refine lv_iload_n hx hb dX4_search_147 rfl (lv_at hl 2 rfl) ?_
                  refine lv_iconst (v := (-1)) hx hb dX4_search_148 (by decide) ?_
                  refine tw_iast (k := 150) (n := 40) (lo := (-1)) (hi := 39) hx hb hK TH hS hmxr91 hkxr91 (by decide) rfl (i := x1) (x := (-1)) (vp_in_iff.mpr ⟨by  omega, by  omega⟩) (by have : (((-1) : Int32).toInt) = (-1) := (by decide); omega) (by have : (((-1) : Int32).toInt) = (-1) := (by decide); omega) dX4_search_149 (fun H locs E92 TH hS hp93 hp94 hp95 => ?_)
                  have hst96 : tw_fr kp L [] [150] E82 E92 := tw_fr.ast tw_fr.rf (fun _ => hkxr91) hp93 hp94 (by decide)
                  have hF := hF.tr hst96 (fun _ h => ⟨h, rfl⟩) (by decide) (by decide)
                  have hG72 := hG72.tr hst96 (fun _ h => ⟨h, rfl⟩) (by decide) (by decide)
                  have hG158 := hG158.tr hst96 (fun _ h => ⟨h, rfl⟩) (by decide) (by decide)
                  have hmf97 : tw_fv E92 a0 0 = .ref xr1 := (hst96.1 a0 0 hm0 (by rw [hk0]; decide)).trans hmf84
                  have hmf98 : tw_fv E92 xr1 0 = .int xi2 := (hst96.1 xr1 0 hmxr1 (by rw [hkxr1]; decide)).trans hmf85
                  have hmf99 : tw_fv E92 a0 1 = .ref xr37 := (hst96.1 a0 1 hm0 (by rw [hk0]; decide)).trans hmf86
                  have hmf100 : tw_fv E92 xr37 0 = .int xi38 := (hst96.1 xr37 0 hmxr37 (by rw [hkxr37]; decide)).trans hmf87
                  have hmf101 : tw_fv E92 a0 3 = .ref xr50 := (hst96.1 a0 3 hm0 (by rw [hk0]; decide)).trans hmf88
                  have hmf102 : tw_fv E92 xr1 5 = .ref xr61 := (hst96.1 xr1 5 hmxr1 (by rw [hkxr1]; decide)).trans hmf89
                  have hmf103 : tw_fv E92 xr37 5 = .ref xr63 := (hst96.1 xr37 5 hmxr37 (by rw [hkxr37]; decide)).trans hmf90
                  have hmf104 : tw_fv E92 a0 2 = .ref xr91 := (hst96.1 a0 2 hm0 (by rw [hk0]; decide)).trans hxr91
                  refine lv_aload_n hx hb dX4_search_150 rfl (lv_at hl 1 rfl) ?_
                  refine tw_get (ci := 4) (C := RX4) (T := TX4) (N := 7) hx hb hB cx_inX4 hown hK TH hm0 hk0 rfl ⟨by decide, rfl⟩ 3 (by decide) cw_200 (fun _ h9 => h9) dX4_search_151 (fun hv => ?_)
                  rw [hmf101]
                  refine lv_iload hx hb dX4_search_154 (lv_at hl 0 rfl) ?_
                  refine lv_iconst (v := (-1)) hx hb dX4_search_156 (by decide) ?_
                  refine tw_iast (k := 151) (n := 40) (lo := (-1)) (hi := 39) hx hb hK TH hS hmxr50 hkxr50 (by decide) rfl (i := y72_5) (x := (-1)) (vp_in_iff.mpr ⟨by  omega, by  omega⟩) (by have : (((-1) : Int32).toInt) = (-1) := (by decide); omega) (by have : (((-1) : Int32).toInt) = (-1) := (by decide); omega) dX4_search_157 (fun H locs E105 TH hS hp106 hp107 hp108 => ?_)
                  have hst109 : tw_fr kp L [] [151] E92 E105 := tw_fr.ast tw_fr.rf (fun _ => hkxr50) hp106 hp107 (by decide)
                  have hF := hF.tr hst109 (fun _ h => ⟨h, rfl⟩) (by decide) (by decide)
                  have hG72 := hG72.tr hst109 (fun _ h => ⟨h, rfl⟩) (by decide) (by decide)
                  have hG158 := hG158.tr hst109 (fun _ h => ⟨h, rfl⟩) (by decide) (by decide)
                  have hmf110 : tw_fv E105 a0 0 = .ref xr1 := (hst109.1 a0 0 hm0 (by rw [hk0]; decide)).trans hmf97
                  have hmf111 : tw_fv E105 xr1 0 = .int xi2 := (hst109.1 xr1 0 hmxr1 (by rw [hkxr1]; decide)).trans hmf98
                  have hmf112 : tw_fv E105 a0 1 = .ref xr37 := (hst109.1 a0 1 hm0 (by rw [hk0]; decide)).trans hmf99
                  have hmf113 : tw_fv E105 xr37 0 = .int xi38 := (hst109.1 xr37 0 hmxr37 (by rw [hkxr37]; decide)).trans hmf100
                  have hmf114 : tw_fv E105 a0 3 = .ref xr50 := (hst109.1 a0 3 hm0 (by rw [hk0]; decide)).trans hmf101
                  have hmf115 : tw_fv E105 xr1 5 = .ref xr61 := (hst109.1 xr1 5 hmxr1 (by rw [hkxr1]; decide)).trans hmf102
                  have hmf116 : tw_fv E105 xr37 5 = .ref xr63 := (hst109.1 xr37 5 hmxr37 (by rw [hkxr37]; decide)).trans hmf103
                  have hmf117 : tw_fv E105 a0 2 = .ref xr91 := (hst109.1 a0 2 hm0 (by rw [hk0]; decide)).trans hmf104
                  exact hJ158  _ _ _ ls hG158 TH hS (lv_sub hl [0, 1, 2, 3, 4] rfl)
        exact hJ72 40 (1 : Int32) _ _ _ ls (by have : ((1 : Int32).toInt) = 1 := (by decide); omega) (by have : ((1 : Int32).toInt) = 1 := (by decide); omega) (by have : ((1 : Int32).toInt) = 1 := (by decide);  omega) tw_fr.rf TH hS (lv_sub hl [0, 2, 3, 4, 5] rfl)
      · have hf118 : ¬ (x1.toInt < 6) := fun q => hc33 ((fa_lt _ _).mpr (by have : ((6 : Int32).toInt) = 6 := (by decide); omega))
        exfalso; omega
  · have hf119 : ¬ (zi7.toInt < xi8.toInt) := fun q => hc9 ((fa_lt _ _).mpr (by  omega))
    exact tw_vret hx hb hr hlocks TH hS hex ⟨rfl, rfl, rfl, hF⟩ (Nat.le_of_ble_eq_true rfl) (Nat.le_of_ble_eq_true rfl) dX4_search_29
set_option maxHeartbeats 4000000 in
set_option maxRecDepth 100000 in
theorem tX4_pairUp (l : Launch) (D : va_G) (cs : Nat → ClassId) {kp : Nat → Nat} {L : List Nat} {E : Nat → va_E} (a0 : Nat) (a1 : Nat) (a2 : Nat) (hm0 : a0 ∈ L) (hk0 : kp a0 = 4) (hm1 : a1 ∈ L) (hk1 : kp a1 = 10) (hm2 : a2 ∈ L) (hk2 : kp a2 = 10) (sz : Nat) : Met l yX4_pairUp (.code yX4_pairUp cX4_pairUp 4 none :: cx_big) { frames := 7, cells := 0, slots := 0, locals := 190 } (tw_P D cs kp L E [.ref a0, .ref a1, .ref a2] sz) (tw_Q D cs kp L (fun v kq Lq Eq => v = none ∧ kp = kq ∧ L = Lq ∧ tw_fr kp L [(4, 0), (4, 1), (4, 5), (4, 6)] [150, 151, 152] E Eq) (va_A (va_pl L E) sz)) 0 0 (va_A (va_pl L E) sz) := by
  refine tw_ofW (by decide) (Nat.le_of_ble_eq_true rfl) ?_
  intro p e s m below meth c A ls hx hb hr hml hB hown hlocks hK hN hA TH hS hl
  have hown : s.vm.findClass "TreeMerge$Matcher" = some m.cls := hown
  have hl : lv_has ls 4 [(0, .ref a0), (1, .ref a1), (2, .ref a2)] := hl
  obtain ⟨kp0, ekp⟩ : ∃ z, z = kp := ⟨_, rfl⟩
  obtain ⟨L0, eL⟩ : ∃ z, z = L := ⟨_, rfl⟩
  rw [show tw_Q D cs kp L = tw_Q D cs kp0 L0 by rw [ekp, eL]]
  have hex : ∀ a : Nat, a ∈ L0 → a ∈ L ∧ kp a = kp0 a := fun a h => ⟨by rw [← eL]; exact h, by rw [ekp]⟩
  have hF : tw_fr kp L [(4, 0), (4, 1), (4, 5), (4, 6)] [150, 151, 152] E E := tw_fr.rf
  refine lv_aload_n hx hb dX4_pairUp_0 rfl (lv_at hl 0 rfl) ?_
  refine lv_aload_n hx hb dX4_pairUp_1 rfl (lv_at hl 1 rfl) ?_
  refine tw_put (ci := 4) (v := .ref a1) (ty := .object "TreeMerge$Tree") (C := RX4) (T := TX4) (N := 7) hx hb hB cx_inX4 tyX4 tyX4_ok nmX4 hown hK TH hS hm0 hk0 rfl ⟨by decide, rfl⟩ 0 (by decide) cw_197 (fun _ h9 => h9) rfl (by decide +kernel) rfl rfl ⟨_, rfl, hm1, hk1⟩ dX4_pairUp_2 (fun H locs E1 TH hS hmf5 hp2 hp3 => ?_)
  have hst4 : tw_fr kp L [(4, 0)] [] E E1 := tw_fr.put tw_fr.rf (fun _ => hk0) (by decide) hp2 hp3 (by decide)
  have hF := hF.tr hst4 (fun _ h => ⟨h, rfl⟩) (by decide) (by decide)
  refine lv_aload_n hx hb dX4_pairUp_5 rfl (lv_at hl 0 rfl) ?_
  refine lv_aload_n hx hb dX4_pairUp_6 rfl (lv_at hl 2 rfl) ?_
  refine tw_put (ci := 4) (v := .ref a2) (ty := .object "TreeMerge$Tree") (C := RX4) (T := TX4) (N := 7) hx hb hB cx_inX4 tyX4 tyX4_ok nmX4 hown hK TH hS hm0 hk0 rfl ⟨by decide, rfl⟩ 1 (by decide) cw_198 (fun _ h9 => h9) rfl (by decide +kernel) rfl rfl ⟨_, rfl, hm2, hk2⟩ dX4_pairUp_7 (fun H locs E6 TH hS hmf10 hp7 hp8 => ?_)
  have hst9 : tw_fr kp L [(4, 1)] [] E1 E6 := tw_fr.put tw_fr.rf (fun _ => hk0) (by decide) hp7 hp8 (by decide)
  have hF := hF.tr hst9 (fun _ h => ⟨h, rfl⟩) (by decide) (by decide)
  have hmf11 : tw_fv E6 a0 0 = .ref a1 := (hst9.1 a0 0 hm0 (by rw [hk0]; decide)).trans hmf5
  refine lv_aload_n hx hb dX4_pairUp_10 rfl (lv_at hl 0 rfl) ?_
  refine tw_Vc (o := a0) (ci := 4) (n := 0) (post := (fun v kq Lq Eq => v = none ∧ kp = kq ∧ L = Lq ∧ tw_fr kp L [] [150, 151] E6 Eq)) (As := []) (rest := []) ⟨hx, hb, hml, hown, hB⟩ (fun sz => tX4_pairNothing l D cs a0 hm0 hk0 sz) cg_4_31_X4_pairNothing rfl rfl (by decide +kernel) ⟨Nat.le_of_ble_eq_true rfl, Nat.le_of_ble_eq_true rfl⟩ hK hN TH hS hA rfl hm0 hk0 (by decide) rfl hl.1 rfl (Nat.le_of_ble_eq_true rfl) dX4_pairUp_11 ⟨Nat.le_of_ble_eq_true rfl, Nat.le_of_ble_eq_true rfl⟩ (fun v12 kp12 L12 E12 H locs hq12 hx12 TH hS => ?_)
  obtain ⟨rfl, rfl, rfl, hst12⟩ := hq12
  have hF := hF.tr hst12 (fun _ h => ⟨h, rfl⟩) (by decide) (by decide)
  have hmf14 : tw_fv E12 a0 0 = .ref a1 := (hst12.1 a0 0 hm0 (by rw [hk0]; decide)).trans hmf11
  have hmf15 : tw_fv E12 a0 1 = .ref a2 := (hst12.1 a0 1 hm0 (by rw [hk0]; decide)).trans hmf10
  refine W.eq (g2 := F0 m 14 ls []) rfl ?_
  refine lv_aload_n hx hb dX4_pairUp_14 rfl (lv_at hl 0 rfl) ?_
  refine lv_iconst (v := 0) hx hb dX4_pairUp_15 (by decide) ?_
  refine lv_iconst (v := 0) hx hb dX4_pairUp_16 (by decide) ?_
  refine tw_Vc (o := a0) (ci := 4) (n := 2) (post := (fun v kq Lq Eq => v = none ∧ kp = kq ∧ L = Lq ∧ tw_fr kp L [] [150, 151] E12 Eq)) (As := [.int 0, .int 0]) (rest := []) ⟨hx, hb, hml, hown, hB⟩ (fun sz => tX4_link l D cs a0 (0 : Int32) (0 : Int32) hm0 hk0 (by have : ((0 : Int32).toInt) = 0 := (by decide); omega) (by have : ((0 : Int32).toInt) = 0 := (by decide); omega) (by have : ((0 : Int32).toInt) = 0 := (by decide); omega) (by have : ((0 : Int32).toInt) = 0 := (by decide); omega) sz) cg_4_34_X4_link rfl rfl (by decide +kernel) ⟨Nat.le_of_ble_eq_true rfl, Nat.le_of_ble_eq_true rfl⟩ hK hN TH hS hA rfl hm0 hk0 (by decide) rfl hl.1 rfl (Nat.le_of_ble_eq_true rfl) dX4_pairUp_17 ⟨Nat.le_of_ble_eq_true rfl, Nat.le_of_ble_eq_true rfl⟩ (fun v16 kp16 L16 E16 H locs hq16 hx16 TH hS => ?_)
  obtain ⟨rfl, rfl, rfl, hst16⟩ := hq16
  have hF := hF.tr hst16 (fun _ h => ⟨h, rfl⟩) (by decide) (by decide)
  have hmf18 : tw_fv E16 a0 0 = .ref a1 := (hst16.1 a0 0 hm0 (by rw [hk0]; decide)).trans hmf14
  have hmf19 : tw_fv E16 a0 1 = .ref a2 := (hst16.1 a0 1 hm0 (by rw [hk0]; decide)).trans hmf15
  refine W.eq (g2 := F0 m 20 ls []) rfl ?_
  refine lv_aload_n hx hb dX4_pairUp_20 rfl (lv_at hl 0 rfl) ?_
  refine lv_aload_n hx hb dX4_pairUp_21 rfl (lv_at hl 0 rfl) ?_
  refine tw_get (ci := 4) (C := RX4) (T := TX4) (N := 7) hx hb hB cx_inX4 hown hK TH hm0 hk0 rfl ⟨by decide, rfl⟩ 0 (by decide) cw_197 (fun _ h9 => h9) dX4_pairUp_22 (fun hv => ?_)
  rw [hmf18]
  refine tw_get (ci := 10) (C := RX10) (T := TX10) (N := 8) hx hb hB cx_inX10 hown hK TH hm1 hk1 rfl ⟨by decide, rfl⟩ 0 (by decide) cw_118 (fun _ h9 => h9) dX4_pairUp_25 (fun hv => ?_)
  obtain ⟨xi20, hxi20, hxi20a, hxi20b⟩ : ∃ x : Int32, tw_fv E16 a1 0 = .int x ∧ 0 ≤ x.toInt ∧ x.toInt ≤ 40 := hv
  rw [hxi20]
  refine lv_bipush (v := 6) hx hb dX4_pairUp_28 (by decide) ?_
  have hJ50 : ∀ (z50_0 : Int32) (H : Heap) (locs : List Loc) (ls : Array Slot), 0 ≤ z50_0.toInt → z50_0.toInt ≤ 1 → tw_H D cs kp L E16 A H → va_S A s.heap H locs → lv_has ls 4 [(0, .ref a0)] → W p l e { frames := 7, cells := 0, slots := 0, locals := 190 } s m [.ref a0, .ref a1, .ref a2].toArray below meth c H locs 0 0 (MQ below (tw_Q D cs kp0 L0 (fun v kq Lq Eq => v = none ∧ kp = kq ∧ L = Lq ∧ tw_fr kp L [(4, 0), (4, 1), (4, 5), (4, 6)] [150, 151, 152] E Eq) A) [.ref a0, .ref a1, .ref a2].toArray s 0 0 A) (F0 m 50 ls [.int z50_0, .ref a0]) := by
    intro z50_0 H locs ls hz50_0a hz50_0b TH hS hl
    refine tw_put (ci := 4) (v := .int z50_0) (ty := .boolean) (C := RX4) (T := TX4) (N := 7) hx hb hB cx_inX4 tyX4 tyX4_ok nmX4 hown hK TH hS hm0 hk0 rfl ⟨by decide, rfl⟩ 6 (by decide) cw_204 (fun _ h9 => h9) rfl (by decide +kernel) (ia_bool (by omega) (by omega)) (ia_boolf (by omega) (by omega)) ⟨_, rfl, (show 0 ≤ Int32.toInt z50_0 from by  omega), (show Int32.toInt z50_0 ≤ 1 from by  omega)⟩ dX4_pairUp_50 (fun H locs E21 TH hS hmf25 hp22 hp23 => ?_)
    have hst24 : tw_fr kp L [(4, 6)] [] E16 E21 := tw_fr.put tw_fr.rf (fun _ => hk0) (by decide) hp22 hp23 (by decide)
    have hF := hF.tr hst24 (fun _ h => ⟨h, rfl⟩) (by decide) (by decide)
    have hmf26 : tw_fv E21 a0 0 = .ref a1 := (hst24.1 a0 0 hm0 (by rw [hk0]; decide)).trans hmf18
    have hmf27 : tw_fv E21 a0 1 = .ref a2 := (hst24.1 a0 1 hm0 (by rw [hk0]; decide)).trans hmf19
    have hmf28 : tw_fv E21 a1 0 = .int xi20 := (hst24.1 a1 0 hm1 (by rw [hk1]; decide)).trans hxi20
    refine lv_aload_n hx hb dX4_pairUp_53 rfl (lv_at hl 0 rfl) ?_
    refine tw_get (ci := 4) (C := RX4) (T := TX4) (N := 7) hx hb hB cx_inX4 hown hK TH hm0 hk0 rfl ⟨by decide, rfl⟩ 6 (by decide) cw_204 (fun _ h9 => h9) dX4_pairUp_54 (fun hv => ?_)
    rw [hmf25]
    refine lv_if_eq (tgt := 108) hx hb dX4_pairUp_57 (by decide) (fun hc29 => ?_) (fun hc29 => ?_)
    · have hf30 : z50_0.toInt = 0 := by have z := (fa_eq _ _).mp hc29; have : ((0 : Int32).toInt) = 0 := (by decide); omega
      refine lv_iconst (v := 1) hx hb dX4_pairUp_108 (by decide) ?_
      refine lv_istore_n (lv' := [(3, .int 1), (0, .ref a0)]) hx hb dX4_pairUp_109 rfl hl (by decide) rfl (fun ls hl => ?_)
      have hJ110 : ∀ (n110 : Nat) (y110_3 : Int32) (Eg110 : Nat → va_E) (H : Heap) (locs : List Loc) (ls : Array Slot), 1 ≤ y110_3.toInt → y110_3.toInt ≤ 5 → 5 - y110_3.toInt ≤ (n110 : Int) → tw_fr kp L [] [150, 151] E21 Eg110 → tw_H D cs kp L Eg110 A H → va_S A s.heap H locs → lv_has ls 4 [(3, .int y110_3), (0, .ref a0)] → W p l e { frames := 7, cells := 0, slots := 0, locals := 190 } s m [.ref a0, .ref a1, .ref a2].toArray below meth c H locs 0 0 (MQ below (tw_Q D cs kp0 L0 (fun v kq Lq Eq => v = none ∧ kp = kq ∧ L = Lq ∧ tw_fr kp L [(4, 0), (4, 1), (4, 5), (4, 6)] [150, 151, 152] E Eq) A) [.ref a0, .ref a1, .ref a2].toArray s 0 0 A) (F0 m 110 ls []) := by
        intro n110
        induction n110 using Nat.strongRecOn with
        | _ n110 ih110 =>
          intro y110_3 Eg110 H locs ls hy110_3a hy110_3b hmeas110 hG110 TH hS hl
          have hF := hF.tr hG110 (fun _ h => ⟨h, rfl⟩) (by decide) (by decide)
          have hmf31 : tw_fv Eg110 a0 0 = .ref a1 := (hG110.1 a0 0 hm0 (by rw [hk0]; decide)).trans hmf26
          have hmf32 : tw_fv Eg110 a0 1 = .ref a2 := (hG110.1 a0 1 hm0 (by rw [hk0]; decide)).trans hmf27
          have hmf33 : tw_fv Eg110 a1 0 = .int xi20 := (hG110.1 a1 0 hm1 (by rw [hk1]; decide)).trans hmf28
          have hmf34 : tw_fv Eg110 a0 6 = .int z50_0 := (hG110.1 a0 6 hm0 (by rw [hk0]; decide)).trans hmf25
          refine lv_iload_n hx hb dX4_pairUp_110 rfl (lv_at hl 0 rfl) ?_
          refine lv_iconst (v := 4) hx hb dX4_pairUp_111 (by decide) ?_
          refine lv_icmp_gt (tgt := 126) hx hb dX4_pairUp_112 (by decide) (fun hc35 => ?_) (fun hc35 => ?_)
          · have hf36 : 4 < y110_3.toInt := by have z := (fa_lt _ _).mp hc35; have : ((4 : Int32).toInt) = 4 := (by decide); omega
            refine lv_aload_n hx hb dX4_pairUp_126 rfl (lv_at hl 1 rfl) ?_
            refine lv_aload_n hx hb dX4_pairUp_127 rfl (lv_at hl 1 rfl) ?_
            refine tw_Vc (o := a0) (ci := 4) (n := 0) (post := (fun v kq Lq Eq => (∃ x : Int32, v = some (.int x)) ∧ kp = kq ∧ L = Lq ∧ Eg110 = Eq)) (As := []) (rest := [.ref a0]) ⟨hx, hb, hml, hown, hB⟩ (fun sz => tX4_wholeCost l D cs a0 hm0 hk0 sz) cg_4_64_X4_wholeCost rfl rfl (by decide +kernel) ⟨Nat.le_of_ble_eq_true rfl, Nat.le_of_ble_eq_true rfl⟩ hK hN TH hS hA rfl hm0 hk0 (by decide) rfl hl.1 rfl (Nat.le_of_ble_eq_true rfl) dX4_pairUp_128 ⟨Nat.le_of_ble_eq_true rfl, Nat.le_of_ble_eq_true rfl⟩ (fun v37 kp37 L37 E37 H locs hq37 hx37 TH hS => ?_)
            obtain ⟨⟨xc38, rfl⟩, rfl, rfl, rfl⟩ := hq37
            refine W.eq (g2 := F0 m 131 ls [.int xc38, .ref a0]) rfl ?_
            refine tw_put (ci := 4) (v := .int xc38) (ty := .int) (C := RX4) (T := TX4) (N := 7) hx hb hB cx_inX4 tyX4 tyX4_ok nmX4 hown hK TH hS hm0 hk0 rfl ⟨by decide, rfl⟩ 5 (by decide) cw_202 (fun _ h9 => h9) rfl (by decide +kernel) rfl rfl ⟨_, rfl, (ia_lo _), (ia_hi _)⟩ dX4_pairUp_131 (fun H locs E39 TH hS hmf43 hp40 hp41 => ?_)
            have hst42 : tw_fr kp L [(4, 5)] [] Eg110 E39 := tw_fr.put tw_fr.rf (fun _ => hk0) (by decide) hp40 hp41 (by decide)
            have hF := hF.tr hst42 (fun _ h => ⟨h, rfl⟩) (by decide) (by decide)
            have hmf44 : tw_fv E39 a0 0 = .ref a1 := (hst42.1 a0 0 hm0 (by rw [hk0]; decide)).trans hmf31
            have hmf45 : tw_fv E39 a0 1 = .ref a2 := (hst42.1 a0 1 hm0 (by rw [hk0]; decide)).trans hmf32
            have hmf46 : tw_fv E39 a1 0 = .int xi20 := (hst42.1 a1 0 hm1 (by rw [hk1]; decide)).trans hmf33
            have hmf47 : tw_fv E39 a0 6 = .int z50_0 := (hst42.1 a0 6 hm0 (by rw [hk0]; decide)).trans hmf34
            exact tw_vret hx hb hr hlocks TH hS hex ⟨rfl, rfl, rfl, hF⟩ (Nat.le_of_ble_eq_true rfl) (Nat.le_of_ble_eq_true rfl) dX4_pairUp_134
          · have hf48 : ¬ (4 < y110_3.toInt) := fun q => hc35 ((fa_lt _ _).mpr (by have : ((4 : Int32).toInt) = 4 := (by decide); omega))
            refine lv_aload_n hx hb dX4_pairUp_115 rfl (lv_at hl 1 rfl) ?_
            refine lv_iload_n hx hb dX4_pairUp_116 rfl (lv_at hl 0 rfl) ?_
            refine tw_Vc (o := a0) (ci := 4) (n := 1) (post := (fun v kq Lq Eq => v = none ∧ kp = kq ∧ L = Lq ∧ tw_fr kp L [] [150, 151] Eg110 Eq)) (As := [.int y110_3]) (rest := []) ⟨hx, hb, hml, hown, hB⟩ (fun sz => tX4_goRound l D cs a0 y110_3 hm0 hk0 (by omega) (by omega) sz) cg_4_60_X4_goRound rfl rfl (by decide +kernel) ⟨Nat.le_of_ble_eq_true rfl, Nat.le_of_ble_eq_true rfl⟩ hK hN TH hS hA rfl hm0 hk0 (by decide) rfl hl.1 rfl (Nat.le_of_ble_eq_true rfl) dX4_pairUp_117 ⟨Nat.le_of_ble_eq_true rfl, Nat.le_of_ble_eq_true rfl⟩ (fun v49 kp49 L49 E49 H locs hq49 hx49 TH hS => ?_)
            obtain ⟨rfl, rfl, rfl, hst49⟩ := hq49
            have hF := hF.tr hst49 (fun _ h => ⟨h, rfl⟩) (by decide) (by decide)
            have hG110 := hG110.tr hst49 (fun _ h => ⟨h, rfl⟩) (by decide) (by decide)
            have hmf51 : tw_fv E49 a0 0 = .ref a1 := (hst49.1 a0 0 hm0 (by rw [hk0]; decide)).trans hmf31
            have hmf52 : tw_fv E49 a0 1 = .ref a2 := (hst49.1 a0 1 hm0 (by rw [hk0]; decide)).trans hmf32
            have hmf53 : tw_fv E49 a1 0 = .int xi20 := (hst49.1 a1 0 hm1 (by rw [hk1]; decide)).trans hmf33
            have hmf54 : tw_fv E49 a0 6 = .int z50_0 := (hst49.1 a0 6 hm0 (by rw [hk0]; decide)).trans hmf34
            refine W.eq (g2 := F0 m 120 ls []) rfl ?_
            obtain ⟨zi55, ezi55⟩ : ∃ z : Int32, z = y110_3 + Int32.ofInt 1 := ⟨_, rfl⟩
            have hzi55 : zi55.toInt = y110_3.toInt + 1 := by rw [ezi55]; have : ((Int32.ofInt 1).toInt) = 1 := (by decide);  exact (ia_add (by omega) (by omega)).trans (by omega)
            refine lv_iinc (v := zi55) (lv' := [(3, .int zi55), (0, .ref a0)]) hx hb dX4_pairUp_120 hl (k := 0) rfl ezi55.symm (by decide) rfl (fun ls hl => ?_)
            refine lv_goto (tgt := 110) hx hb dX4_pairUp_123 (by decide) ?_
            exact ih110 (n110 - 1) (by   omega) zi55 _ _ _ ls (by omega) (by omega) (by   omega) hG110 TH hS (lv_sub hl [0, 1] rfl)
      exact hJ110 5 (1 : Int32) _ _ _ ls (by have : ((1 : Int32).toInt) = 1 := (by decide); omega) (by have : ((1 : Int32).toInt) = 1 := (by decide); omega) (by have : ((1 : Int32).toInt) = 1 := (by decide);  omega) tw_fr.rf TH hS (lv_sub hl [0, 1] rfl)
    · have hf56 : ¬ (z50_0.toInt = 0) := fun q => hc29 ((fa_eq _ _).mpr (by have : ((0 : Int32).toInt) = 0 := (by decide); omega))
      refine lv_aload_n hx hb dX4_pairUp_60 rfl (lv_at hl 0 rfl) ?_
      refine lv_iconst (v := 2) hx hb dX4_pairUp_61 (by decide) ?_
      refine lv_aload_n hx hb dX4_pairUp_62 rfl (lv_at hl 0 rfl) ?_
      refine tw_get (ci := 4) (C := RX4) (T := TX4) (N := 7) hx hb hB cx_inX4 hown hK TH hm0 hk0 rfl ⟨by decide, rfl⟩ 0 (by decide) cw_197 (fun _ h9 => h9) dX4_pairUp_63 (fun hv => ?_)
      rw [hmf26]
      refine tw_get (ci := 10) (C := RX10) (T := TX10) (N := 8) hx hb hB cx_inX10 hown hK TH hm1 hk1 rfl ⟨by decide, rfl⟩ 0 (by decide) cw_118 (fun _ h9 => h9) dX4_pairUp_66 (fun hv => ?_)
      rw [hmf28]
      refine lv_aload_n hx hb dX4_pairUp_69 rfl (lv_at hl 0 rfl) ?_
      refine tw_get (ci := 4) (C := RX4) (T := TX4) (N := 7) hx hb hB cx_inX4 hown hK TH hm0 hk0 rfl ⟨by decide, rfl⟩ 1 (by decide) cw_198 (fun _ h9 => h9) dX4_pairUp_70 (fun hv => ?_)
      rw [hmf27]
      refine tw_get (ci := 10) (C := RX10) (T := TX10) (N := 8) hx hb hB cx_inX10 hown hK TH hm2 hk2 rfl ⟨by decide, rfl⟩ 0 (by decide) cw_118 (fun _ h9 => h9) dX4_pairUp_73 (fun hv => ?_)
      obtain ⟨xi57, hxi57, hxi57a, hxi57b⟩ : ∃ x : Int32, tw_fv E21 a2 0 = .int x ∧ 0 ≤ x.toInt ∧ x.toInt ≤ 40 := hv
      rw [hxi57]
      refine lv_iadd hx hb dX4_pairUp_76 ?_
      refine lv_topi (fun zi58 ezi58 => ?_)
      have hzi58 : zi58.toInt = xi20.toInt + xi57.toInt := by rw [ezi58];  have := ia_lo xi20; have := ia_hi xi20; have := ia_lo xi57; have := ia_hi xi57; exact (ia_add (by omega) (by omega)).trans (by omega)
      refine lv_imul hx hb dX4_pairUp_77 ?_
      refine lv_topi (fun zi59 ezi59 => ?_)
      have hzi59 : zi59.toInt = 2 * zi58.toInt := by rw [ezi59]; exact (ia_mul (by have hc : ((2 : Int32).toInt) = 2 := (by decide); rw [hc]; omega) (by have hc : ((2 : Int32).toInt) = 2 := (by decide); rw [hc]; omega)).trans (by have hc : ((2 : Int32).toInt) = 2 := (by decide); rw [hc])
      refine tw_put (ci := 4) (v := .int zi59) (ty := .int) (C := RX4) (T := TX4) (N := 7) hx hb hB cx_inX4 tyX4 tyX4_ok nmX4 hown hK TH hS hm0 hk0 rfl ⟨by decide, rfl⟩ 5 (by decide) cw_202 (fun _ h9 => h9) rfl (by decide +kernel) rfl rfl ⟨_, rfl, (ia_lo _), (ia_hi _)⟩ dX4_pairUp_78 (fun H locs E60 TH hS hmf64 hp61 hp62 => ?_)
      have hst63 : tw_fr kp L [(4, 5)] [] E21 E60 := tw_fr.put tw_fr.rf (fun _ => hk0) (by decide) hp61 hp62 (by decide)
      have hF := hF.tr hst63 (fun _ h => ⟨h, rfl⟩) (by decide) (by decide)
      have hmf65 : tw_fv E60 a0 0 = .ref a1 := (hst63.1 a0 0 hm0 (by rw [hk0]; decide)).trans hmf26
      have hmf66 : tw_fv E60 a0 1 = .ref a2 := (hst63.1 a0 1 hm0 (by rw [hk0]; decide)).trans hmf27
      have hmf67 : tw_fv E60 a1 0 = .int xi20 := (hst63.1 a1 0 hm1 (by rw [hk1]; decide)).trans hmf28
      have hmf68 : tw_fv E60 a0 6 = .int z50_0 := (hst63.1 a0 6 hm0 (by rw [hk0]; decide)).trans hmf25
      have hmf69 : tw_fv E60 a2 0 = .int xi57 := (hst63.1 a2 0 hm2 (by rw [hk2]; decide)).trans hxi57
      refine lv_aload_n hx hb dX4_pairUp_81 rfl (lv_at hl 0 rfl) ?_
      refine lv_iconst (v := 1) hx hb dX4_pairUp_82 (by decide) ?_
      refine lv_aload_n hx hb dX4_pairUp_83 rfl (lv_at hl 0 rfl) ?_
      refine lv_iconst (v := 0) hx hb dX4_pairUp_84 (by decide) ?_
      refine lv_iconst (v := 0) hx hb dX4_pairUp_85 (by decide) ?_
      refine tw_Vc (o := a0) (ci := 4) (n := 2) (post := (fun v kq Lq Eq => (∃ x : Int32, v = some (.int x) ∧ 0 ≤ x.toInt ∧ x.toInt ≤ 2) ∧ kp = kq ∧ L = Lq ∧ E60 = Eq)) (As := [.int 0, .int 0]) (rest := [.int 1, .ref a0]) ⟨hx, hb, hml, hown, hB⟩ (fun sz => tX4_pairCost l D cs a0 (0 : Int32) (0 : Int32) hm0 hk0 (by have : ((0 : Int32).toInt) = 0 := (by decide); omega) (by have : ((0 : Int32).toInt) = 0 := (by decide); omega) (by have : ((0 : Int32).toInt) = 0 := (by decide); omega) (by have : ((0 : Int32).toInt) = 0 := (by decide); omega) sz) cg_4_49_X4_pairCost rfl rfl (by decide +kernel) ⟨Nat.le_of_ble_eq_true rfl, Nat.le_of_ble_eq_true rfl⟩ hK hN TH hS hA rfl hm0 hk0 (by decide) rfl hl.1 rfl (Nat.le_of_ble_eq_true rfl) dX4_pairUp_86 ⟨Nat.le_of_ble_eq_true rfl, Nat.le_of_ble_eq_true rfl⟩ (fun v70 kp70 L70 E70 H locs hq70 hx70 TH hS => ?_)
      obtain ⟨⟨xc71, rfl, hxc71a, hxc71b⟩, rfl, rfl, rfl⟩ := hq70
      refine W.eq (g2 := F0 m 89 ls [.int xc71, .int 1, .ref a0]) rfl ?_
      refine lv_aload_n hx hb dX4_pairUp_89 rfl (lv_at hl 0 rfl) ?_
      refine tw_get (ci := 4) (C := RX4) (T := TX4) (N := 7) hx hb hB cx_inX4 hown hK TH hm0 hk0 rfl ⟨by decide, rfl⟩ 1 (by decide) cw_198 (fun _ h9 => h9) dX4_pairUp_90 (fun hv => ?_)
      rw [hmf66]
      refine tw_get (ci := 10) (C := RX10) (T := TX10) (N := 8) hx hb hB cx_inX10 hown hK TH hm2 hk2 rfl ⟨by decide, rfl⟩ 0 (by decide) cw_118 (fun _ h9 => h9) dX4_pairUp_93 (fun hv => ?_)
      rw [hmf69]
      refine lv_iconst (v := 1) hx hb dX4_pairUp_96 (by decide) ?_
      refine lv_isub hx hb dX4_pairUp_97 ?_
      refine lv_topi (fun zi72 ezi72 => ?_)
      have hzi72 : zi72.toInt = xi57.toInt - 1 := by rw [ezi72]; have : ((1 : Int32).toInt) = 1 := (by decide); have := ia_lo xi57; have := ia_hi xi57; exact (ia_sub (by omega) (by omega)).trans (by omega)
      refine tw_Vc (o := a0) (ci := 4) (n := 3) (post := (fun v kq Lq Eq => v = none ∧ kp = kq ∧ L = Lq ∧ tw_fr kp L [(4, 5)] [150, 151, 152] E60 Eq)) (As := [.int 1, .int xc71, .int zi72]) (rest := []) ⟨hx, hb, hml, hown, hB⟩ (fun sz => tX4_search_v1 l D cs a0 (1 : Int32) xc71 zi72 hm0 hk0 (by have : ((1 : Int32).toInt) = 1 := (by decide); omega) (by have : ((1 : Int32).toInt) = 1 := (by decide); omega) sz) cg_4_53_X4_search rfl rfl (by decide +kernel) ⟨Nat.le_of_ble_eq_true rfl, Nat.le_of_ble_eq_true rfl⟩ hK hN TH hS hA rfl hm0 hk0 (by decide) rfl hl.1 rfl (Nat.le_of_ble_eq_true rfl) dX4_pairUp_98 ⟨Nat.le_of_ble_eq_true rfl, Nat.le_of_ble_eq_true rfl⟩ (fun v73 kp73 L73 E73 H locs hq73 hx73 TH hS => ?_)
      obtain ⟨rfl, rfl, rfl, hst73⟩ := hq73
      have hF := hF.tr hst73 (fun _ h => ⟨h, rfl⟩) (by decide) (by decide)
      have hmf75 : tw_fv E73 a0 0 = .ref a1 := (hst73.1 a0 0 hm0 (by rw [hk0]; decide)).trans hmf65
      have hmf76 : tw_fv E73 a0 1 = .ref a2 := (hst73.1 a0 1 hm0 (by rw [hk0]; decide)).trans hmf66
      have hmf77 : tw_fv E73 a1 0 = .int xi20 := (hst73.1 a1 0 hm1 (by rw [hk1]; decide)).trans hmf67
      have hmf78 : tw_fv E73 a0 6 = .int z50_0 := (hst73.1 a0 6 hm0 (by rw [hk0]; decide)).trans hmf68
      have hmf79 : tw_fv E73 a2 0 = .int xi57 := (hst73.1 a2 0 hm2 (by rw [hk2]; decide)).trans hmf69
      refine W.eq (g2 := F0 m 101 ls []) rfl ?_
      refine lv_aload_n hx hb dX4_pairUp_101 rfl (lv_at hl 0 rfl) ?_
      refine tw_Vc (o := a0) (ci := 4) (n := 0) (post := (fun v kq Lq Eq => v = none ∧ kp = kq ∧ L = Lq ∧ tw_fr kp L [] [150, 151] E73 Eq)) (As := []) (rest := []) ⟨hx, hb, hml, hown, hB⟩ (fun sz => tX4_takeBest l D cs a0 hm0 hk0 sz) cg_4_57_X4_takeBest rfl rfl (by decide +kernel) ⟨Nat.le_of_ble_eq_true rfl, Nat.le_of_ble_eq_true rfl⟩ hK hN TH hS hA rfl hm0 hk0 (by decide) rfl hl.1 rfl (Nat.le_of_ble_eq_true rfl) dX4_pairUp_102 ⟨Nat.le_of_ble_eq_true rfl, Nat.le_of_ble_eq_true rfl⟩ (fun v80 kp80 L80 E80 H locs hq80 hx80 TH hS => ?_)
      obtain ⟨rfl, rfl, rfl, hst80⟩ := hq80
      have hF := hF.tr hst80 (fun _ h => ⟨h, rfl⟩) (by decide) (by decide)
      have hmf82 : tw_fv E80 a0 0 = .ref a1 := (hst80.1 a0 0 hm0 (by rw [hk0]; decide)).trans hmf75
      have hmf83 : tw_fv E80 a0 1 = .ref a2 := (hst80.1 a0 1 hm0 (by rw [hk0]; decide)).trans hmf76
      have hmf84 : tw_fv E80 a1 0 = .int xi20 := (hst80.1 a1 0 hm1 (by rw [hk1]; decide)).trans hmf77
      have hmf85 : tw_fv E80 a0 6 = .int z50_0 := (hst80.1 a0 6 hm0 (by rw [hk0]; decide)).trans hmf78
      have hmf86 : tw_fv E80 a2 0 = .int xi57 := (hst80.1 a2 0 hm2 (by rw [hk2]; decide)).trans hmf79
      refine W.eq (g2 := F0 m 105 ls []) rfl ?_
      refine lv_goto (tgt := 134) hx hb dX4_pairUp_105 (by decide) ?_
      exact tw_vret hx hb hr hlocks TH hS hex ⟨rfl, rfl, rfl, hF⟩ (Nat.le_of_ble_eq_true rfl) (Nat.le_of_ble_eq_true rfl) dX4_pairUp_134
  have hJ49 : ∀  (H : Heap) (locs : List Loc) (ls : Array Slot), tw_H D cs kp L E16 A H → va_S A s.heap H locs → lv_has ls 4 [(0, .ref a0)] → W p l e { frames := 7, cells := 0, slots := 0, locals := 190 } s m [.ref a0, .ref a1, .ref a2].toArray below meth c H locs 0 0 (MQ below (tw_Q D cs kp0 L0 (fun v kq Lq Eq => v = none ∧ kp = kq ∧ L = Lq ∧ tw_fr kp L [(4, 0), (4, 1), (4, 5), (4, 6)] [150, 151, 152] E Eq) A) [.ref a0, .ref a1, .ref a2].toArray s 0 0 A) (F0 m 49 ls [.ref a0]) := by
    intro H locs ls TH hS hl
    refine lv_iconst (v := 0) hx hb dX4_pairUp_49 (by decide) ?_
    exact hJ50 (0 : Int32) _ _ ls (by have : ((0 : Int32).toInt) = 0 := (by decide); omega) (by have : ((0 : Int32).toInt) = 0 := (by decide); omega) TH hS (lv_sub hl [0] rfl)
  refine lv_icmp_gt (tgt := 49) hx hb dX4_pairUp_30 (by decide) (fun hc87 => ?_) (fun hc87 => ?_)
  · have hf88 : 6 < xi20.toInt := by have z := (fa_lt _ _).mp hc87; have : ((6 : Int32).toInt) = 6 := (by decide); omega
    exact hJ49  _ _ ls  TH hS (lv_sub hl [0] rfl)
  · have hf89 : ¬ (6 < xi20.toInt) := fun q => hc87 ((fa_lt _ _).mpr (by have : ((6 : Int32).toInt) = 6 := (by decide); omega))
    refine lv_aload_n hx hb dX4_pairUp_33 rfl (lv_at hl 0 rfl) ?_
    refine tw_get (ci := 4) (C := RX4) (T := TX4) (N := 7) hx hb hB cx_inX4 hown hK TH hm0 hk0 rfl ⟨by decide, rfl⟩ 1 (by decide) cw_198 (fun _ h9 => h9) dX4_pairUp_34 (fun hv => ?_)
    rw [hmf19]
    refine tw_get (ci := 10) (C := RX10) (T := TX10) (N := 8) hx hb hB cx_inX10 hown hK TH hm2 hk2 rfl ⟨by decide, rfl⟩ 0 (by decide) cw_118 (fun _ h9 => h9) dX4_pairUp_37 (fun hv => ?_)
    obtain ⟨xi90, hxi90, hxi90a, hxi90b⟩ : ∃ x : Int32, tw_fv E16 a2 0 = .int x ∧ 0 ≤ x.toInt ∧ x.toInt ≤ 40 := hv
    rw [hxi90]
    refine lv_bipush (v := 6) hx hb dX4_pairUp_40 (by decide) ?_
    refine lv_icmp_gt (tgt := 49) hx hb dX4_pairUp_42 (by decide) (fun hc91 => ?_) (fun hc91 => ?_)
    · have hf92 : 6 < xi90.toInt := by have z := (fa_lt _ _).mp hc91; have : ((6 : Int32).toInt) = 6 := (by decide); omega
      exact hJ49  _ _ ls  TH hS (lv_sub hl [0] rfl)
    · have hf93 : ¬ (6 < xi90.toInt) := fun q => hc91 ((fa_lt _ _).mpr (by have : ((6 : Int32).toInt) = 6 := (by decide); omega))
      refine lv_iconst (v := 1) hx hb dX4_pairUp_45 (by decide) ?_
      refine lv_goto (tgt := 50) hx hb dX4_pairUp_46 (by decide) ?_
      exact hJ50 (1 : Int32) _ _ ls (by have : ((1 : Int32).toInt) = 1 := (by decide); omega) (by have : ((1 : Int32).toInt) = 1 := (by decide); omega) TH hS (lv_sub hl [0] rfl)
set_option maxHeartbeats 4000000 in
set_option maxRecDepth 100000 in
theorem tX11_isAhead (l : Launch) (D : va_G) (cs : Nat → ClassId) {kp : Nat → Nat} {L : List Nat} {E : Nat → va_E} (x0 : Int32) (x1 : Int64) (x2 : Int32) (x3 : Int32) (x4 : Int64) (x5 : Int32)  (sz : Nat) : Met l yX11_isAhead (.code yX11_isAhead cX11_isAhead 8 (some .boolean) :: cx_big) { frames := 0, cells := 0, slots := 0, locals := 0 } (tw_P D cs kp L E [.int x0, .long x1, .int x2, .int x3, .long x4, .int x5] sz) (tw_Q D cs kp L (fun v kq Lq Eq => (∃ x : Int32, v = some (.int x) ∧ 0 ≤ x.toInt ∧ x.toInt ≤ 1) ∧ kp = kq ∧ L = Lq ∧ E = Eq) (va_A (va_pl L E) sz)) 0 0 (va_A (va_pl L E) sz) := by
  refine tw_ofW (by decide) (Nat.le_of_ble_eq_true rfl) ?_
  intro p e s m below meth c A ls hx hb hr hml hB hown hlocks hK hN hA TH hS hl
  have hown : s.vm.findClass "TreeMerge" = some m.cls := hown
  have hl : lv_has ls 8 [(0, .int x0), (1, .long x1), (3, .int x2), (4, .int x3), (5, .long x4), (7, .int x5)] := hl
  obtain ⟨kp0, ekp⟩ : ∃ z, z = kp := ⟨_, rfl⟩
  obtain ⟨L0, eL⟩ : ∃ z, z = L := ⟨_, rfl⟩
  rw [show tw_Q D cs kp L = tw_Q D cs kp0 L0 by rw [ekp, eL]]
  have hex : ∀ a : Nat, a ∈ L0 → a ∈ L ∧ kp a = kp0 a := fun a h => ⟨by rw [← eL]; exact h, by rw [ekp]⟩
  refine lv_iload_n hx hb dX11_isAhead_0 rfl (lv_at hl 0 rfl) ?_
  refine lv_iload hx hb dX11_isAhead_1 (lv_at hl 3 rfl) ?_
  refine lv_icmp_eq (tgt := 18) hx hb dX11_isAhead_3 (by decide) (fun hc1 => ?_) (fun hc1 => ?_)
  · have hf2 : x0.toInt = x3.toInt := by have z := (fa_eq _ _).mp hc1;  omega
    refine lv_lload_n hx hb dX11_isAhead_18 rfl (lv_at hl 1 rfl) ?_
    refine lv_lload hx hb dX11_isAhead_19 (lv_at hl 4 rfl) ?_
    refine W.lcmp hx hb dX11_isAhead_21 ?_
    have hzi3 := ia_lcmp x1 x4
    generalize lg_cmp x1 x4 = zi3 at hzi3 ⊢
    refine lv_if_eq (tgt := 40) hx hb dX11_isAhead_22 (by decide) (fun hc4 => ?_) (fun hc4 => ?_)
    · have hf5 : zi3.toInt = 0 := by have z := (fa_eq _ _).mp hc4; have : ((0 : Int32).toInt) = 0 := (by decide); omega
      refine lv_iload_n hx hb dX11_isAhead_40 rfl (lv_at hl 2 rfl) ?_
      refine lv_iload hx hb dX11_isAhead_41 (lv_at hl 5 rfl) ?_
      refine lv_icmp_ge (tgt := 50) hx hb dX11_isAhead_43 (by decide) (fun hc6 => ?_) (fun hc6 => ?_)
      · have hf7 : x5.toInt ≤ x2.toInt := by have z := (fa_le _ _).mp hc6;  omega
        refine lv_iconst (v := 0) hx hb dX11_isAhead_50 (by decide) ?_
        exact tw_zret hx hb hr hlocks (by decide) TH hS hex ⟨⟨_, rfl, (show 0 ≤ Int32.toInt 0 from by have : ((0 : Int32).toInt) = 0 := (by decide); omega), (show Int32.toInt 0 ≤ 1 from by have : ((0 : Int32).toInt) = 0 := (by decide); omega)⟩, rfl, rfl, rfl⟩ (Nat.le_of_ble_eq_true rfl) (Nat.le_of_ble_eq_true rfl) dX11_isAhead_51
      · have hf8 : ¬ (x5.toInt ≤ x2.toInt) := fun q => hc6 ((fa_le _ _).mpr (by  omega))
        refine lv_iconst (v := 1) hx hb dX11_isAhead_46 (by decide) ?_
        refine lv_goto (tgt := 51) hx hb dX11_isAhead_47 (by decide) ?_
        exact tw_zret hx hb hr hlocks (by decide) TH hS hex ⟨⟨_, rfl, (show 0 ≤ Int32.toInt 1 from by have : ((1 : Int32).toInt) = 1 := (by decide); omega), (show Int32.toInt 1 ≤ 1 from by have : ((1 : Int32).toInt) = 1 := (by decide); omega)⟩, rfl, rfl, rfl⟩ (Nat.le_of_ble_eq_true rfl) (Nat.le_of_ble_eq_true rfl) dX11_isAhead_51
    · have hf9 : ¬ (zi3.toInt = 0) := fun q => hc4 ((fa_eq _ _).mpr (by have : ((0 : Int32).toInt) = 0 := (by decide); omega))
      refine lv_lload_n hx hb dX11_isAhead_25 rfl (lv_at hl 1 rfl) ?_
      refine lv_lload hx hb dX11_isAhead_26 (lv_at hl 4 rfl) ?_
      refine W.lcmp hx hb dX11_isAhead_28 ?_
      have hzi10 := ia_lcmp x1 x4
      generalize lg_cmp x1 x4 = zi10 at hzi10 ⊢
      refine lv_if_ge (tgt := 36) hx hb dX11_isAhead_29 (by decide) (fun hc11 => ?_) (fun hc11 => ?_)
      · have hf12 : 0 ≤ zi10.toInt := by have z := (fa_le _ _).mp hc11; have : ((0 : Int32).toInt) = 0 := (by decide); omega
        refine lv_iconst (v := 0) hx hb dX11_isAhead_36 (by decide) ?_
        refine lv_goto (tgt := 51) hx hb dX11_isAhead_37 (by decide) ?_
        exact tw_zret hx hb hr hlocks (by decide) TH hS hex ⟨⟨_, rfl, (show 0 ≤ Int32.toInt 0 from by have : ((0 : Int32).toInt) = 0 := (by decide); omega), (show Int32.toInt 0 ≤ 1 from by have : ((0 : Int32).toInt) = 0 := (by decide); omega)⟩, rfl, rfl, rfl⟩ (Nat.le_of_ble_eq_true rfl) (Nat.le_of_ble_eq_true rfl) dX11_isAhead_51
      · have hf13 : ¬ (0 ≤ zi10.toInt) := fun q => hc11 ((fa_le _ _).mpr (by have : ((0 : Int32).toInt) = 0 := (by decide); omega))
        refine lv_iconst (v := 1) hx hb dX11_isAhead_32 (by decide) ?_
        refine lv_goto (tgt := 51) hx hb dX11_isAhead_33 (by decide) ?_
        exact tw_zret hx hb hr hlocks (by decide) TH hS hex ⟨⟨_, rfl, (show 0 ≤ Int32.toInt 1 from by have : ((1 : Int32).toInt) = 1 := (by decide); omega), (show Int32.toInt 1 ≤ 1 from by have : ((1 : Int32).toInt) = 1 := (by decide); omega)⟩, rfl, rfl, rfl⟩ (Nat.le_of_ble_eq_true rfl) (Nat.le_of_ble_eq_true rfl) dX11_isAhead_51
  · have hf14 : ¬ (x0.toInt = x3.toInt) := fun q => hc1 ((fa_eq _ _).mpr (by  omega))
    refine lv_iload_n hx hb dX11_isAhead_6 rfl (lv_at hl 0 rfl) ?_
    refine lv_iload hx hb dX11_isAhead_7 (lv_at hl 3 rfl) ?_
    refine lv_icmp_ge (tgt := 16) hx hb dX11_isAhead_9 (by decide) (fun hc15 => ?_) (fun hc15 => ?_)
    · have hf16 : x3.toInt ≤ x0.toInt := by have z := (fa_le _ _).mp hc15;  omega
      refine lv_iconst (v := 0) hx hb dX11_isAhead_16 (by decide) ?_
      exact tw_zret hx hb hr hlocks (by decide) TH hS hex ⟨⟨_, rfl, (show 0 ≤ Int32.toInt 0 from by have : ((0 : Int32).toInt) = 0 := (by decide); omega), (show Int32.toInt 0 ≤ 1 from by have : ((0 : Int32).toInt) = 0 := (by decide); omega)⟩, rfl, rfl, rfl⟩ (Nat.le_of_ble_eq_true rfl) (Nat.le_of_ble_eq_true rfl) dX11_isAhead_17
    · have hf17 : ¬ (x3.toInt ≤ x0.toInt) := fun q => hc15 ((fa_le _ _).mpr (by  omega))
      refine lv_iconst (v := 1) hx hb dX11_isAhead_12 (by decide) ?_
      refine lv_goto (tgt := 17) hx hb dX11_isAhead_13 (by decide) ?_
      exact tw_zret hx hb hr hlocks (by decide) TH hS hex ⟨⟨_, rfl, (show 0 ≤ Int32.toInt 1 from by have : ((1 : Int32).toInt) = 1 := (by decide); omega), (show Int32.toInt 1 ≤ 1 from by have : ((1 : Int32).toInt) = 1 := (by decide); omega)⟩, rfl, rfl, rfl⟩ (Nat.le_of_ble_eq_true rfl) (Nat.le_of_ble_eq_true rfl) dX11_isAhead_17
set_option maxHeartbeats 4000000 in
set_option maxRecDepth 100000 in
theorem tX10_nextWaiting (l : Launch) (D : va_G) (cs : Nat → ClassId) {kp : Nat → Nat} {L : List Nat} {E : Nat → va_E} (a0 : Nat) (x1 : Int32) (x2 : Int32) (hm0 : a0 ∈ L) (hk0 : kp a0 = 10) (hp2a : 0 ≤ x2.toInt) (hp2b : x2.toInt ≤ 1) (sz : Nat) : Met l yX10_nextWaiting (.code yX10_nextWaiting cX10_nextWaiting 5 (some .int) :: cx_big) { frames := 1, cells := 0, slots := 0, locals := 27 } (tw_P D cs kp L E [.ref a0, .int x1, .int x2] sz) (tw_Q D cs kp L (fun v kq Lq Eq => (∃ x : Int32, v = some (.int x) ∧ (-1) ≤ x.toInt ∧ x.toInt ≤ 39) ∧ kp = kq ∧ L = Lq ∧ E = Eq) (va_A (va_pl L E) sz)) 0 0 (va_A (va_pl L E) sz) := by
  refine tw_ofW (by decide) (Nat.le_of_ble_eq_true rfl) ?_
  intro p e s m below meth c A ls hx hb hr hml hB hown hlocks hK hN hA TH hS hl
  have hown : s.vm.findClass "TreeMerge$Tree" = some m.cls := hown
  have hl : lv_has ls 5 [(0, .ref a0), (1, .int x1), (2, .int x2)] := hl
  obtain ⟨kp0, ekp⟩ : ∃ z, z = kp := ⟨_, rfl⟩
  obtain ⟨L0, eL⟩ : ∃ z, z = L := ⟨_, rfl⟩
  rw [show tw_Q D cs kp L = tw_Q D cs kp0 L0 by rw [ekp, eL]]
  have hex : ∀ a : Nat, a ∈ L0 → a ∈ L ∧ kp a = kp0 a := fun a h => ⟨by rw [← eL]; exact h, by rw [ekp]⟩
  refine lv_iconst (v := (-1)) hx hb dX10_nextWaiting_0 (by decide) ?_
  refine lv_istore_n (lv' := [(3, .int (-1)), (0, .ref a0), (1, .int x1), (2, .int x2)]) hx hb dX10_nextWaiting_1 rfl hl (by decide) rfl (fun ls hl => ?_)
  refine lv_iconst (v := 0) hx hb dX10_nextWaiting_2 (by decide) ?_
  refine lv_istore (lv' := [(4, .int 0), (3, .int (-1)), (0, .ref a0), (1, .int x1), (2, .int x2)]) hx hb dX10_nextWaiting_3 hl (by decide) rfl (fun ls hl => ?_)
  have hJ5 : ∀ (n5 : Nat) (y5_4 : Int32) (y5_3 : Int32) (H : Heap) (locs : List Loc) (ls : Array Slot), 0 ≤ y5_4.toInt → y5_4.toInt ≤ 40 → (-1) ≤ y5_3.toInt → y5_3.toInt ≤ 39 → 40 - y5_4.toInt ≤ (n5 : Int) → tw_H D cs kp L E A H → va_S A s.heap H locs → lv_has ls 5 [(4, .int y5_4), (3, .int y5_3), (0, .ref a0), (1, .int x1), (2, .int x2)] → W p l e { frames := 1, cells := 0, slots := 0, locals := 27 } s m [.ref a0, .int x1, .int x2].toArray below meth c H locs 0 0 (MQ below (tw_Q D cs kp0 L0 (fun v kq Lq Eq => (∃ x : Int32, v = some (.int x) ∧ (-1) ≤ x.toInt ∧ x.toInt ≤ 39) ∧ kp = kq ∧ L = Lq ∧ E = Eq) A) [.ref a0, .int x1, .int x2].toArray s 0 0 A) (F0 m 5 ls []) := by
    intro n5
    induction n5 using Nat.strongRecOn with
    | _ n5 ih5 =>
      intro y5_4 y5_3 H locs ls hy5_4a hy5_4b hy5_3a hy5_3b hmeas5 TH hS hl
      refine lv_iload hx hb dX10_nextWaiting_5 (lv_at hl 0 rfl) ?_
      refine lv_aload_n hx hb dX10_nextWaiting_7 rfl (lv_at hl 2 rfl) ?_
      refine tw_get (ci := 10) (C := RX10) (T := TX10) (N := 8) hx hb hB cx_inX10 hown hK TH hm0 hk0 rfl ⟨by decide, rfl⟩ 0 (by decide) cw_116 (fun _ h9 => h9) dX10_nextWaiting_8 (fun hv => ?_)
      obtain ⟨xi1, hxi1, hxi1a, hxi1b⟩ : ∃ x : Int32, tw_fv E a0 0 = .int x ∧ 0 ≤ x.toInt ∧ x.toInt ≤ 40 := hv
      rw [hxi1]
      refine lv_icmp_ge (tgt := 101) hx hb dX10_nextWaiting_11 (by decide) (fun hc2 => ?_) (fun hc2 => ?_)
      · have hf3 : xi1.toInt ≤ y5_4.toInt := by have z := (fa_le _ _).mp hc2;  omega
        refine lv_iload_n hx hb dX10_nextWaiting_101 rfl (lv_at hl 1 rfl) ?_
        exact tw_iret hx hb hr hlocks TH hS hex ⟨⟨_, rfl, (show (-1) ≤ Int32.toInt y5_3 from by  omega), (show Int32.toInt y5_3 ≤ 39 from by  omega)⟩, rfl, rfl, rfl⟩ (Nat.le_of_ble_eq_true rfl) (Nat.le_of_ble_eq_true rfl) dX10_nextWaiting_102
      · have hf4 : ¬ (xi1.toInt ≤ y5_4.toInt) := fun q => hc2 ((fa_le _ _).mpr (by  omega))
        refine lv_aload_n hx hb dX10_nextWaiting_14 rfl (lv_at hl 2 rfl) ?_
        refine tw_get (ci := 10) (C := RX10) (T := TX10) (N := 8) hx hb hB cx_inX10 hown hK TH hm0 hk0 rfl ⟨by decide, rfl⟩ 2 (by decide) cw_127 (fun _ h9 => h9) dX10_nextWaiting_15 (fun hv => ?_)
        obtain ⟨xr5, hxr5, hmxr5, hkxr5⟩ : ∃ a : Nat, tw_fv E a0 2 = .ref a ∧ a ∈ L ∧ kp a = 111 := hv
        rw [hxr5]
        refine lv_iload hx hb dX10_nextWaiting_18 (lv_at hl 0 rfl) ?_
        refine tw_iald (k := 111) (t0 := 0) (n := 40) (lo := (-1)) (hi := 149) hx hb hK TH hmxr5 hkxr5 (by decide) rfl rfl (i := y5_4) (vp_in_iff.mpr ⟨by  omega, by  omega⟩) dX10_nextWaiting_20 (fun hxe6a hxe6b => ?_)
        obtain ⟨xe6, exe6⟩ : ∃ z : Int32, tw_iv E xr5 (Int32.toNatClampNeg y5_4) = z := ⟨_, rfl⟩
        rw [exe6] at hxe6a hxe6b ⊢
        refine lv_iload_n hx hb dX10_nextWaiting_21 rfl (lv_at hl 3 rfl) ?_
        have hJ95 : ∀ (y95_3 : Int32) (H : Heap) (locs : List Loc) (ls : Array Slot), (-1) ≤ y95_3.toInt → y95_3.toInt ≤ 39 → tw_H D cs kp L E A H → va_S A s.heap H locs → lv_has ls 5 [(4, .int y5_4), (3, .int y95_3), (0, .ref a0), (1, .int x1), (2, .int x2)] → W p l e { frames := 1, cells := 0, slots := 0, locals := 27 } s m [.ref a0, .int x1, .int x2].toArray below meth c H locs 0 0 (MQ below (tw_Q D cs kp0 L0 (fun v kq Lq Eq => (∃ x : Int32, v = some (.int x) ∧ (-1) ≤ x.toInt ∧ x.toInt ≤ 39) ∧ kp = kq ∧ L = Lq ∧ E = Eq) A) [.ref a0, .int x1, .int x2].toArray s 0 0 A) (F0 m 95 ls []) := by
          intro y95_3 H locs ls hy95_3a hy95_3b TH hS hl
          obtain ⟨zi7, ezi7⟩ : ∃ z : Int32, z = y5_4 + Int32.ofInt 1 := ⟨_, rfl⟩
          have hzi7 : zi7.toInt = y5_4.toInt + 1 := by rw [ezi7]; have : ((Int32.ofInt 1).toInt) = 1 := (by decide);  exact (ia_add (by omega) (by omega)).trans (by omega)
          refine lv_iinc (v := zi7) (lv' := [(4, .int zi7), (3, .int y95_3), (0, .ref a0), (1, .int x1), (2, .int x2)]) hx hb dX10_nextWaiting_95 hl (k := 0) rfl ezi7.symm (by decide) rfl (fun ls hl => ?_)
          refine lv_goto (tgt := 5) hx hb dX10_nextWaiting_98 (by decide) ?_
          exact ih5 (n5 - 1) (by   omega) zi7 y95_3 _ _ ls (by omega) (by omega) (by omega) (by omega) (by   omega) TH hS (lv_sub hl [0, 1, 2, 3, 4] rfl)
        refine lv_icmp_ne (tgt := 95) hx hb dX10_nextWaiting_22 (by decide) (fun hc8 => ?_) (fun hc8 => ?_)
        · have hf9 : ¬ (xe6.toInt = x1.toInt) := fun q => hc8 ((fa_eq _ _).mpr (by  omega))
          exact hJ95 y5_3 _ _ ls (by omega) (by omega) TH hS (lv_sub hl [0, 1, 2, 3, 4] rfl)
        · have hf10 : xe6.toInt = x1.toInt := by have z := (fa_eq _ _).mp hc8;  omega
          refine lv_aload_n hx hb dX10_nextWaiting_25 rfl (lv_at hl 2 rfl) ?_
          refine tw_get (ci := 10) (C := RX10) (T := TX10) (N := 8) hx hb hB cx_inX10 hown hK TH hm0 hk0 rfl ⟨by decide, rfl⟩ 4 (by decide) cw_135 (fun _ h9 => h9) dX10_nextWaiting_26 (fun hv => ?_)
          obtain ⟨xr11, hxr11, hmxr11, hkxr11⟩ : ∃ a : Nat, tw_fv E a0 4 = .ref a ∧ a ∈ L ∧ kp a = 113 := hv
          rw [hxr11]
          refine lv_iload hx hb dX10_nextWaiting_29 (lv_at hl 0 rfl) ?_
          refine tw_iald (k := 113) (t0 := 0) (n := 40) (lo := 0) (hi := 40) hx hb hK TH hmxr11 hkxr11 (by decide) rfl rfl (i := y5_4) (vp_in_iff.mpr ⟨by  omega, by  omega⟩) dX10_nextWaiting_31 (fun hxe12a hxe12b => ?_)
          obtain ⟨xe12, exe12⟩ : ∃ z : Int32, tw_iv E xr11 (Int32.toNatClampNeg y5_4) = z := ⟨_, rfl⟩
          rw [exe12] at hxe12a hxe12b ⊢
          refine lv_if_eq (tgt := 38) hx hb dX10_nextWaiting_32 (by decide) (fun hc13 => ?_) (fun hc13 => ?_)
          · have hf14 : xe12.toInt = 0 := by have z := (fa_eq _ _).mp hc13; have : ((0 : Int32).toInt) = 0 := (by decide); omega
            refine lv_iload_n hx hb dX10_nextWaiting_38 rfl (lv_at hl 1 rfl) ?_
            refine lv_iconst (v := (-1)) hx hb dX10_nextWaiting_39 (by decide) ?_
            have hJ92 : ∀  (H : Heap) (locs : List Loc) (ls : Array Slot), tw_H D cs kp L E A H → va_S A s.heap H locs → lv_has ls 5 [(4, .int y5_4), (0, .ref a0), (1, .int x1), (2, .int x2)] → W p l e { frames := 1, cells := 0, slots := 0, locals := 27 } s m [.ref a0, .int x1, .int x2].toArray below meth c H locs 0 0 (MQ below (tw_Q D cs kp0 L0 (fun v kq Lq Eq => (∃ x : Int32, v = some (.int x) ∧ (-1) ≤ x.toInt ∧ x.toInt ≤ 39) ∧ kp = kq ∧ L = Lq ∧ E = Eq) A) [.ref a0, .int x1, .int x2].toArray s 0 0 A) (F0 m 92 ls []) := by
              intro H locs ls TH hS hl
              refine lv_iload hx hb dX10_nextWaiting_92 (lv_at hl 0 rfl) ?_
              refine lv_istore_n (lv' := [(3, .int y5_4), (4, .int y5_4), (0, .ref a0), (1, .int x1), (2, .int x2)]) hx hb dX10_nextWaiting_94 rfl hl (by decide) rfl (fun ls hl => ?_)
              exact hJ95 y5_4 _ _ ls (by omega) (by omega) TH hS (lv_sub hl [1, 0, 2, 3, 4] rfl)
            refine lv_icmp_eq (tgt := 92) hx hb dX10_nextWaiting_40 (by decide) (fun hc15 => ?_) (fun hc15 => ?_)
            · have hf16 : y5_3.toInt = (-1) := by have z := (fa_eq _ _).mp hc15; have : (((-1) : Int32).toInt) = (-1) := (by decide); omega
              exact hJ92  _ _ ls  TH hS (lv_sub hl [0, 2, 3, 4] rfl)
            · have hf17 : ¬ (y5_3.toInt = (-1)) := fun q => hc15 ((fa_eq _ _).mpr (by have : (((-1) : Int32).toInt) = (-1) := (by decide); omega))
              refine lv_iload_n hx hb dX10_nextWaiting_43 rfl (lv_at hl 4 rfl) ?_
              refine lv_if_eq (tgt := 95) hx hb dX10_nextWaiting_44 (by decide) (fun hc18 => ?_) (fun hc18 => ?_)
              · have hf19 : x2.toInt = 0 := by have z := (fa_eq _ _).mp hc18; have : ((0 : Int32).toInt) = 0 := (by decide); omega
                exact hJ95 y5_3 _ _ ls (by omega) (by omega) TH hS (lv_sub hl [0, 1, 2, 3, 4] rfl)
              · have hf20 : ¬ (x2.toInt = 0) := fun q => hc18 ((fa_eq _ _).mpr (by have : ((0 : Int32).toInt) = 0 := (by decide); omega))
                refine lv_aload_n hx hb dX10_nextWaiting_47 rfl (lv_at hl 2 rfl) ?_
                refine tw_get (ci := 10) (C := RX10) (T := TX10) (N := 8) hx hb hB cx_inX10 hown hK TH hm0 hk0 rfl ⟨by decide, rfl⟩ 5 (by decide) cw_138 (fun _ h9 => h9) dX10_nextWaiting_48 (fun hv => ?_)
                obtain ⟨xr21, hxr21, hmxr21, hkxr21⟩ : ∃ a : Nat, tw_fv E a0 5 = .ref a ∧ a ∈ L ∧ kp a = 114 := hv
                rw [hxr21]
                refine lv_iload hx hb dX10_nextWaiting_51 (lv_at hl 0 rfl) ?_
                refine tw_iald (k := 114) (t0 := 0) (n := 40) (lo := (-1)) (hi := 9) hx hb hK TH hmxr21 hkxr21 (by decide) rfl rfl (i := y5_4) (vp_in_iff.mpr ⟨by  omega, by  omega⟩) dX10_nextWaiting_53 (fun hxe22a hxe22b => ?_)
                obtain ⟨xe22, exe22⟩ : ∃ z : Int32, tw_iv E xr21 (Int32.toNatClampNeg y5_4) = z := ⟨_, rfl⟩
                rw [exe22] at hxe22a hxe22b ⊢
                refine lv_aload_n hx hb dX10_nextWaiting_54 rfl (lv_at hl 2 rfl) ?_
                refine tw_get (ci := 10) (C := RX10) (T := TX10) (N := 8) hx hb hB cx_inX10 hown hK TH hm0 hk0 rfl ⟨by decide, rfl⟩ 6 (by decide) cw_144 (fun _ h9 => h9) dX10_nextWaiting_55 (fun hv => ?_)
                obtain ⟨xr23, hxr23, hmxr23, hkxr23⟩ : ∃ a : Nat, tw_fv E a0 6 = .ref a ∧ a ∈ L ∧ kp a = 102 := hv
                rw [hxr23]
                refine lv_iload hx hb dX10_nextWaiting_58 (lv_at hl 0 rfl) ?_
                refine tw_lald (k := 102) (n := 40) (lo := 0) (hi := 0) hx hb hK TH hmxr23 hkxr23 (by decide) rfl (i := y5_4) (vp_in_iff.mpr ⟨by  omega, by  omega⟩) dX10_nextWaiting_60 (fun xl24 => ?_)
                refine lv_aload_n hx hb dX10_nextWaiting_61 rfl (lv_at hl 2 rfl) ?_
                refine tw_get (ci := 10) (C := RX10) (T := TX10) (N := 8) hx hb hB cx_inX10 hown hK TH hm0 hk0 rfl ⟨by decide, rfl⟩ 1 (by decide) cw_122 (fun _ h9 => h9) dX10_nextWaiting_62 (fun hv => ?_)
                obtain ⟨xr25, hxr25, hmxr25, hkxr25⟩ : ∃ a : Nat, tw_fv E a0 1 = .ref a ∧ a ∈ L ∧ kp a = 110 := hv
                rw [hxr25]
                refine lv_iload hx hb dX10_nextWaiting_65 (lv_at hl 0 rfl) ?_
                refine tw_iald (k := 110) (t0 := 0) (n := 40) (lo := (-1)) (hi := 149) hx hb hK TH hmxr25 hkxr25 (by decide) rfl rfl (i := y5_4) (vp_in_iff.mpr ⟨by  omega, by  omega⟩) dX10_nextWaiting_67 (fun hxe26a hxe26b => ?_)
                obtain ⟨xe26, exe26⟩ : ∃ z : Int32, tw_iv E xr25 (Int32.toNatClampNeg y5_4) = z := ⟨_, rfl⟩
                rw [exe26] at hxe26a hxe26b ⊢
                refine lv_aload_n hx hb dX10_nextWaiting_68 rfl (lv_at hl 2 rfl) ?_
                refine tw_get (ci := 10) (C := RX10) (T := TX10) (N := 8) hx hb hB cx_inX10 hown hK TH hm0 hk0 rfl ⟨by decide, rfl⟩ 5 (by decide) cw_138 (fun _ h9 => h9) dX10_nextWaiting_69 (fun hv => ?_)
                rw [hxr21]
                refine lv_iload_n hx hb dX10_nextWaiting_72 rfl (lv_at hl 1 rfl) ?_
                refine tw_iald (k := 114) (t0 := 0) (n := 40) (lo := (-1)) (hi := 9) hx hb hK TH hmxr21 hkxr21 (by decide) rfl rfl (i := y5_3) (vp_in_iff.mpr ⟨by  omega, by  omega⟩) dX10_nextWaiting_73 (fun hxe27a hxe27b => ?_)
                obtain ⟨xe27, exe27⟩ : ∃ z : Int32, tw_iv E xr21 (Int32.toNatClampNeg y5_3) = z := ⟨_, rfl⟩
                rw [exe27] at hxe27a hxe27b ⊢
                refine lv_aload_n hx hb dX10_nextWaiting_74 rfl (lv_at hl 2 rfl) ?_
                refine tw_get (ci := 10) (C := RX10) (T := TX10) (N := 8) hx hb hB cx_inX10 hown hK TH hm0 hk0 rfl ⟨by decide, rfl⟩ 6 (by decide) cw_144 (fun _ h9 => h9) dX10_nextWaiting_75 (fun hv => ?_)
                rw [hxr23]
                refine lv_iload_n hx hb dX10_nextWaiting_78 rfl (lv_at hl 1 rfl) ?_
                refine tw_lald (k := 102) (n := 40) (lo := 0) (hi := 0) hx hb hK TH hmxr23 hkxr23 (by decide) rfl (i := y5_3) (vp_in_iff.mpr ⟨by  omega, by  omega⟩) dX10_nextWaiting_79 (fun xl28 => ?_)
                refine lv_aload_n hx hb dX10_nextWaiting_80 rfl (lv_at hl 2 rfl) ?_
                refine tw_get (ci := 10) (C := RX10) (T := TX10) (N := 8) hx hb hB cx_inX10 hown hK TH hm0 hk0 rfl ⟨by decide, rfl⟩ 1 (by decide) cw_122 (fun _ h9 => h9) dX10_nextWaiting_81 (fun hv => ?_)
                rw [hxr25]
                refine lv_iload_n hx hb dX10_nextWaiting_84 rfl (lv_at hl 1 rfl) ?_
                refine tw_iald (k := 110) (t0 := 0) (n := 40) (lo := (-1)) (hi := 149) hx hb hK TH hmxr25 hkxr25 (by decide) rfl rfl (i := y5_3) (vp_in_iff.mpr ⟨by  omega, by  omega⟩) dX10_nextWaiting_85 (fun hxe29a hxe29b => ?_)
                obtain ⟨xe29, exe29⟩ : ∃ z : Int32, tw_iv E xr25 (Int32.toNatClampNeg y5_3) = z := ⟨_, rfl⟩
                rw [exe29] at hxe29a hxe29b ⊢
                refine tw_SNc (n := 6) (post := (fun v kq Lq Eq => (∃ x : Int32, v = some (.int x) ∧ 0 ≤ x.toInt ∧ x.toInt ≤ 1) ∧ kp = kq ∧ L = Lq ∧ E = Eq)) (As := [.int xe22, .long xl24, .int xe26, .int xe27, .long xl28, .int xe29]) (rest := []) ⟨hx, hb, hml, hown, hB⟩ (fun sz => tX11_isAhead l D cs xe22 xl24 xe26 xe27 xl28 xe29  sz) cw_599 cw_1 (by decide +kernel) cw_598 rfl rfl (by decide +kernel) ⟨Nat.le_of_ble_eq_true rfl, Nat.le_of_ble_eq_true rfl⟩ hK hN TH hS hA rfl hl.1 rfl (Nat.le_of_ble_eq_true rfl) dX10_nextWaiting_86 ⟨Nat.le_of_ble_eq_true rfl, Nat.le_of_ble_eq_true rfl⟩ (fun v30 kp30 L30 E30 H locs hq30 hx30 TH hS => ?_)
                obtain ⟨⟨xc31, rfl, hxc31a, hxc31b⟩, rfl, rfl, rfl⟩ := hq30
                refine W.eq (g2 := F0 m 89 ls [.int xc31]) rfl ?_
                refine lv_if_eq (tgt := 95) hx hb dX10_nextWaiting_89 (by decide) (fun hc32 => ?_) (fun hc32 => ?_)
                · have hf33 : xc31.toInt = 0 := by have z := (fa_eq _ _).mp hc32; have : ((0 : Int32).toInt) = 0 := (by decide); omega
                  exact hJ95 y5_3 _ _ ls (by omega) (by omega) TH hS (lv_sub hl [0, 1, 2, 3, 4] rfl)
                · have hf34 : ¬ (xc31.toInt = 0) := fun q => hc32 ((fa_eq _ _).mpr (by have : ((0 : Int32).toInt) = 0 := (by decide); omega))
                  exact hJ92  _ _ ls  TH hS (lv_sub hl [0, 2, 3, 4] rfl)
          · have hf35 : ¬ (xe12.toInt = 0) := fun q => hc13 ((fa_eq _ _).mpr (by have : ((0 : Int32).toInt) = 0 := (by decide); omega))
            refine lv_goto (tgt := 95) hx hb dX10_nextWaiting_35 (by decide) ?_
            exact hJ95 y5_3 _ _ ls (by omega) (by omega) TH hS (lv_sub hl [0, 1, 2, 3, 4] rfl)
  exact hJ5 41 (0 : Int32) ((-1) : Int32) _ _ ls (by have : ((0 : Int32).toInt) = 0 := (by decide); omega) (by have : ((0 : Int32).toInt) = 0 := (by decide); omega) (by have : (((-1) : Int32).toInt) = (-1) := (by decide); omega) (by have : (((-1) : Int32).toInt) = (-1) := (by decide); omega) (by have : (((-1) : Int32).toInt) = (-1) := (by decide); have : ((0 : Int32).toInt) = 0 := (by decide);  omega) TH hS (lv_sub hl [0, 1, 2, 3, 4] rfl)
set_option maxHeartbeats 4000000 in
set_option maxRecDepth 100000 in
theorem tX10_takeFrom (l : Launch) (D : va_G) (cs : Nat → ClassId) {kp : Nat → Nat} {L : List Nat} {E : Nat → va_E} (a0 : Nat) (a1 : Nat) (x2 : Int32) (x3 : Int32) (fv0_0 : Int32) (hm0 : a0 ∈ L) (hk0 : kp a0 = 10) (hm1 : a1 ∈ L) (hk1 : kp a1 = 10) (hp3a : (-1) ≤ x3.toInt) (hp3b : x3.toInt ≤ 39) (hfv0_0 : tw_fv E a0 0 = .int fv0_0) (hpre0 : x3.toInt < fv0_0.toInt) (hg0 : dp_ok E a0 (fv0_0.toInt)) (sz : Nat) : Met l yX10_takeFrom (.code yX10_takeFrom cX10_takeFrom 4 (some .int) :: cx_big) { frames := 1, cells := 0, slots := 0, locals := 25 } (tw_P D cs kp L E [.ref a0, .ref a1, .int x2, .int x3] sz) (tw_Q D cs kp L (fun v kq Lq Eq => (∃ x : Int32, v = some (.int x) ∧ (-1) ≤ x.toInt ∧ x.toInt ≤ 39 ∧ (∃ z0 : Int32, tw_fv Eq a0 0 = .int z0 ∧ (x.toInt < z0.toInt) ∧ dp_ok Eq a0 (z0.toInt))) ∧ kp = kq ∧ L = Lq ∧ tw_fr kp L [(10, 0)] [102, 110, 111, 112, 113, 114] E Eq) (va_A (va_pl L E) sz)) 0 0 (va_A (va_pl L E) sz) := by
  refine tw_ofW (by decide) (Nat.le_of_ble_eq_true rfl) ?_
  intro p e s m below meth c A ls hx hb hr hml hB hown hlocks hK hN hA TH hS hl
  have hown : s.vm.findClass "TreeMerge$Tree" = some m.cls := hown
  have hl : lv_has ls 4 [(0, .ref a0), (1, .ref a1), (2, .int x2), (3, .int x3)] := hl
  obtain ⟨kp0, ekp⟩ : ∃ z, z = kp := ⟨_, rfl⟩
  obtain ⟨L0, eL⟩ : ∃ z, z = L := ⟨_, rfl⟩
  rw [show tw_Q D cs kp L = tw_Q D cs kp0 L0 by rw [ekp, eL]]
  have hex : ∀ a : Nat, a ∈ L0 → a ∈ L ∧ kp a = kp0 a := fun a h => ⟨by rw [← eL]; exact h, by rw [ekp]⟩
  have hF : tw_fr kp L [(10, 0)] [102, 110, 111, 112, 113, 114] E E := tw_fr.rf
  obtain ⟨qfv0_0, hqfv0_0, hqfv0_0a, hqfv0_0b⟩ := tw_rd TH hm0 hk0 (by decide) (by decide) (k := 0) rfl
  have eqfv0_0 : qfv0_0 = fv0_0 := by have q := hqfv0_0.symm.trans hfv0_0; injection q
  rw [eqfv0_0] at hqfv0_0a hqfv0_0b
  refine lv_iload_n hx hb dX10_takeFrom_0 rfl (lv_at hl 2 rfl) ?_
  refine lv_if_lt (tgt := 21) hx hb dX10_takeFrom_1 (by decide) (fun hc1 => ?_) (fun hc1 => ?_)
  · have hf2 : x2.toInt < 0 := by have z := (fa_lt _ _).mp hc1; have : ((0 : Int32).toInt) = 0 := (by decide); omega
    refine lv_iconst (v := (-1)) hx hb dX10_takeFrom_21 (by decide) ?_
    exact tw_iret hx hb hr hlocks TH hS hex ⟨⟨_, rfl, (show (-1) ≤ Int32.toInt (-1) from by have : (((-1) : Int32).toInt) = (-1) := (by decide); omega), (show Int32.toInt (-1) ≤ 39 from by have : (((-1) : Int32).toInt) = (-1) := (by decide); omega), ⟨fv0_0, hfv0_0, by have : (((-1) : Int32).toInt) = (-1) := (by decide); omega, (dp_ok_cast (by have : (((-1) : Int32).toInt) = (-1) := (by decide); omega) hg0)⟩⟩, rfl, rfl, hF⟩ (Nat.le_of_ble_eq_true rfl) (Nat.le_of_ble_eq_true rfl) dX10_takeFrom_22
  · have hf3 : ¬ (x2.toInt < 0) := fun q => hc1 ((fa_lt _ _).mpr (by have : ((0 : Int32).toInt) = 0 := (by decide); omega))
    refine lv_iload_n hx hb dX10_takeFrom_4 rfl (lv_at hl 2 rfl) ?_
    refine lv_aload_n hx hb dX10_takeFrom_5 rfl (lv_at hl 1 rfl) ?_
    refine tw_get (ci := 10) (C := RX10) (T := TX10) (N := 8) hx hb hB cx_inX10 hown hK TH hm1 hk1 rfl ⟨by decide, rfl⟩ 0 (by decide) cw_116 (fun _ h9 => h9) dX10_takeFrom_6 (fun hv => ?_)
    obtain ⟨xi4, hxi4, hxi4a, hxi4b⟩ : ∃ x : Int32, tw_fv E a1 0 = .int x ∧ 0 ≤ x.toInt ∧ x.toInt ≤ 40 := hv
    rw [hxi4]
    refine lv_icmp_ge (tgt := 21) hx hb dX10_takeFrom_9 (by decide) (fun hc5 => ?_) (fun hc5 => ?_)
    · have hf6 : xi4.toInt ≤ x2.toInt := by have z := (fa_le _ _).mp hc5;  omega
      refine lv_iconst (v := (-1)) hx hb dX10_takeFrom_21 (by decide) ?_
      exact tw_iret hx hb hr hlocks TH hS hex ⟨⟨_, rfl, (show (-1) ≤ Int32.toInt (-1) from by have : (((-1) : Int32).toInt) = (-1) := (by decide); omega), (show Int32.toInt (-1) ≤ 39 from by have : (((-1) : Int32).toInt) = (-1) := (by decide); omega), ⟨fv0_0, hfv0_0, by have : (((-1) : Int32).toInt) = (-1) := (by decide); omega, (dp_ok_cast (by have : (((-1) : Int32).toInt) = (-1) := (by decide); omega) hg0)⟩⟩, rfl, rfl, hF⟩ (Nat.le_of_ble_eq_true rfl) (Nat.le_of_ble_eq_true rfl) dX10_takeFrom_22
    · have hf7 : ¬ (xi4.toInt ≤ x2.toInt) := fun q => hc5 ((fa_le _ _).mpr (by  omega))
      refine lv_aload_n hx hb dX10_takeFrom_12 rfl (lv_at hl 0 rfl) ?_
      refine tw_get (ci := 10) (C := RX10) (T := TX10) (N := 8) hx hb hB cx_inX10 hown hK TH hm0 hk0 rfl ⟨by decide, rfl⟩ 0 (by decide) cw_116 (fun _ h9 => h9) dX10_takeFrom_13 (fun hv => ?_)
      rw [hfv0_0]
      refine lv_bipush (v := 40) hx hb dX10_takeFrom_16 (by decide) ?_
      refine lv_icmp_lt (tgt := 23) hx hb dX10_takeFrom_18 (by decide) (fun hc8 => ?_) (fun hc8 => ?_)
      · have hf9 : fv0_0.toInt < 40 := by have z := (fa_lt _ _).mp hc8; have : ((40 : Int32).toInt) = 40 := (by decide); omega
        refine lv_aload_n hx hb dX10_takeFrom_23 rfl (lv_at hl 1 rfl) ?_
        refine tw_get (ci := 10) (C := RX10) (T := TX10) (N := 8) hx hb hB cx_inX10 hown hK TH hm1 hk1 rfl ⟨by decide, rfl⟩ 4 (by decide) cw_135 (fun _ h9 => h9) dX10_takeFrom_24 (fun hv => ?_)
        obtain ⟨xr10, hxr10, hmxr10, hkxr10⟩ : ∃ a : Nat, tw_fv E a1 4 = .ref a ∧ a ∈ L ∧ kp a = 113 := hv
        rw [hxr10]
        refine lv_iload_n hx hb dX10_takeFrom_27 rfl (lv_at hl 2 rfl) ?_
        refine lv_iconst (v := 1) hx hb dX10_takeFrom_28 (by decide) ?_
        refine tw_iast (k := 113) (n := 40) (lo := 0) (hi := 40) hx hb hK TH hS hmxr10 hkxr10 (by decide) rfl (i := x2) (x := 1) (vp_in_iff.mpr ⟨by  omega, by  omega⟩) (by have : ((1 : Int32).toInt) = 1 := (by decide); omega) (by have : ((1 : Int32).toInt) = 1 := (by decide); omega) dX10_takeFrom_29 (fun H locs E11 TH hS hp12 hp13 hp14 => ?_)
        have hst15 : tw_fr kp L [] [113] E E11 := tw_fr.ast tw_fr.rf (fun _ => hkxr10) hp12 hp13 (by decide)
        have hF := hF.tr hst15 (fun _ h => ⟨h, rfl⟩) (by decide) (by decide)
        have hmf16 : tw_fv E11 a0 0 = .int fv0_0 := (hst15.1 a0 0 hm0 (by rw [hk0]; decide)).trans hfv0_0
        have hmf17 : tw_fv E11 a1 0 = .int xi4 := (hst15.1 a1 0 hm1 (by rw [hk1]; decide)).trans hxi4
        have hmf18 : tw_fv E11 a1 4 = .ref xr10 := (hst15.1 a1 4 hm1 (by rw [hk1]; decide)).trans hxr10
        have hg0_o := hg0
        have hg0 : dp_ok E11 a0 (fv0_0.toInt) := dp_ok_dst TH hm0 hk0 hkxr10 hp12 hp13 hp14 (by have : ((1 : Int32).toInt) = 1 := (by decide); omega) hg0_o
        refine lv_aload_n hx hb dX10_takeFrom_30 rfl (lv_at hl 0 rfl) ?_
        refine lv_aload_n hx hb dX10_takeFrom_31 rfl (lv_at hl 1 rfl) ?_
        refine tw_get (ci := 10) (C := RX10) (T := TX10) (N := 8) hx hb hB cx_inX10 hown hK TH hm1 hk1 rfl ⟨by decide, rfl⟩ 1 (by decide) cw_122 (fun _ h9 => h9) dX10_takeFrom_32 (fun hv => ?_)
        obtain ⟨xr19, hxr19, hmxr19, hkxr19⟩ : ∃ a : Nat, tw_fv E11 a1 1 = .ref a ∧ a ∈ L ∧ kp a = 110 := hv
        rw [hxr19]
        refine lv_iload_n hx hb dX10_takeFrom_35 rfl (lv_at hl 2 rfl) ?_
        refine tw_iald (k := 110) (t0 := 0) (n := 40) (lo := (-1)) (hi := 149) hx hb hK TH hmxr19 hkxr19 (by decide) rfl rfl (i := x2) (vp_in_iff.mpr ⟨by  omega, by  omega⟩) dX10_takeFrom_36 (fun hxe20a hxe20b => ?_)
        obtain ⟨xe20, exe20⟩ : ∃ z : Int32, tw_iv E11 xr19 (Int32.toNatClampNeg x2) = z := ⟨_, rfl⟩
        rw [exe20] at hxe20a hxe20b ⊢
        refine lv_aload_n hx hb dX10_takeFrom_37 rfl (lv_at hl 1 rfl) ?_
        refine tw_get (ci := 10) (C := RX10) (T := TX10) (N := 8) hx hb hB cx_inX10 hown hK TH hm1 hk1 rfl ⟨by decide, rfl⟩ 2 (by decide) cw_127 (fun _ h9 => h9) dX10_takeFrom_38 (fun hv => ?_)
        obtain ⟨xr21, hxr21, hmxr21, hkxr21⟩ : ∃ a : Nat, tw_fv E11 a1 2 = .ref a ∧ a ∈ L ∧ kp a = 111 := hv
        rw [hxr21]
        refine lv_iload_n hx hb dX10_takeFrom_41 rfl (lv_at hl 2 rfl) ?_
        refine tw_iald (k := 111) (t0 := 0) (n := 40) (lo := (-1)) (hi := 149) hx hb hK TH hmxr21 hkxr21 (by decide) rfl rfl (i := x2) (vp_in_iff.mpr ⟨by  omega, by  omega⟩) dX10_takeFrom_42 (fun hxe22a hxe22b => ?_)
        obtain ⟨xe22, exe22⟩ : ∃ z : Int32, tw_iv E11 xr21 (Int32.toNatClampNeg x2) = z := ⟨_, rfl⟩
        rw [exe22] at hxe22a hxe22b ⊢
        refine lv_aload_n hx hb dX10_takeFrom_43 rfl (lv_at hl 1 rfl) ?_
        refine tw_get (ci := 10) (C := RX10) (T := TX10) (N := 8) hx hb hB cx_inX10 hown hK TH hm1 hk1 rfl ⟨by decide, rfl⟩ 5 (by decide) cw_138 (fun _ h9 => h9) dX10_takeFrom_44 (fun hv => ?_)
        obtain ⟨xr23, hxr23, hmxr23, hkxr23⟩ : ∃ a : Nat, tw_fv E11 a1 5 = .ref a ∧ a ∈ L ∧ kp a = 114 := hv
        rw [hxr23]
        refine lv_iload_n hx hb dX10_takeFrom_47 rfl (lv_at hl 2 rfl) ?_
        refine tw_iald (k := 114) (t0 := 0) (n := 40) (lo := (-1)) (hi := 9) hx hb hK TH hmxr23 hkxr23 (by decide) rfl rfl (i := x2) (vp_in_iff.mpr ⟨by  omega, by  omega⟩) dX10_takeFrom_48 (fun hxe24a hxe24b => ?_)
        obtain ⟨xe24, exe24⟩ : ∃ z : Int32, tw_iv E11 xr23 (Int32.toNatClampNeg x2) = z := ⟨_, rfl⟩
        rw [exe24] at hxe24a hxe24b ⊢
        refine lv_aload_n hx hb dX10_takeFrom_49 rfl (lv_at hl 1 rfl) ?_
        refine tw_get (ci := 10) (C := RX10) (T := TX10) (N := 8) hx hb hB cx_inX10 hown hK TH hm1 hk1 rfl ⟨by decide, rfl⟩ 6 (by decide) cw_144 (fun _ h9 => h9) dX10_takeFrom_50 (fun hv => ?_)
        obtain ⟨xr25, hxr25, hmxr25, hkxr25⟩ : ∃ a : Nat, tw_fv E11 a1 6 = .ref a ∧ a ∈ L ∧ kp a = 102 := hv
        rw [hxr25]
        refine lv_iload_n hx hb dX10_takeFrom_53 rfl (lv_at hl 2 rfl) ?_
        refine tw_lald (k := 102) (n := 40) (lo := 0) (hi := 0) hx hb hK TH hmxr25 hkxr25 (by decide) rfl (i := x2) (vp_in_iff.mpr ⟨by  omega, by  omega⟩) dX10_takeFrom_54 (fun xl26 => ?_)
        refine tw_Vc (o := a0) (ci := 10) (n := 4) (post := (fun v kq Lq Eq => v = none ∧ kp = kq ∧ L = Lq ∧ tw_fr kp L [(10, 0)] [102, 110, 111, 114] E11 Eq ∧ (∃ z0 : Int32, tw_fv Eq a0 0 = .int z0 ∧ (fv0_0.toInt < 40 → z0.toInt = fv0_0.toInt + 1)))) (As := [.int xe20, .int xe22, .int xe24, .long xl26]) (rest := []) ⟨hx, hb, hml, hown, hB⟩ (fun sz => tX10_add l D cs a0 xe20 xe22 xe24 xl26 fv0_0 hm0 hk0 (by omega) (by omega) (by omega) (by omega) (by omega) (by omega) hmf16 sz) cg_10_65_X10_add rfl rfl (by decide +kernel) ⟨Nat.le_of_ble_eq_true rfl, Nat.le_of_ble_eq_true rfl⟩ hK hN TH hS hA rfl hm0 hk0 (by decide) rfl hl.1 rfl (Nat.le_of_ble_eq_true rfl) dX10_takeFrom_55 ⟨Nat.le_of_ble_eq_true rfl, Nat.le_of_ble_eq_true rfl⟩ (fun v27 kp27 L27 E27 H locs hq27 hx27 TH hS => ?_)
        obtain ⟨rfl, rfl, rfl, hst27, ⟨zfxc28_0_0, hzfxc28_0_0, hzpxc28_0⟩⟩ := hq27
        have hF := hF.tr hst27 (fun _ h => ⟨h, rfl⟩) (by decide) (by decide)
        have hmf29 : tw_fv E27 a1 4 = .ref xr10 := (hst27.1 a1 4 hm1 (by rw [hk1]; decide)).trans hmf18
        have hmf30 : tw_fv E27 a1 1 = .ref xr19 := (hst27.1 a1 1 hm1 (by rw [hk1]; decide)).trans hxr19
        have hmf31 : tw_fv E27 a1 2 = .ref xr21 := (hst27.1 a1 2 hm1 (by rw [hk1]; decide)).trans hxr21
        have hmf32 : tw_fv E27 a1 5 = .ref xr23 := (hst27.1 a1 5 hm1 (by rw [hk1]; decide)).trans hxr23
        have hmf33 : tw_fv E27 a1 6 = .ref xr25 := (hst27.1 a1 6 hm1 (by rw [hk1]; decide)).trans hxr25
        have hg0 : dp_ok E27 a0 (fv0_0.toInt) := dp_ok_fr TH hst27 hm0 hk0 (by decide) (by decide) hg0
        obtain ⟨qzfxc28_0_0, hqzfxc28_0_0, hqzfxc28_0_0a, hqzfxc28_0_0b⟩ := tw_rd TH hm0 hk0 (by decide) (by decide) (k := 0) rfl
        have eqzfxc28_0_0 : qzfxc28_0_0 = zfxc28_0_0 := by have q := hqzfxc28_0_0.symm.trans hzfxc28_0_0; injection q
        rw [eqzfxc28_0_0] at hqzfxc28_0_0a hqzfxc28_0_0b
        refine W.eq (g2 := F0 m 58 ls []) rfl ?_
        refine lv_aload_n hx hb dX10_takeFrom_58 rfl (lv_at hl 0 rfl) ?_
        refine tw_get (ci := 10) (C := RX10) (T := TX10) (N := 8) hx hb hB cx_inX10 hown hK TH hm0 hk0 rfl ⟨by decide, rfl⟩ 3 (by decide) cw_130 (fun _ h9 => h9) dX10_takeFrom_59 (fun hv => ?_)
        obtain ⟨xr34, hxr34, hmxr34, hkxr34⟩ : ∃ a : Nat, tw_fv E27 a0 3 = .ref a ∧ a ∈ L ∧ kp a = 112 := hv
        rw [hxr34]
        refine lv_aload_n hx hb dX10_takeFrom_62 rfl (lv_at hl 0 rfl) ?_
        refine tw_get (ci := 10) (C := RX10) (T := TX10) (N := 8) hx hb hB cx_inX10 hown hK TH hm0 hk0 rfl ⟨by decide, rfl⟩ 0 (by decide) cw_116 (fun _ h9 => h9) dX10_takeFrom_63 (fun hv => ?_)
        rw [hzfxc28_0_0]
        refine lv_iconst (v := 1) hx hb dX10_takeFrom_66 (by decide) ?_
        refine lv_isub hx hb dX10_takeFrom_67 ?_
        refine lv_topi (fun zi35 ezi35 => ?_)
        have hzi35 : zi35.toInt = zfxc28_0_0.toInt - 1 := by rw [ezi35]; have : ((1 : Int32).toInt) = 1 := (by decide); have := ia_lo zfxc28_0_0; have := ia_hi zfxc28_0_0; exact (ia_sub (by omega) (by omega)).trans (by omega)
        refine lv_iload_n hx hb dX10_takeFrom_68 rfl (lv_at hl 3 rfl) ?_
        refine tw_iast (k := 112) (n := 40) (lo := (-1)) (hi := 39) hx hb hK TH hS hmxr34 hkxr34 (by decide) rfl (i := zi35) (x := x3) (vp_in_iff.mpr ⟨by  omega, by  omega⟩) (by omega) (by omega) dX10_takeFrom_69 (fun H locs E36 TH hS hp37 hp38 hp39 => ?_)
        have hst40 : tw_fr kp L [] [112] E27 E36 := tw_fr.ast tw_fr.rf (fun _ => hkxr34) hp37 hp38 (by decide)
        have hF := hF.tr hst40 (fun _ h => ⟨h, rfl⟩) (by decide) (by decide)
        have hmf41 : tw_fv E36 a1 4 = .ref xr10 := (hst40.1 a1 4 hm1 (by rw [hk1]; decide)).trans hmf29
        have hmf42 : tw_fv E36 a1 1 = .ref xr19 := (hst40.1 a1 1 hm1 (by rw [hk1]; decide)).trans hmf30
        have hmf43 : tw_fv E36 a1 2 = .ref xr21 := (hst40.1 a1 2 hm1 (by rw [hk1]; decide)).trans hmf31
        have hmf44 : tw_fv E36 a1 5 = .ref xr23 := (hst40.1 a1 5 hm1 (by rw [hk1]; decide)).trans hmf32
        have hmf45 : tw_fv E36 a1 6 = .ref xr25 := (hst40.1 a1 6 hm1 (by rw [hk1]; decide)).trans hmf33
        have hmf46 : tw_fv E36 a0 0 = .int zfxc28_0_0 := (hst40.1 a0 0 hm0 (by rw [hk0]; decide)).trans hzfxc28_0_0
        have hmf47 : tw_fv E36 a0 3 = .ref xr34 := (hst40.1 a0 3 hm0 (by rw [hk0]; decide)).trans hxr34
        have hg0_o := hg0
        have hg0 : dp_ok E36 a0 (fv0_0.toInt) := (dp_ok_tst hm0 hk0 hkxr34 hxr34 TH hp37 hp38 hp39 (by omega) (by omega) hg0_o).1
        have hgn48 : tp_is E36 a0 (zi35.toInt) (x3.toInt) := tp_is_st hxr34 hp37 hp38 hp39
        refine lv_aload_n hx hb dX10_takeFrom_70 rfl (lv_at hl 0 rfl) ?_
        refine tw_get (ci := 10) (C := RX10) (T := TX10) (N := 8) hx hb hB cx_inX10 hown hK TH hm0 hk0 rfl ⟨by decide, rfl⟩ 4 (by decide) cw_135 (fun _ h9 => h9) dX10_takeFrom_71 (fun hv => ?_)
        obtain ⟨xr49, hxr49, hmxr49, hkxr49⟩ : ∃ a : Nat, tw_fv E36 a0 4 = .ref a ∧ a ∈ L ∧ kp a = 113 := hv
        rw [hxr49]
        refine lv_aload_n hx hb dX10_takeFrom_74 rfl (lv_at hl 0 rfl) ?_
        refine tw_get (ci := 10) (C := RX10) (T := TX10) (N := 8) hx hb hB cx_inX10 hown hK TH hm0 hk0 rfl ⟨by decide, rfl⟩ 0 (by decide) cw_116 (fun _ h9 => h9) dX10_takeFrom_75 (fun hv => ?_)
        rw [hmf46]
        refine lv_iconst (v := 1) hx hb dX10_takeFrom_78 (by decide) ?_
        refine lv_isub hx hb dX10_takeFrom_79 ?_
        refine lv_topi (fun zi50 ezi50 => ?_)
        have hzi50 : zi50.toInt = zfxc28_0_0.toInt - 1 := by rw [ezi50]; have : ((1 : Int32).toInt) = 1 := (by decide); have := ia_lo zfxc28_0_0; have := ia_hi zfxc28_0_0; exact (ia_sub (by omega) (by omega)).trans (by omega)
        refine lv_iload_n hx hb dX10_takeFrom_80 rfl (lv_at hl 3 rfl) ?_
        refine lv_if_ge (tgt := 88) hx hb dX10_takeFrom_81 (by decide) (fun hc51 => ?_) (fun hc51 => ?_)
        · have hf52 : 0 ≤ x3.toInt := by have z := (fa_le _ _).mp hc51; have : ((0 : Int32).toInt) = 0 := (by decide); omega
          refine lv_aload_n hx hb dX10_takeFrom_88 rfl (lv_at hl 0 rfl) ?_
          refine tw_get (ci := 10) (C := RX10) (T := TX10) (N := 8) hx hb hB cx_inX10 hown hK TH hm0 hk0 rfl ⟨by decide, rfl⟩ 4 (by decide) cw_135 (fun _ h9 => h9) dX10_takeFrom_89 (fun hv => ?_)
          rw [hxr49]
          refine lv_iload_n hx hb dX10_takeFrom_92 rfl (lv_at hl 3 rfl) ?_
          refine tw_iald (k := 113) (t0 := 0) (n := 40) (lo := 0) (hi := 40) hx hb hK TH hmxr49 hkxr49 (by decide) rfl rfl (i := x3) (vp_in_iff.mpr ⟨by  omega, by  omega⟩) dX10_takeFrom_93 (fun hxe53a hxe53b => ?_)
          obtain ⟨xe53, exe53⟩ : ∃ z : Int32, tw_iv E36 xr49 (Int32.toNatClampNeg x3) = z := ⟨_, rfl⟩
          rw [exe53] at hxe53a hxe53b ⊢
          have hn3 := ia_tn (i := x3) (by omega)
          have hdt := (hg0 (Int32.toNatClampNeg x3) (by omega)).1
          rw [tw_el_of hxr49, exe53] at hdt
          refine lv_iconst (v := 1) hx hb dX10_takeFrom_94 (by decide) ?_
          refine lv_iadd hx hb dX10_takeFrom_95 ?_
          refine lv_topi (fun zi54 ezi54 => ?_)
          have hzi54 : zi54.toInt = xe53.toInt + 1 := by rw [ezi54]; have : ((1 : Int32).toInt) = 1 := (by decide); have := ia_lo xe53; have := ia_hi xe53; exact (ia_add (by omega) (by omega)).trans (by omega)
          refine tw_iast (k := 113) (n := 40) (lo := 0) (hi := 40) hx hb hK TH hS hmxr49 hkxr49 (by decide) rfl (i := zi50) (x := zi54) (vp_in_iff.mpr ⟨by  omega, by  omega⟩) (by omega) (by omega) dX10_takeFrom_96 (fun H locs E55 TH hS hp56 hp57 hp58 => ?_)
          have hst59 : tw_fr kp L [] [113] E36 E55 := tw_fr.ast tw_fr.rf (fun _ => hkxr49) hp56 hp57 (by decide)
          have hF := hF.tr hst59 (fun _ h => ⟨h, rfl⟩) (by decide) (by decide)
          have hmf60 : tw_fv E55 a1 4 = .ref xr10 := (hst59.1 a1 4 hm1 (by rw [hk1]; decide)).trans hmf41
          have hmf61 : tw_fv E55 a1 1 = .ref xr19 := (hst59.1 a1 1 hm1 (by rw [hk1]; decide)).trans hmf42
          have hmf62 : tw_fv E55 a1 2 = .ref xr21 := (hst59.1 a1 2 hm1 (by rw [hk1]; decide)).trans hmf43
          have hmf63 : tw_fv E55 a1 5 = .ref xr23 := (hst59.1 a1 5 hm1 (by rw [hk1]; decide)).trans hmf44
          have hmf64 : tw_fv E55 a1 6 = .ref xr25 := (hst59.1 a1 6 hm1 (by rw [hk1]; decide)).trans hmf45
          have hmf65 : tw_fv E55 a0 0 = .int zfxc28_0_0 := (hst59.1 a0 0 hm0 (by rw [hk0]; decide)).trans hmf46
          have hmf66 : tw_fv E55 a0 3 = .ref xr34 := (hst59.1 a0 3 hm0 (by rw [hk0]; decide)).trans hmf47
          have hmf67 : tw_fv E55 a0 4 = .ref xr49 := (hst59.1 a0 4 hm0 (by rw [hk0]; decide)).trans hxr49
          have hg0_o := hg0
          have hgn48_o := hgn48
          have hg0 : dp_ok E55 a0 (fv0_0.toInt + 1) := dp_ok_push (n := fv0_0.toInt) (v := x3.toInt) hm0 hk0 hkxr49 hxr49 TH hp56 hp57 hp58 (by omega) (by omega) (by have : ((1 : Int32).toInt) = 1 := (by decide); omega) (by omega) (tp_is_cast (by omega) hgn48_o) hg0_o
          have hgn48 : tp_is E55 a0 (zi35.toInt) (x3.toInt) := tp_is_fr TH hst59 hm0 hk0 (by decide) (by decide) hgn48
          refine lv_aload_n hx hb dX10_takeFrom_97 rfl (lv_at hl 0 rfl) ?_
          refine tw_get (ci := 10) (C := RX10) (T := TX10) (N := 8) hx hb hB cx_inX10 hown hK TH hm0 hk0 rfl ⟨by decide, rfl⟩ 0 (by decide) cw_116 (fun _ h9 => h9) dX10_takeFrom_98 (fun hv => ?_)
          rw [hmf65]
          refine lv_iconst (v := 1) hx hb dX10_takeFrom_101 (by decide) ?_
          refine lv_isub hx hb dX10_takeFrom_102 ?_
          refine lv_topi (fun zi68 ezi68 => ?_)
          have hzi68 : zi68.toInt = zfxc28_0_0.toInt - 1 := by rw [ezi68]; have : ((1 : Int32).toInt) = 1 := (by decide); have := ia_lo zfxc28_0_0; have := ia_hi zfxc28_0_0; exact (ia_sub (by omega) (by omega)).trans (by omega)
          exact tw_iret hx hb hr hlocks TH hS hex ⟨⟨_, rfl, (show (-1) ≤ Int32.toInt zi68 from by  omega), (show Int32.toInt zi68 ≤ 39 from by  omega), ⟨zfxc28_0_0, hmf65, by  omega, (dp_ok_cast (by  omega) hg0)⟩⟩, rfl, rfl, hF⟩ (Nat.le_of_ble_eq_true rfl) (Nat.le_of_ble_eq_true rfl) dX10_takeFrom_103
        · have hf69 : ¬ (0 ≤ x3.toInt) := fun q => hc51 ((fa_le _ _).mpr (by have : ((0 : Int32).toInt) = 0 := (by decide); omega))
          refine lv_iconst (v := 1) hx hb dX10_takeFrom_84 (by decide) ?_
          refine lv_goto (tgt := 96) hx hb dX10_takeFrom_85 (by decide) ?_
          refine tw_iast (k := 113) (n := 40) (lo := 0) (hi := 40) hx hb hK TH hS hmxr49 hkxr49 (by decide) rfl (i := zi50) (x := 1) (vp_in_iff.mpr ⟨by  omega, by  omega⟩) (by have : ((1 : Int32).toInt) = 1 := (by decide); omega) (by have : ((1 : Int32).toInt) = 1 := (by decide); omega) dX10_takeFrom_96 (fun H locs E70 TH hS hp71 hp72 hp73 => ?_)
          have hst74 : tw_fr kp L [] [113] E36 E70 := tw_fr.ast tw_fr.rf (fun _ => hkxr49) hp71 hp72 (by decide)
          have hF := hF.tr hst74 (fun _ h => ⟨h, rfl⟩) (by decide) (by decide)
          have hmf75 : tw_fv E70 a1 4 = .ref xr10 := (hst74.1 a1 4 hm1 (by rw [hk1]; decide)).trans hmf41
          have hmf76 : tw_fv E70 a1 1 = .ref xr19 := (hst74.1 a1 1 hm1 (by rw [hk1]; decide)).trans hmf42
          have hmf77 : tw_fv E70 a1 2 = .ref xr21 := (hst74.1 a1 2 hm1 (by rw [hk1]; decide)).trans hmf43
          have hmf78 : tw_fv E70 a1 5 = .ref xr23 := (hst74.1 a1 5 hm1 (by rw [hk1]; decide)).trans hmf44
          have hmf79 : tw_fv E70 a1 6 = .ref xr25 := (hst74.1 a1 6 hm1 (by rw [hk1]; decide)).trans hmf45
          have hmf80 : tw_fv E70 a0 0 = .int zfxc28_0_0 := (hst74.1 a0 0 hm0 (by rw [hk0]; decide)).trans hmf46
          have hmf81 : tw_fv E70 a0 3 = .ref xr34 := (hst74.1 a0 3 hm0 (by rw [hk0]; decide)).trans hmf47
          have hmf82 : tw_fv E70 a0 4 = .ref xr49 := (hst74.1 a0 4 hm0 (by rw [hk0]; decide)).trans hxr49
          have hg0_o := hg0
          have hgn48_o := hgn48
          have hg0 : dp_ok E70 a0 (fv0_0.toInt + 1) := dp_ok_push (n := fv0_0.toInt) (v := x3.toInt) hm0 hk0 hkxr49 hxr49 TH hp71 hp72 hp73 (by omega) (by omega) (by have : ((1 : Int32).toInt) = 1 := (by decide); omega) (by omega) (tp_is_cast (by omega) hgn48_o) hg0_o
          have hgn48 : tp_is E70 a0 (zi35.toInt) (x3.toInt) := tp_is_fr TH hst74 hm0 hk0 (by decide) (by decide) hgn48
          refine lv_aload_n hx hb dX10_takeFrom_97 rfl (lv_at hl 0 rfl) ?_
          refine tw_get (ci := 10) (C := RX10) (T := TX10) (N := 8) hx hb hB cx_inX10 hown hK TH hm0 hk0 rfl ⟨by decide, rfl⟩ 0 (by decide) cw_116 (fun _ h9 => h9) dX10_takeFrom_98 (fun hv => ?_)
          rw [hmf80]
          refine lv_iconst (v := 1) hx hb dX10_takeFrom_101 (by decide) ?_
          refine lv_isub hx hb dX10_takeFrom_102 ?_
          refine lv_topi (fun zi83 ezi83 => ?_)
          have hzi83 : zi83.toInt = zfxc28_0_0.toInt - 1 := by rw [ezi83]; have : ((1 : Int32).toInt) = 1 := (by decide); have := ia_lo zfxc28_0_0; have := ia_hi zfxc28_0_0; exact (ia_sub (by omega) (by omega)).trans (by omega)
          exact tw_iret hx hb hr hlocks TH hS hex ⟨⟨_, rfl, (show (-1) ≤ Int32.toInt zi83 from by  omega), (show Int32.toInt zi83 ≤ 39 from by  omega), ⟨zfxc28_0_0, hmf80, by  omega, (dp_ok_cast (by  omega) hg0)⟩⟩, rfl, rfl, hF⟩ (Nat.le_of_ble_eq_true rfl) (Nat.le_of_ble_eq_true rfl) dX10_takeFrom_103
      · have hf84 : ¬ (fv0_0.toInt < 40) := fun q => hc8 ((fa_lt _ _).mpr (by have : ((40 : Int32).toInt) = 40 := (by decide); omega))
        refine lv_iconst (v := (-1)) hx hb dX10_takeFrom_21 (by decide) ?_
        exact tw_iret hx hb hr hlocks TH hS hex ⟨⟨_, rfl, (show (-1) ≤ Int32.toInt (-1) from by have : (((-1) : Int32).toInt) = (-1) := (by decide); omega), (show Int32.toInt (-1) ≤ 39 from by have : (((-1) : Int32).toInt) = (-1) := (by decide); omega), ⟨fv0_0, hfv0_0, by have : (((-1) : Int32).toInt) = (-1) := (by decide); omega, (dp_ok_cast (by have : (((-1) : Int32).toInt) = (-1) := (by decide); omega) hg0)⟩⟩, rfl, rfl, hF⟩ (Nat.le_of_ble_eq_true rfl) (Nat.le_of_ble_eq_true rfl) dX10_takeFrom_22
