set_option maxHeartbeats 4000000 in
set_option maxRecDepth 100000 in
theorem tX9_hasRoom (l : Launch) (D : va_G) (cs : Nat → ClassId) {kp : Nat → Nat} {L : List Nat} {E : Nat → va_E} (a0 : Nat) (x1 : Int32) (hm0 : a0 ∈ L) (hk0 : kp a0 = 9) (hp1a : 0 ≤ x1.toInt) (hp1b : x1.toInt ≤ 1000) (sz : Nat) : Met l yX9_hasRoom (.code yX9_hasRoom cX9_hasRoom 2 (some .boolean) :: cx_big) { frames := 0, cells := 0, slots := 0, locals := 0 } (tw_P D cs kp L E [.ref a0, .int x1] sz) (tw_Q D cs kp L (fun v kq Lq Eq => (∃ x : Int32, v = some (.int x) ∧ 0 ≤ x.toInt ∧ x.toInt ≤ 1) ∧ kp = kq ∧ L = Lq ∧ E = Eq) (va_A (va_pl L E) sz)) 0 0 (va_A (va_pl L E) sz) := by
  refine tw_ofW (by decide) (Nat.le_of_ble_eq_true rfl) ?_
  intro p e s m below meth c A ls hx hb hr hml hB hown hlocks hK hN hA TH hS hl
  have hown : s.vm.findClass "TreeMerge$Text" = some m.cls := hown
  have hl : lv_has ls 2 [(0, .ref a0), (1, .int x1)] := hl
  obtain ⟨kp0, ekp⟩ : ∃ z, z = kp := ⟨_, rfl⟩
  obtain ⟨L0, eL⟩ : ∃ z, z = L := ⟨_, rfl⟩
  rw [show tw_Q D cs kp L = tw_Q D cs kp0 L0 by rw [ekp, eL]]
  have hex : ∀ a : Nat, a ∈ L0 → a ∈ L ∧ kp a = kp0 a := fun a h => ⟨by rw [← eL]; exact h, by rw [ekp]⟩
  refine lv_aload_n hx hb dX9_hasRoom_0 rfl (lv_at hl 0 rfl) ?_
  refine tw_get (ci := 9) (C := RX9) (T := TX9) (N := 5) hx hb hB cx_inX9 hown hK TH hm0 hk0 rfl ⟨by decide, rfl⟩ 1 (by decide) cw_36 (fun _ h9 => h9) dX9_hasRoom_1 (fun hv => ?_)
  obtain ⟨xi1, hxi1, hxi1a, hxi1b⟩ : ∃ x : Int32, tw_fv E a0 1 = .int x ∧ 0 ≤ x.toInt ∧ x.toInt ≤ 500 := hv
  rw [hxi1]
  refine lv_iload_n hx hb dX9_hasRoom_4 rfl (lv_at hl 1 rfl) ?_
  refine lv_iadd hx hb dX9_hasRoom_5 ?_
  refine lv_topi (fun zi2 ezi2 => ?_)
  have hzi2 : zi2.toInt = xi1.toInt + x1.toInt := by rw [ezi2];  have := ia_lo xi1; have := ia_hi xi1; have := ia_lo x1; have := ia_hi x1; exact (ia_add (by omega) (by omega)).trans (by omega)
  refine lv_sipush (v := 500) hx hb dX9_hasRoom_6 (by decide) ?_
  refine lv_icmp_gt (tgt := 16) hx hb dX9_hasRoom_9 (by decide) (fun hc3 => ?_) (fun hc3 => ?_)
  · have hf4 : 500 < zi2.toInt := by have z := (fa_lt _ _).mp hc3; have : ((500 : Int32).toInt) = 500 := (by decide); omega
    refine lv_iconst (v := 0) hx hb dX9_hasRoom_16 (by decide) ?_
    exact tw_zret hx hb hr hlocks (by decide) TH hS hex ⟨⟨_, rfl, (show 0 ≤ Int32.toInt 0 from by have : ((0 : Int32).toInt) = 0 := (by decide); omega), (show Int32.toInt 0 ≤ 1 from by have : ((0 : Int32).toInt) = 0 := (by decide); omega)⟩, rfl, rfl, rfl⟩ (Nat.le_of_ble_eq_true rfl) (Nat.le_of_ble_eq_true rfl) dX9_hasRoom_17
  · have hf5 : ¬ (500 < zi2.toInt) := fun q => hc3 ((fa_lt _ _).mpr (by have : ((500 : Int32).toInt) = 500 := (by decide); omega))
    refine lv_iconst (v := 1) hx hb dX9_hasRoom_12 (by decide) ?_
    refine lv_goto (tgt := 17) hx hb dX9_hasRoom_13 (by decide) ?_
    exact tw_zret hx hb hr hlocks (by decide) TH hS hex ⟨⟨_, rfl, (show 0 ≤ Int32.toInt 1 from by have : ((1 : Int32).toInt) = 1 := (by decide); omega), (show Int32.toInt 1 ≤ 1 from by have : ((1 : Int32).toInt) = 1 := (by decide); omega)⟩, rfl, rfl, rfl⟩ (Nat.le_of_ble_eq_true rfl) (Nat.le_of_ble_eq_true rfl) dX9_hasRoom_17
set_option maxHeartbeats 4000000 in
set_option maxRecDepth 100000 in
theorem tX9_rewind (l : Launch) (D : va_G) (cs : Nat → ClassId) {kp : Nat → Nat} {L : List Nat} {E : Nat → va_E} (a0 : Nat) (hm0 : a0 ∈ L) (hk0 : kp a0 = 9) (sz : Nat) : Met l yX9_rewind (.code yX9_rewind cX9_rewind 1 none :: cx_big) { frames := 0, cells := 0, slots := 0, locals := 0 } (tw_P D cs kp L E [.ref a0] sz) (tw_Q D cs kp L (fun v kq Lq Eq => v = none ∧ kp = kq ∧ L = Lq ∧ tw_fr kp L [(9, 4)] [] E Eq) (va_A (va_pl L E) sz)) 0 0 (va_A (va_pl L E) sz) := by
  refine tw_ofW (by decide) (Nat.le_of_ble_eq_true rfl) ?_
  intro p e s m below meth c A ls hx hb hr hml hB hown hlocks hK hN hA TH hS hl
  have hown : s.vm.findClass "TreeMerge$Text" = some m.cls := hown
  have hl : lv_has ls 1 [(0, .ref a0)] := hl
  obtain ⟨kp0, ekp⟩ : ∃ z, z = kp := ⟨_, rfl⟩
  obtain ⟨L0, eL⟩ : ∃ z, z = L := ⟨_, rfl⟩
  rw [show tw_Q D cs kp L = tw_Q D cs kp0 L0 by rw [ekp, eL]]
  have hex : ∀ a : Nat, a ∈ L0 → a ∈ L ∧ kp a = kp0 a := fun a h => ⟨by rw [← eL]; exact h, by rw [ekp]⟩
  have hF : tw_fr kp L [(9, 4)] [] E E := tw_fr.rf
  refine lv_aload_n hx hb dX9_rewind_0 rfl (lv_at hl 0 rfl) ?_
  refine lv_iconst (v := 0) hx hb dX9_rewind_1 (by decide) ?_
  refine tw_put (ci := 9) (v := .int 0) (ty := .int) (C := RX9) (T := TX9) (N := 5) hx hb hB cx_inX9 tyX9 tyX9_ok nmX9 hown hK TH hS hm0 hk0 rfl ⟨by decide, rfl⟩ 4 (by decide) cw_46 (fun _ h9 => h9) rfl (by decide +kernel) rfl rfl ⟨_, rfl, (show 0 ≤ Int32.toInt 0 from by have : ((0 : Int32).toInt) = 0 := (by decide); omega), (show Int32.toInt 0 ≤ 500 from by have : ((0 : Int32).toInt) = 0 := (by decide); omega)⟩ dX9_rewind_2 (fun H locs E1 TH hS hmf5 hp2 hp3 => ?_)
  have hst4 : tw_fr kp L [(9, 4)] [] E E1 := tw_fr.put tw_fr.rf (fun _ => hk0) (by decide) hp2 hp3 (by decide)
  have hF := hF.tr hst4 (fun _ h => ⟨h, rfl⟩) (by decide) (by decide)
  exact tw_vret hx hb hr hlocks TH hS hex ⟨rfl, rfl, rfl, hF⟩ (Nat.le_of_ble_eq_true rfl) (Nat.le_of_ble_eq_true rfl) dX9_rewind_5
set_option maxHeartbeats 4000000 in
set_option maxRecDepth 100000 in
theorem tX9_append (l : Launch) (D : va_G) (cs : Nat → ClassId) {kp : Nat → Nat} {L : List Nat} {E : Nat → va_E} (a0 : Nat) (x1 : Int32) (hm0 : a0 ∈ L) (hk0 : kp a0 = 9) (sz : Nat) : Met l yX9_append (.code yX9_append cX9_append 3 none :: cx_big) { frames := 0, cells := 0, slots := 0, locals := 0 } (tw_P D cs kp L E [.ref a0, .int x1] sz) (tw_Q D cs kp L (fun v kq Lq Eq => v = none ∧ kp = kq ∧ L = Lq ∧ tw_fr kp L [(9, 1)] [100] E Eq) (va_A (va_pl L E) sz)) 0 0 (va_A (va_pl L E) sz) := by
  refine tw_ofW (by decide) (Nat.le_of_ble_eq_true rfl) ?_
  intro p e s m below meth c A ls hx hb hr hml hB hown hlocks hK hN hA TH hS hl
  have hown : s.vm.findClass "TreeMerge$Text" = some m.cls := hown
  have hl : lv_has ls 3 [(0, .ref a0), (1, .int x1)] := hl
  obtain ⟨kp0, ekp⟩ : ∃ z, z = kp := ⟨_, rfl⟩
  obtain ⟨L0, eL⟩ : ∃ z, z = L := ⟨_, rfl⟩
  rw [show tw_Q D cs kp L = tw_Q D cs kp0 L0 by rw [ekp, eL]]
  have hex : ∀ a : Nat, a ∈ L0 → a ∈ L ∧ kp a = kp0 a := fun a h => ⟨by rw [← eL]; exact h, by rw [ekp]⟩
  have hF : tw_fr kp L [(9, 1)] [100] E E := tw_fr.rf
  refine lv_bipush (v := 24) hx hb dX9_append_0 (by decide) ?_
  refine lv_istore_n (lv' := [(2, .int 24), (0, .ref a0), (1, .int x1)]) hx hb dX9_append_2 rfl hl (by decide) rfl (fun ls hl => ?_)
  have hJ3 : ∀ (n3 : Nat) (y3_2 : Int32) (Eg3 : Nat → va_E) (H : Heap) (locs : List Loc) (ls : Array Slot), (-8) ≤ y3_2.toInt → y3_2.toInt ≤ 24 → y3_2.toInt + 8 ≤ (n3 : Int) → tw_fr kp L [(9, 1)] [100] E Eg3 → tw_H D cs kp L Eg3 A H → va_S A s.heap H locs → lv_has ls 3 [(2, .int y3_2), (0, .ref a0), (1, .int x1)] → W p l e { frames := 0, cells := 0, slots := 0, locals := 0 } s m [.ref a0, .int x1].toArray below meth c H locs 0 0 (MQ below (tw_Q D cs kp0 L0 (fun v kq Lq Eq => v = none ∧ kp = kq ∧ L = Lq ∧ tw_fr kp L [(9, 1)] [100] E Eq) A) [.ref a0, .int x1].toArray s 0 0 A) (F0 m 3 ls []) := by
    intro n3
    induction n3 using Nat.strongRecOn with
    | _ n3 ih3 =>
      intro y3_2 Eg3 H locs ls hy3_2a hy3_2b hmeas3 hG3 TH hS hl
      have hF := hF.tr hG3 (fun _ h => ⟨h, rfl⟩) (by decide) (by decide)
      refine lv_iload_n hx hb dX9_append_3 rfl (lv_at hl 0 rfl) ?_
      refine lv_if_lt (tgt := 49) hx hb dX9_append_4 (by decide) (fun hc1 => ?_) (fun hc1 => ?_)
      · have hf2 : y3_2.toInt < 0 := by have z := (fa_lt _ _).mp hc1; have : ((0 : Int32).toInt) = 0 := (by decide); omega
        exact tw_vret hx hb hr hlocks TH hS hex ⟨rfl, rfl, rfl, hF⟩ (Nat.le_of_ble_eq_true rfl) (Nat.le_of_ble_eq_true rfl) dX9_append_49
      · have hf3 : ¬ (y3_2.toInt < 0) := fun q => hc1 ((fa_lt _ _).mpr (by have : ((0 : Int32).toInt) = 0 := (by decide); omega))
        refine lv_aload_n hx hb dX9_append_7 rfl (lv_at hl 1 rfl) ?_
        refine tw_get (ci := 9) (C := RX9) (T := TX9) (N := 5) hx hb hB cx_inX9 hown hK TH hm0 hk0 rfl ⟨by decide, rfl⟩ 1 (by decide) cw_36 (fun _ h9 => h9) dX9_append_8 (fun hv => ?_)
        obtain ⟨xi4, hxi4, hxi4a, hxi4b⟩ : ∃ x : Int32, tw_fv Eg3 a0 1 = .int x ∧ 0 ≤ x.toInt ∧ x.toInt ≤ 500 := hv
        rw [hxi4]
        refine lv_sipush (v := 500) hx hb dX9_append_11 (by decide) ?_
        have hJ43 : ∀ (w43_0_1 : Int32) (Eg43 : Nat → va_E) (H : Heap) (locs : List Loc) (ls : Array Slot), 1 ≤ w43_0_1.toInt → w43_0_1.toInt ≤ 500 → tw_fv Eg43 a0 1 = .int w43_0_1 → tw_fr kp L [(9, 1)] [100] Eg3 Eg43 → tw_H D cs kp L Eg43 A H → va_S A s.heap H locs → lv_has ls 3 [(2, .int y3_2), (0, .ref a0), (1, .int x1)] → W p l e { frames := 0, cells := 0, slots := 0, locals := 0 } s m [.ref a0, .int x1].toArray below meth c H locs 0 0 (MQ below (tw_Q D cs kp0 L0 (fun v kq Lq Eq => v = none ∧ kp = kq ∧ L = Lq ∧ tw_fr kp L [(9, 1)] [100] E Eq) A) [.ref a0, .int x1].toArray s 0 0 A) (F0 m 43 ls []) := by
          intro w43_0_1 Eg43 H locs ls hw43_0_1a hw43_0_1b hfm43_0 hG43 TH hS hl
          have hF := hF.tr hG43 (fun _ h => ⟨h, rfl⟩) (by decide) (by decide)
          have hG3 := hG3.tr hG43 (fun _ h => ⟨h, rfl⟩) (by decide) (by decide)
          obtain ⟨zi5, ezi5⟩ : ∃ z : Int32, z = y3_2 + Int32.ofInt (-8) := ⟨_, rfl⟩
          have hzi5 : zi5.toInt = y3_2.toInt + (-8) := by rw [ezi5]; have : ((Int32.ofInt (-8)).toInt) = (-8) := (by decide);  exact (ia_add (by omega) (by omega)).trans (by omega)
          refine lv_iinc (v := zi5) (lv' := [(2, .int zi5), (0, .ref a0), (1, .int x1)]) hx hb dX9_append_43 hl (k := 0) rfl ezi5.symm (by decide) rfl (fun ls hl => ?_)
          refine lv_goto (tgt := 3) hx hb dX9_append_46 (by decide) ?_
          exact ih3 (n3 - 1) (by   omega) zi5 _ _ _ ls (by omega) (by omega) (by   omega) hG3 TH hS (lv_sub hl [0, 1, 2] rfl)
        have hG43 : tw_fr kp L [(9, 1)] [100] Eg3 Eg3 := tw_fr.rf
        refine lv_icmp_ge (tgt := 43) hx hb dX9_append_14 (by decide) (fun hc6 => ?_) (fun hc6 => ?_)
        · have hf7 : 500 ≤ xi4.toInt := by have z := (fa_le _ _).mp hc6; have : ((500 : Int32).toInt) = 500 := (by decide); omega
          exact hJ43 xi4 _ _ _ ls (by omega) (by omega) hxi4 hG43 TH hS (lv_sub hl [0, 1, 2] rfl)
        · have hf8 : ¬ (500 ≤ xi4.toInt) := fun q => hc6 ((fa_le _ _).mpr (by have : ((500 : Int32).toInt) = 500 := (by decide); omega))
          refine lv_aload_n hx hb dX9_append_17 rfl (lv_at hl 1 rfl) ?_
          refine tw_get (ci := 9) (C := RX9) (T := TX9) (N := 5) hx hb hB cx_inX9 hown hK TH hm0 hk0 rfl ⟨by decide, rfl⟩ 0 (by decide) cw_34 (fun _ h9 => h9) dX9_append_18 (fun hv => ?_)
          obtain ⟨xr9, hxr9, hmxr9, hkxr9⟩ : ∃ a : Nat, tw_fv Eg3 a0 0 = .ref a ∧ a ∈ L ∧ kp a = 100 := hv
          rw [hxr9]
          refine lv_aload_n hx hb dX9_append_21 rfl (lv_at hl 1 rfl) ?_
          refine tw_get (ci := 9) (C := RX9) (T := TX9) (N := 5) hx hb hB cx_inX9 hown hK TH hm0 hk0 rfl ⟨by decide, rfl⟩ 1 (by decide) cw_36 (fun _ h9 => h9) dX9_append_22 (fun hv => ?_)
          rw [hxi4]
          refine lv_iload_n hx hb dX9_append_25 rfl (lv_at hl 2 rfl) ?_
          refine lv_iload_n hx hb dX9_append_26 rfl (lv_at hl 0 rfl) ?_
          refine lv_iushr (v := ((x1 : Int32).toUInt32 >>> ((y3_2 : Int32).toUInt32 &&& Int32.toUInt32 31)).toInt32) hx hb dX9_append_27 rfl ?_
          refine lv_topi (fun zi10 ezi10 => ?_)
          refine lv_sipush (v := 255) hx hb dX9_append_28 (by decide) ?_
          refine lv_iand hx hb dX9_append_31 ?_
          refine lv_topi (fun zi11 ezi11 => ?_)
          have hzi11 : 0 ≤ zi11.toInt ∧ zi11.toInt ≤ 255 := by rw [ezi11]; exact ia_and255 _
          refine tw_iast (k := 100) (n := 500) (lo := 0) (hi := 255) hx hb hK TH hS hmxr9 hkxr9 (by decide) rfl (i := xi4) (x := zi11) (vp_in_iff.mpr ⟨by  omega, by  omega⟩) (by omega) (by omega) dX9_append_32 (fun H locs E12 TH hS hp13 hp14 hp15 => ?_)
          have hst16 : tw_fr kp L [] [100] Eg3 E12 := tw_fr.ast tw_fr.rf (fun _ => hkxr9) hp13 hp14 (by decide)
          have hF := hF.tr hst16 (fun _ h => ⟨h, rfl⟩) (by decide) (by decide)
          have hG3 := hG3.tr hst16 (fun _ h => ⟨h, rfl⟩) (by decide) (by decide)
          have hG43 := hG43.tr hst16 (fun _ h => ⟨h, rfl⟩) (by decide) (by decide)
          have hmf17 : tw_fv E12 a0 1 = .int xi4 := (hst16.1 a0 1 hm0 (by rw [hk0]; decide)).trans hxi4
          have hmf18 : tw_fv E12 a0 0 = .ref xr9 := (hst16.1 a0 0 hm0 (by rw [hk0]; decide)).trans hxr9
          refine lv_aload_n hx hb dX9_append_33 rfl (lv_at hl 1 rfl) ?_
          refine lv_dup hx hb dX9_append_34 rfl ?_
          refine tw_get (ci := 9) (C := RX9) (T := TX9) (N := 5) hx hb hB cx_inX9 hown hK TH hm0 hk0 rfl ⟨by decide, rfl⟩ 1 (by decide) cw_36 (fun _ h9 => h9) dX9_append_35 (fun hv => ?_)
          rw [hmf17]
          refine lv_iconst (v := 1) hx hb dX9_append_38 (by decide) ?_
          refine lv_iadd hx hb dX9_append_39 ?_
          refine lv_topi (fun zi19 ezi19 => ?_)
          have hzi19 : zi19.toInt = xi4.toInt + 1 := by rw [ezi19]; have : ((1 : Int32).toInt) = 1 := (by decide); have := ia_lo xi4; have := ia_hi xi4; exact (ia_add (by omega) (by omega)).trans (by omega)
          refine tw_put (ci := 9) (v := .int zi19) (ty := .int) (C := RX9) (T := TX9) (N := 5) hx hb hB cx_inX9 tyX9 tyX9_ok nmX9 hown hK TH hS hm0 hk0 rfl ⟨by decide, rfl⟩ 1 (by decide) cw_36 (fun _ h9 => h9) rfl (by decide +kernel) rfl rfl ⟨_, rfl, (show 0 ≤ Int32.toInt zi19 from by  omega), (show Int32.toInt zi19 ≤ 500 from by  omega)⟩ dX9_append_40 (fun H locs E20 TH hS hmf24 hp21 hp22 => ?_)
          have hst23 : tw_fr kp L [(9, 1)] [] E12 E20 := tw_fr.put tw_fr.rf (fun _ => hk0) (by decide) hp21 hp22 (by decide)
          have hF := hF.tr hst23 (fun _ h => ⟨h, rfl⟩) (by decide) (by decide)
          have hG3 := hG3.tr hst23 (fun _ h => ⟨h, rfl⟩) (by decide) (by decide)
          have hG43 := hG43.tr hst23 (fun _ h => ⟨h, rfl⟩) (by decide) (by decide)
          have hmf25 : tw_fv E20 a0 0 = .ref xr9 := (hst23.1 a0 0 hm0 (by rw [hk0]; decide)).trans hmf18
          exact hJ43 zi19 _ _ _ ls (by omega) (by omega) hmf24 hG43 TH hS (lv_sub hl [0, 1, 2] rfl)
  exact hJ3 32 (24 : Int32) _ _ _ ls (by have : ((24 : Int32).toInt) = 24 := (by decide); omega) (by have : ((24 : Int32).toInt) = 24 := (by decide); omega) (by have : ((24 : Int32).toInt) = 24 := (by decide);  omega) tw_fr.rf TH hS (lv_sub hl [0, 1, 2] rfl)
set_option maxHeartbeats 4000000 in
set_option maxRecDepth 100000 in
theorem tX11_isLetter (l : Launch) (D : va_G) (cs : Nat → ClassId) {kp : Nat → Nat} {L : List Nat} {E : Nat → va_E} (x0 : Int32)  (sz : Nat) : Met l yX11_isLetter (.code yX11_isLetter cX11_isLetter 1 (some .boolean) :: cx_big) { frames := 0, cells := 0, slots := 0, locals := 0 } (tw_P D cs kp L E [.int x0] sz) (tw_Q D cs kp L (fun v kq Lq Eq => (∃ x : Int32, v = some (.int x) ∧ 0 ≤ x.toInt ∧ x.toInt ≤ 1) ∧ kp = kq ∧ L = Lq ∧ E = Eq) (va_A (va_pl L E) sz)) 0 0 (va_A (va_pl L E) sz) := by
  refine tw_ofW (by decide) (Nat.le_of_ble_eq_true rfl) ?_
  intro p e s m below meth c A ls hx hb hr hml hB hown hlocks hK hN hA TH hS hl
  have hown : s.vm.findClass "TreeMerge" = some m.cls := hown
  have hl : lv_has ls 1 [(0, .int x0)] := hl
  obtain ⟨kp0, ekp⟩ : ∃ z, z = kp := ⟨_, rfl⟩
  obtain ⟨L0, eL⟩ : ∃ z, z = L := ⟨_, rfl⟩
  rw [show tw_Q D cs kp L = tw_Q D cs kp0 L0 by rw [ekp, eL]]
  have hex : ∀ a : Nat, a ∈ L0 → a ∈ L ∧ kp a = kp0 a := fun a h => ⟨by rw [← eL]; exact h, by rw [ekp]⟩
  refine lv_iload_n hx hb dX11_isLetter_0 rfl (lv_at hl 0 rfl) ?_
  refine lv_bipush (v := 97) hx hb dX11_isLetter_1 (by decide) ?_
  refine lv_icmp_lt (tgt := 16) hx hb dX11_isLetter_3 (by decide) (fun hc1 => ?_) (fun hc1 => ?_)
  · have hf2 : x0.toInt < 97 := by have z := (fa_lt _ _).mp hc1; have : ((97 : Int32).toInt) = 97 := (by decide); omega
    refine lv_iconst (v := 0) hx hb dX11_isLetter_16 (by decide) ?_
    exact tw_zret hx hb hr hlocks (by decide) TH hS hex ⟨⟨_, rfl, (show 0 ≤ Int32.toInt 0 from by have : ((0 : Int32).toInt) = 0 := (by decide); omega), (show Int32.toInt 0 ≤ 1 from by have : ((0 : Int32).toInt) = 0 := (by decide); omega)⟩, rfl, rfl, rfl⟩ (Nat.le_of_ble_eq_true rfl) (Nat.le_of_ble_eq_true rfl) dX11_isLetter_17
  · have hf3 : ¬ (x0.toInt < 97) := fun q => hc1 ((fa_lt _ _).mpr (by have : ((97 : Int32).toInt) = 97 := (by decide); omega))
    refine lv_iload_n hx hb dX11_isLetter_6 rfl (lv_at hl 0 rfl) ?_
    refine lv_bipush (v := 122) hx hb dX11_isLetter_7 (by decide) ?_
    refine lv_icmp_gt (tgt := 16) hx hb dX11_isLetter_9 (by decide) (fun hc4 => ?_) (fun hc4 => ?_)
    · have hf5 : 122 < x0.toInt := by have z := (fa_lt _ _).mp hc4; have : ((122 : Int32).toInt) = 122 := (by decide); omega
      refine lv_iconst (v := 0) hx hb dX11_isLetter_16 (by decide) ?_
      exact tw_zret hx hb hr hlocks (by decide) TH hS hex ⟨⟨_, rfl, (show 0 ≤ Int32.toInt 0 from by have : ((0 : Int32).toInt) = 0 := (by decide); omega), (show Int32.toInt 0 ≤ 1 from by have : ((0 : Int32).toInt) = 0 := (by decide); omega)⟩, rfl, rfl, rfl⟩ (Nat.le_of_ble_eq_true rfl) (Nat.le_of_ble_eq_true rfl) dX11_isLetter_17
    · have hf6 : ¬ (122 < x0.toInt) := fun q => hc4 ((fa_lt _ _).mpr (by have : ((122 : Int32).toInt) = 122 := (by decide); omega))
      refine lv_iconst (v := 1) hx hb dX11_isLetter_12 (by decide) ?_
      refine lv_goto (tgt := 17) hx hb dX11_isLetter_13 (by decide) ?_
      exact tw_zret hx hb hr hlocks (by decide) TH hS hex ⟨⟨_, rfl, (show 0 ≤ Int32.toInt 1 from by have : ((1 : Int32).toInt) = 1 := (by decide); omega), (show Int32.toInt 1 ≤ 1 from by have : ((1 : Int32).toInt) = 1 := (by decide); omega)⟩, rfl, rfl, rfl⟩ (Nat.le_of_ble_eq_true rfl) (Nat.le_of_ble_eq_true rfl) dX11_isLetter_17
set_option maxHeartbeats 4000000 in
set_option maxRecDepth 100000 in
theorem tX11_isWordByte (l : Launch) (D : va_G) (cs : Nat → ClassId) {kp : Nat → Nat} {L : List Nat} {E : Nat → va_E} (x0 : Int32)  (sz : Nat) : Met l yX11_isWordByte (.code yX11_isWordByte cX11_isWordByte 1 (some .boolean) :: cx_big) { frames := 1, cells := 0, slots := 0, locals := 20 } (tw_P D cs kp L E [.int x0] sz) (tw_Q D cs kp L (fun v kq Lq Eq => (∃ x : Int32, v = some (.int x) ∧ 0 ≤ x.toInt ∧ x.toInt ≤ 1) ∧ kp = kq ∧ L = Lq ∧ E = Eq) (va_A (va_pl L E) sz)) 0 0 (va_A (va_pl L E) sz) := by
  refine tw_ofW (by decide) (Nat.le_of_ble_eq_true rfl) ?_
  intro p e s m below meth c A ls hx hb hr hml hB hown hlocks hK hN hA TH hS hl
  have hown : s.vm.findClass "TreeMerge" = some m.cls := hown
  have hl : lv_has ls 1 [(0, .int x0)] := hl
  obtain ⟨kp0, ekp⟩ : ∃ z, z = kp := ⟨_, rfl⟩
  obtain ⟨L0, eL⟩ : ∃ z, z = L := ⟨_, rfl⟩
  rw [show tw_Q D cs kp L = tw_Q D cs kp0 L0 by rw [ekp, eL]]
  have hex : ∀ a : Nat, a ∈ L0 → a ∈ L ∧ kp a = kp0 a := fun a h => ⟨by rw [← eL]; exact h, by rw [ekp]⟩
  refine lv_iload_n hx hb dX11_isWordByte_0 rfl (lv_at hl 0 rfl) ?_
  refine tw_Sc (n := 1) (post := (fun v kq Lq Eq => (∃ x : Int32, v = some (.int x) ∧ 0 ≤ x.toInt ∧ x.toInt ≤ 1) ∧ kp = kq ∧ L = Lq ∧ E = Eq)) (As := [.int x0]) (rest := []) ⟨hx, hb, hml, hown, hB⟩ (fun sz => tX11_isLetter l D cs x0  sz) cg_11_367_X11_isLetter rfl rfl (by decide +kernel) ⟨Nat.le_of_ble_eq_true rfl, Nat.le_of_ble_eq_true rfl⟩ hK hN TH hS hA rfl hl.1 rfl (Nat.le_of_ble_eq_true rfl) dX11_isWordByte_1 ⟨Nat.le_of_ble_eq_true rfl, Nat.le_of_ble_eq_true rfl⟩ (fun v1 kp1 L1 E1 H locs hq1 hx1 TH hS => ?_)
  obtain ⟨⟨xc2, rfl, hxc2a, hxc2b⟩, rfl, rfl, rfl⟩ := hq1
  refine W.eq (g2 := F0 m 4 ls [.int xc2]) rfl ?_
  refine lv_if_ne (tgt := 19) hx hb dX11_isWordByte_4 (by decide) (fun hc3 => ?_) (fun hc3 => ?_)
  · have hf4 : ¬ (xc2.toInt = 0) := fun q => hc3 ((fa_eq _ _).mpr (by have : ((0 : Int32).toInt) = 0 := (by decide); omega))
    refine lv_iconst (v := 1) hx hb dX11_isWordByte_19 (by decide) ?_
    refine lv_goto (tgt := 24) hx hb dX11_isWordByte_20 (by decide) ?_
    exact tw_zret hx hb hr hlocks (by decide) TH hS hex ⟨⟨_, rfl, (show 0 ≤ Int32.toInt 1 from by have : ((1 : Int32).toInt) = 1 := (by decide); omega), (show Int32.toInt 1 ≤ 1 from by have : ((1 : Int32).toInt) = 1 := (by decide); omega)⟩, rfl, rfl, rfl⟩ (Nat.le_of_ble_eq_true rfl) (Nat.le_of_ble_eq_true rfl) dX11_isWordByte_24
  · have hf5 : xc2.toInt = 0 := by have z := (fa_eq _ _).mp hc3; have : ((0 : Int32).toInt) = 0 := (by decide); omega
    refine lv_iload_n hx hb dX11_isWordByte_7 rfl (lv_at hl 0 rfl) ?_
    refine lv_bipush (v := 48) hx hb dX11_isWordByte_8 (by decide) ?_
    refine lv_icmp_lt (tgt := 23) hx hb dX11_isWordByte_10 (by decide) (fun hc6 => ?_) (fun hc6 => ?_)
    · have hf7 : x0.toInt < 48 := by have z := (fa_lt _ _).mp hc6; have : ((48 : Int32).toInt) = 48 := (by decide); omega
      refine lv_iconst (v := 0) hx hb dX11_isWordByte_23 (by decide) ?_
      exact tw_zret hx hb hr hlocks (by decide) TH hS hex ⟨⟨_, rfl, (show 0 ≤ Int32.toInt 0 from by have : ((0 : Int32).toInt) = 0 := (by decide); omega), (show Int32.toInt 0 ≤ 1 from by have : ((0 : Int32).toInt) = 0 := (by decide); omega)⟩, rfl, rfl, rfl⟩ (Nat.le_of_ble_eq_true rfl) (Nat.le_of_ble_eq_true rfl) dX11_isWordByte_24
    · have hf8 : ¬ (x0.toInt < 48) := fun q => hc6 ((fa_lt _ _).mpr (by have : ((48 : Int32).toInt) = 48 := (by decide); omega))
      refine lv_iload_n hx hb dX11_isWordByte_13 rfl (lv_at hl 0 rfl) ?_
      refine lv_bipush (v := 57) hx hb dX11_isWordByte_14 (by decide) ?_
      refine lv_icmp_gt (tgt := 23) hx hb dX11_isWordByte_16 (by decide) (fun hc9 => ?_) (fun hc9 => ?_)
      · have hf10 : 57 < x0.toInt := by have z := (fa_lt _ _).mp hc9; have : ((57 : Int32).toInt) = 57 := (by decide); omega
        refine lv_iconst (v := 0) hx hb dX11_isWordByte_23 (by decide) ?_
        exact tw_zret hx hb hr hlocks (by decide) TH hS hex ⟨⟨_, rfl, (show 0 ≤ Int32.toInt 0 from by have : ((0 : Int32).toInt) = 0 := (by decide); omega), (show Int32.toInt 0 ≤ 1 from by have : ((0 : Int32).toInt) = 0 := (by decide); omega)⟩, rfl, rfl, rfl⟩ (Nat.le_of_ble_eq_true rfl) (Nat.le_of_ble_eq_true rfl) dX11_isWordByte_24
      · have hf11 : ¬ (57 < x0.toInt) := fun q => hc9 ((fa_lt _ _).mpr (by have : ((57 : Int32).toInt) = 57 := (by decide); omega))
        refine lv_iconst (v := 1) hx hb dX11_isWordByte_19 (by decide) ?_
        refine lv_goto (tgt := 24) hx hb dX11_isWordByte_20 (by decide) ?_
        exact tw_zret hx hb hr hlocks (by decide) TH hS hex ⟨⟨_, rfl, (show 0 ≤ Int32.toInt 1 from by have : ((1 : Int32).toInt) = 1 := (by decide); omega), (show Int32.toInt 1 ≤ 1 from by have : ((1 : Int32).toInt) = 1 := (by decide); omega)⟩, rfl, rfl, rfl⟩ (Nat.le_of_ble_eq_true rfl) (Nat.le_of_ble_eq_true rfl) dX11_isWordByte_24
set_option maxHeartbeats 4000000 in
set_option maxRecDepth 100000 in
theorem tX9_isSign (l : Launch) (D : va_G) (cs : Nat → ClassId) {kp : Nat → Nat} {L : List Nat} {E : Nat → va_E} (x0 : Int32)  (sz : Nat) : Met l yX9_isSign (.code yX9_isSign cX9_isSign 1 (some .boolean) :: cx_big) { frames := 0, cells := 0, slots := 0, locals := 0 } (tw_P D cs kp L E [.int x0] sz) (tw_Q D cs kp L (fun v kq Lq Eq => (∃ x : Int32, v = some (.int x) ∧ 0 ≤ x.toInt ∧ x.toInt ≤ 1) ∧ kp = kq ∧ L = Lq ∧ E = Eq) (va_A (va_pl L E) sz)) 0 0 (va_A (va_pl L E) sz) := by
  refine tw_ofW (by decide) (Nat.le_of_ble_eq_true rfl) ?_
  intro p e s m below meth c A ls hx hb hr hml hB hown hlocks hK hN hA TH hS hl
  have hown : s.vm.findClass "TreeMerge$Text" = some m.cls := hown
  have hl : lv_has ls 1 [(0, .int x0)] := hl
  obtain ⟨kp0, ekp⟩ : ∃ z, z = kp := ⟨_, rfl⟩
  obtain ⟨L0, eL⟩ : ∃ z, z = L := ⟨_, rfl⟩
  rw [show tw_Q D cs kp L = tw_Q D cs kp0 L0 by rw [ekp, eL]]
  have hex : ∀ a : Nat, a ∈ L0 → a ∈ L ∧ kp a = kp0 a := fun a h => ⟨by rw [← eL]; exact h, by rw [ekp]⟩
  refine lv_iload_n hx hb dX9_isSign_0 rfl (lv_at hl 0 rfl) ?_
  refine lv_bipush (v := 61) hx hb dX9_isSign_1 (by decide) ?_
  refine lv_icmp_eq (tgt := 36) hx hb dX9_isSign_3 (by decide) (fun hc1 => ?_) (fun hc1 => ?_)
  · have hf2 : x0.toInt = 61 := by have z := (fa_eq _ _).mp hc1; have : ((61 : Int32).toInt) = 61 := (by decide); omega
    refine lv_iconst (v := 1) hx hb dX9_isSign_36 (by decide) ?_
    refine lv_goto (tgt := 41) hx hb dX9_isSign_37 (by decide) ?_
    exact tw_zret hx hb hr hlocks (by decide) TH hS hex ⟨⟨_, rfl, (show 0 ≤ Int32.toInt 1 from by have : ((1 : Int32).toInt) = 1 := (by decide); omega), (show Int32.toInt 1 ≤ 1 from by have : ((1 : Int32).toInt) = 1 := (by decide); omega)⟩, rfl, rfl, rfl⟩ (Nat.le_of_ble_eq_true rfl) (Nat.le_of_ble_eq_true rfl) dX9_isSign_41
  · have hf3 : ¬ (x0.toInt = 61) := fun q => hc1 ((fa_eq _ _).mpr (by have : ((61 : Int32).toInt) = 61 := (by decide); omega))
    refine lv_iload_n hx hb dX9_isSign_6 rfl (lv_at hl 0 rfl) ?_
    refine lv_bipush (v := 59) hx hb dX9_isSign_7 (by decide) ?_
    refine lv_icmp_eq (tgt := 36) hx hb dX9_isSign_9 (by decide) (fun hc4 => ?_) (fun hc4 => ?_)
    · have hf5 : x0.toInt = 59 := by have z := (fa_eq _ _).mp hc4; have : ((59 : Int32).toInt) = 59 := (by decide); omega
      refine lv_iconst (v := 1) hx hb dX9_isSign_36 (by decide) ?_
      refine lv_goto (tgt := 41) hx hb dX9_isSign_37 (by decide) ?_
      exact tw_zret hx hb hr hlocks (by decide) TH hS hex ⟨⟨_, rfl, (show 0 ≤ Int32.toInt 1 from by have : ((1 : Int32).toInt) = 1 := (by decide); omega), (show Int32.toInt 1 ≤ 1 from by have : ((1 : Int32).toInt) = 1 := (by decide); omega)⟩, rfl, rfl, rfl⟩ (Nat.le_of_ble_eq_true rfl) (Nat.le_of_ble_eq_true rfl) dX9_isSign_41
    · have hf6 : ¬ (x0.toInt = 59) := fun q => hc4 ((fa_eq _ _).mpr (by have : ((59 : Int32).toInt) = 59 := (by decide); omega))
      refine lv_iload_n hx hb dX9_isSign_12 rfl (lv_at hl 0 rfl) ?_
      refine lv_bipush (v := 42) hx hb dX9_isSign_13 (by decide) ?_
      refine lv_icmp_eq (tgt := 36) hx hb dX9_isSign_15 (by decide) (fun hc7 => ?_) (fun hc7 => ?_)
      · have hf8 : x0.toInt = 42 := by have z := (fa_eq _ _).mp hc7; have : ((42 : Int32).toInt) = 42 := (by decide); omega
        refine lv_iconst (v := 1) hx hb dX9_isSign_36 (by decide) ?_
        refine lv_goto (tgt := 41) hx hb dX9_isSign_37 (by decide) ?_
        exact tw_zret hx hb hr hlocks (by decide) TH hS hex ⟨⟨_, rfl, (show 0 ≤ Int32.toInt 1 from by have : ((1 : Int32).toInt) = 1 := (by decide); omega), (show Int32.toInt 1 ≤ 1 from by have : ((1 : Int32).toInt) = 1 := (by decide); omega)⟩, rfl, rfl, rfl⟩ (Nat.le_of_ble_eq_true rfl) (Nat.le_of_ble_eq_true rfl) dX9_isSign_41
      · have hf9 : ¬ (x0.toInt = 42) := fun q => hc7 ((fa_eq _ _).mpr (by have : ((42 : Int32).toInt) = 42 := (by decide); omega))
        refine lv_iload_n hx hb dX9_isSign_18 rfl (lv_at hl 0 rfl) ?_
        refine lv_bipush (v := 63) hx hb dX9_isSign_19 (by decide) ?_
        refine lv_icmp_eq (tgt := 36) hx hb dX9_isSign_21 (by decide) (fun hc10 => ?_) (fun hc10 => ?_)
        · have hf11 : x0.toInt = 63 := by have z := (fa_eq _ _).mp hc10; have : ((63 : Int32).toInt) = 63 := (by decide); omega
          refine lv_iconst (v := 1) hx hb dX9_isSign_36 (by decide) ?_
          refine lv_goto (tgt := 41) hx hb dX9_isSign_37 (by decide) ?_
          exact tw_zret hx hb hr hlocks (by decide) TH hS hex ⟨⟨_, rfl, (show 0 ≤ Int32.toInt 1 from by have : ((1 : Int32).toInt) = 1 := (by decide); omega), (show Int32.toInt 1 ≤ 1 from by have : ((1 : Int32).toInt) = 1 := (by decide); omega)⟩, rfl, rfl, rfl⟩ (Nat.le_of_ble_eq_true rfl) (Nat.le_of_ble_eq_true rfl) dX9_isSign_41
        · have hf12 : ¬ (x0.toInt = 63) := fun q => hc10 ((fa_eq _ _).mpr (by have : ((63 : Int32).toInt) = 63 := (by decide); omega))
          refine lv_iload_n hx hb dX9_isSign_24 rfl (lv_at hl 0 rfl) ?_
          refine lv_bipush (v := 40) hx hb dX9_isSign_25 (by decide) ?_
          refine lv_icmp_eq (tgt := 36) hx hb dX9_isSign_27 (by decide) (fun hc13 => ?_) (fun hc13 => ?_)
          · have hf14 : x0.toInt = 40 := by have z := (fa_eq _ _).mp hc13; have : ((40 : Int32).toInt) = 40 := (by decide); omega
            refine lv_iconst (v := 1) hx hb dX9_isSign_36 (by decide) ?_
            refine lv_goto (tgt := 41) hx hb dX9_isSign_37 (by decide) ?_
            exact tw_zret hx hb hr hlocks (by decide) TH hS hex ⟨⟨_, rfl, (show 0 ≤ Int32.toInt 1 from by have : ((1 : Int32).toInt) = 1 := (by decide); omega), (show Int32.toInt 1 ≤ 1 from by have : ((1 : Int32).toInt) = 1 := (by decide); omega)⟩, rfl, rfl, rfl⟩ (Nat.le_of_ble_eq_true rfl) (Nat.le_of_ble_eq_true rfl) dX9_isSign_41
          · have hf15 : ¬ (x0.toInt = 40) := fun q => hc13 ((fa_eq _ _).mpr (by have : ((40 : Int32).toInt) = 40 := (by decide); omega))
            refine lv_iload_n hx hb dX9_isSign_30 rfl (lv_at hl 0 rfl) ?_
            refine lv_bipush (v := 41) hx hb dX9_isSign_31 (by decide) ?_
            refine lv_icmp_ne (tgt := 40) hx hb dX9_isSign_33 (by decide) (fun hc16 => ?_) (fun hc16 => ?_)
            · have hf17 : ¬ (x0.toInt = 41) := fun q => hc16 ((fa_eq _ _).mpr (by have : ((41 : Int32).toInt) = 41 := (by decide); omega))
              refine lv_iconst (v := 0) hx hb dX9_isSign_40 (by decide) ?_
              exact tw_zret hx hb hr hlocks (by decide) TH hS hex ⟨⟨_, rfl, (show 0 ≤ Int32.toInt 0 from by have : ((0 : Int32).toInt) = 0 := (by decide); omega), (show Int32.toInt 0 ≤ 1 from by have : ((0 : Int32).toInt) = 0 := (by decide); omega)⟩, rfl, rfl, rfl⟩ (Nat.le_of_ble_eq_true rfl) (Nat.le_of_ble_eq_true rfl) dX9_isSign_41
            · have hf18 : x0.toInt = 41 := by have z := (fa_eq _ _).mp hc16; have : ((41 : Int32).toInt) = 41 := (by decide); omega
              refine lv_iconst (v := 1) hx hb dX9_isSign_36 (by decide) ?_
              refine lv_goto (tgt := 41) hx hb dX9_isSign_37 (by decide) ?_
              exact tw_zret hx hb hr hlocks (by decide) TH hS hex ⟨⟨_, rfl, (show 0 ≤ Int32.toInt 1 from by have : ((1 : Int32).toInt) = 1 := (by decide); omega), (show Int32.toInt 1 ≤ 1 from by have : ((1 : Int32).toInt) = 1 := (by decide); omega)⟩, rfl, rfl, rfl⟩ (Nat.le_of_ble_eq_true rfl) (Nat.le_of_ble_eq_true rfl) dX9_isSign_41
set_option maxHeartbeats 4000000 in
set_option maxRecDepth 100000 in
theorem tX9_cutWord (l : Launch) (D : va_G) (cs : Nat → ClassId) {kp : Nat → Nat} {L : List Nat} {E : Nat → va_E} (a0 : Nat) (hm0 : a0 ∈ L) (hk0 : kp a0 = 9) (hfp0 : ∃ z : Int32, tw_fv E a0 3 = .int z ∧ 0 ≤ z.toInt ∧ z.toInt ≤ 499) (sz : Nat) : Met l yX9_cutWord (.code yX9_cutWord cX9_cutWord 1 none :: cx_big) { frames := 2, cells := 0, slots := 0, locals := 40 } (tw_P D cs kp L E [.ref a0] sz) (tw_Q D cs kp L (fun v kq Lq Eq => v = none ∧ kp = kq ∧ L = Lq ∧ tw_fr kp L [(9, 2), (9, 4)] [] E Eq ∧ (∃ z0 z1 : Int32, tw_fv Eq a0 3 = .int z0 ∧ tw_fv Eq a0 4 = .int z1 ∧ (z0.toInt ≤ z1.toInt))) (va_A (va_pl L E) sz)) 0 0 (va_A (va_pl L E) sz) := by
  obtain ⟨fz0, hfz0, hfz0a, hfz0b⟩ := hfp0
  refine tw_ofW (by decide) (Nat.le_of_ble_eq_true rfl) ?_
  intro p e s m below meth c A ls hx hb hr hml hB hown hlocks hK hN hA TH hS hl
  have hown : s.vm.findClass "TreeMerge$Text" = some m.cls := hown
  have hl : lv_has ls 1 [(0, .ref a0)] := hl
  obtain ⟨kp0, ekp⟩ : ∃ z, z = kp := ⟨_, rfl⟩
  obtain ⟨L0, eL⟩ : ∃ z, z = L := ⟨_, rfl⟩
  rw [show tw_Q D cs kp L = tw_Q D cs kp0 L0 by rw [ekp, eL]]
  have hex : ∀ a : Nat, a ∈ L0 → a ∈ L ∧ kp a = kp0 a := fun a h => ⟨by rw [← eL]; exact h, by rw [ekp]⟩
  have hF : tw_fr kp L [(9, 2), (9, 4)] [] E E := tw_fr.rf
  refine lv_aload_n hx hb dX9_cutWord_0 rfl (lv_at hl 0 rfl) ?_
  refine lv_aload_n hx hb dX9_cutWord_1 rfl (lv_at hl 0 rfl) ?_
  refine tw_get (ci := 9) (C := RX9) (T := TX9) (N := 5) hx hb hB cx_inX9 hown hK TH hm0 hk0 rfl ⟨by decide, rfl⟩ 3 (by decide) cw_43 (fun _ h9 => h9) dX9_cutWord_2 (fun hv => ?_)
  rw [hfz0]
  refine lv_iconst (v := 1) hx hb dX9_cutWord_5 (by decide) ?_
  refine lv_iadd hx hb dX9_cutWord_6 ?_
  refine lv_topi (fun zi1 ezi1 => ?_)
  have hzi1 : zi1.toInt = fz0.toInt + 1 := by rw [ezi1]; have : ((1 : Int32).toInt) = 1 := (by decide); have := ia_lo fz0; have := ia_hi fz0; exact (ia_add (by omega) (by omega)).trans (by omega)
  refine tw_put (ci := 9) (v := .int zi1) (ty := .int) (C := RX9) (T := TX9) (N := 5) hx hb hB cx_inX9 tyX9 tyX9_ok nmX9 hown hK TH hS hm0 hk0 rfl ⟨by decide, rfl⟩ 4 (by decide) cw_46 (fun _ h9 => h9) rfl (by decide +kernel) rfl rfl ⟨_, rfl, (show 0 ≤ Int32.toInt zi1 from by  omega), (show Int32.toInt zi1 ≤ 500 from by  omega)⟩ dX9_cutWord_7 (fun H locs E2 TH hS hmf6 hp3 hp4 => ?_)
  have hst5 : tw_fr kp L [(9, 4)] [] E E2 := tw_fr.put tw_fr.rf (fun _ => hk0) (by decide) hp3 hp4 (by decide)
  have hF := hF.tr hst5 (fun _ h => ⟨h, rfl⟩) (by decide) (by decide)
  have hmf7 : tw_fv E2 a0 3 = .int fz0 := (hst5.1 a0 3 hm0 (by rw [hk0]; decide)).trans hfz0
  have hJ10 : ∀ (n10 : Nat) (w10_0_4 : Int32) (Eg10 : Nat → va_E) (H : Heap) (locs : List Loc) (ls : Array Slot), 1 ≤ w10_0_4.toInt → w10_0_4.toInt ≤ 500 → (fz0.toInt + 1 ≤ w10_0_4.toInt) → 500 - w10_0_4.toInt ≤ (n10 : Int) → tw_fv Eg10 a0 4 = .int w10_0_4 → tw_fr kp L [(9, 4)] [] E2 Eg10 → tw_H D cs kp L Eg10 A H → va_S A s.heap H locs → lv_has ls 1 [(0, .ref a0)] → W p l e { frames := 2, cells := 0, slots := 0, locals := 40 } s m [.ref a0].toArray below meth c H locs 0 0 (MQ below (tw_Q D cs kp0 L0 (fun v kq Lq Eq => v = none ∧ kp = kq ∧ L = Lq ∧ tw_fr kp L [(9, 2), (9, 4)] [] E Eq ∧ (∃ z0 z1 : Int32, tw_fv Eq a0 3 = .int z0 ∧ tw_fv Eq a0 4 = .int z1 ∧ (z0.toInt ≤ z1.toInt))) A) [.ref a0].toArray s 0 0 A) (F0 m 10 ls []) := by
    intro n10
    induction n10 using Nat.strongRecOn with
    | _ n10 ih10 =>
      intro w10_0_4 Eg10 H locs ls hw10_0_4a hw10_0_4b hin10_0 hmeas10 hfm10_0 hG10 TH hS hl
      have hF := hF.tr hG10 (fun _ h => ⟨h, rfl⟩) (by decide) (by decide)
      have hmf8 : tw_fv Eg10 a0 3 = .int fz0 := (hG10.1 a0 3 hm0 (by rw [hk0]; decide)).trans hmf7
      refine lv_aload_n hx hb dX9_cutWord_10 rfl (lv_at hl 0 rfl) ?_
      refine tw_get (ci := 9) (C := RX9) (T := TX9) (N := 5) hx hb hB cx_inX9 hown hK TH hm0 hk0 rfl ⟨by decide, rfl⟩ 4 (by decide) cw_46 (fun _ h9 => h9) dX9_cutWord_11 (fun hv => ?_)
      rw [hfm10_0]
      refine lv_aload_n hx hb dX9_cutWord_14 rfl (lv_at hl 0 rfl) ?_
      refine tw_get (ci := 9) (C := RX9) (T := TX9) (N := 5) hx hb hB cx_inX9 hown hK TH hm0 hk0 rfl ⟨by decide, rfl⟩ 1 (by decide) cw_36 (fun _ h9 => h9) dX9_cutWord_15 (fun hv => ?_)
      obtain ⟨xi9, hxi9, hxi9a, hxi9b⟩ : ∃ x : Int32, tw_fv Eg10 a0 1 = .int x ∧ 0 ≤ x.toInt ∧ x.toInt ≤ 500 := hv
      rw [hxi9]
      have hJ63 : ∀  (H : Heap) (locs : List Loc) (ls : Array Slot), tw_H D cs kp L Eg10 A H → va_S A s.heap H locs → lv_has ls 1 [(0, .ref a0)] → W p l e { frames := 2, cells := 0, slots := 0, locals := 40 } s m [.ref a0].toArray below meth c H locs 0 0 (MQ below (tw_Q D cs kp0 L0 (fun v kq Lq Eq => v = none ∧ kp = kq ∧ L = Lq ∧ tw_fr kp L [(9, 2), (9, 4)] [] E Eq ∧ (∃ z0 z1 : Int32, tw_fv Eq a0 3 = .int z0 ∧ tw_fv Eq a0 4 = .int z1 ∧ (z0.toInt ≤ z1.toInt))) A) [.ref a0].toArray s 0 0 A) (F0 m 63 ls []) := by
        intro H locs ls TH hS hl
        refine lv_aload_n hx hb dX9_cutWord_63 rfl (lv_at hl 0 rfl) ?_
        refine tw_get (ci := 9) (C := RX9) (T := TX9) (N := 5) hx hb hB cx_inX9 hown hK TH hm0 hk0 rfl ⟨by decide, rfl⟩ 4 (by decide) cw_46 (fun _ h9 => h9) dX9_cutWord_64 (fun hv => ?_)
        rw [hfm10_0]
        refine lv_aload_n hx hb dX9_cutWord_67 rfl (lv_at hl 0 rfl) ?_
        refine tw_get (ci := 9) (C := RX9) (T := TX9) (N := 5) hx hb hB cx_inX9 hown hK TH hm0 hk0 rfl ⟨by decide, rfl⟩ 1 (by decide) cw_36 (fun _ h9 => h9) dX9_cutWord_68 (fun hv => ?_)
        rw [hxi9]
        refine lv_icmp_lt (tgt := 82) hx hb dX9_cutWord_71 (by decide) (fun hc10 => ?_) (fun hc10 => ?_)
        · have hf11 : w10_0_4.toInt < xi9.toInt := by have z := (fa_lt _ _).mp hc10;  omega
          refine lv_aload_n hx hb dX9_cutWord_82 rfl (lv_at hl 0 rfl) ?_
          refine tw_get (ci := 9) (C := RX9) (T := TX9) (N := 5) hx hb hB cx_inX9 hown hK TH hm0 hk0 rfl ⟨by decide, rfl⟩ 0 (by decide) cw_34 (fun _ h9 => h9) dX9_cutWord_83 (fun hv => ?_)
          obtain ⟨xr12, hxr12, hmxr12, hkxr12⟩ : ∃ a : Nat, tw_fv Eg10 a0 0 = .ref a ∧ a ∈ L ∧ kp a = 100 := hv
          rw [hxr12]
          refine lv_aload_n hx hb dX9_cutWord_86 rfl (lv_at hl 0 rfl) ?_
          refine tw_get (ci := 9) (C := RX9) (T := TX9) (N := 5) hx hb hB cx_inX9 hown hK TH hm0 hk0 rfl ⟨by decide, rfl⟩ 4 (by decide) cw_46 (fun _ h9 => h9) dX9_cutWord_87 (fun hv => ?_)
          rw [hfm10_0]
          refine tw_iald (k := 100) (t0 := 0) (n := 500) (lo := 0) (hi := 255) hx hb hK TH hmxr12 hkxr12 (by decide) rfl rfl (i := w10_0_4) (vp_in_iff.mpr ⟨by  omega, by  omega⟩) dX9_cutWord_90 (fun hxe13a hxe13b => ?_)
          obtain ⟨xe13, exe13⟩ : ∃ z : Int32, tw_iv Eg10 xr12 (Int32.toNatClampNeg w10_0_4) = z := ⟨_, rfl⟩
          rw [exe13] at hxe13a hxe13b ⊢
          refine lv_bipush (v := 125) hx hb dX9_cutWord_91 (by decide) ?_
          refine lv_icmp_ne (tgt := 127) hx hb dX9_cutWord_93 (by decide) (fun hc14 => ?_) (fun hc14 => ?_)
          · have hf15 : ¬ (xe13.toInt = 125) := fun q => hc14 ((fa_eq _ _).mpr (by have : ((125 : Int32).toInt) = 125 := (by decide); omega))
            refine lv_aload_n hx hb dX9_cutWord_127 rfl (lv_at hl 0 rfl) ?_
            refine lv_bipush (v := 6) hx hb dX9_cutWord_128 (by decide) ?_
            refine tw_put (ci := 9) (v := .int 6) (ty := .int) (C := RX9) (T := TX9) (N := 5) hx hb hB cx_inX9 tyX9 tyX9_ok nmX9 hown hK TH hS hm0 hk0 rfl ⟨by decide, rfl⟩ 2 (by decide) cw_41 (fun _ h9 => h9) rfl (by decide +kernel) rfl rfl ⟨_, rfl, (show 0 ≤ Int32.toInt 6 from by have : ((6 : Int32).toInt) = 6 := (by decide); omega), (show Int32.toInt 6 ≤ 255 from by have : ((6 : Int32).toInt) = 6 := (by decide); omega)⟩ dX9_cutWord_130 (fun H locs E16 TH hS hmf20 hp17 hp18 => ?_)
            have hst19 : tw_fr kp L [(9, 2)] [] Eg10 E16 := tw_fr.put tw_fr.rf (fun _ => hk0) (by decide) hp17 hp18 (by decide)
            have hF := hF.tr hst19 (fun _ h => ⟨h, rfl⟩) (by decide) (by decide)
            have hmf21 : tw_fv E16 a0 3 = .int fz0 := (hst19.1 a0 3 hm0 (by rw [hk0]; decide)).trans hmf8
            have hmf22 : tw_fv E16 a0 4 = .int w10_0_4 := (hst19.1 a0 4 hm0 (by rw [hk0]; decide)).trans hfm10_0
            have hmf23 : tw_fv E16 a0 1 = .int xi9 := (hst19.1 a0 1 hm0 (by rw [hk0]; decide)).trans hxi9
            have hmf24 : tw_fv E16 a0 0 = .ref xr12 := (hst19.1 a0 0 hm0 (by rw [hk0]; decide)).trans hxr12
            exact tw_vret hx hb hr hlocks TH hS hex ⟨rfl, rfl, rfl, hF, ⟨fz0, w10_0_4, hmf21, hmf22, by have : ((6 : Int32).toInt) = 6 := (by decide); omega⟩⟩ (Nat.le_of_ble_eq_true rfl) (Nat.le_of_ble_eq_true rfl) dX9_cutWord_133
          · have hf25 : xe13.toInt = 125 := by have z := (fa_eq _ _).mp hc14; have : ((125 : Int32).toInt) = 125 := (by decide); omega
            refine lv_aload_n hx hb dX9_cutWord_96 rfl (lv_at hl 0 rfl) ?_
            refine tw_get (ci := 9) (C := RX9) (T := TX9) (N := 5) hx hb hB cx_inX9 hown hK TH hm0 hk0 rfl ⟨by decide, rfl⟩ 4 (by decide) cw_46 (fun _ h9 => h9) dX9_cutWord_97 (fun hv => ?_)
            rw [hfm10_0]
            refine lv_aload_n hx hb dX9_cutWord_100 rfl (lv_at hl 0 rfl) ?_
            refine tw_get (ci := 9) (C := RX9) (T := TX9) (N := 5) hx hb hB cx_inX9 hown hK TH hm0 hk0 rfl ⟨by decide, rfl⟩ 3 (by decide) cw_43 (fun _ h9 => h9) dX9_cutWord_101 (fun hv => ?_)
            rw [hmf8]
            refine lv_isub hx hb dX9_cutWord_104 ?_
            refine lv_topi (fun zi26 ezi26 => ?_)
            have hzi26 : zi26.toInt = w10_0_4.toInt - fz0.toInt := by rw [ezi26];  have := ia_lo w10_0_4; have := ia_hi w10_0_4; have := ia_lo fz0; have := ia_hi fz0; exact (ia_sub (by omega) (by omega)).trans (by omega)
            refine lv_iconst (v := 1) hx hb dX9_cutWord_105 (by decide) ?_
            refine lv_icmp_le (tgt := 127) hx hb dX9_cutWord_106 (by decide) (fun hc27 => ?_) (fun hc27 => ?_)
            · have hf28 : zi26.toInt ≤ 1 := by have z := (fa_le _ _).mp hc27; have : ((1 : Int32).toInt) = 1 := (by decide); omega
              refine lv_aload_n hx hb dX9_cutWord_127 rfl (lv_at hl 0 rfl) ?_
              refine lv_bipush (v := 6) hx hb dX9_cutWord_128 (by decide) ?_
              refine tw_put (ci := 9) (v := .int 6) (ty := .int) (C := RX9) (T := TX9) (N := 5) hx hb hB cx_inX9 tyX9 tyX9_ok nmX9 hown hK TH hS hm0 hk0 rfl ⟨by decide, rfl⟩ 2 (by decide) cw_41 (fun _ h9 => h9) rfl (by decide +kernel) rfl rfl ⟨_, rfl, (show 0 ≤ Int32.toInt 6 from by have : ((6 : Int32).toInt) = 6 := (by decide); omega), (show Int32.toInt 6 ≤ 255 from by have : ((6 : Int32).toInt) = 6 := (by decide); omega)⟩ dX9_cutWord_130 (fun H locs E29 TH hS hmf33 hp30 hp31 => ?_)
              have hst32 : tw_fr kp L [(9, 2)] [] Eg10 E29 := tw_fr.put tw_fr.rf (fun _ => hk0) (by decide) hp30 hp31 (by decide)
              have hF := hF.tr hst32 (fun _ h => ⟨h, rfl⟩) (by decide) (by decide)
              have hmf34 : tw_fv E29 a0 3 = .int fz0 := (hst32.1 a0 3 hm0 (by rw [hk0]; decide)).trans hmf8
              have hmf35 : tw_fv E29 a0 4 = .int w10_0_4 := (hst32.1 a0 4 hm0 (by rw [hk0]; decide)).trans hfm10_0
              have hmf36 : tw_fv E29 a0 1 = .int xi9 := (hst32.1 a0 1 hm0 (by rw [hk0]; decide)).trans hxi9
              have hmf37 : tw_fv E29 a0 0 = .ref xr12 := (hst32.1 a0 0 hm0 (by rw [hk0]; decide)).trans hxr12
              exact tw_vret hx hb hr hlocks TH hS hex ⟨rfl, rfl, rfl, hF, ⟨fz0, w10_0_4, hmf34, hmf35, by have : ((6 : Int32).toInt) = 6 := (by decide); omega⟩⟩ (Nat.le_of_ble_eq_true rfl) (Nat.le_of_ble_eq_true rfl) dX9_cutWord_133
            · have hf38 : ¬ (zi26.toInt ≤ 1) := fun q => hc27 ((fa_le _ _).mpr (by have : ((1 : Int32).toInt) = 1 := (by decide); omega))
              refine lv_aload_n hx hb dX9_cutWord_109 rfl (lv_at hl 0 rfl) ?_
              refine lv_iconst (v := 4) hx hb dX9_cutWord_110 (by decide) ?_
              refine tw_put (ci := 9) (v := .int 4) (ty := .int) (C := RX9) (T := TX9) (N := 5) hx hb hB cx_inX9 tyX9 tyX9_ok nmX9 hown hK TH hS hm0 hk0 rfl ⟨by decide, rfl⟩ 2 (by decide) cw_41 (fun _ h9 => h9) rfl (by decide +kernel) rfl rfl ⟨_, rfl, (show 0 ≤ Int32.toInt 4 from by have : ((4 : Int32).toInt) = 4 := (by decide); omega), (show Int32.toInt 4 ≤ 255 from by have : ((4 : Int32).toInt) = 4 := (by decide); omega)⟩ dX9_cutWord_111 (fun H locs E39 TH hS hmf43 hp40 hp41 => ?_)
              have hst42 : tw_fr kp L [(9, 2)] [] Eg10 E39 := tw_fr.put tw_fr.rf (fun _ => hk0) (by decide) hp40 hp41 (by decide)
              have hF := hF.tr hst42 (fun _ h => ⟨h, rfl⟩) (by decide) (by decide)
              have hmf44 : tw_fv E39 a0 3 = .int fz0 := (hst42.1 a0 3 hm0 (by rw [hk0]; decide)).trans hmf8
              have hmf45 : tw_fv E39 a0 4 = .int w10_0_4 := (hst42.1 a0 4 hm0 (by rw [hk0]; decide)).trans hfm10_0
              have hmf46 : tw_fv E39 a0 1 = .int xi9 := (hst42.1 a0 1 hm0 (by rw [hk0]; decide)).trans hxi9
              have hmf47 : tw_fv E39 a0 0 = .ref xr12 := (hst42.1 a0 0 hm0 (by rw [hk0]; decide)).trans hxr12
              refine lv_aload_n hx hb dX9_cutWord_114 rfl (lv_at hl 0 rfl) ?_
              refine lv_dup hx hb dX9_cutWord_115 rfl ?_
              refine tw_get (ci := 9) (C := RX9) (T := TX9) (N := 5) hx hb hB cx_inX9 hown hK TH hm0 hk0 rfl ⟨by decide, rfl⟩ 4 (by decide) cw_46 (fun _ h9 => h9) dX9_cutWord_116 (fun hv => ?_)
              rw [hmf45]
              refine lv_iconst (v := 1) hx hb dX9_cutWord_119 (by decide) ?_
              refine lv_iadd hx hb dX9_cutWord_120 ?_
              refine lv_topi (fun zi48 ezi48 => ?_)
              have hzi48 : zi48.toInt = w10_0_4.toInt + 1 := by rw [ezi48]; have : ((1 : Int32).toInt) = 1 := (by decide); have := ia_lo w10_0_4; have := ia_hi w10_0_4; exact (ia_add (by omega) (by omega)).trans (by omega)
              refine tw_put (ci := 9) (v := .int zi48) (ty := .int) (C := RX9) (T := TX9) (N := 5) hx hb hB cx_inX9 tyX9 tyX9_ok nmX9 hown hK TH hS hm0 hk0 rfl ⟨by decide, rfl⟩ 4 (by decide) cw_46 (fun _ h9 => h9) rfl (by decide +kernel) rfl rfl ⟨_, rfl, (show 0 ≤ Int32.toInt zi48 from by  omega), (show Int32.toInt zi48 ≤ 500 from by  omega)⟩ dX9_cutWord_121 (fun H locs E49 TH hS hmf53 hp50 hp51 => ?_)
              have hst52 : tw_fr kp L [(9, 4)] [] E39 E49 := tw_fr.put tw_fr.rf (fun _ => hk0) (by decide) hp50 hp51 (by decide)
              have hF := hF.tr hst52 (fun _ h => ⟨h, rfl⟩) (by decide) (by decide)
              have hmf54 : tw_fv E49 a0 3 = .int fz0 := (hst52.1 a0 3 hm0 (by rw [hk0]; decide)).trans hmf44
              have hmf55 : tw_fv E49 a0 1 = .int xi9 := (hst52.1 a0 1 hm0 (by rw [hk0]; decide)).trans hmf46
              have hmf56 : tw_fv E49 a0 0 = .ref xr12 := (hst52.1 a0 0 hm0 (by rw [hk0]; decide)).trans hmf47
              have hmf57 : tw_fv E49 a0 2 = .int 4 := (hst52.1 a0 2 hm0 (by rw [hk0]; decide)).trans hmf43
              refine lv_goto (tgt := 133) hx hb dX9_cutWord_124 (by decide) ?_
              exact tw_vret hx hb hr hlocks TH hS hex ⟨rfl, rfl, rfl, hF, ⟨fz0, zi48, hmf54, hmf53, by have : ((4 : Int32).toInt) = 4 := (by decide); omega⟩⟩ (Nat.le_of_ble_eq_true rfl) (Nat.le_of_ble_eq_true rfl) dX9_cutWord_133
        · have hf58 : ¬ (w10_0_4.toInt < xi9.toInt) := fun q => hc10 ((fa_lt _ _).mpr (by  omega))
          refine lv_aload_n hx hb dX9_cutWord_74 rfl (lv_at hl 0 rfl) ?_
          refine lv_iconst (v := 5) hx hb dX9_cutWord_75 (by decide) ?_
          refine tw_put (ci := 9) (v := .int 5) (ty := .int) (C := RX9) (T := TX9) (N := 5) hx hb hB cx_inX9 tyX9 tyX9_ok nmX9 hown hK TH hS hm0 hk0 rfl ⟨by decide, rfl⟩ 2 (by decide) cw_41 (fun _ h9 => h9) rfl (by decide +kernel) rfl rfl ⟨_, rfl, (show 0 ≤ Int32.toInt 5 from by have : ((5 : Int32).toInt) = 5 := (by decide); omega), (show Int32.toInt 5 ≤ 255 from by have : ((5 : Int32).toInt) = 5 := (by decide); omega)⟩ dX9_cutWord_76 (fun H locs E59 TH hS hmf63 hp60 hp61 => ?_)
          have hst62 : tw_fr kp L [(9, 2)] [] Eg10 E59 := tw_fr.put tw_fr.rf (fun _ => hk0) (by decide) hp60 hp61 (by decide)
          have hF := hF.tr hst62 (fun _ h => ⟨h, rfl⟩) (by decide) (by decide)
          have hmf64 : tw_fv E59 a0 3 = .int fz0 := (hst62.1 a0 3 hm0 (by rw [hk0]; decide)).trans hmf8
          have hmf65 : tw_fv E59 a0 4 = .int w10_0_4 := (hst62.1 a0 4 hm0 (by rw [hk0]; decide)).trans hfm10_0
          have hmf66 : tw_fv E59 a0 1 = .int xi9 := (hst62.1 a0 1 hm0 (by rw [hk0]; decide)).trans hxi9
          refine lv_goto (tgt := 133) hx hb dX9_cutWord_79 (by decide) ?_
          exact tw_vret hx hb hr hlocks TH hS hex ⟨rfl, rfl, rfl, hF, ⟨fz0, w10_0_4, hmf64, hmf65, by have : ((5 : Int32).toInt) = 5 := (by decide); omega⟩⟩ (Nat.le_of_ble_eq_true rfl) (Nat.le_of_ble_eq_true rfl) dX9_cutWord_133
      refine lv_icmp_ge (tgt := 63) hx hb dX9_cutWord_18 (by decide) (fun hc67 => ?_) (fun hc67 => ?_)
      · have hf68 : xi9.toInt ≤ w10_0_4.toInt := by have z := (fa_le _ _).mp hc67;  omega
        exact hJ63  _ _ ls  TH hS (lv_sub hl [0] rfl)
      · have hf69 : ¬ (xi9.toInt ≤ w10_0_4.toInt) := fun q => hc67 ((fa_le _ _).mpr (by  omega))
        refine lv_aload_n hx hb dX9_cutWord_21 rfl (lv_at hl 0 rfl) ?_
        refine tw_get (ci := 9) (C := RX9) (T := TX9) (N := 5) hx hb hB cx_inX9 hown hK TH hm0 hk0 rfl ⟨by decide, rfl⟩ 4 (by decide) cw_46 (fun _ h9 => h9) dX9_cutWord_22 (fun hv => ?_)
        rw [hfm10_0]
        refine lv_aload_n hx hb dX9_cutWord_25 rfl (lv_at hl 0 rfl) ?_
        refine tw_get (ci := 9) (C := RX9) (T := TX9) (N := 5) hx hb hB cx_inX9 hown hK TH hm0 hk0 rfl ⟨by decide, rfl⟩ 3 (by decide) cw_43 (fun _ h9 => h9) dX9_cutWord_26 (fun hv => ?_)
        rw [hmf8]
        refine lv_isub hx hb dX9_cutWord_29 ?_
        refine lv_topi (fun zi70 ezi70 => ?_)
        have hzi70 : zi70.toInt = w10_0_4.toInt - fz0.toInt := by rw [ezi70];  have := ia_lo w10_0_4; have := ia_hi w10_0_4; have := ia_lo fz0; have := ia_hi fz0; exact (ia_sub (by omega) (by omega)).trans (by omega)
        refine lv_bipush (v := 8) hx hb dX9_cutWord_30 (by decide) ?_
        refine lv_icmp_gt (tgt := 63) hx hb dX9_cutWord_32 (by decide) (fun hc71 => ?_) (fun hc71 => ?_)
        · have hf72 : 8 < zi70.toInt := by have z := (fa_lt _ _).mp hc71; have : ((8 : Int32).toInt) = 8 := (by decide); omega
          exact hJ63  _ _ ls  TH hS (lv_sub hl [0] rfl)
        · have hf73 : ¬ (8 < zi70.toInt) := fun q => hc71 ((fa_lt _ _).mpr (by have : ((8 : Int32).toInt) = 8 := (by decide); omega))
          refine lv_aload_n hx hb dX9_cutWord_35 rfl (lv_at hl 0 rfl) ?_
          refine tw_get (ci := 9) (C := RX9) (T := TX9) (N := 5) hx hb hB cx_inX9 hown hK TH hm0 hk0 rfl ⟨by decide, rfl⟩ 0 (by decide) cw_34 (fun _ h9 => h9) dX9_cutWord_36 (fun hv => ?_)
          obtain ⟨xr74, hxr74, hmxr74, hkxr74⟩ : ∃ a : Nat, tw_fv Eg10 a0 0 = .ref a ∧ a ∈ L ∧ kp a = 100 := hv
          rw [hxr74]
          refine lv_aload_n hx hb dX9_cutWord_39 rfl (lv_at hl 0 rfl) ?_
          refine tw_get (ci := 9) (C := RX9) (T := TX9) (N := 5) hx hb hB cx_inX9 hown hK TH hm0 hk0 rfl ⟨by decide, rfl⟩ 4 (by decide) cw_46 (fun _ h9 => h9) dX9_cutWord_40 (fun hv => ?_)
          rw [hfm10_0]
          refine tw_iald (k := 100) (t0 := 0) (n := 500) (lo := 0) (hi := 255) hx hb hK TH hmxr74 hkxr74 (by decide) rfl rfl (i := w10_0_4) (vp_in_iff.mpr ⟨by  omega, by  omega⟩) dX9_cutWord_43 (fun hxe75a hxe75b => ?_)
          obtain ⟨xe75, exe75⟩ : ∃ z : Int32, tw_iv Eg10 xr74 (Int32.toNatClampNeg w10_0_4) = z := ⟨_, rfl⟩
          rw [exe75] at hxe75a hxe75b ⊢
          refine tw_SNc (n := 1) (post := (fun v kq Lq Eq => (∃ x : Int32, v = some (.int x) ∧ 0 ≤ x.toInt ∧ x.toInt ≤ 1) ∧ kp = kq ∧ L = Lq ∧ Eg10 = Eq)) (As := [.int xe75]) (rest := []) ⟨hx, hb, hml, hown, hB⟩ (fun sz => tX11_isWordByte l D cs xe75  sz) cw_548 cw_1 (by decide +kernel) cw_547 rfl rfl (by decide +kernel) ⟨Nat.le_of_ble_eq_true rfl, Nat.le_of_ble_eq_true rfl⟩ hK hN TH hS hA rfl hl.1 rfl (Nat.le_of_ble_eq_true rfl) dX9_cutWord_44 ⟨Nat.le_of_ble_eq_true rfl, Nat.le_of_ble_eq_true rfl⟩ (fun v76 kp76 L76 E76 H locs hq76 hx76 TH hS => ?_)
          obtain ⟨⟨xc77, rfl, hxc77a, hxc77b⟩, rfl, rfl, rfl⟩ := hq76
          refine W.eq (g2 := F0 m 47 ls [.int xc77]) rfl ?_
          refine lv_if_eq (tgt := 63) hx hb dX9_cutWord_47 (by decide) (fun hc78 => ?_) (fun hc78 => ?_)
          · have hf79 : xc77.toInt = 0 := by have z := (fa_eq _ _).mp hc78; have : ((0 : Int32).toInt) = 0 := (by decide); omega
            exact hJ63  _ _ ls  TH hS (lv_sub hl [0] rfl)
          · have hf80 : ¬ (xc77.toInt = 0) := fun q => hc78 ((fa_eq _ _).mpr (by have : ((0 : Int32).toInt) = 0 := (by decide); omega))
            refine lv_aload_n hx hb dX9_cutWord_50 rfl (lv_at hl 0 rfl) ?_
            refine lv_dup hx hb dX9_cutWord_51 rfl ?_
            refine tw_get (ci := 9) (C := RX9) (T := TX9) (N := 5) hx hb hB cx_inX9 hown hK TH hm0 hk0 rfl ⟨by decide, rfl⟩ 4 (by decide) cw_46 (fun _ h9 => h9) dX9_cutWord_52 (fun hv => ?_)
            rw [hfm10_0]
            refine lv_iconst (v := 1) hx hb dX9_cutWord_55 (by decide) ?_
            refine lv_iadd hx hb dX9_cutWord_56 ?_
            refine lv_topi (fun zi81 ezi81 => ?_)
            have hzi81 : zi81.toInt = w10_0_4.toInt + 1 := by rw [ezi81]; have : ((1 : Int32).toInt) = 1 := (by decide); have := ia_lo w10_0_4; have := ia_hi w10_0_4; exact (ia_add (by omega) (by omega)).trans (by omega)
            refine tw_put (ci := 9) (v := .int zi81) (ty := .int) (C := RX9) (T := TX9) (N := 5) hx hb hB cx_inX9 tyX9 tyX9_ok nmX9 hown hK TH hS hm0 hk0 rfl ⟨by decide, rfl⟩ 4 (by decide) cw_46 (fun _ h9 => h9) rfl (by decide +kernel) rfl rfl ⟨_, rfl, (show 0 ≤ Int32.toInt zi81 from by  omega), (show Int32.toInt zi81 ≤ 500 from by  omega)⟩ dX9_cutWord_57 (fun H locs E82 TH hS hmf86 hp83 hp84 => ?_)
            have hst85 : tw_fr kp L [(9, 4)] [] Eg10 E82 := tw_fr.put tw_fr.rf (fun _ => hk0) (by decide) hp83 hp84 (by decide)
            have hF := hF.tr hst85 (fun _ h => ⟨h, rfl⟩) (by decide) (by decide)
            have hG10 := hG10.tr hst85 (fun _ h => ⟨h, rfl⟩) (by decide) (by decide)
            have hmf87 : tw_fv E82 a0 3 = .int fz0 := (hst85.1 a0 3 hm0 (by rw [hk0]; decide)).trans hmf8
            have hmf88 : tw_fv E82 a0 1 = .int xi9 := (hst85.1 a0 1 hm0 (by rw [hk0]; decide)).trans hxi9
            have hmf89 : tw_fv E82 a0 0 = .ref xr74 := (hst85.1 a0 0 hm0 (by rw [hk0]; decide)).trans hxr74
            refine lv_goto (tgt := 10) hx hb dX9_cutWord_60 (by decide) ?_
            exact ih10 (n10 - 1) (by   omega) zi81 _ _ _ ls (by omega) (by omega) (by  omega) (by   omega) hmf86 hG10 TH hS (lv_sub hl [0] rfl)
  exact hJ10 500 zi1 _ _ _ ls (by omega) (by omega) (by  omega) (by   omega) hmf6 tw_fr.rf TH hS (lv_sub hl [0] rfl)
set_option maxHeartbeats 4000000 in
set_option maxRecDepth 100000 in
theorem tX9_wordHere (l : Launch) (D : va_G) (cs : Nat → ClassId) {kp : Nat → Nat} {L : List Nat} {E : Nat → va_E} (a0 : Nat) (hm0 : a0 ∈ L) (hk0 : kp a0 = 9) (sz : Nat) : Met l yX9_wordHere (.code yX9_wordHere cX9_wordHere 5 (some .long) :: cx_big) { frames := 0, cells := 0, slots := 0, locals := 0 } (tw_P D cs kp L E [.ref a0] sz) (tw_Q D cs kp L (fun v kq Lq Eq => (∃ x : Int64, v = some (.long x)) ∧ kp = kq ∧ L = Lq ∧ E = Eq) (va_A (va_pl L E) sz)) 0 0 (va_A (va_pl L E) sz) := by
  refine tw_ofW (by decide) (Nat.le_of_ble_eq_true rfl) ?_
  intro p e s m below meth c A ls hx hb hr hml hB hown hlocks hK hN hA TH hS hl
  have hown : s.vm.findClass "TreeMerge$Text" = some m.cls := hown
  have hl : lv_has ls 5 [(0, .ref a0)] := hl
  obtain ⟨kp0, ekp⟩ : ∃ z, z = kp := ⟨_, rfl⟩
  obtain ⟨L0, eL⟩ : ∃ z, z = L := ⟨_, rfl⟩
  rw [show tw_Q D cs kp L = tw_Q D cs kp0 L0 by rw [ekp, eL]]
  have hex : ∀ a : Nat, a ∈ L0 → a ∈ L ∧ kp a = kp0 a := fun a h => ⟨by rw [← eL]; exact h, by rw [ekp]⟩
  refine lv_lconst (v := 0) hx hb dX9_wordHere_0 (by decide) ?_
  refine lv_lstore_n (lv' := [(1, .long (0 : Int64)), (0, .ref a0)]) hx hb dX9_wordHere_1 rfl hl (by decide) rfl (fun ls hl => ?_)
  refine lv_bipush (v := 56) hx hb dX9_wordHere_2 (by decide) ?_
  refine lv_istore_n (lv' := [(3, .int 56), (1, .long (0 : Int64)), (0, .ref a0)]) hx hb dX9_wordHere_4 rfl hl (by decide) rfl (fun ls hl => ?_)
  refine lv_aload_n hx hb dX9_wordHere_5 rfl (lv_at hl 2 rfl) ?_
  refine tw_get (ci := 9) (C := RX9) (T := TX9) (N := 5) hx hb hB cx_inX9 hown hK TH hm0 hk0 rfl ⟨by decide, rfl⟩ 3 (by decide) cw_43 (fun _ h9 => h9) dX9_wordHere_6 (fun hv => ?_)
  obtain ⟨xi1, hxi1, hxi1a, hxi1b⟩ : ∃ x : Int32, tw_fv E a0 3 = .int x ∧ 0 ≤ x.toInt ∧ x.toInt ≤ 500 := hv
  rw [hxi1]
  refine lv_iconst (v := 1) hx hb dX9_wordHere_9 (by decide) ?_
  refine lv_iadd hx hb dX9_wordHere_10 ?_
  refine lv_topi (fun zi2 ezi2 => ?_)
  have hzi2 : zi2.toInt = xi1.toInt + 1 := by rw [ezi2]; have : ((1 : Int32).toInt) = 1 := (by decide); have := ia_lo xi1; have := ia_hi xi1; exact (ia_add (by omega) (by omega)).trans (by omega)
  refine lv_istore (lv' := [(4, .int zi2), (3, .int 56), (1, .long (0 : Int64)), (0, .ref a0)]) hx hb dX9_wordHere_11 hl (by decide) rfl (fun ls hl => ?_)
  have hJ13 : ∀ (n13 : Nat) (y13_4 : Int32) (y13_3 : Int32) (y13_1 : Int64) (H : Heap) (locs : List Loc) (ls : Array Slot), 1 ≤ y13_4.toInt → y13_4.toInt ≤ 501 → (-8) ≤ y13_3.toInt → y13_3.toInt ≤ 56 → y13_3.toInt - (-8) ≤ (n13 : Int) → tw_H D cs kp L E A H → va_S A s.heap H locs → lv_has ls 5 [(4, .int y13_4), (3, .int y13_3), (1, .long y13_1), (0, .ref a0)] → W p l e { frames := 0, cells := 0, slots := 0, locals := 0 } s m [.ref a0].toArray below meth c H locs 0 0 (MQ below (tw_Q D cs kp0 L0 (fun v kq Lq Eq => (∃ x : Int64, v = some (.long x)) ∧ kp = kq ∧ L = Lq ∧ E = Eq) A) [.ref a0].toArray s 0 0 A) (F0 m 13 ls []) := by
    intro n13
    induction n13 using Nat.strongRecOn with
    | _ n13 ih13 =>
      intro y13_4 y13_3 y13_1 H locs ls hy13_4a hy13_4b hy13_3a hy13_3b hmeas13 TH hS hl
      refine lv_iload hx hb dX9_wordHere_13 (lv_at hl 0 rfl) ?_
      refine lv_aload_n hx hb dX9_wordHere_15 rfl (lv_at hl 3 rfl) ?_
      refine tw_get (ci := 9) (C := RX9) (T := TX9) (N := 5) hx hb hB cx_inX9 hown hK TH hm0 hk0 rfl ⟨by decide, rfl⟩ 4 (by decide) cw_46 (fun _ h9 => h9) dX9_wordHere_16 (fun hv => ?_)
      obtain ⟨xi3, hxi3, hxi3a, hxi3b⟩ : ∃ x : Int32, tw_fv E a0 4 = .int x ∧ 0 ≤ x.toInt ∧ x.toInt ≤ 500 := hv
      rw [hxi3]
      refine lv_iconst (v := 1) hx hb dX9_wordHere_19 (by decide) ?_
      refine lv_isub hx hb dX9_wordHere_20 ?_
      refine lv_topi (fun zi4 ezi4 => ?_)
      have hzi4 : zi4.toInt = xi3.toInt - 1 := by rw [ezi4]; have : ((1 : Int32).toInt) = 1 := (by decide); have := ia_lo xi3; have := ia_hi xi3; exact (ia_sub (by omega) (by omega)).trans (by omega)
      refine lv_icmp_ge (tgt := 50) hx hb dX9_wordHere_21 (by decide) (fun hc5 => ?_) (fun hc5 => ?_)
      · have hf6 : zi4.toInt ≤ y13_4.toInt := by have z := (fa_le _ _).mp hc5;  omega
        refine lv_lload_n hx hb dX9_wordHere_50 rfl (lv_at hl 2 rfl) ?_
        exact tw_lret hx hb hr hlocks TH hS hex ⟨⟨_, rfl⟩, rfl, rfl, rfl⟩ (Nat.le_of_ble_eq_true rfl) (Nat.le_of_ble_eq_true rfl) dX9_wordHere_51
      · have hf7 : ¬ (zi4.toInt ≤ y13_4.toInt) := fun q => hc5 ((fa_le _ _).mpr (by  omega))
        refine lv_iload_n hx hb dX9_wordHere_24 rfl (lv_at hl 1 rfl) ?_
        refine lv_if_lt (tgt := 50) hx hb dX9_wordHere_25 (by decide) (fun hc8 => ?_) (fun hc8 => ?_)
        · have hf9 : y13_3.toInt < 0 := by have z := (fa_lt _ _).mp hc8; have : ((0 : Int32).toInt) = 0 := (by decide); omega
          refine lv_lload_n hx hb dX9_wordHere_50 rfl (lv_at hl 2 rfl) ?_
          exact tw_lret hx hb hr hlocks TH hS hex ⟨⟨_, rfl⟩, rfl, rfl, rfl⟩ (Nat.le_of_ble_eq_true rfl) (Nat.le_of_ble_eq_true rfl) dX9_wordHere_51
        · have hf10 : ¬ (y13_3.toInt < 0) := fun q => hc8 ((fa_lt _ _).mpr (by have : ((0 : Int32).toInt) = 0 := (by decide); omega))
          refine lv_lload_n hx hb dX9_wordHere_28 rfl (lv_at hl 2 rfl) ?_
          refine lv_aload_n hx hb dX9_wordHere_29 rfl (lv_at hl 3 rfl) ?_
          refine tw_get (ci := 9) (C := RX9) (T := TX9) (N := 5) hx hb hB cx_inX9 hown hK TH hm0 hk0 rfl ⟨by decide, rfl⟩ 0 (by decide) cw_34 (fun _ h9 => h9) dX9_wordHere_30 (fun hv => ?_)
          obtain ⟨xr11, hxr11, hmxr11, hkxr11⟩ : ∃ a : Nat, tw_fv E a0 0 = .ref a ∧ a ∈ L ∧ kp a = 100 := hv
          rw [hxr11]
          refine lv_iload hx hb dX9_wordHere_33 (lv_at hl 0 rfl) ?_
          refine tw_iald (k := 100) (t0 := 0) (n := 500) (lo := 0) (hi := 255) hx hb hK TH hmxr11 hkxr11 (by decide) rfl rfl (i := y13_4) (vp_in_iff.mpr ⟨by  omega, by  omega⟩) dX9_wordHere_35 (fun hxe12a hxe12b => ?_)
          obtain ⟨xe12, exe12⟩ : ∃ z : Int32, tw_iv E xr11 (Int32.toNatClampNeg y13_4) = z := ⟨_, rfl⟩
          rw [exe12] at hxe12a hxe12b ⊢
          refine lv_i2l (v := (xe12).toInt64) hx hb dX9_wordHere_36 rfl ?_
          refine tw_topl (fun zl13 ezl13 => ?_)
          refine lv_iload_n hx hb dX9_wordHere_37 rfl (lv_at hl 1 rfl) ?_
          refine lv_lshl (v := ((zl13) <<< (((y13_3 : Int32)).toInt64 &&& 63))) hx hb dX9_wordHere_38 rfl ?_
          refine tw_topl (fun zl14 ezl14 => ?_)
          refine lv_lor hx hb dX9_wordHere_39 ?_
          refine tw_topl (fun zl15 ezl15 => ?_)
          refine lv_lstore_n (lv' := [(1, .long zl15), (4, .int y13_4), (3, .int y13_3), (0, .ref a0)]) hx hb dX9_wordHere_40 rfl hl (by decide) rfl (fun ls hl => ?_)
          obtain ⟨zi16, ezi16⟩ : ∃ z : Int32, z = y13_3 + Int32.ofInt (-8) := ⟨_, rfl⟩
          have hzi16 : zi16.toInt = y13_3.toInt + (-8) := by rw [ezi16]; have : ((Int32.ofInt (-8)).toInt) = (-8) := (by decide);  exact (ia_add (by omega) (by omega)).trans (by omega)
          refine lv_iinc (v := zi16) (lv' := [(3, .int zi16), (1, .long zl15), (4, .int y13_4), (0, .ref a0)]) hx hb dX9_wordHere_41 hl (k := 2) rfl ezi16.symm (by decide) rfl (fun ls hl => ?_)
          obtain ⟨zi17, ezi17⟩ : ∃ z : Int32, z = y13_4 + Int32.ofInt 1 := ⟨_, rfl⟩
          have hzi17 : zi17.toInt = y13_4.toInt + 1 := by rw [ezi17]; have : ((Int32.ofInt 1).toInt) = 1 := (by decide);  exact (ia_add (by omega) (by omega)).trans (by omega)
          refine lv_iinc (v := zi17) (lv' := [(4, .int zi17), (3, .int zi16), (1, .long zl15), (0, .ref a0)]) hx hb dX9_wordHere_44 hl (k := 2) rfl ezi17.symm (by decide) rfl (fun ls hl => ?_)
          refine lv_goto (tgt := 13) hx hb dX9_wordHere_47 (by decide) ?_
          exact ih13 (n13 - 1) (by   omega) zi17 zi16 zl15 _ _ ls (by omega) (by omega) (by omega) (by omega) (by   omega) TH hS (lv_sub hl [0, 1, 2, 3] rfl)
  exact hJ13 65 zi2 (56 : Int32) (0 : Int64) _ _ ls (by omega) (by omega) (by have : ((56 : Int32).toInt) = 56 := (by decide); omega) (by have : ((56 : Int32).toInt) = 56 := (by decide); omega) (by have : ((56 : Int32).toInt) = 56 := (by decide);  omega) TH hS (lv_sub hl [0, 1, 2, 3] rfl)
set_option maxHeartbeats 4000000 in
set_option maxRecDepth 100000 in
theorem tX3_clear (l : Launch) (D : va_G) (cs : Nat → ClassId) {kp : Nat → Nat} {L : List Nat} {E : Nat → va_E} (a0 : Nat) (hm0 : a0 ∈ L) (hk0 : kp a0 = 3) (sz : Nat) : Met l yX3_clear (.code yX3_clear cX3_clear 1 none :: cx_big) { frames := 0, cells := 0, slots := 0, locals := 0 } (tw_P D cs kp L E [.ref a0] sz) (tw_Q D cs kp L (fun v kq Lq Eq => v = none ∧ kp = kq ∧ L = Lq ∧ tw_fr kp L [(3, 0)] [] E Eq) (va_A (va_pl L E) sz)) 0 0 (va_A (va_pl L E) sz) := by
  refine tw_ofW (by decide) (Nat.le_of_ble_eq_true rfl) ?_
  intro p e s m below meth c A ls hx hb hr hml hB hown hlocks hK hN hA TH hS hl
  have hown : s.vm.findClass "TreeMerge$Kids" = some m.cls := hown
  have hl : lv_has ls 1 [(0, .ref a0)] := hl
  obtain ⟨kp0, ekp⟩ : ∃ z, z = kp := ⟨_, rfl⟩
  obtain ⟨L0, eL⟩ : ∃ z, z = L := ⟨_, rfl⟩
  rw [show tw_Q D cs kp L = tw_Q D cs kp0 L0 by rw [ekp, eL]]
  have hex : ∀ a : Nat, a ∈ L0 → a ∈ L ∧ kp a = kp0 a := fun a h => ⟨by rw [← eL]; exact h, by rw [ekp]⟩
  have hF : tw_fr kp L [(3, 0)] [] E E := tw_fr.rf
  refine lv_aload_n hx hb dX3_clear_0 rfl (lv_at hl 0 rfl) ?_
  refine lv_iconst (v := 0) hx hb dX3_clear_1 (by decide) ?_
  refine tw_put (ci := 3) (v := .int 0) (ty := .int) (C := RX3) (T := TX3) (N := 3) hx hb hB cx_inX3 tyX3 tyX3_ok nmX3 hown hK TH hS hm0 hk0 rfl ⟨by decide, rfl⟩ 0 (by decide) cw_177 (fun _ h9 => h9) rfl (by decide +kernel) rfl rfl ⟨_, rfl, (show 0 ≤ Int32.toInt 0 from by have : ((0 : Int32).toInt) = 0 := (by decide); omega), (show Int32.toInt 0 ≤ 40 from by have : ((0 : Int32).toInt) = 0 := (by decide); omega)⟩ dX3_clear_2 (fun H locs E1 TH hS hmf5 hp2 hp3 => ?_)
  have hst4 : tw_fr kp L [(3, 0)] [] E E1 := tw_fr.put tw_fr.rf (fun _ => hk0) (by decide) hp2 hp3 (by decide)
  have hF := hF.tr hst4 (fun _ h => ⟨h, rfl⟩) (by decide) (by decide)
  exact tw_vret hx hb hr hlocks TH hS hex ⟨rfl, rfl, rfl, hF⟩ (Nat.le_of_ble_eq_true rfl) (Nat.le_of_ble_eq_true rfl) dX3_clear_5
set_option maxHeartbeats 4000000 in
set_option maxRecDepth 100000 in
theorem tX3_hasLikes (l : Launch) (D : va_G) (cs : Nat → ClassId) {kp : Nat → Nat} {L : List Nat} {E : Nat → va_E} (a0 : Nat) (hm0 : a0 ∈ L) (hk0 : kp a0 = 3) (sz : Nat) : Met l yX3_hasLikes (.code yX3_hasLikes cX3_hasLikes 3 (some .boolean) :: cx_big) { frames := 0, cells := 0, slots := 0, locals := 0 } (tw_P D cs kp L E [.ref a0] sz) (tw_Q D cs kp L (fun v kq Lq Eq => (∃ x : Int32, v = some (.int x) ∧ 0 ≤ x.toInt ∧ x.toInt ≤ 1) ∧ kp = kq ∧ L = Lq ∧ E = Eq) (va_A (va_pl L E) sz)) 0 0 (va_A (va_pl L E) sz) := by
  refine tw_ofW (by decide) (Nat.le_of_ble_eq_true rfl) ?_
  intro p e s m below meth c A ls hx hb hr hml hB hown hlocks hK hN hA TH hS hl
  have hown : s.vm.findClass "TreeMerge$Kids" = some m.cls := hown
  have hl : lv_has ls 3 [(0, .ref a0)] := hl
  obtain ⟨kp0, ekp⟩ : ∃ z, z = kp := ⟨_, rfl⟩
  obtain ⟨L0, eL⟩ : ∃ z, z = L := ⟨_, rfl⟩
  rw [show tw_Q D cs kp L = tw_Q D cs kp0 L0 by rw [ekp, eL]]
  have hex : ∀ a : Nat, a ∈ L0 → a ∈ L ∧ kp a = kp0 a := fun a h => ⟨by rw [← eL]; exact h, by rw [ekp]⟩
  refine lv_iconst (v := 0) hx hb dX3_hasLikes_0 (by decide) ?_
  refine lv_istore_n (lv' := [(1, .int 0), (0, .ref a0)]) hx hb dX3_hasLikes_1 rfl hl (by decide) rfl (fun ls hl => ?_)
  have hJ2 : ∀ (n2 : Nat) (y2_1 : Int32) (H : Heap) (locs : List Loc) (ls : Array Slot), 0 ≤ y2_1.toInt → y2_1.toInt ≤ 40 → 40 - y2_1.toInt ≤ (n2 : Int) → tw_H D cs kp L E A H → va_S A s.heap H locs → lv_has ls 3 [(1, .int y2_1), (0, .ref a0)] → W p l e { frames := 0, cells := 0, slots := 0, locals := 0 } s m [.ref a0].toArray below meth c H locs 0 0 (MQ below (tw_Q D cs kp0 L0 (fun v kq Lq Eq => (∃ x : Int32, v = some (.int x) ∧ 0 ≤ x.toInt ∧ x.toInt ≤ 1) ∧ kp = kq ∧ L = Lq ∧ E = Eq) A) [.ref a0].toArray s 0 0 A) (F0 m 2 ls []) := by
    intro n2
    induction n2 using Nat.strongRecOn with
    | _ n2 ih2 =>
      intro y2_1 H locs ls hy2_1a hy2_1b hmeas2 TH hS hl
      refine lv_iload_n hx hb dX3_hasLikes_2 rfl (lv_at hl 0 rfl) ?_
      refine lv_aload_n hx hb dX3_hasLikes_3 rfl (lv_at hl 1 rfl) ?_
      refine tw_get (ci := 3) (C := RX3) (T := TX3) (N := 3) hx hb hB cx_inX3 hown hK TH hm0 hk0 rfl ⟨by decide, rfl⟩ 0 (by decide) cw_177 (fun _ h9 => h9) dX3_hasLikes_4 (fun hv => ?_)
      obtain ⟨xi1, hxi1, hxi1a, hxi1b⟩ : ∃ x : Int32, tw_fv E a0 0 = .int x ∧ 0 ≤ x.toInt ∧ x.toInt ≤ 40 := hv
      rw [hxi1]
      refine lv_icmp_ge (tgt := 62) hx hb dX3_hasLikes_7 (by decide) (fun hc2 => ?_) (fun hc2 => ?_)
      · have hf3 : xi1.toInt ≤ y2_1.toInt := by have z := (fa_le _ _).mp hc2;  omega
        refine lv_iconst (v := 0) hx hb dX3_hasLikes_62 (by decide) ?_
        exact tw_zret hx hb hr hlocks (by decide) TH hS hex ⟨⟨_, rfl, (show 0 ≤ Int32.toInt 0 from by have : ((0 : Int32).toInt) = 0 := (by decide); omega), (show Int32.toInt 0 ≤ 1 from by have : ((0 : Int32).toInt) = 0 := (by decide); omega)⟩, rfl, rfl, rfl⟩ (Nat.le_of_ble_eq_true rfl) (Nat.le_of_ble_eq_true rfl) dX3_hasLikes_63
      · have hf4 : ¬ (xi1.toInt ≤ y2_1.toInt) := fun q => hc2 ((fa_le _ _).mpr (by  omega))
        refine lv_iconst (v := 0) hx hb dX3_hasLikes_10 (by decide) ?_
        refine lv_istore_n (lv' := [(2, .int 0), (1, .int y2_1), (0, .ref a0)]) hx hb dX3_hasLikes_11 rfl hl (by decide) rfl (fun ls hl => ?_)
        have hJ12 : ∀ (n12 : Nat) (y12_2 : Int32) (H : Heap) (locs : List Loc) (ls : Array Slot), 0 ≤ y12_2.toInt → y12_2.toInt ≤ 40 → 40 - y12_2.toInt ≤ (n12 : Int) → tw_H D cs kp L E A H → va_S A s.heap H locs → lv_has ls 3 [(2, .int y12_2), (1, .int y2_1), (0, .ref a0)] → W p l e { frames := 0, cells := 0, slots := 0, locals := 0 } s m [.ref a0].toArray below meth c H locs 0 0 (MQ below (tw_Q D cs kp0 L0 (fun v kq Lq Eq => (∃ x : Int32, v = some (.int x) ∧ 0 ≤ x.toInt ∧ x.toInt ≤ 1) ∧ kp = kq ∧ L = Lq ∧ E = Eq) A) [.ref a0].toArray s 0 0 A) (F0 m 12 ls []) := by
          intro n12
          induction n12 using Nat.strongRecOn with
          | _ n12 ih12 =>
            intro y12_2 H locs ls hy12_2a hy12_2b hmeas12 TH hS hl
            refine lv_iload_n hx hb dX3_hasLikes_12 rfl (lv_at hl 0 rfl) ?_
            refine lv_iload_n hx hb dX3_hasLikes_13 rfl (lv_at hl 1 rfl) ?_
            refine lv_icmp_ge (tgt := 56) hx hb dX3_hasLikes_14 (by decide) (fun hc5 => ?_) (fun hc5 => ?_)
            · have hf6 : y2_1.toInt ≤ y12_2.toInt := by have z := (fa_le _ _).mp hc5;  omega
              obtain ⟨zi7, ezi7⟩ : ∃ z : Int32, z = y2_1 + Int32.ofInt 1 := ⟨_, rfl⟩
              have hzi7 : zi7.toInt = y2_1.toInt + 1 := by rw [ezi7]; have : ((Int32.ofInt 1).toInt) = 1 := (by decide);  exact (ia_add (by omega) (by omega)).trans (by omega)
              refine lv_iinc (v := zi7) (lv' := [(1, .int zi7), (2, .int y12_2), (0, .ref a0)]) hx hb dX3_hasLikes_56 hl (k := 1) rfl ezi7.symm (by decide) rfl (fun ls hl => ?_)
              refine lv_goto (tgt := 2) hx hb dX3_hasLikes_59 (by decide) ?_
              exact ih2 (n2 - 1) (by   omega) zi7 _ _ ls (by omega) (by omega) (by   omega) TH hS (lv_sub hl [0, 2] rfl)
            · have hf8 : ¬ (y2_1.toInt ≤ y12_2.toInt) := fun q => hc5 ((fa_le _ _).mpr (by  omega))
              refine lv_aload_n hx hb dX3_hasLikes_17 rfl (lv_at hl 2 rfl) ?_
              refine tw_get (ci := 3) (C := RX3) (T := TX3) (N := 3) hx hb hB cx_inX3 hown hK TH hm0 hk0 rfl ⟨by decide, rfl⟩ 1 (by decide) cw_179 (fun _ h9 => h9) dX3_hasLikes_18 (fun hv => ?_)
              obtain ⟨xr9, hxr9, hmxr9, hkxr9⟩ : ∃ a : Nat, tw_fv E a0 1 = .ref a ∧ a ∈ L ∧ kp a = 101 := hv
              rw [hxr9]
              refine lv_iload_n hx hb dX3_hasLikes_21 rfl (lv_at hl 1 rfl) ?_
              refine tw_iald (k := 101) (t0 := 0) (n := 40) (lo := (-1)) (hi := 9) hx hb hK TH hmxr9 hkxr9 (by decide) rfl rfl (i := y2_1) (vp_in_iff.mpr ⟨by  omega, by  omega⟩) dX3_hasLikes_22 (fun hxe10a hxe10b => ?_)
              obtain ⟨xe10, exe10⟩ : ∃ z : Int32, tw_iv E xr9 (Int32.toNatClampNeg y2_1) = z := ⟨_, rfl⟩
              rw [exe10] at hxe10a hxe10b ⊢
              refine lv_aload_n hx hb dX3_hasLikes_23 rfl (lv_at hl 2 rfl) ?_
              refine tw_get (ci := 3) (C := RX3) (T := TX3) (N := 3) hx hb hB cx_inX3 hown hK TH hm0 hk0 rfl ⟨by decide, rfl⟩ 1 (by decide) cw_179 (fun _ h9 => h9) dX3_hasLikes_24 (fun hv => ?_)
              rw [hxr9]
              refine lv_iload_n hx hb dX3_hasLikes_27 rfl (lv_at hl 0 rfl) ?_
              refine tw_iald (k := 101) (t0 := 0) (n := 40) (lo := (-1)) (hi := 9) hx hb hK TH hmxr9 hkxr9 (by decide) rfl rfl (i := y12_2) (vp_in_iff.mpr ⟨by  omega, by  omega⟩) dX3_hasLikes_28 (fun hxe11a hxe11b => ?_)
              obtain ⟨xe11, exe11⟩ : ∃ z : Int32, tw_iv E xr9 (Int32.toNatClampNeg y12_2) = z := ⟨_, rfl⟩
              rw [exe11] at hxe11a hxe11b ⊢
              have hJ50 : ∀  (H : Heap) (locs : List Loc) (ls : Array Slot), tw_H D cs kp L E A H → va_S A s.heap H locs → lv_has ls 3 [(2, .int y12_2), (1, .int y2_1), (0, .ref a0)] → W p l e { frames := 0, cells := 0, slots := 0, locals := 0 } s m [.ref a0].toArray below meth c H locs 0 0 (MQ below (tw_Q D cs kp0 L0 (fun v kq Lq Eq => (∃ x : Int32, v = some (.int x) ∧ 0 ≤ x.toInt ∧ x.toInt ≤ 1) ∧ kp = kq ∧ L = Lq ∧ E = Eq) A) [.ref a0].toArray s 0 0 A) (F0 m 50 ls []) := by
                intro H locs ls TH hS hl
                obtain ⟨zi12, ezi12⟩ : ∃ z : Int32, z = y12_2 + Int32.ofInt 1 := ⟨_, rfl⟩
                have hzi12 : zi12.toInt = y12_2.toInt + 1 := by rw [ezi12]; have : ((Int32.ofInt 1).toInt) = 1 := (by decide);  exact (ia_add (by omega) (by omega)).trans (by omega)
                refine lv_iinc (v := zi12) (lv' := [(2, .int zi12), (1, .int y2_1), (0, .ref a0)]) hx hb dX3_hasLikes_50 hl (k := 0) rfl ezi12.symm (by decide) rfl (fun ls hl => ?_)
                refine lv_goto (tgt := 12) hx hb dX3_hasLikes_53 (by decide) ?_
                exact ih12 (n12 - 1) (by   omega) zi12 _ _ ls (by omega) (by omega) (by   omega) TH hS (lv_sub hl [0, 1, 2] rfl)
              refine lv_icmp_ne (tgt := 50) hx hb dX3_hasLikes_29 (by decide) (fun hc13 => ?_) (fun hc13 => ?_)
              · have hf14 : ¬ (xe10.toInt = xe11.toInt) := fun q => hc13 ((fa_eq _ _).mpr (by  omega))
                exact hJ50  _ _ ls  TH hS (lv_sub hl [0, 1, 2] rfl)
              · have hf15 : xe10.toInt = xe11.toInt := by have z := (fa_eq _ _).mp hc13;  omega
                refine lv_aload_n hx hb dX3_hasLikes_32 rfl (lv_at hl 2 rfl) ?_
                refine tw_get (ci := 3) (C := RX3) (T := TX3) (N := 3) hx hb hB cx_inX3 hown hK TH hm0 hk0 rfl ⟨by decide, rfl⟩ 2 (by decide) cw_181 (fun _ h9 => h9) dX3_hasLikes_33 (fun hv => ?_)
                obtain ⟨xr16, hxr16, hmxr16, hkxr16⟩ : ∃ a : Nat, tw_fv E a0 2 = .ref a ∧ a ∈ L ∧ kp a = 102 := hv
                rw [hxr16]
                refine lv_iload_n hx hb dX3_hasLikes_36 rfl (lv_at hl 1 rfl) ?_
                refine tw_lald (k := 102) (n := 40) (lo := 0) (hi := 0) hx hb hK TH hmxr16 hkxr16 (by decide) rfl (i := y2_1) (vp_in_iff.mpr ⟨by  omega, by  omega⟩) dX3_hasLikes_37 (fun xl17 => ?_)
                refine lv_aload_n hx hb dX3_hasLikes_38 rfl (lv_at hl 2 rfl) ?_
                refine tw_get (ci := 3) (C := RX3) (T := TX3) (N := 3) hx hb hB cx_inX3 hown hK TH hm0 hk0 rfl ⟨by decide, rfl⟩ 2 (by decide) cw_181 (fun _ h9 => h9) dX3_hasLikes_39 (fun hv => ?_)
                rw [hxr16]
                refine lv_iload_n hx hb dX3_hasLikes_42 rfl (lv_at hl 0 rfl) ?_
                refine tw_lald (k := 102) (n := 40) (lo := 0) (hi := 0) hx hb hK TH hmxr16 hkxr16 (by decide) rfl (i := y12_2) (vp_in_iff.mpr ⟨by  omega, by  omega⟩) dX3_hasLikes_43 (fun xl18 => ?_)
                refine W.lcmp hx hb dX3_hasLikes_44 ?_
                have hzi19 := ia_lcmp xl17 xl18
                generalize lg_cmp xl17 xl18 = zi19 at hzi19 ⊢
                refine lv_if_ne (tgt := 50) hx hb dX3_hasLikes_45 (by decide) (fun hc20 => ?_) (fun hc20 => ?_)
                · have hf21 : ¬ (zi19.toInt = 0) := fun q => hc20 ((fa_eq _ _).mpr (by have : ((0 : Int32).toInt) = 0 := (by decide); omega))
                  exact hJ50  _ _ ls  TH hS (lv_sub hl [0, 1, 2] rfl)
                · have hf22 : zi19.toInt = 0 := by have z := (fa_eq _ _).mp hc20; have : ((0 : Int32).toInt) = 0 := (by decide); omega
                  refine lv_iconst (v := 1) hx hb dX3_hasLikes_48 (by decide) ?_
                  exact tw_zret hx hb hr hlocks (by decide) TH hS hex ⟨⟨_, rfl, (show 0 ≤ Int32.toInt 1 from by have : ((1 : Int32).toInt) = 1 := (by decide); omega), (show Int32.toInt 1 ≤ 1 from by have : ((1 : Int32).toInt) = 1 := (by decide); omega)⟩, rfl, rfl, rfl⟩ (Nat.le_of_ble_eq_true rfl) (Nat.le_of_ble_eq_true rfl) dX3_hasLikes_49
        exact hJ12 40 (0 : Int32) _ _ ls (by have : ((0 : Int32).toInt) = 0 := (by decide); omega) (by have : ((0 : Int32).toInt) = 0 := (by decide); omega) (by have : ((0 : Int32).toInt) = 0 := (by decide);  omega) TH hS (lv_sub hl [0, 1, 2] rfl)
  exact hJ2 40 (0 : Int32) _ _ ls (by have : ((0 : Int32).toInt) = 0 := (by decide); omega) (by have : ((0 : Int32).toInt) = 0 := (by decide); omega) (by have : ((0 : Int32).toInt) = 0 := (by decide);  omega) TH hS (lv_sub hl [0, 1] rfl)
set_option maxHeartbeats 4000000 in
set_option maxRecDepth 100000 in
theorem tX3_add (l : Launch) (D : va_G) (cs : Nat → ClassId) {kp : Nat → Nat} {L : List Nat} {E : Nat → va_E} (a0 : Nat) (x1 : Int32) (x2 : Int64) (hm0 : a0 ∈ L) (hk0 : kp a0 = 3) (hp1a : (-1) ≤ x1.toInt) (hp1b : x1.toInt ≤ 9) (sz : Nat) : Met l yX3_add (.code yX3_add cX3_add 4 none :: cx_big) { frames := 0, cells := 0, slots := 0, locals := 0 } (tw_P D cs kp L E [.ref a0, .int x1, .long x2] sz) (tw_Q D cs kp L (fun v kq Lq Eq => v = none ∧ kp = kq ∧ L = Lq ∧ tw_fr kp L [(3, 0)] [101, 102] E Eq) (va_A (va_pl L E) sz)) 0 0 (va_A (va_pl L E) sz) := by
  refine tw_ofW (by decide) (Nat.le_of_ble_eq_true rfl) ?_
  intro p e s m below meth c A ls hx hb hr hml hB hown hlocks hK hN hA TH hS hl
  have hown : s.vm.findClass "TreeMerge$Kids" = some m.cls := hown
  have hl : lv_has ls 4 [(0, .ref a0), (1, .int x1), (2, .long x2)] := hl
  obtain ⟨kp0, ekp⟩ : ∃ z, z = kp := ⟨_, rfl⟩
  obtain ⟨L0, eL⟩ : ∃ z, z = L := ⟨_, rfl⟩
  rw [show tw_Q D cs kp L = tw_Q D cs kp0 L0 by rw [ekp, eL]]
  have hex : ∀ a : Nat, a ∈ L0 → a ∈ L ∧ kp a = kp0 a := fun a h => ⟨by rw [← eL]; exact h, by rw [ekp]⟩
  have hF : tw_fr kp L [(3, 0)] [101, 102] E E := tw_fr.rf
  refine lv_aload_n hx hb dX3_add_0 rfl (lv_at hl 0 rfl) ?_
  refine tw_get (ci := 3) (C := RX3) (T := TX3) (N := 3) hx hb hB cx_inX3 hown hK TH hm0 hk0 rfl ⟨by decide, rfl⟩ 0 (by decide) cw_177 (fun _ h9 => h9) dX3_add_1 (fun hv => ?_)
  obtain ⟨xi1, hxi1, hxi1a, hxi1b⟩ : ∃ x : Int32, tw_fv E a0 0 = .int x ∧ 0 ≤ x.toInt ∧ x.toInt ≤ 40 := hv
  rw [hxi1]
  refine lv_bipush (v := 40) hx hb dX3_add_4 (by decide) ?_
  refine lv_icmp_ge (tgt := 39) hx hb dX3_add_6 (by decide) (fun hc2 => ?_) (fun hc2 => ?_)
  · have hf3 : 40 ≤ xi1.toInt := by have z := (fa_le _ _).mp hc2; have : ((40 : Int32).toInt) = 40 := (by decide); omega
    exact tw_vret hx hb hr hlocks TH hS hex ⟨rfl, rfl, rfl, hF⟩ (Nat.le_of_ble_eq_true rfl) (Nat.le_of_ble_eq_true rfl) dX3_add_39
  · have hf4 : ¬ (40 ≤ xi1.toInt) := fun q => hc2 ((fa_le _ _).mpr (by have : ((40 : Int32).toInt) = 40 := (by decide); omega))
    refine lv_aload_n hx hb dX3_add_9 rfl (lv_at hl 0 rfl) ?_
    refine tw_get (ci := 3) (C := RX3) (T := TX3) (N := 3) hx hb hB cx_inX3 hown hK TH hm0 hk0 rfl ⟨by decide, rfl⟩ 1 (by decide) cw_179 (fun _ h9 => h9) dX3_add_10 (fun hv => ?_)
    obtain ⟨xr5, hxr5, hmxr5, hkxr5⟩ : ∃ a : Nat, tw_fv E a0 1 = .ref a ∧ a ∈ L ∧ kp a = 101 := hv
    rw [hxr5]
    refine lv_aload_n hx hb dX3_add_13 rfl (lv_at hl 0 rfl) ?_
    refine tw_get (ci := 3) (C := RX3) (T := TX3) (N := 3) hx hb hB cx_inX3 hown hK TH hm0 hk0 rfl ⟨by decide, rfl⟩ 0 (by decide) cw_177 (fun _ h9 => h9) dX3_add_14 (fun hv => ?_)
    rw [hxi1]
    refine lv_iload_n hx hb dX3_add_17 rfl (lv_at hl 1 rfl) ?_
    refine tw_iast (k := 101) (n := 40) (lo := (-1)) (hi := 9) hx hb hK TH hS hmxr5 hkxr5 (by decide) rfl (i := xi1) (x := x1) (vp_in_iff.mpr ⟨by  omega, by  omega⟩) (by omega) (by omega) dX3_add_18 (fun H locs E6 TH hS hp7 hp8 hp9 => ?_)
    have hst10 : tw_fr kp L [] [101] E E6 := tw_fr.ast tw_fr.rf (fun _ => hkxr5) hp7 hp8 (by decide)
    have hF := hF.tr hst10 (fun _ h => ⟨h, rfl⟩) (by decide) (by decide)
    have hmf11 : tw_fv E6 a0 0 = .int xi1 := (hst10.1 a0 0 hm0 (by rw [hk0]; decide)).trans hxi1
    have hmf12 : tw_fv E6 a0 1 = .ref xr5 := (hst10.1 a0 1 hm0 (by rw [hk0]; decide)).trans hxr5
    refine lv_aload_n hx hb dX3_add_19 rfl (lv_at hl 0 rfl) ?_
    refine tw_get (ci := 3) (C := RX3) (T := TX3) (N := 3) hx hb hB cx_inX3 hown hK TH hm0 hk0 rfl ⟨by decide, rfl⟩ 2 (by decide) cw_181 (fun _ h9 => h9) dX3_add_20 (fun hv => ?_)
    obtain ⟨xr13, hxr13, hmxr13, hkxr13⟩ : ∃ a : Nat, tw_fv E6 a0 2 = .ref a ∧ a ∈ L ∧ kp a = 102 := hv
    rw [hxr13]
    refine lv_aload_n hx hb dX3_add_23 rfl (lv_at hl 0 rfl) ?_
    refine tw_get (ci := 3) (C := RX3) (T := TX3) (N := 3) hx hb hB cx_inX3 hown hK TH hm0 hk0 rfl ⟨by decide, rfl⟩ 0 (by decide) cw_177 (fun _ h9 => h9) dX3_add_24 (fun hv => ?_)
    rw [hmf11]
    refine lv_lload_n hx hb dX3_add_27 rfl (lv_at hl 2 rfl) ?_
    refine tw_last (k := 102) (n := 40) (lo := 0) (hi := 0) hx hb hK TH hS hmxr13 hkxr13 (by decide) rfl (i := xi1) (x := x2) (vp_in_iff.mpr ⟨by  omega, by  omega⟩) dX3_add_28 (fun H locs E14 TH hS hp15 hp16  => ?_)
    have hst17 : tw_fr kp L [] [102] E6 E14 := tw_fr.ast tw_fr.rf (fun _ => hkxr13) hp15 hp16 (by decide)
    have hF := hF.tr hst17 (fun _ h => ⟨h, rfl⟩) (by decide) (by decide)
    have hmf18 : tw_fv E14 a0 0 = .int xi1 := (hst17.1 a0 0 hm0 (by rw [hk0]; decide)).trans hmf11
    have hmf19 : tw_fv E14 a0 1 = .ref xr5 := (hst17.1 a0 1 hm0 (by rw [hk0]; decide)).trans hmf12
    have hmf20 : tw_fv E14 a0 2 = .ref xr13 := (hst17.1 a0 2 hm0 (by rw [hk0]; decide)).trans hxr13
    refine lv_aload_n hx hb dX3_add_29 rfl (lv_at hl 0 rfl) ?_
    refine lv_dup hx hb dX3_add_30 rfl ?_
    refine tw_get (ci := 3) (C := RX3) (T := TX3) (N := 3) hx hb hB cx_inX3 hown hK TH hm0 hk0 rfl ⟨by decide, rfl⟩ 0 (by decide) cw_177 (fun _ h9 => h9) dX3_add_31 (fun hv => ?_)
    rw [hmf18]
    refine lv_iconst (v := 1) hx hb dX3_add_34 (by decide) ?_
    refine lv_iadd hx hb dX3_add_35 ?_
    refine lv_topi (fun zi21 ezi21 => ?_)
    have hzi21 : zi21.toInt = xi1.toInt + 1 := by rw [ezi21]; have : ((1 : Int32).toInt) = 1 := (by decide); have := ia_lo xi1; have := ia_hi xi1; exact (ia_add (by omega) (by omega)).trans (by omega)
    refine tw_put (ci := 3) (v := .int zi21) (ty := .int) (C := RX3) (T := TX3) (N := 3) hx hb hB cx_inX3 tyX3 tyX3_ok nmX3 hown hK TH hS hm0 hk0 rfl ⟨by decide, rfl⟩ 0 (by decide) cw_177 (fun _ h9 => h9) rfl (by decide +kernel) rfl rfl ⟨_, rfl, (show 0 ≤ Int32.toInt zi21 from by  omega), (show Int32.toInt zi21 ≤ 40 from by  omega)⟩ dX3_add_36 (fun H locs E22 TH hS hmf26 hp23 hp24 => ?_)
    have hst25 : tw_fr kp L [(3, 0)] [] E14 E22 := tw_fr.put tw_fr.rf (fun _ => hk0) (by decide) hp23 hp24 (by decide)
    have hF := hF.tr hst25 (fun _ h => ⟨h, rfl⟩) (by decide) (by decide)
    have hmf27 : tw_fv E22 a0 1 = .ref xr5 := (hst25.1 a0 1 hm0 (by rw [hk0]; decide)).trans hmf19
    have hmf28 : tw_fv E22 a0 2 = .ref xr13 := (hst25.1 a0 2 hm0 (by rw [hk0]; decide)).trans hmf20
    exact tw_vret hx hb hr hlocks TH hS hex ⟨rfl, rfl, rfl, hF⟩ (Nat.le_of_ble_eq_true rfl) (Nat.le_of_ble_eq_true rfl) dX3_add_39
set_option maxHeartbeats 4000000 in
set_option maxRecDepth 100000 in
theorem tX10_clear (l : Launch) (D : va_G) (cs : Nat → ClassId) {kp : Nat → Nat} {L : List Nat} {E : Nat → va_E} (a0 : Nat) (hm0 : a0 ∈ L) (hk0 : kp a0 = 10) (sz : Nat) : Met l yX10_clear (.code yX10_clear cX10_clear 1 none :: cx_big) { frames := 0, cells := 0, slots := 0, locals := 0 } (tw_P D cs kp L E [.ref a0] sz) (tw_Q D cs kp L (fun v kq Lq Eq => v = none ∧ kp = kq ∧ L = Lq ∧ tw_fr kp L [(10, 0)] [] E Eq ∧ (∃ z0 : Int32, tw_fv Eq a0 0 = .int z0 ∧ (z0.toInt = 0))) (va_A (va_pl L E) sz)) 0 0 (va_A (va_pl L E) sz) := by
  refine tw_ofW (by decide) (Nat.le_of_ble_eq_true rfl) ?_
  intro p e s m below meth c A ls hx hb hr hml hB hown hlocks hK hN hA TH hS hl
  have hown : s.vm.findClass "TreeMerge$Tree" = some m.cls := hown
  have hl : lv_has ls 1 [(0, .ref a0)] := hl
  obtain ⟨kp0, ekp⟩ : ∃ z, z = kp := ⟨_, rfl⟩
  obtain ⟨L0, eL⟩ : ∃ z, z = L := ⟨_, rfl⟩
  rw [show tw_Q D cs kp L = tw_Q D cs kp0 L0 by rw [ekp, eL]]
  have hex : ∀ a : Nat, a ∈ L0 → a ∈ L ∧ kp a = kp0 a := fun a h => ⟨by rw [← eL]; exact h, by rw [ekp]⟩
  have hF : tw_fr kp L [(10, 0)] [] E E := tw_fr.rf
  refine lv_aload_n hx hb dX10_clear_0 rfl (lv_at hl 0 rfl) ?_
  refine lv_iconst (v := 0) hx hb dX10_clear_1 (by decide) ?_
  refine tw_put (ci := 10) (v := .int 0) (ty := .int) (C := RX10) (T := TX10) (N := 8) hx hb hB cx_inX10 tyX10 tyX10_ok nmX10 hown hK TH hS hm0 hk0 rfl ⟨by decide, rfl⟩ 0 (by decide) cw_116 (fun _ h9 => h9) rfl (by decide +kernel) rfl rfl ⟨_, rfl, (show 0 ≤ Int32.toInt 0 from by have : ((0 : Int32).toInt) = 0 := (by decide); omega), (show Int32.toInt 0 ≤ 40 from by have : ((0 : Int32).toInt) = 0 := (by decide); omega)⟩ dX10_clear_2 (fun H locs E1 TH hS hmf5 hp2 hp3 => ?_)
  have hst4 : tw_fr kp L [(10, 0)] [] E E1 := tw_fr.put tw_fr.rf (fun _ => hk0) (by decide) hp2 hp3 (by decide)
  have hF := hF.tr hst4 (fun _ h => ⟨h, rfl⟩) (by decide) (by decide)
  exact tw_vret hx hb hr hlocks TH hS hex ⟨rfl, rfl, rfl, hF, ⟨(0 : Int32), hmf5, by have : ((0 : Int32).toInt) = 0 := (by decide); omega⟩⟩ (Nat.le_of_ble_eq_true rfl) (Nat.le_of_ble_eq_true rfl) dX10_clear_5
set_option maxHeartbeats 4000000 in
set_option maxRecDepth 100000 in
theorem tX10_find (l : Launch) (D : va_G) (cs : Nat → ClassId) {kp : Nat → Nat} {L : List Nat} {E : Nat → va_E} (a0 : Nat) (x1 : Int32) (hm0 : a0 ∈ L) (hk0 : kp a0 = 10) (sz : Nat) : Met l yX10_find (.code yX10_find cX10_find 3 (some .int) :: cx_big) { frames := 0, cells := 0, slots := 0, locals := 0 } (tw_P D cs kp L E [.ref a0, .int x1] sz) (tw_Q D cs kp L (fun v kq Lq Eq => (∃ x : Int32, v = some (.int x) ∧ (-1) ≤ x.toInt ∧ x.toInt ≤ 39 ∧ (x.toInt ≠ -1 → -1 ≤ x1.toInt ∧ x1.toInt ≤ 149)) ∧ kp = kq ∧ L = Lq ∧ E = Eq) (va_A (va_pl L E) sz)) 0 0 (va_A (va_pl L E) sz) := by
  refine tw_ofW (by decide) (Nat.le_of_ble_eq_true rfl) ?_
  intro p e s m below meth c A ls hx hb hr hml hB hown hlocks hK hN hA TH hS hl
  have hown : s.vm.findClass "TreeMerge$Tree" = some m.cls := hown
  have hl : lv_has ls 3 [(0, .ref a0), (1, .int x1)] := hl
  obtain ⟨kp0, ekp⟩ : ∃ z, z = kp := ⟨_, rfl⟩
  obtain ⟨L0, eL⟩ : ∃ z, z = L := ⟨_, rfl⟩
  rw [show tw_Q D cs kp L = tw_Q D cs kp0 L0 by rw [ekp, eL]]
  have hex : ∀ a : Nat, a ∈ L0 → a ∈ L ∧ kp a = kp0 a := fun a h => ⟨by rw [← eL]; exact h, by rw [ekp]⟩
  refine lv_iconst (v := 0) hx hb dX10_find_0 (by decide) ?_
  refine lv_istore_n (lv' := [(2, .int 0), (0, .ref a0), (1, .int x1)]) hx hb dX10_find_1 rfl hl (by decide) rfl (fun ls hl => ?_)
  have hJ2 : ∀ (n2 : Nat) (y2_2 : Int32) (H : Heap) (locs : List Loc) (ls : Array Slot), 0 ≤ y2_2.toInt → y2_2.toInt ≤ 40 → 40 - y2_2.toInt ≤ (n2 : Int) → tw_H D cs kp L E A H → va_S A s.heap H locs → lv_has ls 3 [(2, .int y2_2), (0, .ref a0), (1, .int x1)] → W p l e { frames := 0, cells := 0, slots := 0, locals := 0 } s m [.ref a0, .int x1].toArray below meth c H locs 0 0 (MQ below (tw_Q D cs kp0 L0 (fun v kq Lq Eq => (∃ x : Int32, v = some (.int x) ∧ (-1) ≤ x.toInt ∧ x.toInt ≤ 39 ∧ (x.toInt ≠ -1 → -1 ≤ x1.toInt ∧ x1.toInt ≤ 149)) ∧ kp = kq ∧ L = Lq ∧ E = Eq) A) [.ref a0, .int x1].toArray s 0 0 A) (F0 m 2 ls []) := by
    intro n2
    induction n2 using Nat.strongRecOn with
    | _ n2 ih2 =>
      intro y2_2 H locs ls hy2_2a hy2_2b hmeas2 TH hS hl
      refine lv_iload_n hx hb dX10_find_2 rfl (lv_at hl 0 rfl) ?_
      refine lv_aload_n hx hb dX10_find_3 rfl (lv_at hl 1 rfl) ?_
      refine tw_get (ci := 10) (C := RX10) (T := TX10) (N := 8) hx hb hB cx_inX10 hown hK TH hm0 hk0 rfl ⟨by decide, rfl⟩ 0 (by decide) cw_116 (fun _ h9 => h9) dX10_find_4 (fun hv => ?_)
      obtain ⟨xi1, hxi1, hxi1a, hxi1b⟩ : ∃ x : Int32, tw_fv E a0 0 = .int x ∧ 0 ≤ x.toInt ∧ x.toInt ≤ 40 := hv
      rw [hxi1]
      refine lv_icmp_ge (tgt := 28) hx hb dX10_find_7 (by decide) (fun hc2 => ?_) (fun hc2 => ?_)
      · have hf3 : xi1.toInt ≤ y2_2.toInt := by have z := (fa_le _ _).mp hc2;  omega
        refine lv_iconst (v := (-1)) hx hb dX10_find_28 (by decide) ?_
        exact tw_iret hx hb hr hlocks TH hS hex ⟨⟨_, rfl, (show (-1) ≤ Int32.toInt (-1) from by have : (((-1) : Int32).toInt) = (-1) := (by decide); omega), (show Int32.toInt (-1) ≤ 39 from by have : (((-1) : Int32).toInt) = (-1) := (by decide); omega), (by have : (((-1) : Int32).toInt) = (-1) := (by decide); omega)⟩, rfl, rfl, rfl⟩ (Nat.le_of_ble_eq_true rfl) (Nat.le_of_ble_eq_true rfl) dX10_find_29
      · have hf4 : ¬ (xi1.toInt ≤ y2_2.toInt) := fun q => hc2 ((fa_le _ _).mpr (by  omega))
        refine lv_aload_n hx hb dX10_find_10 rfl (lv_at hl 1 rfl) ?_
        refine tw_get (ci := 10) (C := RX10) (T := TX10) (N := 8) hx hb hB cx_inX10 hown hK TH hm0 hk0 rfl ⟨by decide, rfl⟩ 1 (by decide) cw_122 (fun _ h9 => h9) dX10_find_11 (fun hv => ?_)
        obtain ⟨xr5, hxr5, hmxr5, hkxr5⟩ : ∃ a : Nat, tw_fv E a0 1 = .ref a ∧ a ∈ L ∧ kp a = 110 := hv
        rw [hxr5]
        refine lv_iload_n hx hb dX10_find_14 rfl (lv_at hl 0 rfl) ?_
        refine tw_iald (k := 110) (t0 := 0) (n := 40) (lo := (-1)) (hi := 149) hx hb hK TH hmxr5 hkxr5 (by decide) rfl rfl (i := y2_2) (vp_in_iff.mpr ⟨by  omega, by  omega⟩) dX10_find_15 (fun hxe6a hxe6b => ?_)
        obtain ⟨xe6, exe6⟩ : ∃ z : Int32, tw_iv E xr5 (Int32.toNatClampNeg y2_2) = z := ⟨_, rfl⟩
        rw [exe6] at hxe6a hxe6b ⊢
        refine lv_iload_n hx hb dX10_find_16 rfl (lv_at hl 2 rfl) ?_
        refine lv_icmp_ne (tgt := 22) hx hb dX10_find_17 (by decide) (fun hc7 => ?_) (fun hc7 => ?_)
        · have hf8 : ¬ (xe6.toInt = x1.toInt) := fun q => hc7 ((fa_eq _ _).mpr (by  omega))
          obtain ⟨zi9, ezi9⟩ : ∃ z : Int32, z = y2_2 + Int32.ofInt 1 := ⟨_, rfl⟩
          have hzi9 : zi9.toInt = y2_2.toInt + 1 := by rw [ezi9]; have : ((Int32.ofInt 1).toInt) = 1 := (by decide);  exact (ia_add (by omega) (by omega)).trans (by omega)
          refine lv_iinc (v := zi9) (lv' := [(2, .int zi9), (0, .ref a0), (1, .int x1)]) hx hb dX10_find_22 hl (k := 0) rfl ezi9.symm (by decide) rfl (fun ls hl => ?_)
          refine lv_goto (tgt := 2) hx hb dX10_find_25 (by decide) ?_
          exact ih2 (n2 - 1) (by   omega) zi9 _ _ ls (by omega) (by omega) (by   omega) TH hS (lv_sub hl [0, 1, 2] rfl)
        · have hf10 : xe6.toInt = x1.toInt := by have z := (fa_eq _ _).mp hc7;  omega
          refine lv_iload_n hx hb dX10_find_20 rfl (lv_at hl 0 rfl) ?_
          exact tw_iret hx hb hr hlocks TH hS hex ⟨⟨_, rfl, (show (-1) ≤ Int32.toInt y2_2 from by  omega), (show Int32.toInt y2_2 ≤ 39 from by  omega), (by  omega)⟩, rfl, rfl, rfl⟩ (Nat.le_of_ble_eq_true rfl) (Nat.le_of_ble_eq_true rfl) dX10_find_21
  exact hJ2 41 (0 : Int32) _ _ ls (by have : ((0 : Int32).toInt) = 0 := (by decide); omega) (by have : ((0 : Int32).toInt) = 0 := (by decide); omega) (by have : ((0 : Int32).toInt) = 0 := (by decide);  omega) TH hS (lv_sub hl [0, 1, 2] rfl)
set_option maxHeartbeats 4000000 in
set_option maxRecDepth 100000 in
theorem tX10_childCount (l : Launch) (D : va_G) (cs : Nat → ClassId) {kp : Nat → Nat} {L : List Nat} {E : Nat → va_E} (a0 : Nat) (x1 : Int32) (hm0 : a0 ∈ L) (hk0 : kp a0 = 10) (hp1a : 0 ≤ x1.toInt) (hp1b : x1.toInt ≤ 39) (sz : Nat) : Met l yX10_childCount (.code yX10_childCount cX10_childCount 4 (some .int) :: cx_big) { frames := 0, cells := 0, slots := 0, locals := 0 } (tw_P D cs kp L E [.ref a0, .int x1] sz) (tw_Q D cs kp L (fun v kq Lq Eq => (∃ x : Int32, v = some (.int x)) ∧ kp = kq ∧ L = Lq ∧ E = Eq) (va_A (va_pl L E) sz)) 0 0 (va_A (va_pl L E) sz) := by
  refine tw_ofW (by decide) (Nat.le_of_ble_eq_true rfl) ?_
  intro p e s m below meth c A ls hx hb hr hml hB hown hlocks hK hN hA TH hS hl
  have hown : s.vm.findClass "TreeMerge$Tree" = some m.cls := hown
  have hl : lv_has ls 4 [(0, .ref a0), (1, .int x1)] := hl
  obtain ⟨kp0, ekp⟩ : ∃ z, z = kp := ⟨_, rfl⟩
  obtain ⟨L0, eL⟩ : ∃ z, z = L := ⟨_, rfl⟩
  rw [show tw_Q D cs kp L = tw_Q D cs kp0 L0 by rw [ekp, eL]]
  have hex : ∀ a : Nat, a ∈ L0 → a ∈ L ∧ kp a = kp0 a := fun a h => ⟨by rw [← eL]; exact h, by rw [ekp]⟩
  refine lv_iconst (v := 0) hx hb dX10_childCount_0 (by decide) ?_
  refine lv_istore_n (lv' := [(2, .int 0), (0, .ref a0), (1, .int x1)]) hx hb dX10_childCount_1 rfl hl (by decide) rfl (fun ls hl => ?_)
  refine lv_iload_n hx hb dX10_childCount_2 rfl (lv_at hl 2 rfl) ?_
  refine lv_iconst (v := 1) hx hb dX10_childCount_3 (by decide) ?_
  refine lv_iadd hx hb dX10_childCount_4 ?_
  refine lv_topi (fun zi1 ezi1 => ?_)
  have hzi1 : zi1.toInt = x1.toInt + 1 := by rw [ezi1]; have : ((1 : Int32).toInt) = 1 := (by decide); have := ia_lo x1; have := ia_hi x1; exact (ia_add (by omega) (by omega)).trans (by omega)
  refine lv_istore_n (lv' := [(3, .int zi1), (2, .int 0), (0, .ref a0), (1, .int x1)]) hx hb dX10_childCount_5 rfl hl (by decide) rfl (fun ls hl => ?_)
  have hJ6 : ∀ (n6 : Nat) (y6_3 : Int32) (y6_2 : Int32) (H : Heap) (locs : List Loc) (ls : Array Slot), 1 ≤ y6_3.toInt → y6_3.toInt ≤ 40 → 40 - y6_3.toInt ≤ (n6 : Int) → tw_H D cs kp L E A H → va_S A s.heap H locs → lv_has ls 4 [(3, .int y6_3), (2, .int y6_2), (0, .ref a0), (1, .int x1)] → W p l e { frames := 0, cells := 0, slots := 0, locals := 0 } s m [.ref a0, .int x1].toArray below meth c H locs 0 0 (MQ below (tw_Q D cs kp0 L0 (fun v kq Lq Eq => (∃ x : Int32, v = some (.int x)) ∧ kp = kq ∧ L = Lq ∧ E = Eq) A) [.ref a0, .int x1].toArray s 0 0 A) (F0 m 6 ls []) := by
    intro n6
    induction n6 using Nat.strongRecOn with
    | _ n6 ih6 =>
      intro y6_3 y6_2 H locs ls hy6_3a hy6_3b hmeas6 TH hS hl
      refine lv_iload_n hx hb dX10_childCount_6 rfl (lv_at hl 0 rfl) ?_
      refine lv_aload_n hx hb dX10_childCount_7 rfl (lv_at hl 2 rfl) ?_
      refine tw_get (ci := 10) (C := RX10) (T := TX10) (N := 8) hx hb hB cx_inX10 hown hK TH hm0 hk0 rfl ⟨by decide, rfl⟩ 0 (by decide) cw_116 (fun _ h9 => h9) dX10_childCount_8 (fun hv => ?_)
      obtain ⟨xi2, hxi2, hxi2a, hxi2b⟩ : ∃ x : Int32, tw_fv E a0 0 = .int x ∧ 0 ≤ x.toInt ∧ x.toInt ≤ 40 := hv
      rw [hxi2]
      refine lv_icmp_ge (tgt := 33) hx hb dX10_childCount_11 (by decide) (fun hc3 => ?_) (fun hc3 => ?_)
      · have hf4 : xi2.toInt ≤ y6_3.toInt := by have z := (fa_le _ _).mp hc3;  omega
        refine lv_iload_n hx hb dX10_childCount_33 rfl (lv_at hl 1 rfl) ?_
        exact tw_iret hx hb hr hlocks TH hS hex ⟨⟨_, rfl⟩, rfl, rfl, rfl⟩ (Nat.le_of_ble_eq_true rfl) (Nat.le_of_ble_eq_true rfl) dX10_childCount_34
      · have hf5 : ¬ (xi2.toInt ≤ y6_3.toInt) := fun q => hc3 ((fa_le _ _).mpr (by  omega))
        refine lv_aload_n hx hb dX10_childCount_14 rfl (lv_at hl 2 rfl) ?_
        refine tw_get (ci := 10) (C := RX10) (T := TX10) (N := 8) hx hb hB cx_inX10 hown hK TH hm0 hk0 rfl ⟨by decide, rfl⟩ 3 (by decide) cw_130 (fun _ h9 => h9) dX10_childCount_15 (fun hv => ?_)
        obtain ⟨xr6, hxr6, hmxr6, hkxr6⟩ : ∃ a : Nat, tw_fv E a0 3 = .ref a ∧ a ∈ L ∧ kp a = 112 := hv
        rw [hxr6]
        refine lv_iload_n hx hb dX10_childCount_18 rfl (lv_at hl 0 rfl) ?_
        refine tw_iald (k := 112) (t0 := 0) (n := 40) (lo := (-1)) (hi := 39) hx hb hK TH hmxr6 hkxr6 (by decide) rfl rfl (i := y6_3) (vp_in_iff.mpr ⟨by  omega, by  omega⟩) dX10_childCount_19 (fun hxe7a hxe7b => ?_)
        obtain ⟨xe7, exe7⟩ : ∃ z : Int32, tw_iv E xr6 (Int32.toNatClampNeg y6_3) = z := ⟨_, rfl⟩
        rw [exe7] at hxe7a hxe7b ⊢
        refine lv_iload_n hx hb dX10_childCount_20 rfl (lv_at hl 3 rfl) ?_
        have hJ27 : ∀ (y27_2 : Int32) (H : Heap) (locs : List Loc) (ls : Array Slot), tw_H D cs kp L E A H → va_S A s.heap H locs → lv_has ls 4 [(3, .int y6_3), (2, .int y27_2), (0, .ref a0), (1, .int x1)] → W p l e { frames := 0, cells := 0, slots := 0, locals := 0 } s m [.ref a0, .int x1].toArray below meth c H locs 0 0 (MQ below (tw_Q D cs kp0 L0 (fun v kq Lq Eq => (∃ x : Int32, v = some (.int x)) ∧ kp = kq ∧ L = Lq ∧ E = Eq) A) [.ref a0, .int x1].toArray s 0 0 A) (F0 m 27 ls []) := by
          intro y27_2 H locs ls TH hS hl
          obtain ⟨zi8, ezi8⟩ : ∃ z : Int32, z = y6_3 + Int32.ofInt 1 := ⟨_, rfl⟩
          have hzi8 : zi8.toInt = y6_3.toInt + 1 := by rw [ezi8]; have : ((Int32.ofInt 1).toInt) = 1 := (by decide);  exact (ia_add (by omega) (by omega)).trans (by omega)
          refine lv_iinc (v := zi8) (lv' := [(3, .int zi8), (2, .int y27_2), (0, .ref a0), (1, .int x1)]) hx hb dX10_childCount_27 hl (k := 0) rfl ezi8.symm (by decide) rfl (fun ls hl => ?_)
          refine lv_goto (tgt := 6) hx hb dX10_childCount_30 (by decide) ?_
          exact ih6 (n6 - 1) (by   omega) zi8 y27_2 _ _ ls (by omega) (by omega) (by   omega) TH hS (lv_sub hl [0, 1, 2, 3] rfl)
        refine lv_icmp_ne (tgt := 27) hx hb dX10_childCount_21 (by decide) (fun hc9 => ?_) (fun hc9 => ?_)
        · have hf10 : ¬ (xe7.toInt = x1.toInt) := fun q => hc9 ((fa_eq _ _).mpr (by  omega))
          exact hJ27 y6_2 _ _ ls  TH hS (lv_sub hl [0, 1, 2, 3] rfl)
        · have hf11 : xe7.toInt = x1.toInt := by have z := (fa_eq _ _).mp hc9;  omega
          obtain ⟨zi12, ezi12⟩ : ∃ z : Int32, z = y6_2 + Int32.ofInt 1 := ⟨_, rfl⟩
          refine lv_iinc (v := zi12) (lv' := [(2, .int zi12), (3, .int y6_3), (0, .ref a0), (1, .int x1)]) hx hb dX10_childCount_24 hl (k := 1) rfl ezi12.symm (by decide) rfl (fun ls hl => ?_)
          exact hJ27 zi12 _ _ ls  TH hS (lv_sub hl [1, 0, 2, 3] rfl)
  exact hJ6 40 zi1 (0 : Int32) _ _ ls (by omega) (by omega) (by have : ((0 : Int32).toInt) = 0 := (by decide);  omega) TH hS (lv_sub hl [0, 1, 2, 3] rfl)
set_option maxHeartbeats 4000000 in
set_option maxRecDepth 100000 in
theorem tX10_placeOf (l : Launch) (D : va_G) (cs : Nat → ClassId) {kp : Nat → Nat} {L : List Nat} {E : Nat → va_E} (a0 : Nat) (x1 : Int32) (hm0 : a0 ∈ L) (hk0 : kp a0 = 10) (hp1a : 0 ≤ x1.toInt) (hp1b : x1.toInt ≤ 39) (sz : Nat) : Met l yX10_placeOf (.code yX10_placeOf cX10_placeOf 4 (some .int) :: cx_big) { frames := 0, cells := 0, slots := 0, locals := 0 } (tw_P D cs kp L E [.ref a0, .int x1] sz) (tw_Q D cs kp L (fun v kq Lq Eq => (∃ x : Int32, v = some (.int x)) ∧ kp = kq ∧ L = Lq ∧ E = Eq) (va_A (va_pl L E) sz)) 0 0 (va_A (va_pl L E) sz) := by
  refine tw_ofW (by decide) (Nat.le_of_ble_eq_true rfl) ?_
  intro p e s m below meth c A ls hx hb hr hml hB hown hlocks hK hN hA TH hS hl
  have hown : s.vm.findClass "TreeMerge$Tree" = some m.cls := hown
  have hl : lv_has ls 4 [(0, .ref a0), (1, .int x1)] := hl
  obtain ⟨kp0, ekp⟩ : ∃ z, z = kp := ⟨_, rfl⟩
  obtain ⟨L0, eL⟩ : ∃ z, z = L := ⟨_, rfl⟩
  rw [show tw_Q D cs kp L = tw_Q D cs kp0 L0 by rw [ekp, eL]]
  have hex : ∀ a : Nat, a ∈ L0 → a ∈ L ∧ kp a = kp0 a := fun a h => ⟨by rw [← eL]; exact h, by rw [ekp]⟩
  refine lv_iconst (v := 0) hx hb dX10_placeOf_0 (by decide) ?_
  refine lv_istore_n (lv' := [(2, .int 0), (0, .ref a0), (1, .int x1)]) hx hb dX10_placeOf_1 rfl hl (by decide) rfl (fun ls hl => ?_)
  refine lv_iconst (v := 1) hx hb dX10_placeOf_2 (by decide) ?_
  refine lv_istore_n (lv' := [(3, .int 1), (2, .int 0), (0, .ref a0), (1, .int x1)]) hx hb dX10_placeOf_3 rfl hl (by decide) rfl (fun ls hl => ?_)
  have hJ4 : ∀ (n4 : Nat) (y4_3 : Int32) (y4_2 : Int32) (H : Heap) (locs : List Loc) (ls : Array Slot), 1 ≤ y4_3.toInt → y4_3.toInt ≤ 40 → 40 - y4_3.toInt ≤ (n4 : Int) → tw_H D cs kp L E A H → va_S A s.heap H locs → lv_has ls 4 [(3, .int y4_3), (2, .int y4_2), (0, .ref a0), (1, .int x1)] → W p l e { frames := 0, cells := 0, slots := 0, locals := 0 } s m [.ref a0, .int x1].toArray below meth c H locs 0 0 (MQ below (tw_Q D cs kp0 L0 (fun v kq Lq Eq => (∃ x : Int32, v = some (.int x)) ∧ kp = kq ∧ L = Lq ∧ E = Eq) A) [.ref a0, .int x1].toArray s 0 0 A) (F0 m 4 ls []) := by
    intro n4
    induction n4 using Nat.strongRecOn with
    | _ n4 ih4 =>
      intro y4_3 y4_2 H locs ls hy4_3a hy4_3b hmeas4 TH hS hl
      refine lv_iload_n hx hb dX10_placeOf_4 rfl (lv_at hl 0 rfl) ?_
      refine lv_iload_n hx hb dX10_placeOf_5 rfl (lv_at hl 3 rfl) ?_
      refine lv_icmp_ge (tgt := 33) hx hb dX10_placeOf_6 (by decide) (fun hc1 => ?_) (fun hc1 => ?_)
      · have hf2 : x1.toInt ≤ y4_3.toInt := by have z := (fa_le _ _).mp hc1;  omega
        refine lv_iload_n hx hb dX10_placeOf_33 rfl (lv_at hl 1 rfl) ?_
        exact tw_iret hx hb hr hlocks TH hS hex ⟨⟨_, rfl⟩, rfl, rfl, rfl⟩ (Nat.le_of_ble_eq_true rfl) (Nat.le_of_ble_eq_true rfl) dX10_placeOf_34
      · have hf3 : ¬ (x1.toInt ≤ y4_3.toInt) := fun q => hc1 ((fa_le _ _).mpr (by  omega))
        refine lv_aload_n hx hb dX10_placeOf_9 rfl (lv_at hl 2 rfl) ?_
        refine tw_get (ci := 10) (C := RX10) (T := TX10) (N := 8) hx hb hB cx_inX10 hown hK TH hm0 hk0 rfl ⟨by decide, rfl⟩ 3 (by decide) cw_130 (fun _ h9 => h9) dX10_placeOf_10 (fun hv => ?_)
        obtain ⟨xr4, hxr4, hmxr4, hkxr4⟩ : ∃ a : Nat, tw_fv E a0 3 = .ref a ∧ a ∈ L ∧ kp a = 112 := hv
        rw [hxr4]
        refine lv_iload_n hx hb dX10_placeOf_13 rfl (lv_at hl 0 rfl) ?_
        refine tw_iald (k := 112) (t0 := 0) (n := 40) (lo := (-1)) (hi := 39) hx hb hK TH hmxr4 hkxr4 (by decide) rfl rfl (i := y4_3) (vp_in_iff.mpr ⟨by  omega, by  omega⟩) dX10_placeOf_14 (fun hxe5a hxe5b => ?_)
        obtain ⟨xe5, exe5⟩ : ∃ z : Int32, tw_iv E xr4 (Int32.toNatClampNeg y4_3) = z := ⟨_, rfl⟩
        rw [exe5] at hxe5a hxe5b ⊢
        refine lv_aload_n hx hb dX10_placeOf_15 rfl (lv_at hl 2 rfl) ?_
        refine tw_get (ci := 10) (C := RX10) (T := TX10) (N := 8) hx hb hB cx_inX10 hown hK TH hm0 hk0 rfl ⟨by decide, rfl⟩ 3 (by decide) cw_130 (fun _ h9 => h9) dX10_placeOf_16 (fun hv => ?_)
        rw [hxr4]
        refine lv_iload_n hx hb dX10_placeOf_19 rfl (lv_at hl 3 rfl) ?_
        refine tw_iald (k := 112) (t0 := 0) (n := 40) (lo := (-1)) (hi := 39) hx hb hK TH hmxr4 hkxr4 (by decide) rfl rfl (i := x1) (vp_in_iff.mpr ⟨by  omega, by  omega⟩) dX10_placeOf_20 (fun hxe6a hxe6b => ?_)
        obtain ⟨xe6, exe6⟩ : ∃ z : Int32, tw_iv E xr4 (Int32.toNatClampNeg x1) = z := ⟨_, rfl⟩
        rw [exe6] at hxe6a hxe6b ⊢
        have hJ27 : ∀ (y27_2 : Int32) (H : Heap) (locs : List Loc) (ls : Array Slot), tw_H D cs kp L E A H → va_S A s.heap H locs → lv_has ls 4 [(3, .int y4_3), (2, .int y27_2), (0, .ref a0), (1, .int x1)] → W p l e { frames := 0, cells := 0, slots := 0, locals := 0 } s m [.ref a0, .int x1].toArray below meth c H locs 0 0 (MQ below (tw_Q D cs kp0 L0 (fun v kq Lq Eq => (∃ x : Int32, v = some (.int x)) ∧ kp = kq ∧ L = Lq ∧ E = Eq) A) [.ref a0, .int x1].toArray s 0 0 A) (F0 m 27 ls []) := by
          intro y27_2 H locs ls TH hS hl
          obtain ⟨zi7, ezi7⟩ : ∃ z : Int32, z = y4_3 + Int32.ofInt 1 := ⟨_, rfl⟩
          have hzi7 : zi7.toInt = y4_3.toInt + 1 := by rw [ezi7]; have : ((Int32.ofInt 1).toInt) = 1 := (by decide);  exact (ia_add (by omega) (by omega)).trans (by omega)
          refine lv_iinc (v := zi7) (lv' := [(3, .int zi7), (2, .int y27_2), (0, .ref a0), (1, .int x1)]) hx hb dX10_placeOf_27 hl (k := 0) rfl ezi7.symm (by decide) rfl (fun ls hl => ?_)
          refine lv_goto (tgt := 4) hx hb dX10_placeOf_30 (by decide) ?_
          exact ih4 (n4 - 1) (by   omega) zi7 y27_2 _ _ ls (by omega) (by omega) (by   omega) TH hS (lv_sub hl [0, 1, 2, 3] rfl)
        refine lv_icmp_ne (tgt := 27) hx hb dX10_placeOf_21 (by decide) (fun hc8 => ?_) (fun hc8 => ?_)
        · have hf9 : ¬ (xe5.toInt = xe6.toInt) := fun q => hc8 ((fa_eq _ _).mpr (by  omega))
          exact hJ27 y4_2 _ _ ls  TH hS (lv_sub hl [0, 1, 2, 3] rfl)
        · have hf10 : xe5.toInt = xe6.toInt := by have z := (fa_eq _ _).mp hc8;  omega
          obtain ⟨zi11, ezi11⟩ : ∃ z : Int32, z = y4_2 + Int32.ofInt 1 := ⟨_, rfl⟩
          refine lv_iinc (v := zi11) (lv' := [(2, .int zi11), (3, .int y4_3), (0, .ref a0), (1, .int x1)]) hx hb dX10_placeOf_24 hl (k := 1) rfl ezi11.symm (by decide) rfl (fun ls hl => ?_)
          exact hJ27 zi11 _ _ ls  TH hS (lv_sub hl [1, 0, 2, 3] rfl)
  exact hJ4 40 (1 : Int32) (0 : Int32) _ _ ls (by have : ((1 : Int32).toInt) = 1 := (by decide); omega) (by have : ((1 : Int32).toInt) = 1 := (by decide); omega) (by have : ((0 : Int32).toInt) = 0 := (by decide); have : ((1 : Int32).toInt) = 1 := (by decide);  omega) TH hS (lv_sub hl [0, 1, 2, 3] rfl)
set_option maxHeartbeats 4000000 in
set_option maxRecDepth 100000 in
theorem tX10_extent (l : Launch) (D : va_G) (cs : Nat → ClassId) {kp : Nat → Nat} {L : List Nat} {E : Nat → va_E} (a0 : Nat) (x1 : Int32) (hm0 : a0 ∈ L) (hk0 : kp a0 = 10) (hp1a : 0 ≤ x1.toInt) (hp1b : x1.toInt ≤ 39) (sz : Nat) : Met l yX10_extent (.code yX10_extent cX10_extent 3 (some .int) :: cx_big) { frames := 0, cells := 0, slots := 0, locals := 0 } (tw_P D cs kp L E [.ref a0, .int x1] sz) (tw_Q D cs kp L (fun v kq Lq Eq => (∃ x : Int32, v = some (.int x) ∧ 1 ≤ x.toInt ∧ x.toInt ≤ 40 ∧ (x1.toInt + x.toInt ≤ 40) ∧ (xt_is E a0 x1.toInt x.toInt)) ∧ kp = kq ∧ L = Lq ∧ E = Eq) (va_A (va_pl L E) sz)) 0 0 (va_A (va_pl L E) sz) := by
  refine tw_ofW (by decide) (Nat.le_of_ble_eq_true rfl) ?_
  intro p e s m below meth c A ls hx hb hr hml hB hown hlocks hK hN hA TH hS hl
  have hown : s.vm.findClass "TreeMerge$Tree" = some m.cls := hown
  have hl : lv_has ls 3 [(0, .ref a0), (1, .int x1)] := hl
  obtain ⟨kp0, ekp⟩ : ∃ z, z = kp := ⟨_, rfl⟩
  obtain ⟨L0, eL⟩ : ∃ z, z = L := ⟨_, rfl⟩
  rw [show tw_Q D cs kp L = tw_Q D cs kp0 L0 by rw [ekp, eL]]
  have hex : ∀ a : Nat, a ∈ L0 → a ∈ L ∧ kp a = kp0 a := fun a h => ⟨by rw [← eL]; exact h, by rw [ekp]⟩
  refine lv_iload_n hx hb dX10_extent_0 rfl (lv_at hl 1 rfl) ?_
  refine lv_iconst (v := 1) hx hb dX10_extent_1 (by decide) ?_
  refine lv_iadd hx hb dX10_extent_2 ?_
  refine lv_topi (fun zi1 ezi1 => ?_)
  have hzi1 : zi1.toInt = x1.toInt + 1 := by rw [ezi1]; have : ((1 : Int32).toInt) = 1 := (by decide); have := ia_lo x1; have := ia_hi x1; exact (ia_add (by omega) (by omega)).trans (by omega)
  refine lv_istore_n (lv' := [(2, .int zi1), (0, .ref a0), (1, .int x1)]) hx hb dX10_extent_3 rfl hl (by decide) rfl (fun ls hl => ?_)
  have hJ4 : ∀ (n4 : Nat) (y4_2 : Int32) (H : Heap) (locs : List Loc) (ls : Array Slot), 1 ≤ y4_2.toInt → y4_2.toInt ≤ 40 → (x1.toInt + 1 ≤ y4_2.toInt) → (∀ k : Nat, x1.toInt < (k : Int) → (k : Int) < y4_2.toInt → (k : Int) < tw_fi E a0 0 ∧ tw_el E a0 4 (x1.toInt).toNat < tw_el E a0 4 k) → 40 - y4_2.toInt ≤ (n4 : Int) → tw_H D cs kp L E A H → va_S A s.heap H locs → lv_has ls 3 [(2, .int y4_2), (0, .ref a0), (1, .int x1)] → W p l e { frames := 0, cells := 0, slots := 0, locals := 0 } s m [.ref a0, .int x1].toArray below meth c H locs 0 0 (MQ below (tw_Q D cs kp0 L0 (fun v kq Lq Eq => (∃ x : Int32, v = some (.int x) ∧ 1 ≤ x.toInt ∧ x.toInt ≤ 40 ∧ (x1.toInt + x.toInt ≤ 40) ∧ (xt_is E a0 x1.toInt x.toInt)) ∧ kp = kq ∧ L = Lq ∧ E = Eq) A) [.ref a0, .int x1].toArray s 0 0 A) (F0 m 4 ls []) := by
    intro n4
    induction n4 using Nat.strongRecOn with
    | _ n4 ih4 =>
      intro y4_2 H locs ls hy4_2a hy4_2b hin4_0 hin4_1 hmeas4 TH hS hl
      refine lv_iload_n hx hb dX10_extent_4 rfl (lv_at hl 0 rfl) ?_
      refine lv_aload_n hx hb dX10_extent_5 rfl (lv_at hl 1 rfl) ?_
      refine tw_get (ci := 10) (C := RX10) (T := TX10) (N := 8) hx hb hB cx_inX10 hown hK TH hm0 hk0 rfl ⟨by decide, rfl⟩ 0 (by decide) cw_116 (fun _ h9 => h9) dX10_extent_6 (fun hv => ?_)
      obtain ⟨xi2, hxi2, hxi2a, hxi2b⟩ : ∃ x : Int32, tw_fv E a0 0 = .int x ∧ 0 ≤ x.toInt ∧ x.toInt ≤ 40 := hv
      rw [hxi2]
      refine lv_icmp_ge (tgt := 33) hx hb dX10_extent_9 (by decide) (fun hc3 => ?_) (fun hc3 => ?_)
      · have hf4 : xi2.toInt ≤ y4_2.toInt := by have z := (fa_le _ _).mp hc3;  omega
        refine lv_iload_n hx hb dX10_extent_33 rfl (lv_at hl 0 rfl) ?_
        refine lv_iload_n hx hb dX10_extent_34 rfl (lv_at hl 2 rfl) ?_
        refine lv_isub hx hb dX10_extent_35 ?_
        refine lv_topi (fun zi5 ezi5 => ?_)
        have hzi5 : zi5.toInt = y4_2.toInt - x1.toInt := by rw [ezi5];  have := ia_lo y4_2; have := ia_hi y4_2; have := ia_lo x1; have := ia_hi x1; exact (ia_sub (by omega) (by omega)).trans (by omega)
        exact tw_iret hx hb hr hlocks TH hS hex ⟨⟨_, rfl, (show 1 ≤ Int32.toInt zi5 from by  omega), (show Int32.toInt zi5 ≤ 40 from by  omega), (by  omega), (by  refine ⟨(show 1 ≤ Int32.toInt zi5 from by omega), fun k q1 q2 => hin4_1 k q1 (by have q3 : (k : Int) < x1.toInt + Int32.toInt zi5 := q2; omega), fun q => ?_⟩; have q1 : x1.toInt + Int32.toInt zi5 < tw_fi E a0 0 := q.1; have q2 : tw_el E a0 4 (x1.toInt).toNat < tw_el E a0 4 (x1.toInt + Int32.toInt zi5).toNat := q.2; rw [tw_fi_of hxi2] at q1; omega)⟩, rfl, rfl, rfl⟩ (Nat.le_of_ble_eq_true rfl) (Nat.le_of_ble_eq_true rfl) dX10_extent_36
      · have hf6 : ¬ (xi2.toInt ≤ y4_2.toInt) := fun q => hc3 ((fa_le _ _).mpr (by  omega))
        refine lv_aload_n hx hb dX10_extent_12 rfl (lv_at hl 1 rfl) ?_
        refine tw_get (ci := 10) (C := RX10) (T := TX10) (N := 8) hx hb hB cx_inX10 hown hK TH hm0 hk0 rfl ⟨by decide, rfl⟩ 4 (by decide) cw_135 (fun _ h9 => h9) dX10_extent_13 (fun hv => ?_)
        obtain ⟨xr7, hxr7, hmxr7, hkxr7⟩ : ∃ a : Nat, tw_fv E a0 4 = .ref a ∧ a ∈ L ∧ kp a = 113 := hv
        rw [hxr7]
        refine lv_iload_n hx hb dX10_extent_16 rfl (lv_at hl 0 rfl) ?_
        refine tw_iald (k := 113) (t0 := 0) (n := 40) (lo := 0) (hi := 40) hx hb hK TH hmxr7 hkxr7 (by decide) rfl rfl (i := y4_2) (vp_in_iff.mpr ⟨by  omega, by  omega⟩) dX10_extent_17 (fun hxe8a hxe8b => ?_)
        obtain ⟨xe8, exe8⟩ : ∃ z : Int32, tw_iv E xr7 (Int32.toNatClampNeg y4_2) = z := ⟨_, rfl⟩
        rw [exe8] at hxe8a hxe8b ⊢
        refine lv_aload_n hx hb dX10_extent_18 rfl (lv_at hl 1 rfl) ?_
        refine tw_get (ci := 10) (C := RX10) (T := TX10) (N := 8) hx hb hB cx_inX10 hown hK TH hm0 hk0 rfl ⟨by decide, rfl⟩ 4 (by decide) cw_135 (fun _ h9 => h9) dX10_extent_19 (fun hv => ?_)
        rw [hxr7]
        refine lv_iload_n hx hb dX10_extent_22 rfl (lv_at hl 2 rfl) ?_
        refine tw_iald (k := 113) (t0 := 0) (n := 40) (lo := 0) (hi := 40) hx hb hK TH hmxr7 hkxr7 (by decide) rfl rfl (i := x1) (vp_in_iff.mpr ⟨by  omega, by  omega⟩) dX10_extent_23 (fun hxe9a hxe9b => ?_)
        obtain ⟨xe9, exe9⟩ : ∃ z : Int32, tw_iv E xr7 (Int32.toNatClampNeg x1) = z := ⟨_, rfl⟩
        rw [exe9] at hxe9a hxe9b ⊢
        refine lv_icmp_le (tgt := 33) hx hb dX10_extent_24 (by decide) (fun hc10 => ?_) (fun hc10 => ?_)
        · have hf11 : xe8.toInt ≤ xe9.toInt := by have z := (fa_le _ _).mp hc10;  omega
          refine lv_iload_n hx hb dX10_extent_33 rfl (lv_at hl 0 rfl) ?_
          refine lv_iload_n hx hb dX10_extent_34 rfl (lv_at hl 2 rfl) ?_
          refine lv_isub hx hb dX10_extent_35 ?_
          refine lv_topi (fun zi12 ezi12 => ?_)
          have hzi12 : zi12.toInt = y4_2.toInt - x1.toInt := by rw [ezi12];  have := ia_lo y4_2; have := ia_hi y4_2; have := ia_lo x1; have := ia_hi x1; exact (ia_sub (by omega) (by omega)).trans (by omega)
          exact tw_iret hx hb hr hlocks TH hS hex ⟨⟨_, rfl, (show 1 ≤ Int32.toInt zi12 from by  omega), (show Int32.toInt zi12 ≤ 40 from by  omega), (by  omega), (by  refine ⟨(show 1 ≤ Int32.toInt zi12 from by omega), fun k q1 q2 => hin4_1 k q1 (by have q3 : (k : Int) < x1.toInt + Int32.toInt zi12 := q2; omega), fun q => ?_⟩; have q1 : x1.toInt + Int32.toInt zi12 < tw_fi E a0 0 := q.1; have q2 : tw_el E a0 4 (x1.toInt).toNat < tw_el E a0 4 (x1.toInt + Int32.toInt zi12).toNat := q.2; rw [tw_fi_of hxi2] at q1; have hn := ia_tn (i := y4_2) (by omega); rw [tw_el_of hxr7, tw_el_of hxr7, show (x1.toInt).toNat = Int32.toNatClampNeg x1 from rfl, show (x1.toInt + Int32.toInt zi12).toNat = Int32.toNatClampNeg y4_2 from by omega, exe9, exe8] at q2; omega)⟩, rfl, rfl, rfl⟩ (Nat.le_of_ble_eq_true rfl) (Nat.le_of_ble_eq_true rfl) dX10_extent_36
        · have hf13 : ¬ (xe8.toInt ≤ xe9.toInt) := fun q => hc10 ((fa_le _ _).mpr (by  omega))
          obtain ⟨zi14, ezi14⟩ : ∃ z : Int32, z = y4_2 + Int32.ofInt 1 := ⟨_, rfl⟩
          have hzi14 : zi14.toInt = y4_2.toInt + 1 := by rw [ezi14]; have : ((Int32.ofInt 1).toInt) = 1 := (by decide);  exact (ia_add (by omega) (by omega)).trans (by omega)
          refine lv_iinc (v := zi14) (lv' := [(2, .int zi14), (0, .ref a0), (1, .int x1)]) hx hb dX10_extent_27 hl (k := 0) rfl ezi14.symm (by decide) rfl (fun ls hl => ?_)
          refine lv_goto (tgt := 4) hx hb dX10_extent_30 (by decide) ?_
          exact ih4 (n4 - 1) (by   omega) zi14 _ _ ls (by omega) (by omega) (by  omega) (by  intro k q1 q2; by_cases hk : (k : Int) < y4_2.toInt; exact hin4_1 k q1 hk; have hn := ia_tn (i := y4_2) (by omega); have ek : k = Int32.toNatClampNeg y4_2 := (by omega); subst ek; rw [tw_fi_of hxi2, tw_el_of hxr7, tw_el_of hxr7, show (x1.toInt).toNat = Int32.toNatClampNeg x1 from rfl, exe8, exe9]; exact ⟨by omega, by omega⟩) (by   omega) TH hS (lv_sub hl [0, 1, 2] rfl)
  exact hJ4 40 zi1 _ _ ls (by omega) (by omega) (by  omega) (by  intro k q1 q2; exfalso; omega) (by   omega) TH hS (lv_sub hl [0, 1, 2] rfl)
set_option maxHeartbeats 4000000 in
set_option maxRecDepth 100000 in
theorem tX10_childIndex (l : Launch) (D : va_G) (cs : Nat → ClassId) {kp : Nat → Nat} {L : List Nat} {E : Nat → va_E} (a0 : Nat) (x1 : Int32) (x2 : Int32) (hm0 : a0 ∈ L) (hk0 : kp a0 = 10) (sz : Nat) : Met l yX10_childIndex (.code yX10_childIndex cX10_childIndex 5 (some .int) :: cx_big) { frames := 0, cells := 0, slots := 0, locals := 0 } (tw_P D cs kp L E [.ref a0, .int x1, .int x2] sz) (tw_Q D cs kp L (fun v kq Lq Eq => (∃ x : Int32, v = some (.int x) ∧ (-1) ≤ x.toInt ∧ x.toInt ≤ 40) ∧ kp = kq ∧ L = Lq ∧ E = Eq) (va_A (va_pl L E) sz)) 0 0 (va_A (va_pl L E) sz) := by
  refine tw_ofW (by decide) (Nat.le_of_ble_eq_true rfl) ?_
  intro p e s m below meth c A ls hx hb hr hml hB hown hlocks hK hN hA TH hS hl
  have hown : s.vm.findClass "TreeMerge$Tree" = some m.cls := hown
  have hl : lv_has ls 5 [(0, .ref a0), (1, .int x1), (2, .int x2)] := hl
  obtain ⟨kp0, ekp⟩ : ∃ z, z = kp := ⟨_, rfl⟩
  obtain ⟨L0, eL⟩ : ∃ z, z = L := ⟨_, rfl⟩
  rw [show tw_Q D cs kp L = tw_Q D cs kp0 L0 by rw [ekp, eL]]
  have hex : ∀ a : Nat, a ∈ L0 → a ∈ L ∧ kp a = kp0 a := fun a h => ⟨by rw [← eL]; exact h, by rw [ekp]⟩
  refine lv_iconst (v := 0) hx hb dX10_childIndex_0 (by decide) ?_
  refine lv_istore_n (lv' := [(3, .int 0), (0, .ref a0), (1, .int x1), (2, .int x2)]) hx hb dX10_childIndex_1 rfl hl (by decide) rfl (fun ls hl => ?_)
  refine lv_iconst (v := 0) hx hb dX10_childIndex_2 (by decide) ?_
  refine lv_istore (lv' := [(4, .int 0), (3, .int 0), (0, .ref a0), (1, .int x1), (2, .int x2)]) hx hb dX10_childIndex_3 hl (by decide) rfl (fun ls hl => ?_)
  have hJ5 : ∀ (n5 : Nat) (y5_4 : Int32) (y5_3 : Int32) (H : Heap) (locs : List Loc) (ls : Array Slot), 0 ≤ y5_4.toInt → y5_4.toInt ≤ 40 → 40 - y5_4.toInt ≤ (n5 : Int) → tw_H D cs kp L E A H → va_S A s.heap H locs → lv_has ls 5 [(4, .int y5_4), (3, .int y5_3), (0, .ref a0), (1, .int x1), (2, .int x2)] → W p l e { frames := 0, cells := 0, slots := 0, locals := 0 } s m [.ref a0, .int x1, .int x2].toArray below meth c H locs 0 0 (MQ below (tw_Q D cs kp0 L0 (fun v kq Lq Eq => (∃ x : Int32, v = some (.int x) ∧ (-1) ≤ x.toInt ∧ x.toInt ≤ 40) ∧ kp = kq ∧ L = Lq ∧ E = Eq) A) [.ref a0, .int x1, .int x2].toArray s 0 0 A) (F0 m 5 ls []) := by
    intro n5
    induction n5 using Nat.strongRecOn with
    | _ n5 ih5 =>
      intro y5_4 y5_3 H locs ls hy5_4a hy5_4b hmeas5 TH hS hl
      refine lv_iload hx hb dX10_childIndex_5 (lv_at hl 0 rfl) ?_
      refine lv_aload_n hx hb dX10_childIndex_7 rfl (lv_at hl 2 rfl) ?_
      refine tw_get (ci := 10) (C := RX10) (T := TX10) (N := 8) hx hb hB cx_inX10 hown hK TH hm0 hk0 rfl ⟨by decide, rfl⟩ 0 (by decide) cw_116 (fun _ h9 => h9) dX10_childIndex_8 (fun hv => ?_)
      obtain ⟨xi1, hxi1, hxi1a, hxi1b⟩ : ∃ x : Int32, tw_fv E a0 0 = .int x ∧ 0 ≤ x.toInt ∧ x.toInt ≤ 40 := hv
      rw [hxi1]
      refine lv_icmp_ge (tgt := 42) hx hb dX10_childIndex_11 (by decide) (fun hc2 => ?_) (fun hc2 => ?_)
      · have hf3 : xi1.toInt ≤ y5_4.toInt := by have z := (fa_le _ _).mp hc2;  omega
        refine lv_aload_n hx hb dX10_childIndex_42 rfl (lv_at hl 2 rfl) ?_
        refine tw_get (ci := 10) (C := RX10) (T := TX10) (N := 8) hx hb hB cx_inX10 hown hK TH hm0 hk0 rfl ⟨by decide, rfl⟩ 0 (by decide) cw_116 (fun _ h9 => h9) dX10_childIndex_43 (fun hv => ?_)
        rw [hxi1]
        exact tw_iret hx hb hr hlocks TH hS hex ⟨⟨_, rfl, (show (-1) ≤ Int32.toInt xi1 from by  omega), (show Int32.toInt xi1 ≤ 40 from by  omega)⟩, rfl, rfl, rfl⟩ (Nat.le_of_ble_eq_true rfl) (Nat.le_of_ble_eq_true rfl) dX10_childIndex_46
      · have hf4 : ¬ (xi1.toInt ≤ y5_4.toInt) := fun q => hc2 ((fa_le _ _).mpr (by  omega))
        refine lv_aload_n hx hb dX10_childIndex_14 rfl (lv_at hl 2 rfl) ?_
        refine tw_get (ci := 10) (C := RX10) (T := TX10) (N := 8) hx hb hB cx_inX10 hown hK TH hm0 hk0 rfl ⟨by decide, rfl⟩ 2 (by decide) cw_127 (fun _ h9 => h9) dX10_childIndex_15 (fun hv => ?_)
        obtain ⟨xr5, hxr5, hmxr5, hkxr5⟩ : ∃ a : Nat, tw_fv E a0 2 = .ref a ∧ a ∈ L ∧ kp a = 111 := hv
        rw [hxr5]
        refine lv_iload hx hb dX10_childIndex_18 (lv_at hl 0 rfl) ?_
        refine tw_iald (k := 111) (t0 := 0) (n := 40) (lo := (-1)) (hi := 149) hx hb hK TH hmxr5 hkxr5 (by decide) rfl rfl (i := y5_4) (vp_in_iff.mpr ⟨by  omega, by  omega⟩) dX10_childIndex_20 (fun hxe6a hxe6b => ?_)
        obtain ⟨xe6, exe6⟩ : ∃ z : Int32, tw_iv E xr5 (Int32.toNatClampNeg y5_4) = z := ⟨_, rfl⟩
        rw [exe6] at hxe6a hxe6b ⊢
        refine lv_iload_n hx hb dX10_childIndex_21 rfl (lv_at hl 3 rfl) ?_
        have hJ36 : ∀ (y36_3 : Int32) (H : Heap) (locs : List Loc) (ls : Array Slot), tw_H D cs kp L E A H → va_S A s.heap H locs → lv_has ls 5 [(4, .int y5_4), (3, .int y36_3), (0, .ref a0), (1, .int x1), (2, .int x2)] → W p l e { frames := 0, cells := 0, slots := 0, locals := 0 } s m [.ref a0, .int x1, .int x2].toArray below meth c H locs 0 0 (MQ below (tw_Q D cs kp0 L0 (fun v kq Lq Eq => (∃ x : Int32, v = some (.int x) ∧ (-1) ≤ x.toInt ∧ x.toInt ≤ 40) ∧ kp = kq ∧ L = Lq ∧ E = Eq) A) [.ref a0, .int x1, .int x2].toArray s 0 0 A) (F0 m 36 ls []) := by
          intro y36_3 H locs ls TH hS hl
          obtain ⟨zi7, ezi7⟩ : ∃ z : Int32, z = y5_4 + Int32.ofInt 1 := ⟨_, rfl⟩
          have hzi7 : zi7.toInt = y5_4.toInt + 1 := by rw [ezi7]; have : ((Int32.ofInt 1).toInt) = 1 := (by decide);  exact (ia_add (by omega) (by omega)).trans (by omega)
          refine lv_iinc (v := zi7) (lv' := [(4, .int zi7), (3, .int y36_3), (0, .ref a0), (1, .int x1), (2, .int x2)]) hx hb dX10_childIndex_36 hl (k := 0) rfl ezi7.symm (by decide) rfl (fun ls hl => ?_)
          refine lv_goto (tgt := 5) hx hb dX10_childIndex_39 (by decide) ?_
          exact ih5 (n5 - 1) (by   omega) zi7 y36_3 _ _ ls (by omega) (by omega) (by   omega) TH hS (lv_sub hl [0, 1, 2, 3, 4] rfl)
        refine lv_icmp_ne (tgt := 36) hx hb dX10_childIndex_22 (by decide) (fun hc8 => ?_) (fun hc8 => ?_)
        · have hf9 : ¬ (xe6.toInt = x1.toInt) := fun q => hc8 ((fa_eq _ _).mpr (by  omega))
          exact hJ36 y5_3 _ _ ls  TH hS (lv_sub hl [0, 1, 2, 3, 4] rfl)
        · have hf10 : xe6.toInt = x1.toInt := by have z := (fa_eq _ _).mp hc8;  omega
          refine lv_iload_n hx hb dX10_childIndex_25 rfl (lv_at hl 1 rfl) ?_
          refine lv_iload_n hx hb dX10_childIndex_26 rfl (lv_at hl 4 rfl) ?_
          refine lv_icmp_ne (tgt := 33) hx hb dX10_childIndex_27 (by decide) (fun hc11 => ?_) (fun hc11 => ?_)
          · have hf12 : ¬ (y5_3.toInt = x2.toInt) := fun q => hc11 ((fa_eq _ _).mpr (by  omega))
            obtain ⟨zi13, ezi13⟩ : ∃ z : Int32, z = y5_3 + Int32.ofInt 1 := ⟨_, rfl⟩
            refine lv_iinc (v := zi13) (lv' := [(3, .int zi13), (4, .int y5_4), (0, .ref a0), (1, .int x1), (2, .int x2)]) hx hb dX10_childIndex_33 hl (k := 1) rfl ezi13.symm (by decide) rfl (fun ls hl => ?_)
            exact hJ36 zi13 _ _ ls  TH hS (lv_sub hl [1, 0, 2, 3, 4] rfl)
          · have hf14 : y5_3.toInt = x2.toInt := by have z := (fa_eq _ _).mp hc11;  omega
            refine lv_iload hx hb dX10_childIndex_30 (lv_at hl 0 rfl) ?_
            exact tw_iret hx hb hr hlocks TH hS hex ⟨⟨_, rfl, (show (-1) ≤ Int32.toInt y5_4 from by  omega), (show Int32.toInt y5_4 ≤ 40 from by  omega)⟩, rfl, rfl, rfl⟩ (Nat.le_of_ble_eq_true rfl) (Nat.le_of_ble_eq_true rfl) dX10_childIndex_32
  exact hJ5 41 (0 : Int32) (0 : Int32) _ _ ls (by have : ((0 : Int32).toInt) = 0 := (by decide); omega) (by have : ((0 : Int32).toInt) = 0 := (by decide); omega) (by have : ((0 : Int32).toInt) = 0 := (by decide);  omega) TH hS (lv_sub hl [0, 1, 2, 3, 4] rfl)
set_option maxHeartbeats 4000000 in
set_option maxRecDepth 100000 in
theorem tX10_moveEntry (l : Launch) (D : va_G) (cs : Nat → ClassId) {kp : Nat → Nat} {L : List Nat} {E : Nat → va_E} (a0 : Nat) (x1 : Int32) (x2 : Int32) (hm0 : a0 ∈ L) (hk0 : kp a0 = 10) (hp1a : 0 ≤ x1.toInt) (hp1b : x1.toInt ≤ 39) (hp2a : 0 ≤ x2.toInt) (hp2b : x2.toInt ≤ 39) (sz : Nat) : Met l yX10_moveEntry (.code yX10_moveEntry cX10_moveEntry 3 none :: cx_big) { frames := 0, cells := 0, slots := 0, locals := 0 } (tw_P D cs kp L E [.ref a0, .int x1, .int x2] sz) (tw_Q D cs kp L (fun v kq Lq Eq => v = none ∧ kp = kq ∧ L = Lq ∧ tw_fr kp L [] [102, 110, 111, 114] E Eq) (va_A (va_pl L E) sz)) 0 0 (va_A (va_pl L E) sz) := by
  refine tw_ofW (by decide) (Nat.le_of_ble_eq_true rfl) ?_
  intro p e s m below meth c A ls hx hb hr hml hB hown hlocks hK hN hA TH hS hl
  have hown : s.vm.findClass "TreeMerge$Tree" = some m.cls := hown
  have hl : lv_has ls 3 [(0, .ref a0), (1, .int x1), (2, .int x2)] := hl
  obtain ⟨kp0, ekp⟩ : ∃ z, z = kp := ⟨_, rfl⟩
  obtain ⟨L0, eL⟩ : ∃ z, z = L := ⟨_, rfl⟩
  rw [show tw_Q D cs kp L = tw_Q D cs kp0 L0 by rw [ekp, eL]]
  have hex : ∀ a : Nat, a ∈ L0 → a ∈ L ∧ kp a = kp0 a := fun a h => ⟨by rw [← eL]; exact h, by rw [ekp]⟩
  have hF : tw_fr kp L [] [102, 110, 111, 114] E E := tw_fr.rf
  refine lv_aload_n hx hb dX10_moveEntry_0 rfl (lv_at hl 0 rfl) ?_
  refine tw_get (ci := 10) (C := RX10) (T := TX10) (N := 8) hx hb hB cx_inX10 hown hK TH hm0 hk0 rfl ⟨by decide, rfl⟩ 1 (by decide) cw_122 (fun _ h9 => h9) dX10_moveEntry_1 (fun hv => ?_)
  obtain ⟨xr1, hxr1, hmxr1, hkxr1⟩ : ∃ a : Nat, tw_fv E a0 1 = .ref a ∧ a ∈ L ∧ kp a = 110 := hv
  rw [hxr1]
  refine lv_iload_n hx hb dX10_moveEntry_4 rfl (lv_at hl 2 rfl) ?_
  refine lv_aload_n hx hb dX10_moveEntry_5 rfl (lv_at hl 0 rfl) ?_
  refine tw_get (ci := 10) (C := RX10) (T := TX10) (N := 8) hx hb hB cx_inX10 hown hK TH hm0 hk0 rfl ⟨by decide, rfl⟩ 1 (by decide) cw_122 (fun _ h9 => h9) dX10_moveEntry_6 (fun hv => ?_)
  rw [hxr1]
  refine lv_iload_n hx hb dX10_moveEntry_9 rfl (lv_at hl 1 rfl) ?_
  refine tw_iald (k := 110) (t0 := 0) (n := 40) (lo := (-1)) (hi := 149) hx hb hK TH hmxr1 hkxr1 (by decide) rfl rfl (i := x1) (vp_in_iff.mpr ⟨by  omega, by  omega⟩) dX10_moveEntry_10 (fun hxe2a hxe2b => ?_)
  obtain ⟨xe2, exe2⟩ : ∃ z : Int32, tw_iv E xr1 (Int32.toNatClampNeg x1) = z := ⟨_, rfl⟩
  rw [exe2] at hxe2a hxe2b ⊢
  refine tw_iast (k := 110) (n := 40) (lo := (-1)) (hi := 149) hx hb hK TH hS hmxr1 hkxr1 (by decide) rfl (i := x2) (x := xe2) (vp_in_iff.mpr ⟨by  omega, by  omega⟩) (by omega) (by omega) dX10_moveEntry_11 (fun H locs E3 TH hS hp4 hp5 hp6 => ?_)
  have hst7 : tw_fr kp L [] [110] E E3 := tw_fr.ast tw_fr.rf (fun _ => hkxr1) hp4 hp5 (by decide)
  have hF := hF.tr hst7 (fun _ h => ⟨h, rfl⟩) (by decide) (by decide)
  have hmf8 : tw_fv E3 a0 1 = .ref xr1 := (hst7.1 a0 1 hm0 (by rw [hk0]; decide)).trans hxr1
  refine lv_aload_n hx hb dX10_moveEntry_12 rfl (lv_at hl 0 rfl) ?_
  refine tw_get (ci := 10) (C := RX10) (T := TX10) (N := 8) hx hb hB cx_inX10 hown hK TH hm0 hk0 rfl ⟨by decide, rfl⟩ 2 (by decide) cw_127 (fun _ h9 => h9) dX10_moveEntry_13 (fun hv => ?_)
  obtain ⟨xr9, hxr9, hmxr9, hkxr9⟩ : ∃ a : Nat, tw_fv E3 a0 2 = .ref a ∧ a ∈ L ∧ kp a = 111 := hv
  rw [hxr9]
  refine lv_iload_n hx hb dX10_moveEntry_16 rfl (lv_at hl 2 rfl) ?_
  refine lv_aload_n hx hb dX10_moveEntry_17 rfl (lv_at hl 0 rfl) ?_
  refine tw_get (ci := 10) (C := RX10) (T := TX10) (N := 8) hx hb hB cx_inX10 hown hK TH hm0 hk0 rfl ⟨by decide, rfl⟩ 2 (by decide) cw_127 (fun _ h9 => h9) dX10_moveEntry_18 (fun hv => ?_)
  rw [hxr9]
  refine lv_iload_n hx hb dX10_moveEntry_21 rfl (lv_at hl 1 rfl) ?_
  refine tw_iald (k := 111) (t0 := 0) (n := 40) (lo := (-1)) (hi := 149) hx hb hK TH hmxr9 hkxr9 (by decide) rfl rfl (i := x1) (vp_in_iff.mpr ⟨by  omega, by  omega⟩) dX10_moveEntry_22 (fun hxe10a hxe10b => ?_)
  obtain ⟨xe10, exe10⟩ : ∃ z : Int32, tw_iv E3 xr9 (Int32.toNatClampNeg x1) = z := ⟨_, rfl⟩
  rw [exe10] at hxe10a hxe10b ⊢
  refine tw_iast (k := 111) (n := 40) (lo := (-1)) (hi := 149) hx hb hK TH hS hmxr9 hkxr9 (by decide) rfl (i := x2) (x := xe10) (vp_in_iff.mpr ⟨by  omega, by  omega⟩) (by omega) (by omega) dX10_moveEntry_23 (fun H locs E11 TH hS hp12 hp13 hp14 => ?_)
  have hst15 : tw_fr kp L [] [111] E3 E11 := tw_fr.ast tw_fr.rf (fun _ => hkxr9) hp12 hp13 (by decide)
  have hF := hF.tr hst15 (fun _ h => ⟨h, rfl⟩) (by decide) (by decide)
  have hmf16 : tw_fv E11 a0 1 = .ref xr1 := (hst15.1 a0 1 hm0 (by rw [hk0]; decide)).trans hmf8
  have hmf17 : tw_fv E11 a0 2 = .ref xr9 := (hst15.1 a0 2 hm0 (by rw [hk0]; decide)).trans hxr9
  refine lv_aload_n hx hb dX10_moveEntry_24 rfl (lv_at hl 0 rfl) ?_
  refine tw_get (ci := 10) (C := RX10) (T := TX10) (N := 8) hx hb hB cx_inX10 hown hK TH hm0 hk0 rfl ⟨by decide, rfl⟩ 5 (by decide) cw_138 (fun _ h9 => h9) dX10_moveEntry_25 (fun hv => ?_)
  obtain ⟨xr18, hxr18, hmxr18, hkxr18⟩ : ∃ a : Nat, tw_fv E11 a0 5 = .ref a ∧ a ∈ L ∧ kp a = 114 := hv
  rw [hxr18]
  refine lv_iload_n hx hb dX10_moveEntry_28 rfl (lv_at hl 2 rfl) ?_
  refine lv_aload_n hx hb dX10_moveEntry_29 rfl (lv_at hl 0 rfl) ?_
  refine tw_get (ci := 10) (C := RX10) (T := TX10) (N := 8) hx hb hB cx_inX10 hown hK TH hm0 hk0 rfl ⟨by decide, rfl⟩ 5 (by decide) cw_138 (fun _ h9 => h9) dX10_moveEntry_30 (fun hv => ?_)
  rw [hxr18]
  refine lv_iload_n hx hb dX10_moveEntry_33 rfl (lv_at hl 1 rfl) ?_
  refine tw_iald (k := 114) (t0 := 0) (n := 40) (lo := (-1)) (hi := 9) hx hb hK TH hmxr18 hkxr18 (by decide) rfl rfl (i := x1) (vp_in_iff.mpr ⟨by  omega, by  omega⟩) dX10_moveEntry_34 (fun hxe19a hxe19b => ?_)
  obtain ⟨xe19, exe19⟩ : ∃ z : Int32, tw_iv E11 xr18 (Int32.toNatClampNeg x1) = z := ⟨_, rfl⟩
  rw [exe19] at hxe19a hxe19b ⊢
  refine tw_iast (k := 114) (n := 40) (lo := (-1)) (hi := 9) hx hb hK TH hS hmxr18 hkxr18 (by decide) rfl (i := x2) (x := xe19) (vp_in_iff.mpr ⟨by  omega, by  omega⟩) (by omega) (by omega) dX10_moveEntry_35 (fun H locs E20 TH hS hp21 hp22 hp23 => ?_)
  have hst24 : tw_fr kp L [] [114] E11 E20 := tw_fr.ast tw_fr.rf (fun _ => hkxr18) hp21 hp22 (by decide)
  have hF := hF.tr hst24 (fun _ h => ⟨h, rfl⟩) (by decide) (by decide)
  have hmf25 : tw_fv E20 a0 1 = .ref xr1 := (hst24.1 a0 1 hm0 (by rw [hk0]; decide)).trans hmf16
  have hmf26 : tw_fv E20 a0 2 = .ref xr9 := (hst24.1 a0 2 hm0 (by rw [hk0]; decide)).trans hmf17
  have hmf27 : tw_fv E20 a0 5 = .ref xr18 := (hst24.1 a0 5 hm0 (by rw [hk0]; decide)).trans hxr18
  refine lv_aload_n hx hb dX10_moveEntry_36 rfl (lv_at hl 0 rfl) ?_
  refine tw_get (ci := 10) (C := RX10) (T := TX10) (N := 8) hx hb hB cx_inX10 hown hK TH hm0 hk0 rfl ⟨by decide, rfl⟩ 6 (by decide) cw_144 (fun _ h9 => h9) dX10_moveEntry_37 (fun hv => ?_)
  obtain ⟨xr28, hxr28, hmxr28, hkxr28⟩ : ∃ a : Nat, tw_fv E20 a0 6 = .ref a ∧ a ∈ L ∧ kp a = 102 := hv
  rw [hxr28]
  refine lv_iload_n hx hb dX10_moveEntry_40 rfl (lv_at hl 2 rfl) ?_
  refine lv_aload_n hx hb dX10_moveEntry_41 rfl (lv_at hl 0 rfl) ?_
  refine tw_get (ci := 10) (C := RX10) (T := TX10) (N := 8) hx hb hB cx_inX10 hown hK TH hm0 hk0 rfl ⟨by decide, rfl⟩ 6 (by decide) cw_144 (fun _ h9 => h9) dX10_moveEntry_42 (fun hv => ?_)
  rw [hxr28]
  refine lv_iload_n hx hb dX10_moveEntry_45 rfl (lv_at hl 1 rfl) ?_
  refine tw_lald (k := 102) (n := 40) (lo := 0) (hi := 0) hx hb hK TH hmxr28 hkxr28 (by decide) rfl (i := x1) (vp_in_iff.mpr ⟨by  omega, by  omega⟩) dX10_moveEntry_46 (fun xl29 => ?_)
  refine tw_last (k := 102) (n := 40) (lo := 0) (hi := 0) hx hb hK TH hS hmxr28 hkxr28 (by decide) rfl (i := x2) (x := xl29) (vp_in_iff.mpr ⟨by  omega, by  omega⟩) dX10_moveEntry_47 (fun H locs E30 TH hS hp31 hp32  => ?_)
  have hst33 : tw_fr kp L [] [102] E20 E30 := tw_fr.ast tw_fr.rf (fun _ => hkxr28) hp31 hp32 (by decide)
  have hF := hF.tr hst33 (fun _ h => ⟨h, rfl⟩) (by decide) (by decide)
  have hmf34 : tw_fv E30 a0 1 = .ref xr1 := (hst33.1 a0 1 hm0 (by rw [hk0]; decide)).trans hmf25
  have hmf35 : tw_fv E30 a0 2 = .ref xr9 := (hst33.1 a0 2 hm0 (by rw [hk0]; decide)).trans hmf26
  have hmf36 : tw_fv E30 a0 5 = .ref xr18 := (hst33.1 a0 5 hm0 (by rw [hk0]; decide)).trans hmf27
  have hmf37 : tw_fv E30 a0 6 = .ref xr28 := (hst33.1 a0 6 hm0 (by rw [hk0]; decide)).trans hxr28
  exact tw_vret hx hb hr hlocks TH hS hex ⟨rfl, rfl, rfl, hF⟩ (Nat.le_of_ble_eq_true rfl) (Nat.le_of_ble_eq_true rfl) dX10_moveEntry_48
set_option maxHeartbeats 4000000 in
set_option maxRecDepth 100000 in
theorem tX10_add (l : Launch) (D : va_G) (cs : Nat → ClassId) {kp : Nat → Nat} {L : List Nat} {E : Nat → va_E} (a0 : Nat) (x1 : Int32) (x2 : Int32) (x3 : Int32) (x4 : Int64) (fv0_0 : Int32) (hm0 : a0 ∈ L) (hk0 : kp a0 = 10) (hp1a : (-1) ≤ x1.toInt) (hp1b : x1.toInt ≤ 149) (hp2a : (-1) ≤ x2.toInt) (hp2b : x2.toInt ≤ 149) (hp3a : (-1) ≤ x3.toInt) (hp3b : x3.toInt ≤ 9) (hfv0_0 : tw_fv E a0 0 = .int fv0_0) (sz : Nat) : Met l yX10_add (.code yX10_add cX10_add 6 none :: cx_big) { frames := 0, cells := 0, slots := 0, locals := 0 } (tw_P D cs kp L E [.ref a0, .int x1, .int x2, .int x3, .long x4] sz) (tw_Q D cs kp L (fun v kq Lq Eq => v = none ∧ kp = kq ∧ L = Lq ∧ tw_fr kp L [(10, 0)] [102, 110, 111, 114] E Eq ∧ (∃ z0 : Int32, tw_fv Eq a0 0 = .int z0 ∧ (fv0_0.toInt < 40 → z0.toInt = fv0_0.toInt + 1))) (va_A (va_pl L E) sz)) 0 0 (va_A (va_pl L E) sz) := by
  refine tw_ofW (by decide) (Nat.le_of_ble_eq_true rfl) ?_
  intro p e s m below meth c A ls hx hb hr hml hB hown hlocks hK hN hA TH hS hl
  have hown : s.vm.findClass "TreeMerge$Tree" = some m.cls := hown
  have hl : lv_has ls 6 [(0, .ref a0), (1, .int x1), (2, .int x2), (3, .int x3), (4, .long x4)] := hl
  obtain ⟨kp0, ekp⟩ : ∃ z, z = kp := ⟨_, rfl⟩
  obtain ⟨L0, eL⟩ : ∃ z, z = L := ⟨_, rfl⟩
  rw [show tw_Q D cs kp L = tw_Q D cs kp0 L0 by rw [ekp, eL]]
  have hex : ∀ a : Nat, a ∈ L0 → a ∈ L ∧ kp a = kp0 a := fun a h => ⟨by rw [← eL]; exact h, by rw [ekp]⟩
  have hF : tw_fr kp L [(10, 0)] [102, 110, 111, 114] E E := tw_fr.rf
  obtain ⟨qfv0_0, hqfv0_0, hqfv0_0a, hqfv0_0b⟩ := tw_rd TH hm0 hk0 (by decide) (by decide) (k := 0) rfl
  have eqfv0_0 : qfv0_0 = fv0_0 := by have q := hqfv0_0.symm.trans hfv0_0; injection q
  rw [eqfv0_0] at hqfv0_0a hqfv0_0b
  refine lv_aload_n hx hb dX10_add_0 rfl (lv_at hl 0 rfl) ?_
  refine tw_get (ci := 10) (C := RX10) (T := TX10) (N := 8) hx hb hB cx_inX10 hown hK TH hm0 hk0 rfl ⟨by decide, rfl⟩ 0 (by decide) cw_116 (fun _ h9 => h9) dX10_add_1 (fun hv => ?_)
  rw [hfv0_0]
  refine lv_bipush (v := 40) hx hb dX10_add_4 (by decide) ?_
  refine lv_icmp_ge (tgt := 60) hx hb dX10_add_6 (by decide) (fun hc1 => ?_) (fun hc1 => ?_)
  · have hf2 : 40 ≤ fv0_0.toInt := by have z := (fa_le _ _).mp hc1; have : ((40 : Int32).toInt) = 40 := (by decide); omega
    exact tw_vret hx hb hr hlocks TH hS hex ⟨rfl, rfl, rfl, hF, ⟨fv0_0, hfv0_0, by  omega⟩⟩ (Nat.le_of_ble_eq_true rfl) (Nat.le_of_ble_eq_true rfl) dX10_add_60
  · have hf3 : ¬ (40 ≤ fv0_0.toInt) := fun q => hc1 ((fa_le _ _).mpr (by have : ((40 : Int32).toInt) = 40 := (by decide); omega))
    refine lv_aload_n hx hb dX10_add_9 rfl (lv_at hl 0 rfl) ?_
    refine tw_get (ci := 10) (C := RX10) (T := TX10) (N := 8) hx hb hB cx_inX10 hown hK TH hm0 hk0 rfl ⟨by decide, rfl⟩ 1 (by decide) cw_122 (fun _ h9 => h9) dX10_add_10 (fun hv => ?_)
    obtain ⟨xr4, hxr4, hmxr4, hkxr4⟩ : ∃ a : Nat, tw_fv E a0 1 = .ref a ∧ a ∈ L ∧ kp a = 110 := hv
    rw [hxr4]
    refine lv_aload_n hx hb dX10_add_13 rfl (lv_at hl 0 rfl) ?_
    refine tw_get (ci := 10) (C := RX10) (T := TX10) (N := 8) hx hb hB cx_inX10 hown hK TH hm0 hk0 rfl ⟨by decide, rfl⟩ 0 (by decide) cw_116 (fun _ h9 => h9) dX10_add_14 (fun hv => ?_)
    rw [hfv0_0]
    refine lv_iload_n hx hb dX10_add_17 rfl (lv_at hl 1 rfl) ?_
    refine tw_iast (k := 110) (n := 40) (lo := (-1)) (hi := 149) hx hb hK TH hS hmxr4 hkxr4 (by decide) rfl (i := fv0_0) (x := x1) (vp_in_iff.mpr ⟨by  omega, by  omega⟩) (by omega) (by omega) dX10_add_18 (fun H locs E5 TH hS hp6 hp7 hp8 => ?_)
    have hst9 : tw_fr kp L [] [110] E E5 := tw_fr.ast tw_fr.rf (fun _ => hkxr4) hp6 hp7 (by decide)
    have hF := hF.tr hst9 (fun _ h => ⟨h, rfl⟩) (by decide) (by decide)
    have hmf10 : tw_fv E5 a0 0 = .int fv0_0 := (hst9.1 a0 0 hm0 (by rw [hk0]; decide)).trans hfv0_0
    have hmf11 : tw_fv E5 a0 1 = .ref xr4 := (hst9.1 a0 1 hm0 (by rw [hk0]; decide)).trans hxr4
    refine lv_aload_n hx hb dX10_add_19 rfl (lv_at hl 0 rfl) ?_
    refine tw_get (ci := 10) (C := RX10) (T := TX10) (N := 8) hx hb hB cx_inX10 hown hK TH hm0 hk0 rfl ⟨by decide, rfl⟩ 2 (by decide) cw_127 (fun _ h9 => h9) dX10_add_20 (fun hv => ?_)
    obtain ⟨xr12, hxr12, hmxr12, hkxr12⟩ : ∃ a : Nat, tw_fv E5 a0 2 = .ref a ∧ a ∈ L ∧ kp a = 111 := hv
    rw [hxr12]
    refine lv_aload_n hx hb dX10_add_23 rfl (lv_at hl 0 rfl) ?_
    refine tw_get (ci := 10) (C := RX10) (T := TX10) (N := 8) hx hb hB cx_inX10 hown hK TH hm0 hk0 rfl ⟨by decide, rfl⟩ 0 (by decide) cw_116 (fun _ h9 => h9) dX10_add_24 (fun hv => ?_)
    rw [hmf10]
    refine lv_iload_n hx hb dX10_add_27 rfl (lv_at hl 2 rfl) ?_
    refine tw_iast (k := 111) (n := 40) (lo := (-1)) (hi := 149) hx hb hK TH hS hmxr12 hkxr12 (by decide) rfl (i := fv0_0) (x := x2) (vp_in_iff.mpr ⟨by  omega, by  omega⟩) (by omega) (by omega) dX10_add_28 (fun H locs E13 TH hS hp14 hp15 hp16 => ?_)
    have hst17 : tw_fr kp L [] [111] E5 E13 := tw_fr.ast tw_fr.rf (fun _ => hkxr12) hp14 hp15 (by decide)
    have hF := hF.tr hst17 (fun _ h => ⟨h, rfl⟩) (by decide) (by decide)
    have hmf18 : tw_fv E13 a0 0 = .int fv0_0 := (hst17.1 a0 0 hm0 (by rw [hk0]; decide)).trans hmf10
    have hmf19 : tw_fv E13 a0 1 = .ref xr4 := (hst17.1 a0 1 hm0 (by rw [hk0]; decide)).trans hmf11
    have hmf20 : tw_fv E13 a0 2 = .ref xr12 := (hst17.1 a0 2 hm0 (by rw [hk0]; decide)).trans hxr12
    refine lv_aload_n hx hb dX10_add_29 rfl (lv_at hl 0 rfl) ?_
    refine tw_get (ci := 10) (C := RX10) (T := TX10) (N := 8) hx hb hB cx_inX10 hown hK TH hm0 hk0 rfl ⟨by decide, rfl⟩ 5 (by decide) cw_138 (fun _ h9 => h9) dX10_add_30 (fun hv => ?_)
    obtain ⟨xr21, hxr21, hmxr21, hkxr21⟩ : ∃ a : Nat, tw_fv E13 a0 5 = .ref a ∧ a ∈ L ∧ kp a = 114 := hv
    rw [hxr21]
    refine lv_aload_n hx hb dX10_add_33 rfl (lv_at hl 0 rfl) ?_
    refine tw_get (ci := 10) (C := RX10) (T := TX10) (N := 8) hx hb hB cx_inX10 hown hK TH hm0 hk0 rfl ⟨by decide, rfl⟩ 0 (by decide) cw_116 (fun _ h9 => h9) dX10_add_34 (fun hv => ?_)
    rw [hmf18]
    refine lv_iload_n hx hb dX10_add_37 rfl (lv_at hl 3 rfl) ?_
    refine tw_iast (k := 114) (n := 40) (lo := (-1)) (hi := 9) hx hb hK TH hS hmxr21 hkxr21 (by decide) rfl (i := fv0_0) (x := x3) (vp_in_iff.mpr ⟨by  omega, by  omega⟩) (by omega) (by omega) dX10_add_38 (fun H locs E22 TH hS hp23 hp24 hp25 => ?_)
    have hst26 : tw_fr kp L [] [114] E13 E22 := tw_fr.ast tw_fr.rf (fun _ => hkxr21) hp23 hp24 (by decide)
    have hF := hF.tr hst26 (fun _ h => ⟨h, rfl⟩) (by decide) (by decide)
    have hmf27 : tw_fv E22 a0 0 = .int fv0_0 := (hst26.1 a0 0 hm0 (by rw [hk0]; decide)).trans hmf18
    have hmf28 : tw_fv E22 a0 1 = .ref xr4 := (hst26.1 a0 1 hm0 (by rw [hk0]; decide)).trans hmf19
    have hmf29 : tw_fv E22 a0 2 = .ref xr12 := (hst26.1 a0 2 hm0 (by rw [hk0]; decide)).trans hmf20
    have hmf30 : tw_fv E22 a0 5 = .ref xr21 := (hst26.1 a0 5 hm0 (by rw [hk0]; decide)).trans hxr21
    refine lv_aload_n hx hb dX10_add_39 rfl (lv_at hl 0 rfl) ?_
    refine tw_get (ci := 10) (C := RX10) (T := TX10) (N := 8) hx hb hB cx_inX10 hown hK TH hm0 hk0 rfl ⟨by decide, rfl⟩ 6 (by decide) cw_144 (fun _ h9 => h9) dX10_add_40 (fun hv => ?_)
    obtain ⟨xr31, hxr31, hmxr31, hkxr31⟩ : ∃ a : Nat, tw_fv E22 a0 6 = .ref a ∧ a ∈ L ∧ kp a = 102 := hv
    rw [hxr31]
    refine lv_aload_n hx hb dX10_add_43 rfl (lv_at hl 0 rfl) ?_
    refine tw_get (ci := 10) (C := RX10) (T := TX10) (N := 8) hx hb hB cx_inX10 hown hK TH hm0 hk0 rfl ⟨by decide, rfl⟩ 0 (by decide) cw_116 (fun _ h9 => h9) dX10_add_44 (fun hv => ?_)
    rw [hmf27]
    refine lv_lload hx hb dX10_add_47 (lv_at hl 4 rfl) ?_
    refine tw_last (k := 102) (n := 40) (lo := 0) (hi := 0) hx hb hK TH hS hmxr31 hkxr31 (by decide) rfl (i := fv0_0) (x := x4) (vp_in_iff.mpr ⟨by  omega, by  omega⟩) dX10_add_49 (fun H locs E32 TH hS hp33 hp34  => ?_)
    have hst35 : tw_fr kp L [] [102] E22 E32 := tw_fr.ast tw_fr.rf (fun _ => hkxr31) hp33 hp34 (by decide)
    have hF := hF.tr hst35 (fun _ h => ⟨h, rfl⟩) (by decide) (by decide)
    have hmf36 : tw_fv E32 a0 0 = .int fv0_0 := (hst35.1 a0 0 hm0 (by rw [hk0]; decide)).trans hmf27
    have hmf37 : tw_fv E32 a0 1 = .ref xr4 := (hst35.1 a0 1 hm0 (by rw [hk0]; decide)).trans hmf28
    have hmf38 : tw_fv E32 a0 2 = .ref xr12 := (hst35.1 a0 2 hm0 (by rw [hk0]; decide)).trans hmf29
    have hmf39 : tw_fv E32 a0 5 = .ref xr21 := (hst35.1 a0 5 hm0 (by rw [hk0]; decide)).trans hmf30
    have hmf40 : tw_fv E32 a0 6 = .ref xr31 := (hst35.1 a0 6 hm0 (by rw [hk0]; decide)).trans hxr31
    refine lv_aload_n hx hb dX10_add_50 rfl (lv_at hl 0 rfl) ?_
    refine lv_dup hx hb dX10_add_51 rfl ?_
    refine tw_get (ci := 10) (C := RX10) (T := TX10) (N := 8) hx hb hB cx_inX10 hown hK TH hm0 hk0 rfl ⟨by decide, rfl⟩ 0 (by decide) cw_116 (fun _ h9 => h9) dX10_add_52 (fun hv => ?_)
    rw [hmf36]
    refine lv_iconst (v := 1) hx hb dX10_add_55 (by decide) ?_
    refine lv_iadd hx hb dX10_add_56 ?_
    refine lv_topi (fun zi41 ezi41 => ?_)
    have hzi41 : zi41.toInt = fv0_0.toInt + 1 := by rw [ezi41]; have : ((1 : Int32).toInt) = 1 := (by decide); have := ia_lo fv0_0; have := ia_hi fv0_0; exact (ia_add (by omega) (by omega)).trans (by omega)
    refine tw_put (ci := 10) (v := .int zi41) (ty := .int) (C := RX10) (T := TX10) (N := 8) hx hb hB cx_inX10 tyX10 tyX10_ok nmX10 hown hK TH hS hm0 hk0 rfl ⟨by decide, rfl⟩ 0 (by decide) cw_116 (fun _ h9 => h9) rfl (by decide +kernel) rfl rfl ⟨_, rfl, (show 0 ≤ Int32.toInt zi41 from by  omega), (show Int32.toInt zi41 ≤ 40 from by  omega)⟩ dX10_add_57 (fun H locs E42 TH hS hmf46 hp43 hp44 => ?_)
    have hst45 : tw_fr kp L [(10, 0)] [] E32 E42 := tw_fr.put tw_fr.rf (fun _ => hk0) (by decide) hp43 hp44 (by decide)
    have hF := hF.tr hst45 (fun _ h => ⟨h, rfl⟩) (by decide) (by decide)
    have hmf47 : tw_fv E42 a0 1 = .ref xr4 := (hst45.1 a0 1 hm0 (by rw [hk0]; decide)).trans hmf37
    have hmf48 : tw_fv E42 a0 2 = .ref xr12 := (hst45.1 a0 2 hm0 (by rw [hk0]; decide)).trans hmf38
    have hmf49 : tw_fv E42 a0 5 = .ref xr21 := (hst45.1 a0 5 hm0 (by rw [hk0]; decide)).trans hmf39
    have hmf50 : tw_fv E42 a0 6 = .ref xr31 := (hst45.1 a0 6 hm0 (by rw [hk0]; decide)).trans hmf40
    exact tw_vret hx hb hr hlocks TH hS hex ⟨rfl, rfl, rfl, hF, ⟨zi41, hmf46, by  omega⟩⟩ (Nat.le_of_ble_eq_true rfl) (Nat.le_of_ble_eq_true rfl) dX10_add_60
set_option maxHeartbeats 4000000 in
set_option maxRecDepth 100000 in
theorem tX10_insert (l : Launch) (D : va_G) (cs : Nat → ClassId) {kp : Nat → Nat} {L : List Nat} {E : Nat → va_E} (a0 : Nat) (x1 : Int32) (x2 : Int32) (x3 : Int32) (x4 : Int32) (x5 : Int64) (hm0 : a0 ∈ L) (hk0 : kp a0 = 10) (hp2a : (-1) ≤ x2.toInt) (hp2b : x2.toInt ≤ 149) (hp3a : (-1) ≤ x3.toInt) (hp3b : x3.toInt ≤ 149) (hp4a : (-1) ≤ x4.toInt) (hp4b : x4.toInt ≤ 9) (sz : Nat) : Met l yX10_insert (.code yX10_insert cX10_insert 8 none :: cx_big) { frames := 1, cells := 0, slots := 0, locals := 22 } (tw_P D cs kp L E [.ref a0, .int x1, .int x2, .int x3, .int x4, .long x5] sz) (tw_Q D cs kp L (fun v kq Lq Eq => v = none ∧ kp = kq ∧ L = Lq ∧ tw_fr kp L [(10, 0)] [102, 110, 111, 114] E Eq) (va_A (va_pl L E) sz)) 0 0 (va_A (va_pl L E) sz) := by
  refine tw_ofW (by decide) (Nat.le_of_ble_eq_true rfl) ?_
  intro p e s m below meth c A ls hx hb hr hml hB hown hlocks hK hN hA TH hS hl
  have hown : s.vm.findClass "TreeMerge$Tree" = some m.cls := hown
  have hl : lv_has ls 8 [(0, .ref a0), (1, .int x1), (2, .int x2), (3, .int x3), (4, .int x4), (5, .long x5)] := hl
  obtain ⟨kp0, ekp⟩ : ∃ z, z = kp := ⟨_, rfl⟩
  obtain ⟨L0, eL⟩ : ∃ z, z = L := ⟨_, rfl⟩
  rw [show tw_Q D cs kp L = tw_Q D cs kp0 L0 by rw [ekp, eL]]
  have hex : ∀ a : Nat, a ∈ L0 → a ∈ L ∧ kp a = kp0 a := fun a h => ⟨by rw [← eL]; exact h, by rw [ekp]⟩
  have hF : tw_fr kp L [(10, 0)] [102, 110, 111, 114] E E := tw_fr.rf
  refine lv_iload_n hx hb dX10_insert_0 rfl (lv_at hl 1 rfl) ?_
  refine lv_if_lt (tgt := 21) hx hb dX10_insert_1 (by decide) (fun hc1 => ?_) (fun hc1 => ?_)
  · have hf2 : x1.toInt < 0 := by have z := (fa_lt _ _).mp hc1; have : ((0 : Int32).toInt) = 0 := (by decide); omega
    exact tw_vret hx hb hr hlocks TH hS hex ⟨rfl, rfl, rfl, hF⟩ (Nat.le_of_ble_eq_true rfl) (Nat.le_of_ble_eq_true rfl) dX10_insert_21
  · have hf3 : ¬ (x1.toInt < 0) := fun q => hc1 ((fa_lt _ _).mpr (by have : ((0 : Int32).toInt) = 0 := (by decide); omega))
    refine lv_iload_n hx hb dX10_insert_4 rfl (lv_at hl 1 rfl) ?_
    refine lv_aload_n hx hb dX10_insert_5 rfl (lv_at hl 0 rfl) ?_
    refine tw_get (ci := 10) (C := RX10) (T := TX10) (N := 8) hx hb hB cx_inX10 hown hK TH hm0 hk0 rfl ⟨by decide, rfl⟩ 0 (by decide) cw_116 (fun _ h9 => h9) dX10_insert_6 (fun hv => ?_)
    obtain ⟨xi4, hxi4, hxi4a, hxi4b⟩ : ∃ x : Int32, tw_fv E a0 0 = .int x ∧ 0 ≤ x.toInt ∧ x.toInt ≤ 40 := hv
    rw [hxi4]
    refine lv_icmp_gt (tgt := 21) hx hb dX10_insert_9 (by decide) (fun hc5 => ?_) (fun hc5 => ?_)
    · have hf6 : xi4.toInt < x1.toInt := by have z := (fa_lt _ _).mp hc5;  omega
      exact tw_vret hx hb hr hlocks TH hS hex ⟨rfl, rfl, rfl, hF⟩ (Nat.le_of_ble_eq_true rfl) (Nat.le_of_ble_eq_true rfl) dX10_insert_21
    · have hf7 : ¬ (xi4.toInt < x1.toInt) := fun q => hc5 ((fa_lt _ _).mpr (by  omega))
      refine lv_aload_n hx hb dX10_insert_12 rfl (lv_at hl 0 rfl) ?_
      refine tw_get (ci := 10) (C := RX10) (T := TX10) (N := 8) hx hb hB cx_inX10 hown hK TH hm0 hk0 rfl ⟨by decide, rfl⟩ 0 (by decide) cw_116 (fun _ h9 => h9) dX10_insert_13 (fun hv => ?_)
      rw [hxi4]
      refine lv_bipush (v := 40) hx hb dX10_insert_16 (by decide) ?_
      refine lv_icmp_lt (tgt := 22) hx hb dX10_insert_18 (by decide) (fun hc8 => ?_) (fun hc8 => ?_)
      · have hf9 : xi4.toInt < 40 := by have z := (fa_lt _ _).mp hc8; have : ((40 : Int32).toInt) = 40 := (by decide); omega
        refine lv_aload_n hx hb dX10_insert_22 rfl (lv_at hl 0 rfl) ?_
        refine tw_get (ci := 10) (C := RX10) (T := TX10) (N := 8) hx hb hB cx_inX10 hown hK TH hm0 hk0 rfl ⟨by decide, rfl⟩ 0 (by decide) cw_116 (fun _ h9 => h9) dX10_insert_23 (fun hv => ?_)
        rw [hxi4]
        refine lv_istore (lv' := [(7, .int xi4), (0, .ref a0), (1, .int x1), (2, .int x2), (3, .int x3), (4, .int x4), (5, .long x5)]) hx hb dX10_insert_26 hl (by decide) rfl (fun ls hl => ?_)
        have hJ28 : ∀ (n28 : Nat) (y28_7 : Int32) (Eg28 : Nat → va_E) (H : Heap) (locs : List Loc) (ls : Array Slot), 0 ≤ y28_7.toInt → y28_7.toInt ≤ 39 → y28_7.toInt - 0 ≤ (n28 : Int) → tw_fr kp L [] [102, 110, 111, 114] E Eg28 → tw_H D cs kp L Eg28 A H → va_S A s.heap H locs → lv_has ls 8 [(7, .int y28_7), (0, .ref a0), (1, .int x1), (2, .int x2), (3, .int x3), (4, .int x4), (5, .long x5)] → W p l e { frames := 1, cells := 0, slots := 0, locals := 22 } s m [.ref a0, .int x1, .int x2, .int x3, .int x4, .long x5].toArray below meth c H locs 0 0 (MQ below (tw_Q D cs kp0 L0 (fun v kq Lq Eq => v = none ∧ kp = kq ∧ L = Lq ∧ tw_fr kp L [(10, 0)] [102, 110, 111, 114] E Eq) A) [.ref a0, .int x1, .int x2, .int x3, .int x4, .long x5].toArray s 0 0 A) (F0 m 28 ls []) := by
          intro n28
          induction n28 using Nat.strongRecOn with
          | _ n28 ih28 =>
            intro y28_7 Eg28 H locs ls hy28_7a hy28_7b hmeas28 hG28 TH hS hl
            have hF := hF.tr hG28 (fun _ h => ⟨h, rfl⟩) (by decide) (by decide)
            have hmf10 : tw_fv Eg28 a0 0 = .int xi4 := (hG28.1 a0 0 hm0 (by rw [hk0]; decide)).trans hxi4
            refine lv_iload hx hb dX10_insert_28 (lv_at hl 0 rfl) ?_
            refine lv_iload_n hx hb dX10_insert_30 rfl (lv_at hl 2 rfl) ?_
            refine lv_icmp_le (tgt := 50) hx hb dX10_insert_31 (by decide) (fun hc11 => ?_) (fun hc11 => ?_)
            · have hf12 : y28_7.toInt ≤ x1.toInt := by have z := (fa_le _ _).mp hc11;  omega
              refine lv_aload_n hx hb dX10_insert_50 rfl (lv_at hl 1 rfl) ?_
              refine tw_get (ci := 10) (C := RX10) (T := TX10) (N := 8) hx hb hB cx_inX10 hown hK TH hm0 hk0 rfl ⟨by decide, rfl⟩ 1 (by decide) cw_122 (fun _ h9 => h9) dX10_insert_51 (fun hv => ?_)
              obtain ⟨xr13, hxr13, hmxr13, hkxr13⟩ : ∃ a : Nat, tw_fv Eg28 a0 1 = .ref a ∧ a ∈ L ∧ kp a = 110 := hv
              rw [hxr13]
              refine lv_iload_n hx hb dX10_insert_54 rfl (lv_at hl 2 rfl) ?_
              refine lv_iload_n hx hb dX10_insert_55 rfl (lv_at hl 3 rfl) ?_
              refine tw_iast (k := 110) (n := 40) (lo := (-1)) (hi := 149) hx hb hK TH hS hmxr13 hkxr13 (by decide) rfl (i := x1) (x := x2) (vp_in_iff.mpr ⟨by  omega, by  omega⟩) (by omega) (by omega) dX10_insert_56 (fun H locs E14 TH hS hp15 hp16 hp17 => ?_)
              have hst18 : tw_fr kp L [] [110] Eg28 E14 := tw_fr.ast tw_fr.rf (fun _ => hkxr13) hp15 hp16 (by decide)
              have hF := hF.tr hst18 (fun _ h => ⟨h, rfl⟩) (by decide) (by decide)
              have hG28 := hG28.tr hst18 (fun _ h => ⟨h, rfl⟩) (by decide) (by decide)
              have hmf19 : tw_fv E14 a0 0 = .int xi4 := (hst18.1 a0 0 hm0 (by rw [hk0]; decide)).trans hmf10
              have hmf20 : tw_fv E14 a0 1 = .ref xr13 := (hst18.1 a0 1 hm0 (by rw [hk0]; decide)).trans hxr13
              refine lv_aload_n hx hb dX10_insert_57 rfl (lv_at hl 1 rfl) ?_
              refine tw_get (ci := 10) (C := RX10) (T := TX10) (N := 8) hx hb hB cx_inX10 hown hK TH hm0 hk0 rfl ⟨by decide, rfl⟩ 2 (by decide) cw_127 (fun _ h9 => h9) dX10_insert_58 (fun hv => ?_)
              obtain ⟨xr21, hxr21, hmxr21, hkxr21⟩ : ∃ a : Nat, tw_fv E14 a0 2 = .ref a ∧ a ∈ L ∧ kp a = 111 := hv
              rw [hxr21]
              refine lv_iload_n hx hb dX10_insert_61 rfl (lv_at hl 2 rfl) ?_
              refine lv_iload_n hx hb dX10_insert_62 rfl (lv_at hl 4 rfl) ?_
              refine tw_iast (k := 111) (n := 40) (lo := (-1)) (hi := 149) hx hb hK TH hS hmxr21 hkxr21 (by decide) rfl (i := x1) (x := x3) (vp_in_iff.mpr ⟨by  omega, by  omega⟩) (by omega) (by omega) dX10_insert_63 (fun H locs E22 TH hS hp23 hp24 hp25 => ?_)
              have hst26 : tw_fr kp L [] [111] E14 E22 := tw_fr.ast tw_fr.rf (fun _ => hkxr21) hp23 hp24 (by decide)
              have hF := hF.tr hst26 (fun _ h => ⟨h, rfl⟩) (by decide) (by decide)
              have hG28 := hG28.tr hst26 (fun _ h => ⟨h, rfl⟩) (by decide) (by decide)
              have hmf27 : tw_fv E22 a0 0 = .int xi4 := (hst26.1 a0 0 hm0 (by rw [hk0]; decide)).trans hmf19
              have hmf28 : tw_fv E22 a0 1 = .ref xr13 := (hst26.1 a0 1 hm0 (by rw [hk0]; decide)).trans hmf20
              have hmf29 : tw_fv E22 a0 2 = .ref xr21 := (hst26.1 a0 2 hm0 (by rw [hk0]; decide)).trans hxr21
              refine lv_aload_n hx hb dX10_insert_64 rfl (lv_at hl 1 rfl) ?_
              refine tw_get (ci := 10) (C := RX10) (T := TX10) (N := 8) hx hb hB cx_inX10 hown hK TH hm0 hk0 rfl ⟨by decide, rfl⟩ 5 (by decide) cw_138 (fun _ h9 => h9) dX10_insert_65 (fun hv => ?_)
              obtain ⟨xr30, hxr30, hmxr30, hkxr30⟩ : ∃ a : Nat, tw_fv E22 a0 5 = .ref a ∧ a ∈ L ∧ kp a = 114 := hv
              rw [hxr30]
              refine lv_iload_n hx hb dX10_insert_68 rfl (lv_at hl 2 rfl) ?_
              refine lv_iload hx hb dX10_insert_69 (lv_at hl 5 rfl) ?_
              refine tw_iast (k := 114) (n := 40) (lo := (-1)) (hi := 9) hx hb hK TH hS hmxr30 hkxr30 (by decide) rfl (i := x1) (x := x4) (vp_in_iff.mpr ⟨by  omega, by  omega⟩) (by omega) (by omega) dX10_insert_71 (fun H locs E31 TH hS hp32 hp33 hp34 => ?_)
              have hst35 : tw_fr kp L [] [114] E22 E31 := tw_fr.ast tw_fr.rf (fun _ => hkxr30) hp32 hp33 (by decide)
              have hF := hF.tr hst35 (fun _ h => ⟨h, rfl⟩) (by decide) (by decide)
              have hG28 := hG28.tr hst35 (fun _ h => ⟨h, rfl⟩) (by decide) (by decide)
              have hmf36 : tw_fv E31 a0 0 = .int xi4 := (hst35.1 a0 0 hm0 (by rw [hk0]; decide)).trans hmf27
              have hmf37 : tw_fv E31 a0 1 = .ref xr13 := (hst35.1 a0 1 hm0 (by rw [hk0]; decide)).trans hmf28
              have hmf38 : tw_fv E31 a0 2 = .ref xr21 := (hst35.1 a0 2 hm0 (by rw [hk0]; decide)).trans hmf29
              have hmf39 : tw_fv E31 a0 5 = .ref xr30 := (hst35.1 a0 5 hm0 (by rw [hk0]; decide)).trans hxr30
              refine lv_aload_n hx hb dX10_insert_72 rfl (lv_at hl 1 rfl) ?_
              refine tw_get (ci := 10) (C := RX10) (T := TX10) (N := 8) hx hb hB cx_inX10 hown hK TH hm0 hk0 rfl ⟨by decide, rfl⟩ 6 (by decide) cw_144 (fun _ h9 => h9) dX10_insert_73 (fun hv => ?_)
              obtain ⟨xr40, hxr40, hmxr40, hkxr40⟩ : ∃ a : Nat, tw_fv E31 a0 6 = .ref a ∧ a ∈ L ∧ kp a = 102 := hv
              rw [hxr40]
              refine lv_iload_n hx hb dX10_insert_76 rfl (lv_at hl 2 rfl) ?_
              refine lv_lload hx hb dX10_insert_77 (lv_at hl 6 rfl) ?_
              refine tw_last (k := 102) (n := 40) (lo := 0) (hi := 0) hx hb hK TH hS hmxr40 hkxr40 (by decide) rfl (i := x1) (x := x5) (vp_in_iff.mpr ⟨by  omega, by  omega⟩) dX10_insert_79 (fun H locs E41 TH hS hp42 hp43  => ?_)
              have hst44 : tw_fr kp L [] [102] E31 E41 := tw_fr.ast tw_fr.rf (fun _ => hkxr40) hp42 hp43 (by decide)
              have hF := hF.tr hst44 (fun _ h => ⟨h, rfl⟩) (by decide) (by decide)
              have hG28 := hG28.tr hst44 (fun _ h => ⟨h, rfl⟩) (by decide) (by decide)
              have hmf45 : tw_fv E41 a0 0 = .int xi4 := (hst44.1 a0 0 hm0 (by rw [hk0]; decide)).trans hmf36
              have hmf46 : tw_fv E41 a0 1 = .ref xr13 := (hst44.1 a0 1 hm0 (by rw [hk0]; decide)).trans hmf37
              have hmf47 : tw_fv E41 a0 2 = .ref xr21 := (hst44.1 a0 2 hm0 (by rw [hk0]; decide)).trans hmf38
              have hmf48 : tw_fv E41 a0 5 = .ref xr30 := (hst44.1 a0 5 hm0 (by rw [hk0]; decide)).trans hmf39
              have hmf49 : tw_fv E41 a0 6 = .ref xr40 := (hst44.1 a0 6 hm0 (by rw [hk0]; decide)).trans hxr40
              refine lv_aload_n hx hb dX10_insert_80 rfl (lv_at hl 1 rfl) ?_
              refine lv_dup hx hb dX10_insert_81 rfl ?_
              refine tw_get (ci := 10) (C := RX10) (T := TX10) (N := 8) hx hb hB cx_inX10 hown hK TH hm0 hk0 rfl ⟨by decide, rfl⟩ 0 (by decide) cw_116 (fun _ h9 => h9) dX10_insert_82 (fun hv => ?_)
              rw [hmf45]
              refine lv_iconst (v := 1) hx hb dX10_insert_85 (by decide) ?_
              refine lv_iadd hx hb dX10_insert_86 ?_
              refine lv_topi (fun zi50 ezi50 => ?_)
              have hzi50 : zi50.toInt = xi4.toInt + 1 := by rw [ezi50]; have : ((1 : Int32).toInt) = 1 := (by decide); have := ia_lo xi4; have := ia_hi xi4; exact (ia_add (by omega) (by omega)).trans (by omega)
              refine tw_put (ci := 10) (v := .int zi50) (ty := .int) (C := RX10) (T := TX10) (N := 8) hx hb hB cx_inX10 tyX10 tyX10_ok nmX10 hown hK TH hS hm0 hk0 rfl ⟨by decide, rfl⟩ 0 (by decide) cw_116 (fun _ h9 => h9) rfl (by decide +kernel) rfl rfl ⟨_, rfl, (show 0 ≤ Int32.toInt zi50 from by  omega), (show Int32.toInt zi50 ≤ 40 from by  omega)⟩ dX10_insert_87 (fun H locs E51 TH hS hmf55 hp52 hp53 => ?_)
              have hst54 : tw_fr kp L [(10, 0)] [] E41 E51 := tw_fr.put tw_fr.rf (fun _ => hk0) (by decide) hp52 hp53 (by decide)
              have hF := hF.tr hst54 (fun _ h => ⟨h, rfl⟩) (by decide) (by decide)
              have hmf56 : tw_fv E51 a0 1 = .ref xr13 := (hst54.1 a0 1 hm0 (by rw [hk0]; decide)).trans hmf46
              have hmf57 : tw_fv E51 a0 2 = .ref xr21 := (hst54.1 a0 2 hm0 (by rw [hk0]; decide)).trans hmf47
              have hmf58 : tw_fv E51 a0 5 = .ref xr30 := (hst54.1 a0 5 hm0 (by rw [hk0]; decide)).trans hmf48
              have hmf59 : tw_fv E51 a0 6 = .ref xr40 := (hst54.1 a0 6 hm0 (by rw [hk0]; decide)).trans hmf49
              exact tw_vret hx hb hr hlocks TH hS hex ⟨rfl, rfl, rfl, hF⟩ (Nat.le_of_ble_eq_true rfl) (Nat.le_of_ble_eq_true rfl) dX10_insert_90
            · have hf60 : ¬ (y28_7.toInt ≤ x1.toInt) := fun q => hc11 ((fa_le _ _).mpr (by  omega))
              refine lv_aload_n hx hb dX10_insert_34 rfl (lv_at hl 1 rfl) ?_
              refine lv_iload hx hb dX10_insert_35 (lv_at hl 0 rfl) ?_
              refine lv_iconst (v := 1) hx hb dX10_insert_37 (by decide) ?_
              refine lv_isub hx hb dX10_insert_38 ?_
              refine lv_topi (fun zi61 ezi61 => ?_)
              have hzi61 : zi61.toInt = y28_7.toInt - 1 := by rw [ezi61]; have : ((1 : Int32).toInt) = 1 := (by decide); have := ia_lo y28_7; have := ia_hi y28_7; exact (ia_sub (by omega) (by omega)).trans (by omega)
              refine lv_iload hx hb dX10_insert_39 (lv_at hl 0 rfl) ?_
              refine tw_Vc (o := a0) (ci := 10) (n := 2) (post := (fun v kq Lq Eq => v = none ∧ kp = kq ∧ L = Lq ∧ tw_fr kp L [] [102, 110, 111, 114] Eg28 Eq)) (As := [.int zi61, .int y28_7]) (rest := []) ⟨hx, hb, hml, hown, hB⟩ (fun sz => tX10_moveEntry l D cs a0 zi61 y28_7 hm0 hk0 (by omega) (by omega) (by omega) (by omega) sz) cg_10_38_X10_moveEntry rfl rfl (by decide +kernel) ⟨Nat.le_of_ble_eq_true rfl, Nat.le_of_ble_eq_true rfl⟩ hK hN TH hS hA rfl hm0 hk0 (by decide) rfl hl.1 rfl (Nat.le_of_ble_eq_true rfl) dX10_insert_41 ⟨Nat.le_of_ble_eq_true rfl, Nat.le_of_ble_eq_true rfl⟩ (fun v62 kp62 L62 E62 H locs hq62 hx62 TH hS => ?_)
              obtain ⟨rfl, rfl, rfl, hst62⟩ := hq62
              have hF := hF.tr hst62 (fun _ h => ⟨h, rfl⟩) (by decide) (by decide)
              have hG28 := hG28.tr hst62 (fun _ h => ⟨h, rfl⟩) (by decide) (by decide)
              have hmf64 : tw_fv E62 a0 0 = .int xi4 := (hst62.1 a0 0 hm0 (by rw [hk0]; decide)).trans hmf10
              refine W.eq (g2 := F0 m 44 ls []) rfl ?_
              obtain ⟨zi65, ezi65⟩ : ∃ z : Int32, z = y28_7 + Int32.ofInt (-1) := ⟨_, rfl⟩
              have hzi65 : zi65.toInt = y28_7.toInt + (-1) := by rw [ezi65]; have : ((Int32.ofInt (-1)).toInt) = (-1) := (by decide);  exact (ia_add (by omega) (by omega)).trans (by omega)
              refine lv_iinc (v := zi65) (lv' := [(7, .int zi65), (0, .ref a0), (1, .int x1), (2, .int x2), (3, .int x3), (4, .int x4), (5, .long x5)]) hx hb dX10_insert_44 hl (k := 0) rfl ezi65.symm (by decide) rfl (fun ls hl => ?_)
              refine lv_goto (tgt := 28) hx hb dX10_insert_47 (by decide) ?_
              exact ih28 (n28 - 1) (by   omega) zi65 _ _ _ ls (by omega) (by omega) (by   omega) hG28 TH hS (lv_sub hl [0, 1, 2, 3, 4, 5, 6] rfl)
        exact hJ28 40 xi4 _ _ _ ls (by omega) (by omega) (by   omega) tw_fr.rf TH hS (lv_sub hl [0, 1, 2, 3, 4, 5, 6] rfl)
      · have hf66 : ¬ (xi4.toInt < 40) := fun q => hc8 ((fa_lt _ _).mpr (by have : ((40 : Int32).toInt) = 40 := (by decide); omega))
        exact tw_vret hx hb hr hlocks TH hS hex ⟨rfl, rfl, rfl, hF⟩ (Nat.le_of_ble_eq_true rfl) (Nat.le_of_ble_eq_true rfl) dX10_insert_21
