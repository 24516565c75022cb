set_option maxHeartbeats 4000000 in
set_option maxRecDepth 100000 in
theorem tX9_hasRoom (l : Launch) (D : va_G) (cs : Nat → ClassId) {kp : Nat → Nat} {L : List Nat} {E : Nat → va_E} (a0 : Nat) (x1 : Int32) (hm0 : a0 ∈ L) (hk0 : kp a0 = 9) (hp1a : 0 ≤ x1.toInt) (hp1b : x1.toInt ≤ 1000) (sz : Nat) : Met l yX9_hasRoom (.code yX9_hasRoom cX9_hasRoom 2 (some .boolean) :: cx_big) { frames := 0, cells := 0, slots := 0, locals := 0 } (tw_P D cs kp L E [.ref a0, .int x1] sz) (tw_Q D cs kp L (fun v kq Lq Eq => (∃ x : Int32, v = some (.int x) ∧ 0 ≤ x.toInt ∧ x.toInt ≤ 1) ∧ kp = kq ∧ L = Lq ∧ E = Eq) (va_A (va_pl L E) sz)) 0 0 (va_A (va_pl L E) sz) := by
  refine tw_ofW (by decide) (Nat.le_of_ble_eq_true rfl) ?_
  intro p e s m below meth c A ls hx hb hr hml hB hown hlocks hK hN hA TH hS hl
  have hown : s.vm.findClass "TreeMerge$Text" = some m.cls := hown
  have hl : lv_has ls 2 [(0, .ref a0), (1, .int x1)] := hl
  obtain ⟨kp0, ekp⟩ : ∃ z, z = kp := ⟨_, rfl⟩
  obtain ⟨L0, eL⟩ : ∃ z, z = L := ⟨_, rfl⟩
  rw [show tw_Q D cs kp L = tw_Q D cs kp0 L0 by rw [ekp, eL]]
  have hex : ∀ a : Nat, a ∈ L0 → a ∈ L ∧ kp a = kp0 a := fun a h => ⟨by rw [← eL]; exact h, by rw [ekp]⟩
  refine lv_aload_n hx hb dX9_hasRoom_0 rfl (lv_at hl 0 rfl) ?_
  refine tw_get (ci := 9) (C := RX9) (T := TX9) (N := 5) hx hb hB cx_inX9 hown hK TH hm0 hk0 rfl ⟨by decide, rfl⟩ 1 (by decide) cw_36 (fun _ h9 => h9) dX9_hasRoom_1 (fun hv => ?_)
  obtain ⟨xi1, hxi1, hxi1a, hxi1b⟩ : ∃ x : Int32, tw_fv E a0 1 = .int x ∧ 0 ≤ x.toInt ∧ x.toInt ≤ 500 := hv
  rw [hxi1]
  refine lv_iload_n hx hb dX9_hasRoom_4 rfl (lv_at hl 1 rfl) ?_
  refine lv_iadd hx hb dX9_hasRoom_5 ?_
  refine lv_topi (fun zi2 ezi2 => ?_)
  have hzi2 : zi2.toInt = xi1.toInt + x1.toInt := by rw [ezi2];  exact (ia_add (by omega) (by omega)).trans (by omega)
  refine lv_sipush (v := 500) hx hb dX9_hasRoom_6 (by decide) ?_
  refine lv_icmp_gt (tgt := 16) hx hb dX9_hasRoom_9 (by decide) (fun hc3 => ?_) (fun hc3 => ?_)
  · have hf4 : 500 < zi2.toInt := by have z := (fa_lt _ _).mp hc3; have : ((500 : Int32).toInt) = 500 := (by decide); omega
    refine lv_iconst (v := 0) hx hb dX9_hasRoom_16 (by decide) ?_
    exact tw_zret hx hb hr hlocks (by decide) TH hS hex ⟨⟨_, rfl, (show 0 ≤ Int32.toInt 0 from by have : ((0 : Int32).toInt) = 0 := (by decide); omega), (show Int32.toInt 0 ≤ 1 from by have : ((0 : Int32).toInt) = 0 := (by decide); omega)⟩, rfl, rfl, rfl⟩ (Nat.le_of_ble_eq_true rfl) (Nat.le_of_ble_eq_true rfl) dX9_hasRoom_17
  · have hf5 : ¬ (500 < zi2.toInt) := fun q => hc3 ((fa_lt _ _).mpr (by have : ((500 : Int32).toInt) = 500 := (by decide); omega))
    refine lv_iconst (v := 1) hx hb dX9_hasRoom_12 (by decide) ?_
    refine lv_goto (tgt := 17) hx hb dX9_hasRoom_13 (by decide) ?_
    exact tw_zret hx hb hr hlocks (by decide) TH hS hex ⟨⟨_, rfl, (show 0 ≤ Int32.toInt 1 from by have : ((1 : Int32).toInt) = 1 := (by decide); omega), (show Int32.toInt 1 ≤ 1 from by have : ((1 : Int32).toInt) = 1 := (by decide); omega)⟩, rfl, rfl, rfl⟩ (Nat.le_of_ble_eq_true rfl) (Nat.le_of_ble_eq_true rfl) dX9_hasRoom_17
set_option maxHeartbeats 4000000 in
set_option maxRecDepth 100000 in
theorem tX9_rewind (l : Launch) (D : va_G) (cs : Nat → ClassId) {kp : Nat → Nat} {L : List Nat} {E : Nat → va_E} (a0 : Nat) (hm0 : a0 ∈ L) (hk0 : kp a0 = 9) (sz : Nat) : Met l yX9_rewind (.code yX9_rewind cX9_rewind 1 none :: cx_big) { frames := 0, cells := 0, slots := 0, locals := 0 } (tw_P D cs kp L E [.ref a0] sz) (tw_Q D cs kp L (fun v _ _ _ => v = none) (va_A (va_pl L E) sz)) 0 0 (va_A (va_pl L E) sz) := by
  refine tw_ofW (by decide) (Nat.le_of_ble_eq_true rfl) ?_
  intro p e s m below meth c A ls hx hb hr hml hB hown hlocks hK hN hA TH hS hl
  have hown : s.vm.findClass "TreeMerge$Text" = some m.cls := hown
  have hl : lv_has ls 1 [(0, .ref a0)] := hl
  obtain ⟨kp0, ekp⟩ : ∃ z, z = kp := ⟨_, rfl⟩
  obtain ⟨L0, eL⟩ : ∃ z, z = L := ⟨_, rfl⟩
  rw [show tw_Q D cs kp L = tw_Q D cs kp0 L0 by rw [ekp, eL]]
  have hex : ∀ a : Nat, a ∈ L0 → a ∈ L ∧ kp a = kp0 a := fun a h => ⟨by rw [← eL]; exact h, by rw [ekp]⟩
  refine lv_aload_n hx hb dX9_rewind_0 rfl (lv_at hl 0 rfl) ?_
  refine lv_iconst (v := 0) hx hb dX9_rewind_1 (by decide) ?_
  refine tw_put (ci := 9) (v := .int 0) (ty := .int) (C := RX9) (T := TX9) (N := 5) hx hb hB cx_inX9 tyX9 tyX9_ok nmX9 hown hK TH hS hm0 hk0 rfl ⟨by decide, rfl⟩ 4 (by decide) cw_46 (fun _ h9 => h9) rfl (by decide +kernel) rfl rfl ⟨_, rfl, (show 0 ≤ Int32.toInt 0 from by have : ((0 : Int32).toInt) = 0 := (by decide); omega), (show Int32.toInt 0 ≤ 500 from by have : ((0 : Int32).toInt) = 0 := (by decide); omega)⟩ dX9_rewind_2 (fun H locs E1 TH hS hp1 hp2 hp3 => ?_)
  have hm2 := hp1
  exact tw_vret hx hb hr hlocks TH hS hex rfl (Nat.le_of_ble_eq_true rfl) (Nat.le_of_ble_eq_true rfl) dX9_rewind_5
set_option maxHeartbeats 4000000 in
set_option maxRecDepth 100000 in
theorem tX9_append (l : Launch) (D : va_G) (cs : Nat → ClassId) {kp : Nat → Nat} {L : List Nat} {E : Nat → va_E} (a0 : Nat) (x1 : Int32) (hm0 : a0 ∈ L) (hk0 : kp a0 = 9) (sz : Nat) : Met l yX9_append (.code yX9_append cX9_append 3 none :: cx_big) { frames := 0, cells := 0, slots := 0, locals := 0 } (tw_P D cs kp L E [.ref a0, .int x1] sz) (tw_Q D cs kp L (fun v _ _ _ => v = none) (va_A (va_pl L E) sz)) 0 0 (va_A (va_pl L E) sz) := by
  refine tw_ofW (by decide) (Nat.le_of_ble_eq_true rfl) ?_
  intro p e s m below meth c A ls hx hb hr hml hB hown hlocks hK hN hA TH hS hl
  have hown : s.vm.findClass "TreeMerge$Text" = some m.cls := hown
  have hl : lv_has ls 3 [(0, .ref a0), (1, .int x1)] := hl
  obtain ⟨kp0, ekp⟩ : ∃ z, z = kp := ⟨_, rfl⟩
  obtain ⟨L0, eL⟩ : ∃ z, z = L := ⟨_, rfl⟩
  rw [show tw_Q D cs kp L = tw_Q D cs kp0 L0 by rw [ekp, eL]]
  have hex : ∀ a : Nat, a ∈ L0 → a ∈ L ∧ kp a = kp0 a := fun a h => ⟨by rw [← eL]; exact h, by rw [ekp]⟩
  refine lv_bipush (v := 24) hx hb dX9_append_0 (by decide) ?_
  refine lv_istore_n (lv' := [(2, .int 24), (0, .ref a0), (1, .int x1)]) hx hb dX9_append_2 rfl hl (by decide) rfl (fun ls hl => ?_)
  have hJ3 : ∀ (n : Nat) (y3_2 : Int32) (Eg3 : Nat → va_E) (H : Heap) (locs : List Loc) (ls : Array Slot), (-8) ≤ y3_2.toInt → y3_2.toInt ≤ 24 → y3_2.toInt + 8 ≤ (n : Int) → tw_H D cs kp L Eg3 A H → va_S A s.heap H locs → lv_has ls 3 [(2, .int y3_2), (0, .ref a0), (1, .int x1)] → W p l e { frames := 0, cells := 0, slots := 0, locals := 0 } s m [.ref a0, .int x1].toArray below meth c H locs 0 0 (MQ below (tw_Q D cs kp0 L0 (fun v _ _ _ => v = none) A) [.ref a0, .int x1].toArray s 0 0 A) (F0 m 3 ls []) := by
    intro n3
    induction n3 with
    | zero =>
      intro y3_2 Eg3 H locs ls hy3_2a hy3_2b hmeas TH hS hl
      refine lv_iload_n hx hb dX9_append_3 rfl (lv_at hl 0 rfl) ?_
      refine lv_if_lt (tgt := 49) hx hb dX9_append_4 (by decide) (fun hc1 => ?_) (fun hc1 => ?_)
      · have hf2 : y3_2.toInt < 0 := by have z := (fa_lt _ _).mp hc1; have : ((0 : Int32).toInt) = 0 := (by decide); omega
        exact tw_vret hx hb hr hlocks TH hS hex rfl (Nat.le_of_ble_eq_true rfl) (Nat.le_of_ble_eq_true rfl) dX9_append_49
      · have hf3 : ¬ (y3_2.toInt < 0) := fun q => hc1 ((fa_lt _ _).mpr (by have : ((0 : Int32).toInt) = 0 := (by decide); omega))
        refine lv_aload_n hx hb dX9_append_7 rfl (lv_at hl 1 rfl) ?_
        refine tw_get (ci := 9) (C := RX9) (T := TX9) (N := 5) hx hb hB cx_inX9 hown hK TH hm0 hk0 rfl ⟨by decide, rfl⟩ 1 (by decide) cw_36 (fun _ h9 => h9) dX9_append_8 (fun hv => ?_)
        obtain ⟨xi4, hxi4, hxi4a, hxi4b⟩ : ∃ x : Int32, tw_fv Eg3 a0 1 = .int x ∧ 0 ≤ x.toInt ∧ x.toInt ≤ 500 := hv
        rw [hxi4]
        refine lv_sipush (v := 500) hx hb dX9_append_11 (by decide) ?_
        have hJ43 : ∀ (w43_0_1 : Int32) (Eg43 : Nat → va_E) (H : Heap) (locs : List Loc) (ls : Array Slot), 1 ≤ w43_0_1.toInt → w43_0_1.toInt ≤ 500 → tw_fv Eg43 a0 1 = .int w43_0_1 → tw_H D cs kp L Eg43 A H → va_S A s.heap H locs → lv_has ls 3 [(2, .int y3_2), (0, .ref a0), (1, .int x1)] → W p l e { frames := 0, cells := 0, slots := 0, locals := 0 } s m [.ref a0, .int x1].toArray below meth c H locs 0 0 (MQ below (tw_Q D cs kp0 L0 (fun v _ _ _ => v = none) A) [.ref a0, .int x1].toArray s 0 0 A) (F0 m 43 ls []) := by
          intro w43_0_1 Eg43 H locs ls hw43_0_1a hw43_0_1b hfm43_0 TH hS hl
          obtain ⟨zi5, ezi5⟩ : ∃ z : Int32, z = y3_2 + Int32.ofInt (-8) := ⟨_, rfl⟩
          have hzi5 : zi5.toInt = y3_2.toInt + (-8) := by rw [ezi5]; have : ((Int32.ofInt (-8)).toInt) = (-8) := (by decide);  exact (ia_add (by omega) (by omega)).trans (by omega)
          refine lv_iinc (v := zi5) (lv' := [(2, .int zi5), (0, .ref a0), (1, .int x1)]) hx hb dX9_append_43 hl (k := 0) rfl ezi5.symm (by decide) rfl (fun ls hl => ?_)
          refine lv_goto (tgt := 3) hx hb dX9_append_46 (by decide) ?_
          exfalso; omega
        refine lv_icmp_ge (tgt := 43) hx hb dX9_append_14 (by decide) (fun hc6 => ?_) (fun hc6 => ?_)
        · have hf7 : 500 ≤ xi4.toInt := by have z := (fa_le _ _).mp hc6; have : ((500 : Int32).toInt) = 500 := (by decide); omega
          exact hJ43 xi4 _ _ _ ls (by  omega) (by  omega) hxi4 TH hS (lv_sub hl [0, 1, 2] rfl)
        · have hf8 : ¬ (500 ≤ xi4.toInt) := fun q => hc6 ((fa_le _ _).mpr (by have : ((500 : Int32).toInt) = 500 := (by decide); omega))
          refine lv_aload_n hx hb dX9_append_17 rfl (lv_at hl 1 rfl) ?_
          refine tw_get (ci := 9) (C := RX9) (T := TX9) (N := 5) hx hb hB cx_inX9 hown hK TH hm0 hk0 rfl ⟨by decide, rfl⟩ 0 (by decide) cw_34 (fun _ h9 => h9) dX9_append_18 (fun hv => ?_)
          obtain ⟨xr9, hxr9, hmxr9, hkxr9⟩ : ∃ a : Nat, tw_fv Eg3 a0 0 = .ref a ∧ a ∈ L ∧ kp a = 100 := hv
          rw [hxr9]
          refine lv_aload_n hx hb dX9_append_21 rfl (lv_at hl 1 rfl) ?_
          refine tw_get (ci := 9) (C := RX9) (T := TX9) (N := 5) hx hb hB cx_inX9 hown hK TH hm0 hk0 rfl ⟨by decide, rfl⟩ 1 (by decide) cw_36 (fun _ h9 => h9) dX9_append_22 (fun hv => ?_)
          rw [hxi4]
          refine lv_iload_n hx hb dX9_append_25 rfl (lv_at hl 2 rfl) ?_
          refine lv_iload_n hx hb dX9_append_26 rfl (lv_at hl 0 rfl) ?_
          refine lv_iushr (v := ((x1 : Int32).toUInt32 >>> ((y3_2 : Int32).toUInt32 &&& Int32.toUInt32 31)).toInt32) hx hb dX9_append_27 rfl ?_
          refine lv_topi (fun zi10 ezi10 => ?_)
          refine lv_sipush (v := 255) hx hb dX9_append_28 (by decide) ?_
          refine lv_iand hx hb dX9_append_31 ?_
          refine lv_topi (fun zi11 ezi11 => ?_)
          have hzi11 : 0 ≤ zi11.toInt ∧ zi11.toInt ≤ 255 := by rw [ezi11]; exact ia_and255 _
          refine tw_iast (k := 100) (n := 500) (lo := 0) (hi := 255) hx hb hK TH hS hmxr9 hkxr9 (by decide) rfl (i := xi4) (x := zi11) (vp_in_iff.mpr ⟨by  omega, by  omega⟩) (by  omega) (by  omega) dX9_append_32 (fun H locs E12 TH hS hp2 hp3 hp4 => ?_)
          have hm13 : tw_fv E12 a0 1 = .int xi4 := (hp2 a0 1).trans hxi4
          have hm14 : tw_fv E12 a0 0 = .ref xr9 := (hp2 a0 0).trans hxr9
          refine lv_aload_n hx hb dX9_append_33 rfl (lv_at hl 1 rfl) ?_
          refine lv_dup hx hb dX9_append_34 rfl ?_
          refine tw_get (ci := 9) (C := RX9) (T := TX9) (N := 5) hx hb hB cx_inX9 hown hK TH hm0 hk0 rfl ⟨by decide, rfl⟩ 1 (by decide) cw_36 (fun _ h9 => h9) dX9_append_35 (fun hv => ?_)
          rw [hm13]
          refine lv_iconst (v := 1) hx hb dX9_append_38 (by decide) ?_
          refine lv_iadd hx hb dX9_append_39 ?_
          refine lv_topi (fun zi15 ezi15 => ?_)
          have hzi15 : zi15.toInt = xi4.toInt + 1 := by rw [ezi15]; have : ((1 : Int32).toInt) = 1 := (by decide); exact (ia_add (by omega) (by omega)).trans (by omega)
          refine tw_put (ci := 9) (v := .int zi15) (ty := .int) (C := RX9) (T := TX9) (N := 5) hx hb hB cx_inX9 tyX9 tyX9_ok nmX9 hown hK TH hS hm0 hk0 rfl ⟨by decide, rfl⟩ 1 (by decide) cw_36 (fun _ h9 => h9) rfl (by decide +kernel) rfl rfl ⟨_, rfl, (show 0 ≤ Int32.toInt zi15 from by  omega), (show Int32.toInt zi15 ≤ 500 from by  omega)⟩ dX9_append_40 (fun H locs E16 TH hS hp1 hp2 hp3 => ?_)
          have hm17 : tw_fv E16 a0 0 = .ref xr9 := (hp2 a0 0 (Or.inr (by decide))).trans hm14
          have hm18 := hp1
          exact hJ43 zi15 _ _ _ ls (by  omega) (by  omega) hm18 TH hS (lv_sub hl [0, 1, 2] rfl)
    | succ n3 ih3 =>
      intro y3_2 Eg3 H locs ls hy3_2a hy3_2b hmeas TH hS hl
      refine lv_iload_n hx hb dX9_append_3 rfl (lv_at hl 0 rfl) ?_
      refine lv_if_lt (tgt := 49) hx hb dX9_append_4 (by decide) (fun hc19 => ?_) (fun hc19 => ?_)
      · have hf20 : y3_2.toInt < 0 := by have z := (fa_lt _ _).mp hc19; have : ((0 : Int32).toInt) = 0 := (by decide); omega
        exact tw_vret hx hb hr hlocks TH hS hex rfl (Nat.le_of_ble_eq_true rfl) (Nat.le_of_ble_eq_true rfl) dX9_append_49
      · have hf21 : ¬ (y3_2.toInt < 0) := fun q => hc19 ((fa_lt _ _).mpr (by have : ((0 : Int32).toInt) = 0 := (by decide); omega))
        refine lv_aload_n hx hb dX9_append_7 rfl (lv_at hl 1 rfl) ?_
        refine tw_get (ci := 9) (C := RX9) (T := TX9) (N := 5) hx hb hB cx_inX9 hown hK TH hm0 hk0 rfl ⟨by decide, rfl⟩ 1 (by decide) cw_36 (fun _ h9 => h9) dX9_append_8 (fun hv => ?_)
        obtain ⟨xi22, hxi22, hxi22a, hxi22b⟩ : ∃ x : Int32, tw_fv Eg3 a0 1 = .int x ∧ 0 ≤ x.toInt ∧ x.toInt ≤ 500 := hv
        rw [hxi22]
        refine lv_sipush (v := 500) hx hb dX9_append_11 (by decide) ?_
        have hJ43 : ∀ (w43_0_1 : Int32) (Eg43 : Nat → va_E) (H : Heap) (locs : List Loc) (ls : Array Slot), 1 ≤ w43_0_1.toInt → w43_0_1.toInt ≤ 500 → tw_fv Eg43 a0 1 = .int w43_0_1 → tw_H D cs kp L Eg43 A H → va_S A s.heap H locs → lv_has ls 3 [(2, .int y3_2), (0, .ref a0), (1, .int x1)] → W p l e { frames := 0, cells := 0, slots := 0, locals := 0 } s m [.ref a0, .int x1].toArray below meth c H locs 0 0 (MQ below (tw_Q D cs kp0 L0 (fun v _ _ _ => v = none) A) [.ref a0, .int x1].toArray s 0 0 A) (F0 m 43 ls []) := by
          intro w43_0_1 Eg43 H locs ls hw43_0_1a hw43_0_1b hfm43_0 TH hS hl
          obtain ⟨zi23, ezi23⟩ : ∃ z : Int32, z = y3_2 + Int32.ofInt (-8) := ⟨_, rfl⟩
          have hzi23 : zi23.toInt = y3_2.toInt + (-8) := by rw [ezi23]; have : ((Int32.ofInt (-8)).toInt) = (-8) := (by decide);  exact (ia_add (by omega) (by omega)).trans (by omega)
          refine lv_iinc (v := zi23) (lv' := [(2, .int zi23), (0, .ref a0), (1, .int x1)]) hx hb dX9_append_43 hl (k := 0) rfl ezi23.symm (by decide) rfl (fun ls hl => ?_)
          refine lv_goto (tgt := 3) hx hb dX9_append_46 (by decide) ?_
          exact ih3 zi23 _ _ _ ls (by  omega) (by  omega) (by  omega)  TH hS (lv_sub hl [0, 1, 2] rfl)
        refine lv_icmp_ge (tgt := 43) hx hb dX9_append_14 (by decide) (fun hc24 => ?_) (fun hc24 => ?_)
        · have hf25 : 500 ≤ xi22.toInt := by have z := (fa_le _ _).mp hc24; have : ((500 : Int32).toInt) = 500 := (by decide); omega
          exact hJ43 xi22 _ _ _ ls (by  omega) (by  omega) hxi22 TH hS (lv_sub hl [0, 1, 2] rfl)
        · have hf26 : ¬ (500 ≤ xi22.toInt) := fun q => hc24 ((fa_le _ _).mpr (by have : ((500 : Int32).toInt) = 500 := (by decide); omega))
          refine lv_aload_n hx hb dX9_append_17 rfl (lv_at hl 1 rfl) ?_
          refine tw_get (ci := 9) (C := RX9) (T := TX9) (N := 5) hx hb hB cx_inX9 hown hK TH hm0 hk0 rfl ⟨by decide, rfl⟩ 0 (by decide) cw_34 (fun _ h9 => h9) dX9_append_18 (fun hv => ?_)
          obtain ⟨xr27, hxr27, hmxr27, hkxr27⟩ : ∃ a : Nat, tw_fv Eg3 a0 0 = .ref a ∧ a ∈ L ∧ kp a = 100 := hv
          rw [hxr27]
          refine lv_aload_n hx hb dX9_append_21 rfl (lv_at hl 1 rfl) ?_
          refine tw_get (ci := 9) (C := RX9) (T := TX9) (N := 5) hx hb hB cx_inX9 hown hK TH hm0 hk0 rfl ⟨by decide, rfl⟩ 1 (by decide) cw_36 (fun _ h9 => h9) dX9_append_22 (fun hv => ?_)
          rw [hxi22]
          refine lv_iload_n hx hb dX9_append_25 rfl (lv_at hl 2 rfl) ?_
          refine lv_iload_n hx hb dX9_append_26 rfl (lv_at hl 0 rfl) ?_
          refine lv_iushr (v := ((x1 : Int32).toUInt32 >>> ((y3_2 : Int32).toUInt32 &&& Int32.toUInt32 31)).toInt32) hx hb dX9_append_27 rfl ?_
          refine lv_topi (fun zi28 ezi28 => ?_)
          refine lv_sipush (v := 255) hx hb dX9_append_28 (by decide) ?_
          refine lv_iand hx hb dX9_append_31 ?_
          refine lv_topi (fun zi29 ezi29 => ?_)
          have hzi29 : 0 ≤ zi29.toInt ∧ zi29.toInt ≤ 255 := by rw [ezi29]; exact ia_and255 _
          refine tw_iast (k := 100) (n := 500) (lo := 0) (hi := 255) hx hb hK TH hS hmxr27 hkxr27 (by decide) rfl (i := xi22) (x := zi29) (vp_in_iff.mpr ⟨by  omega, by  omega⟩) (by  omega) (by  omega) dX9_append_32 (fun H locs E30 TH hS hp2 hp3 hp4 => ?_)
          have hm31 : tw_fv E30 a0 1 = .int xi22 := (hp2 a0 1).trans hxi22
          have hm32 : tw_fv E30 a0 0 = .ref xr27 := (hp2 a0 0).trans hxr27
          refine lv_aload_n hx hb dX9_append_33 rfl (lv_at hl 1 rfl) ?_
          refine lv_dup hx hb dX9_append_34 rfl ?_
          refine tw_get (ci := 9) (C := RX9) (T := TX9) (N := 5) hx hb hB cx_inX9 hown hK TH hm0 hk0 rfl ⟨by decide, rfl⟩ 1 (by decide) cw_36 (fun _ h9 => h9) dX9_append_35 (fun hv => ?_)
          rw [hm31]
          refine lv_iconst (v := 1) hx hb dX9_append_38 (by decide) ?_
          refine lv_iadd hx hb dX9_append_39 ?_
          refine lv_topi (fun zi33 ezi33 => ?_)
          have hzi33 : zi33.toInt = xi22.toInt + 1 := by rw [ezi33]; have : ((1 : Int32).toInt) = 1 := (by decide); exact (ia_add (by omega) (by omega)).trans (by omega)
          refine tw_put (ci := 9) (v := .int zi33) (ty := .int) (C := RX9) (T := TX9) (N := 5) hx hb hB cx_inX9 tyX9 tyX9_ok nmX9 hown hK TH hS hm0 hk0 rfl ⟨by decide, rfl⟩ 1 (by decide) cw_36 (fun _ h9 => h9) rfl (by decide +kernel) rfl rfl ⟨_, rfl, (show 0 ≤ Int32.toInt zi33 from by  omega), (show Int32.toInt zi33 ≤ 500 from by  omega)⟩ dX9_append_40 (fun H locs E34 TH hS hp1 hp2 hp3 => ?_)
          have hm35 : tw_fv E34 a0 0 = .ref xr27 := (hp2 a0 0 (Or.inr (by decide))).trans hm32
          have hm36 := hp1
          exact hJ43 zi33 _ _ _ ls (by  omega) (by  omega) hm36 TH hS (lv_sub hl [0, 1, 2] rfl)
  exact hJ3 32 24 _ _ _ ls (by have : ((24 : Int32).toInt) = 24 := (by decide); omega) (by have : ((24 : Int32).toInt) = 24 := (by decide); omega) (by have : ((24 : Int32).toInt) = 24 := (by decide); omega)  TH hS (lv_sub hl [0, 1, 2] rfl)
set_option maxHeartbeats 4000000 in
set_option maxRecDepth 100000 in
theorem tX11_isLetter (l : Launch) (D : va_G) (cs : Nat → ClassId) {kp : Nat → Nat} {L : List Nat} {E : Nat → va_E} (x0 : Int32)  (sz : Nat) : Met l yX11_isLetter (.code yX11_isLetter cX11_isLetter 1 (some .boolean) :: cx_big) { frames := 0, cells := 0, slots := 0, locals := 0 } (tw_P D cs kp L E [.int x0] sz) (tw_Q D cs kp L (fun v kq Lq Eq => (∃ x : Int32, v = some (.int x) ∧ 0 ≤ x.toInt ∧ x.toInt ≤ 1) ∧ kp = kq ∧ L = Lq ∧ E = Eq) (va_A (va_pl L E) sz)) 0 0 (va_A (va_pl L E) sz) := by
  refine tw_ofW (by decide) (Nat.le_of_ble_eq_true rfl) ?_
  intro p e s m below meth c A ls hx hb hr hml hB hown hlocks hK hN hA TH hS hl
  have hown : s.vm.findClass "TreeMerge" = some m.cls := hown
  have hl : lv_has ls 1 [(0, .int x0)] := hl
  obtain ⟨kp0, ekp⟩ : ∃ z, z = kp := ⟨_, rfl⟩
  obtain ⟨L0, eL⟩ : ∃ z, z = L := ⟨_, rfl⟩
  rw [show tw_Q D cs kp L = tw_Q D cs kp0 L0 by rw [ekp, eL]]
  have hex : ∀ a : Nat, a ∈ L0 → a ∈ L ∧ kp a = kp0 a := fun a h => ⟨by rw [← eL]; exact h, by rw [ekp]⟩
  refine lv_iload_n hx hb dX11_isLetter_0 rfl (lv_at hl 0 rfl) ?_
  refine lv_bipush (v := 97) hx hb dX11_isLetter_1 (by decide) ?_
  refine lv_icmp_lt (tgt := 16) hx hb dX11_isLetter_3 (by decide) (fun hc1 => ?_) (fun hc1 => ?_)
  · have hf2 : x0.toInt < 97 := by have z := (fa_lt _ _).mp hc1; have : ((97 : Int32).toInt) = 97 := (by decide); omega
    refine lv_iconst (v := 0) hx hb dX11_isLetter_16 (by decide) ?_
    exact tw_zret hx hb hr hlocks (by decide) TH hS hex ⟨⟨_, rfl, (show 0 ≤ Int32.toInt 0 from by have : ((0 : Int32).toInt) = 0 := (by decide); omega), (show Int32.toInt 0 ≤ 1 from by have : ((0 : Int32).toInt) = 0 := (by decide); omega)⟩, rfl, rfl, rfl⟩ (Nat.le_of_ble_eq_true rfl) (Nat.le_of_ble_eq_true rfl) dX11_isLetter_17
  · have hf3 : ¬ (x0.toInt < 97) := fun q => hc1 ((fa_lt _ _).mpr (by have : ((97 : Int32).toInt) = 97 := (by decide); omega))
    refine lv_iload_n hx hb dX11_isLetter_6 rfl (lv_at hl 0 rfl) ?_
    refine lv_bipush (v := 122) hx hb dX11_isLetter_7 (by decide) ?_
    refine lv_icmp_gt (tgt := 16) hx hb dX11_isLetter_9 (by decide) (fun hc4 => ?_) (fun hc4 => ?_)
    · have hf5 : 122 < x0.toInt := by have z := (fa_lt _ _).mp hc4; have : ((122 : Int32).toInt) = 122 := (by decide); omega
      refine lv_iconst (v := 0) hx hb dX11_isLetter_16 (by decide) ?_
      exact tw_zret hx hb hr hlocks (by decide) TH hS hex ⟨⟨_, rfl, (show 0 ≤ Int32.toInt 0 from by have : ((0 : Int32).toInt) = 0 := (by decide); omega), (show Int32.toInt 0 ≤ 1 from by have : ((0 : Int32).toInt) = 0 := (by decide); omega)⟩, rfl, rfl, rfl⟩ (Nat.le_of_ble_eq_true rfl) (Nat.le_of_ble_eq_true rfl) dX11_isLetter_17
    · have hf6 : ¬ (122 < x0.toInt) := fun q => hc4 ((fa_lt _ _).mpr (by have : ((122 : Int32).toInt) = 122 := (by decide); omega))
      refine lv_iconst (v := 1) hx hb dX11_isLetter_12 (by decide) ?_
      refine lv_goto (tgt := 17) hx hb dX11_isLetter_13 (by decide) ?_
      exact tw_zret hx hb hr hlocks (by decide) TH hS hex ⟨⟨_, rfl, (show 0 ≤ Int32.toInt 1 from by have : ((1 : Int32).toInt) = 1 := (by decide); omega), (show Int32.toInt 1 ≤ 1 from by have : ((1 : Int32).toInt) = 1 := (by decide); omega)⟩, rfl, rfl, rfl⟩ (Nat.le_of_ble_eq_true rfl) (Nat.le_of_ble_eq_true rfl) dX11_isLetter_17
set_option maxHeartbeats 4000000 in
set_option maxRecDepth 100000 in
theorem tX11_isWordByte (l : Launch) (D : va_G) (cs : Nat → ClassId) {kp : Nat → Nat} {L : List Nat} {E : Nat → va_E} (x0 : Int32)  (sz : Nat) : Met l yX11_isWordByte (.code yX11_isWordByte cX11_isWordByte 1 (some .boolean) :: cx_big) { frames := 1, cells := 0, slots := 0, locals := 20 } (tw_P D cs kp L E [.int x0] sz) (tw_Q D cs kp L (fun v kq Lq Eq => (∃ x : Int32, v = some (.int x) ∧ 0 ≤ x.toInt ∧ x.toInt ≤ 1) ∧ kp = kq ∧ L = Lq ∧ E = Eq) (va_A (va_pl L E) sz)) 0 0 (va_A (va_pl L E) sz) := by
  refine tw_ofW (by decide) (Nat.le_of_ble_eq_true rfl) ?_
  intro p e s m below meth c A ls hx hb hr hml hB hown hlocks hK hN hA TH hS hl
  have hown : s.vm.findClass "TreeMerge" = some m.cls := hown
  have hl : lv_has ls 1 [(0, .int x0)] := hl
  obtain ⟨kp0, ekp⟩ : ∃ z, z = kp := ⟨_, rfl⟩
  obtain ⟨L0, eL⟩ : ∃ z, z = L := ⟨_, rfl⟩
  rw [show tw_Q D cs kp L = tw_Q D cs kp0 L0 by rw [ekp, eL]]
  have hex : ∀ a : Nat, a ∈ L0 → a ∈ L ∧ kp a = kp0 a := fun a h => ⟨by rw [← eL]; exact h, by rw [ekp]⟩
  refine lv_iload_n hx hb dX11_isWordByte_0 rfl (lv_at hl 0 rfl) ?_
  refine tw_Sc (n := 1) (post := (fun v kq Lq Eq => (∃ x : Int32, v = some (.int x) ∧ 0 ≤ x.toInt ∧ x.toInt ≤ 1) ∧ kp = kq ∧ L = Lq ∧ E = Eq)) (As := [.int x0]) (rest := []) ⟨hx, hb, hml, hown, hB⟩ (fun sz => tX11_isLetter l D cs x0  sz) cg_11_367_X11_isLetter rfl rfl (by decide +kernel) ⟨Nat.le_of_ble_eq_true rfl, Nat.le_of_ble_eq_true rfl⟩ hK hN TH hS hA rfl hl.1 rfl (Nat.le_of_ble_eq_true rfl) dX11_isWordByte_1 ⟨Nat.le_of_ble_eq_true rfl, Nat.le_of_ble_eq_true rfl⟩ (fun v1 kp1 L1 E1 H locs hq1 hx1 TH hS => ?_)
  obtain ⟨⟨xc2, rfl, hxc2a, hxc2b⟩, rfl, rfl, rfl⟩ := hq1
  refine W.eq (g2 := F0 m 4 ls [.int xc2]) rfl ?_
  refine lv_if_ne (tgt := 19) hx hb dX11_isWordByte_4 (by decide) (fun hc3 => ?_) (fun hc3 => ?_)
  · have hf4 : ¬ (xc2.toInt = 0) := fun q => hc3 ((fa_eq _ _).mpr (by have : ((0 : Int32).toInt) = 0 := (by decide); omega))
    refine lv_iconst (v := 1) hx hb dX11_isWordByte_19 (by decide) ?_
    refine lv_goto (tgt := 24) hx hb dX11_isWordByte_20 (by decide) ?_
    exact tw_zret hx hb hr hlocks (by decide) TH hS hex ⟨⟨_, rfl, (show 0 ≤ Int32.toInt 1 from by have : ((1 : Int32).toInt) = 1 := (by decide); omega), (show Int32.toInt 1 ≤ 1 from by have : ((1 : Int32).toInt) = 1 := (by decide); omega)⟩, rfl, rfl, rfl⟩ (Nat.le_of_ble_eq_true rfl) (Nat.le_of_ble_eq_true rfl) dX11_isWordByte_24
  · have hf5 : xc2.toInt = 0 := by have z := (fa_eq _ _).mp hc3; have : ((0 : Int32).toInt) = 0 := (by decide); omega
    refine lv_iload_n hx hb dX11_isWordByte_7 rfl (lv_at hl 0 rfl) ?_
    refine lv_bipush (v := 48) hx hb dX11_isWordByte_8 (by decide) ?_
    refine lv_icmp_lt (tgt := 23) hx hb dX11_isWordByte_10 (by decide) (fun hc6 => ?_) (fun hc6 => ?_)
    · have hf7 : x0.toInt < 48 := by have z := (fa_lt _ _).mp hc6; have : ((48 : Int32).toInt) = 48 := (by decide); omega
      refine lv_iconst (v := 0) hx hb dX11_isWordByte_23 (by decide) ?_
      exact tw_zret hx hb hr hlocks (by decide) TH hS hex ⟨⟨_, rfl, (show 0 ≤ Int32.toInt 0 from by have : ((0 : Int32).toInt) = 0 := (by decide); omega), (show Int32.toInt 0 ≤ 1 from by have : ((0 : Int32).toInt) = 0 := (by decide); omega)⟩, rfl, rfl, rfl⟩ (Nat.le_of_ble_eq_true rfl) (Nat.le_of_ble_eq_true rfl) dX11_isWordByte_24
    · have hf8 : ¬ (x0.toInt < 48) := fun q => hc6 ((fa_lt _ _).mpr (by have : ((48 : Int32).toInt) = 48 := (by decide); omega))
      refine lv_iload_n hx hb dX11_isWordByte_13 rfl (lv_at hl 0 rfl) ?_
      refine lv_bipush (v := 57) hx hb dX11_isWordByte_14 (by decide) ?_
      refine lv_icmp_gt (tgt := 23) hx hb dX11_isWordByte_16 (by decide) (fun hc9 => ?_) (fun hc9 => ?_)
      · have hf10 : 57 < x0.toInt := by have z := (fa_lt _ _).mp hc9; have : ((57 : Int32).toInt) = 57 := (by decide); omega
        refine lv_iconst (v := 0) hx hb dX11_isWordByte_23 (by decide) ?_
        exact tw_zret hx hb hr hlocks (by decide) TH hS hex ⟨⟨_, rfl, (show 0 ≤ Int32.toInt 0 from by have : ((0 : Int32).toInt) = 0 := (by decide); omega), (show Int32.toInt 0 ≤ 1 from by have : ((0 : Int32).toInt) = 0 := (by decide); omega)⟩, rfl, rfl, rfl⟩ (Nat.le_of_ble_eq_true rfl) (Nat.le_of_ble_eq_true rfl) dX11_isWordByte_24
      · have hf11 : ¬ (57 < x0.toInt) := fun q => hc9 ((fa_lt _ _).mpr (by have : ((57 : Int32).toInt) = 57 := (by decide); omega))
        refine lv_iconst (v := 1) hx hb dX11_isWordByte_19 (by decide) ?_
        refine lv_goto (tgt := 24) hx hb dX11_isWordByte_20 (by decide) ?_
        exact tw_zret hx hb hr hlocks (by decide) TH hS hex ⟨⟨_, rfl, (show 0 ≤ Int32.toInt 1 from by have : ((1 : Int32).toInt) = 1 := (by decide); omega), (show Int32.toInt 1 ≤ 1 from by have : ((1 : Int32).toInt) = 1 := (by decide); omega)⟩, rfl, rfl, rfl⟩ (Nat.le_of_ble_eq_true rfl) (Nat.le_of_ble_eq_true rfl) dX11_isWordByte_24
set_option maxHeartbeats 4000000 in
set_option maxRecDepth 100000 in
theorem tX9_isSign (l : Launch) (D : va_G) (cs : Nat → ClassId) {kp : Nat → Nat} {L : List Nat} {E : Nat → va_E} (x0 : Int32)  (sz : Nat) : Met l yX9_isSign (.code yX9_isSign cX9_isSign 1 (some .boolean) :: cx_big) { frames := 0, cells := 0, slots := 0, locals := 0 } (tw_P D cs kp L E [.int x0] sz) (tw_Q D cs kp L (fun v kq Lq Eq => (∃ x : Int32, v = some (.int x) ∧ 0 ≤ x.toInt ∧ x.toInt ≤ 1) ∧ kp = kq ∧ L = Lq ∧ E = Eq) (va_A (va_pl L E) sz)) 0 0 (va_A (va_pl L E) sz) := by
  refine tw_ofW (by decide) (Nat.le_of_ble_eq_true rfl) ?_
  intro p e s m below meth c A ls hx hb hr hml hB hown hlocks hK hN hA TH hS hl
  have hown : s.vm.findClass "TreeMerge$Text" = some m.cls := hown
  have hl : lv_has ls 1 [(0, .int x0)] := hl
  obtain ⟨kp0, ekp⟩ : ∃ z, z = kp := ⟨_, rfl⟩
  obtain ⟨L0, eL⟩ : ∃ z, z = L := ⟨_, rfl⟩
  rw [show tw_Q D cs kp L = tw_Q D cs kp0 L0 by rw [ekp, eL]]
  have hex : ∀ a : Nat, a ∈ L0 → a ∈ L ∧ kp a = kp0 a := fun a h => ⟨by rw [← eL]; exact h, by rw [ekp]⟩
  refine lv_iload_n hx hb dX9_isSign_0 rfl (lv_at hl 0 rfl) ?_
  refine lv_bipush (v := 61) hx hb dX9_isSign_1 (by decide) ?_
  refine lv_icmp_eq (tgt := 36) hx hb dX9_isSign_3 (by decide) (fun hc1 => ?_) (fun hc1 => ?_)
  · have hf2 : x0.toInt = 61 := by have z := (fa_eq _ _).mp hc1; have : ((61 : Int32).toInt) = 61 := (by decide); omega
    refine lv_iconst (v := 1) hx hb dX9_isSign_36 (by decide) ?_
    refine lv_goto (tgt := 41) hx hb dX9_isSign_37 (by decide) ?_
    exact tw_zret hx hb hr hlocks (by decide) TH hS hex ⟨⟨_, rfl, (show 0 ≤ Int32.toInt 1 from by have : ((1 : Int32).toInt) = 1 := (by decide); omega), (show Int32.toInt 1 ≤ 1 from by have : ((1 : Int32).toInt) = 1 := (by decide); omega)⟩, rfl, rfl, rfl⟩ (Nat.le_of_ble_eq_true rfl) (Nat.le_of_ble_eq_true rfl) dX9_isSign_41
  · have hf3 : ¬ (x0.toInt = 61) := fun q => hc1 ((fa_eq _ _).mpr (by have : ((61 : Int32).toInt) = 61 := (by decide); omega))
    refine lv_iload_n hx hb dX9_isSign_6 rfl (lv_at hl 0 rfl) ?_
    refine lv_bipush (v := 59) hx hb dX9_isSign_7 (by decide) ?_
    refine lv_icmp_eq (tgt := 36) hx hb dX9_isSign_9 (by decide) (fun hc4 => ?_) (fun hc4 => ?_)
    · have hf5 : x0.toInt = 59 := by have z := (fa_eq _ _).mp hc4; have : ((59 : Int32).toInt) = 59 := (by decide); omega
      refine lv_iconst (v := 1) hx hb dX9_isSign_36 (by decide) ?_
      refine lv_goto (tgt := 41) hx hb dX9_isSign_37 (by decide) ?_
      exact tw_zret hx hb hr hlocks (by decide) TH hS hex ⟨⟨_, rfl, (show 0 ≤ Int32.toInt 1 from by have : ((1 : Int32).toInt) = 1 := (by decide); omega), (show Int32.toInt 1 ≤ 1 from by have : ((1 : Int32).toInt) = 1 := (by decide); omega)⟩, rfl, rfl, rfl⟩ (Nat.le_of_ble_eq_true rfl) (Nat.le_of_ble_eq_true rfl) dX9_isSign_41
    · have hf6 : ¬ (x0.toInt = 59) := fun q => hc4 ((fa_eq _ _).mpr (by have : ((59 : Int32).toInt) = 59 := (by decide); omega))
      refine lv_iload_n hx hb dX9_isSign_12 rfl (lv_at hl 0 rfl) ?_
      refine lv_bipush (v := 42) hx hb dX9_isSign_13 (by decide) ?_
      refine lv_icmp_eq (tgt := 36) hx hb dX9_isSign_15 (by decide) (fun hc7 => ?_) (fun hc7 => ?_)
      · have hf8 : x0.toInt = 42 := by have z := (fa_eq _ _).mp hc7; have : ((42 : Int32).toInt) = 42 := (by decide); omega
        refine lv_iconst (v := 1) hx hb dX9_isSign_36 (by decide) ?_
        refine lv_goto (tgt := 41) hx hb dX9_isSign_37 (by decide) ?_
        exact tw_zret hx hb hr hlocks (by decide) TH hS hex ⟨⟨_, rfl, (show 0 ≤ Int32.toInt 1 from by have : ((1 : Int32).toInt) = 1 := (by decide); omega), (show Int32.toInt 1 ≤ 1 from by have : ((1 : Int32).toInt) = 1 := (by decide); omega)⟩, rfl, rfl, rfl⟩ (Nat.le_of_ble_eq_true rfl) (Nat.le_of_ble_eq_true rfl) dX9_isSign_41
      · have hf9 : ¬ (x0.toInt = 42) := fun q => hc7 ((fa_eq _ _).mpr (by have : ((42 : Int32).toInt) = 42 := (by decide); omega))
        refine lv_iload_n hx hb dX9_isSign_18 rfl (lv_at hl 0 rfl) ?_
        refine lv_bipush (v := 63) hx hb dX9_isSign_19 (by decide) ?_
        refine lv_icmp_eq (tgt := 36) hx hb dX9_isSign_21 (by decide) (fun hc10 => ?_) (fun hc10 => ?_)
        · have hf11 : x0.toInt = 63 := by have z := (fa_eq _ _).mp hc10; have : ((63 : Int32).toInt) = 63 := (by decide); omega
          refine lv_iconst (v := 1) hx hb dX9_isSign_36 (by decide) ?_
          refine lv_goto (tgt := 41) hx hb dX9_isSign_37 (by decide) ?_
          exact tw_zret hx hb hr hlocks (by decide) TH hS hex ⟨⟨_, rfl, (show 0 ≤ Int32.toInt 1 from by have : ((1 : Int32).toInt) = 1 := (by decide); omega), (show Int32.toInt 1 ≤ 1 from by have : ((1 : Int32).toInt) = 1 := (by decide); omega)⟩, rfl, rfl, rfl⟩ (Nat.le_of_ble_eq_true rfl) (Nat.le_of_ble_eq_true rfl) dX9_isSign_41
        · have hf12 : ¬ (x0.toInt = 63) := fun q => hc10 ((fa_eq _ _).mpr (by have : ((63 : Int32).toInt) = 63 := (by decide); omega))
          refine lv_iload_n hx hb dX9_isSign_24 rfl (lv_at hl 0 rfl) ?_
          refine lv_bipush (v := 40) hx hb dX9_isSign_25 (by decide) ?_
          refine lv_icmp_eq (tgt := 36) hx hb dX9_isSign_27 (by decide) (fun hc13 => ?_) (fun hc13 => ?_)
          · have hf14 : x0.toInt = 40 := by have z := (fa_eq _ _).mp hc13; have : ((40 : Int32).toInt) = 40 := (by decide); omega
            refine lv_iconst (v := 1) hx hb dX9_isSign_36 (by decide) ?_
            refine lv_goto (tgt := 41) hx hb dX9_isSign_37 (by decide) ?_
            exact tw_zret hx hb hr hlocks (by decide) TH hS hex ⟨⟨_, rfl, (show 0 ≤ Int32.toInt 1 from by have : ((1 : Int32).toInt) = 1 := (by decide); omega), (show Int32.toInt 1 ≤ 1 from by have : ((1 : Int32).toInt) = 1 := (by decide); omega)⟩, rfl, rfl, rfl⟩ (Nat.le_of_ble_eq_true rfl) (Nat.le_of_ble_eq_true rfl) dX9_isSign_41
          · have hf15 : ¬ (x0.toInt = 40) := fun q => hc13 ((fa_eq _ _).mpr (by have : ((40 : Int32).toInt) = 40 := (by decide); omega))
            refine lv_iload_n hx hb dX9_isSign_30 rfl (lv_at hl 0 rfl) ?_
            refine lv_bipush (v := 41) hx hb dX9_isSign_31 (by decide) ?_
            refine lv_icmp_ne (tgt := 40) hx hb dX9_isSign_33 (by decide) (fun hc16 => ?_) (fun hc16 => ?_)
            · have hf17 : ¬ (x0.toInt = 41) := fun q => hc16 ((fa_eq _ _).mpr (by have : ((41 : Int32).toInt) = 41 := (by decide); omega))
              refine lv_iconst (v := 0) hx hb dX9_isSign_40 (by decide) ?_
              exact tw_zret hx hb hr hlocks (by decide) TH hS hex ⟨⟨_, rfl, (show 0 ≤ Int32.toInt 0 from by have : ((0 : Int32).toInt) = 0 := (by decide); omega), (show Int32.toInt 0 ≤ 1 from by have : ((0 : Int32).toInt) = 0 := (by decide); omega)⟩, rfl, rfl, rfl⟩ (Nat.le_of_ble_eq_true rfl) (Nat.le_of_ble_eq_true rfl) dX9_isSign_41
            · have hf18 : x0.toInt = 41 := by have z := (fa_eq _ _).mp hc16; have : ((41 : Int32).toInt) = 41 := (by decide); omega
              refine lv_iconst (v := 1) hx hb dX9_isSign_36 (by decide) ?_
              refine lv_goto (tgt := 41) hx hb dX9_isSign_37 (by decide) ?_
              exact tw_zret hx hb hr hlocks (by decide) TH hS hex ⟨⟨_, rfl, (show 0 ≤ Int32.toInt 1 from by have : ((1 : Int32).toInt) = 1 := (by decide); omega), (show Int32.toInt 1 ≤ 1 from by have : ((1 : Int32).toInt) = 1 := (by decide); omega)⟩, rfl, rfl, rfl⟩ (Nat.le_of_ble_eq_true rfl) (Nat.le_of_ble_eq_true rfl) dX9_isSign_41
set_option maxHeartbeats 4000000 in
set_option maxRecDepth 100000 in
theorem tX9_cutWord (l : Launch) (D : va_G) (cs : Nat → ClassId) {kp : Nat → Nat} {L : List Nat} {E : Nat → va_E} (a0 : Nat) (hm0 : a0 ∈ L) (hk0 : kp a0 = 9) (hfp0 : ∃ z : Int32, tw_fv E a0 3 = .int z ∧ 0 ≤ z.toInt ∧ z.toInt ≤ 499) (sz : Nat) : Met l yX9_cutWord (.code yX9_cutWord cX9_cutWord 1 none :: cx_big) { frames := 2, cells := 0, slots := 0, locals := 40 } (tw_P D cs kp L E [.ref a0] sz) (tw_Q D cs kp L (fun v _ _ _ => v = none) (va_A (va_pl L E) sz)) 0 0 (va_A (va_pl L E) sz) := by
  obtain ⟨fz0, hfz0, hfz0a, hfz0b⟩ := hfp0
  refine tw_ofW (by decide) (Nat.le_of_ble_eq_true rfl) ?_
  intro p e s m below meth c A ls hx hb hr hml hB hown hlocks hK hN hA TH hS hl
  have hown : s.vm.findClass "TreeMerge$Text" = some m.cls := hown
  have hl : lv_has ls 1 [(0, .ref a0)] := hl
  obtain ⟨kp0, ekp⟩ : ∃ z, z = kp := ⟨_, rfl⟩
  obtain ⟨L0, eL⟩ : ∃ z, z = L := ⟨_, rfl⟩
  rw [show tw_Q D cs kp L = tw_Q D cs kp0 L0 by rw [ekp, eL]]
  have hex : ∀ a : Nat, a ∈ L0 → a ∈ L ∧ kp a = kp0 a := fun a h => ⟨by rw [← eL]; exact h, by rw [ekp]⟩
  refine lv_aload_n hx hb dX9_cutWord_0 rfl (lv_at hl 0 rfl) ?_
  refine lv_aload_n hx hb dX9_cutWord_1 rfl (lv_at hl 0 rfl) ?_
  refine tw_get (ci := 9) (C := RX9) (T := TX9) (N := 5) hx hb hB cx_inX9 hown hK TH hm0 hk0 rfl ⟨by decide, rfl⟩ 3 (by decide) cw_43 (fun _ h9 => h9) dX9_cutWord_2 (fun hv => ?_)
  rw [hfz0]
  refine lv_iconst (v := 1) hx hb dX9_cutWord_5 (by decide) ?_
  refine lv_iadd hx hb dX9_cutWord_6 ?_
  refine lv_topi (fun zi1 ezi1 => ?_)
  have hzi1 : zi1.toInt = fz0.toInt + 1 := by rw [ezi1]; have : ((1 : Int32).toInt) = 1 := (by decide); exact (ia_add (by omega) (by omega)).trans (by omega)
  refine tw_put (ci := 9) (v := .int zi1) (ty := .int) (C := RX9) (T := TX9) (N := 5) hx hb hB cx_inX9 tyX9 tyX9_ok nmX9 hown hK TH hS hm0 hk0 rfl ⟨by decide, rfl⟩ 4 (by decide) cw_46 (fun _ h9 => h9) rfl (by decide +kernel) rfl rfl ⟨_, rfl, (show 0 ≤ Int32.toInt zi1 from by  omega), (show Int32.toInt zi1 ≤ 500 from by  omega)⟩ dX9_cutWord_7 (fun H locs E2 TH hS hp1 hp2 hp3 => ?_)
  have hm3 : tw_fv E2 a0 3 = .int fz0 := (hp2 a0 3 (Or.inr (by decide))).trans hfz0
  have hm4 := hp1
  have hJ10 : ∀ (n : Nat) (w10_0_3 : Int32) (w10_0_4 : Int32) (Eg10 : Nat → va_E) (H : Heap) (locs : List Loc) (ls : Array Slot), 0 ≤ w10_0_3.toInt → w10_0_3.toInt ≤ 499 → 1 ≤ w10_0_4.toInt → w10_0_4.toInt ≤ 500 → 500 - w10_0_4.toInt ≤ (n : Int) → tw_fv Eg10 a0 3 = .int w10_0_3 → tw_fv Eg10 a0 4 = .int w10_0_4 → tw_H D cs kp L Eg10 A H → va_S A s.heap H locs → lv_has ls 1 [(0, .ref a0)] → W p l e { frames := 2, cells := 0, slots := 0, locals := 40 } s m [.ref a0].toArray below meth c H locs 0 0 (MQ below (tw_Q D cs kp0 L0 (fun v _ _ _ => v = none) A) [.ref a0].toArray s 0 0 A) (F0 m 10 ls []) := by
    intro n10
    induction n10 with
    | zero =>
      intro w10_0_3 w10_0_4 Eg10 H locs ls hw10_0_3a hw10_0_3b hw10_0_4a hw10_0_4b hmeas hfm10_0 hfm10_1 TH hS hl
      refine lv_aload_n hx hb dX9_cutWord_10 rfl (lv_at hl 0 rfl) ?_
      refine tw_get (ci := 9) (C := RX9) (T := TX9) (N := 5) hx hb hB cx_inX9 hown hK TH hm0 hk0 rfl ⟨by decide, rfl⟩ 4 (by decide) cw_46 (fun _ h9 => h9) dX9_cutWord_11 (fun hv => ?_)
      rw [hfm10_1]
      refine lv_aload_n hx hb dX9_cutWord_14 rfl (lv_at hl 0 rfl) ?_
      refine tw_get (ci := 9) (C := RX9) (T := TX9) (N := 5) hx hb hB cx_inX9 hown hK TH hm0 hk0 rfl ⟨by decide, rfl⟩ 1 (by decide) cw_36 (fun _ h9 => h9) dX9_cutWord_15 (fun hv => ?_)
      obtain ⟨xi5, hxi5, hxi5a, hxi5b⟩ : ∃ x : Int32, tw_fv Eg10 a0 1 = .int x ∧ 0 ≤ x.toInt ∧ x.toInt ≤ 500 := hv
      rw [hxi5]
      have hJ63 : ∀  (H : Heap) (locs : List Loc) (ls : Array Slot), tw_H D cs kp L Eg10 A H → va_S A s.heap H locs → lv_has ls 1 [(0, .ref a0)] → W p l e { frames := 2, cells := 0, slots := 0, locals := 40 } s m [.ref a0].toArray below meth c H locs 0 0 (MQ below (tw_Q D cs kp0 L0 (fun v _ _ _ => v = none) A) [.ref a0].toArray s 0 0 A) (F0 m 63 ls []) := by
        intro H locs ls TH hS hl
        refine lv_aload_n hx hb dX9_cutWord_63 rfl (lv_at hl 0 rfl) ?_
        refine tw_get (ci := 9) (C := RX9) (T := TX9) (N := 5) hx hb hB cx_inX9 hown hK TH hm0 hk0 rfl ⟨by decide, rfl⟩ 4 (by decide) cw_46 (fun _ h9 => h9) dX9_cutWord_64 (fun hv => ?_)
        rw [hfm10_1]
        refine lv_aload_n hx hb dX9_cutWord_67 rfl (lv_at hl 0 rfl) ?_
        refine tw_get (ci := 9) (C := RX9) (T := TX9) (N := 5) hx hb hB cx_inX9 hown hK TH hm0 hk0 rfl ⟨by decide, rfl⟩ 1 (by decide) cw_36 (fun _ h9 => h9) dX9_cutWord_68 (fun hv => ?_)
        rw [hxi5]
        refine lv_icmp_lt (tgt := 82) hx hb dX9_cutWord_71 (by decide) (fun hc6 => ?_) (fun hc6 => ?_)
        · have hf7 : w10_0_4.toInt < xi5.toInt := by have z := (fa_lt _ _).mp hc6;  omega
          refine lv_aload_n hx hb dX9_cutWord_82 rfl (lv_at hl 0 rfl) ?_
          refine tw_get (ci := 9) (C := RX9) (T := TX9) (N := 5) hx hb hB cx_inX9 hown hK TH hm0 hk0 rfl ⟨by decide, rfl⟩ 0 (by decide) cw_34 (fun _ h9 => h9) dX9_cutWord_83 (fun hv => ?_)
          obtain ⟨xr8, hxr8, hmxr8, hkxr8⟩ : ∃ a : Nat, tw_fv Eg10 a0 0 = .ref a ∧ a ∈ L ∧ kp a = 100 := hv
          rw [hxr8]
          refine lv_aload_n hx hb dX9_cutWord_86 rfl (lv_at hl 0 rfl) ?_
          refine tw_get (ci := 9) (C := RX9) (T := TX9) (N := 5) hx hb hB cx_inX9 hown hK TH hm0 hk0 rfl ⟨by decide, rfl⟩ 4 (by decide) cw_46 (fun _ h9 => h9) dX9_cutWord_87 (fun hv => ?_)
          rw [hfm10_1]
          refine tw_iald (k := 100) (t0 := 0) (n := 500) (lo := 0) (hi := 255) hx hb hK TH hmxr8 hkxr8 (by decide) rfl rfl (i := w10_0_4) (vp_in_iff.mpr ⟨by  omega, by  omega⟩) dX9_cutWord_90 (fun hxe9a hxe9b => ?_)
          generalize tw_iv Eg10 xr8 (Int32.toNatClampNeg w10_0_4) = xe9 at hxe9a hxe9b ⊢
          refine lv_bipush (v := 125) hx hb dX9_cutWord_91 (by decide) ?_
          refine lv_icmp_ne (tgt := 127) hx hb dX9_cutWord_93 (by decide) (fun hc10 => ?_) (fun hc10 => ?_)
          · have hf11 : ¬ (xe9.toInt = 125) := fun q => hc10 ((fa_eq _ _).mpr (by have : ((125 : Int32).toInt) = 125 := (by decide); omega))
            refine lv_aload_n hx hb dX9_cutWord_127 rfl (lv_at hl 0 rfl) ?_
            refine lv_bipush (v := 6) hx hb dX9_cutWord_128 (by decide) ?_
            refine tw_put (ci := 9) (v := .int 6) (ty := .int) (C := RX9) (T := TX9) (N := 5) hx hb hB cx_inX9 tyX9 tyX9_ok nmX9 hown hK TH hS hm0 hk0 rfl ⟨by decide, rfl⟩ 2 (by decide) cw_41 (fun _ h9 => h9) rfl (by decide +kernel) rfl rfl ⟨_, rfl, (show 0 ≤ Int32.toInt 6 from by have : ((6 : Int32).toInt) = 6 := (by decide); omega), (show Int32.toInt 6 ≤ 255 from by have : ((6 : Int32).toInt) = 6 := (by decide); omega)⟩ dX9_cutWord_130 (fun H locs E12 TH hS hp1 hp2 hp3 => ?_)
            have hm13 : tw_fv E12 a0 3 = .int w10_0_3 := (hp2 a0 3 (Or.inr (by decide))).trans hfm10_0
            have hm14 : tw_fv E12 a0 4 = .int w10_0_4 := (hp2 a0 4 (Or.inr (by decide))).trans hfm10_1
            have hm15 : tw_fv E12 a0 1 = .int xi5 := (hp2 a0 1 (Or.inr (by decide))).trans hxi5
            have hm16 : tw_fv E12 a0 0 = .ref xr8 := (hp2 a0 0 (Or.inr (by decide))).trans hxr8
            have hm17 := hp1
            exact tw_vret hx hb hr hlocks TH hS hex rfl (Nat.le_of_ble_eq_true rfl) (Nat.le_of_ble_eq_true rfl) dX9_cutWord_133
          · have hf18 : xe9.toInt = 125 := by have z := (fa_eq _ _).mp hc10; have : ((125 : Int32).toInt) = 125 := (by decide); omega
            refine lv_aload_n hx hb dX9_cutWord_96 rfl (lv_at hl 0 rfl) ?_
            refine tw_get (ci := 9) (C := RX9) (T := TX9) (N := 5) hx hb hB cx_inX9 hown hK TH hm0 hk0 rfl ⟨by decide, rfl⟩ 4 (by decide) cw_46 (fun _ h9 => h9) dX9_cutWord_97 (fun hv => ?_)
            rw [hfm10_1]
            refine lv_aload_n hx hb dX9_cutWord_100 rfl (lv_at hl 0 rfl) ?_
            refine tw_get (ci := 9) (C := RX9) (T := TX9) (N := 5) hx hb hB cx_inX9 hown hK TH hm0 hk0 rfl ⟨by decide, rfl⟩ 3 (by decide) cw_43 (fun _ h9 => h9) dX9_cutWord_101 (fun hv => ?_)
            rw [hfm10_0]
            refine lv_isub hx hb dX9_cutWord_104 ?_
            refine lv_topi (fun zi19 ezi19 => ?_)
            have hzi19 : zi19.toInt = w10_0_4.toInt - w10_0_3.toInt := by rw [ezi19];  exact (ia_sub (by omega) (by omega)).trans (by omega)
            refine lv_iconst (v := 1) hx hb dX9_cutWord_105 (by decide) ?_
            refine lv_icmp_le (tgt := 127) hx hb dX9_cutWord_106 (by decide) (fun hc20 => ?_) (fun hc20 => ?_)
            · have hf21 : zi19.toInt ≤ 1 := by have z := (fa_le _ _).mp hc20; have : ((1 : Int32).toInt) = 1 := (by decide); omega
              refine lv_aload_n hx hb dX9_cutWord_127 rfl (lv_at hl 0 rfl) ?_
              refine lv_bipush (v := 6) hx hb dX9_cutWord_128 (by decide) ?_
              refine tw_put (ci := 9) (v := .int 6) (ty := .int) (C := RX9) (T := TX9) (N := 5) hx hb hB cx_inX9 tyX9 tyX9_ok nmX9 hown hK TH hS hm0 hk0 rfl ⟨by decide, rfl⟩ 2 (by decide) cw_41 (fun _ h9 => h9) rfl (by decide +kernel) rfl rfl ⟨_, rfl, (show 0 ≤ Int32.toInt 6 from by have : ((6 : Int32).toInt) = 6 := (by decide); omega), (show Int32.toInt 6 ≤ 255 from by have : ((6 : Int32).toInt) = 6 := (by decide); omega)⟩ dX9_cutWord_130 (fun H locs E22 TH hS hp1 hp2 hp3 => ?_)
              have hm23 : tw_fv E22 a0 3 = .int w10_0_3 := (hp2 a0 3 (Or.inr (by decide))).trans hfm10_0
              have hm24 : tw_fv E22 a0 4 = .int w10_0_4 := (hp2 a0 4 (Or.inr (by decide))).trans hfm10_1
              have hm25 : tw_fv E22 a0 1 = .int xi5 := (hp2 a0 1 (Or.inr (by decide))).trans hxi5
              have hm26 : tw_fv E22 a0 0 = .ref xr8 := (hp2 a0 0 (Or.inr (by decide))).trans hxr8
              have hm27 := hp1
              exact tw_vret hx hb hr hlocks TH hS hex rfl (Nat.le_of_ble_eq_true rfl) (Nat.le_of_ble_eq_true rfl) dX9_cutWord_133
            · have hf28 : ¬ (zi19.toInt ≤ 1) := fun q => hc20 ((fa_le _ _).mpr (by have : ((1 : Int32).toInt) = 1 := (by decide); omega))
              refine lv_aload_n hx hb dX9_cutWord_109 rfl (lv_at hl 0 rfl) ?_
              refine lv_iconst (v := 4) hx hb dX9_cutWord_110 (by decide) ?_
              refine tw_put (ci := 9) (v := .int 4) (ty := .int) (C := RX9) (T := TX9) (N := 5) hx hb hB cx_inX9 tyX9 tyX9_ok nmX9 hown hK TH hS hm0 hk0 rfl ⟨by decide, rfl⟩ 2 (by decide) cw_41 (fun _ h9 => h9) rfl (by decide +kernel) rfl rfl ⟨_, rfl, (show 0 ≤ Int32.toInt 4 from by have : ((4 : Int32).toInt) = 4 := (by decide); omega), (show Int32.toInt 4 ≤ 255 from by have : ((4 : Int32).toInt) = 4 := (by decide); omega)⟩ dX9_cutWord_111 (fun H locs E29 TH hS hp1 hp2 hp3 => ?_)
              have hm30 : tw_fv E29 a0 3 = .int w10_0_3 := (hp2 a0 3 (Or.inr (by decide))).trans hfm10_0
              have hm31 : tw_fv E29 a0 4 = .int w10_0_4 := (hp2 a0 4 (Or.inr (by decide))).trans hfm10_1
              have hm32 : tw_fv E29 a0 1 = .int xi5 := (hp2 a0 1 (Or.inr (by decide))).trans hxi5
              have hm33 : tw_fv E29 a0 0 = .ref xr8 := (hp2 a0 0 (Or.inr (by decide))).trans hxr8
              have hm34 := hp1
              refine lv_aload_n hx hb dX9_cutWord_114 rfl (lv_at hl 0 rfl) ?_
              refine lv_dup hx hb dX9_cutWord_115 rfl ?_
              refine tw_get (ci := 9) (C := RX9) (T := TX9) (N := 5) hx hb hB cx_inX9 hown hK TH hm0 hk0 rfl ⟨by decide, rfl⟩ 4 (by decide) cw_46 (fun _ h9 => h9) dX9_cutWord_116 (fun hv => ?_)
              rw [hm31]
              refine lv_iconst (v := 1) hx hb dX9_cutWord_119 (by decide) ?_
              refine lv_iadd hx hb dX9_cutWord_120 ?_
              refine lv_topi (fun zi35 ezi35 => ?_)
              have hzi35 : zi35.toInt = w10_0_4.toInt + 1 := by rw [ezi35]; have : ((1 : Int32).toInt) = 1 := (by decide); exact (ia_add (by omega) (by omega)).trans (by omega)
              refine tw_put (ci := 9) (v := .int zi35) (ty := .int) (C := RX9) (T := TX9) (N := 5) hx hb hB cx_inX9 tyX9 tyX9_ok nmX9 hown hK TH hS hm0 hk0 rfl ⟨by decide, rfl⟩ 4 (by decide) cw_46 (fun _ h9 => h9) rfl (by decide +kernel) rfl rfl ⟨_, rfl, (show 0 ≤ Int32.toInt zi35 from by  omega), (show Int32.toInt zi35 ≤ 500 from by  omega)⟩ dX9_cutWord_121 (fun H locs E36 TH hS hp1 hp2 hp3 => ?_)
              have hm37 : tw_fv E36 a0 3 = .int w10_0_3 := (hp2 a0 3 (Or.inr (by decide))).trans hm30
              have hm38 : tw_fv E36 a0 1 = .int xi5 := (hp2 a0 1 (Or.inr (by decide))).trans hm32
              have hm39 : tw_fv E36 a0 0 = .ref xr8 := (hp2 a0 0 (Or.inr (by decide))).trans hm33
              have hm40 : tw_fv E36 a0 2 = .int 4 := (hp2 a0 2 (Or.inr (by decide))).trans hm34
              have hm41 := hp1
              refine lv_goto (tgt := 133) hx hb dX9_cutWord_124 (by decide) ?_
              exact tw_vret hx hb hr hlocks TH hS hex rfl (Nat.le_of_ble_eq_true rfl) (Nat.le_of_ble_eq_true rfl) dX9_cutWord_133
        · have hf42 : ¬ (w10_0_4.toInt < xi5.toInt) := fun q => hc6 ((fa_lt _ _).mpr (by  omega))
          refine lv_aload_n hx hb dX9_cutWord_74 rfl (lv_at hl 0 rfl) ?_
          refine lv_iconst (v := 5) hx hb dX9_cutWord_75 (by decide) ?_
          refine tw_put (ci := 9) (v := .int 5) (ty := .int) (C := RX9) (T := TX9) (N := 5) hx hb hB cx_inX9 tyX9 tyX9_ok nmX9 hown hK TH hS hm0 hk0 rfl ⟨by decide, rfl⟩ 2 (by decide) cw_41 (fun _ h9 => h9) rfl (by decide +kernel) rfl rfl ⟨_, rfl, (show 0 ≤ Int32.toInt 5 from by have : ((5 : Int32).toInt) = 5 := (by decide); omega), (show Int32.toInt 5 ≤ 255 from by have : ((5 : Int32).toInt) = 5 := (by decide); omega)⟩ dX9_cutWord_76 (fun H locs E43 TH hS hp1 hp2 hp3 => ?_)
          have hm44 : tw_fv E43 a0 3 = .int w10_0_3 := (hp2 a0 3 (Or.inr (by decide))).trans hfm10_0
          have hm45 : tw_fv E43 a0 4 = .int w10_0_4 := (hp2 a0 4 (Or.inr (by decide))).trans hfm10_1
          have hm46 : tw_fv E43 a0 1 = .int xi5 := (hp2 a0 1 (Or.inr (by decide))).trans hxi5
          have hm47 := hp1
          refine lv_goto (tgt := 133) hx hb dX9_cutWord_79 (by decide) ?_
          exact tw_vret hx hb hr hlocks TH hS hex rfl (Nat.le_of_ble_eq_true rfl) (Nat.le_of_ble_eq_true rfl) dX9_cutWord_133
      refine lv_icmp_ge (tgt := 63) hx hb dX9_cutWord_18 (by decide) (fun hc48 => ?_) (fun hc48 => ?_)
      · have hf49 : xi5.toInt ≤ w10_0_4.toInt := by have z := (fa_le _ _).mp hc48;  omega
        exact hJ63  _ _ ls   TH hS (lv_sub hl [0] rfl)
      · have hf50 : ¬ (xi5.toInt ≤ w10_0_4.toInt) := fun q => hc48 ((fa_le _ _).mpr (by  omega))
        refine lv_aload_n hx hb dX9_cutWord_21 rfl (lv_at hl 0 rfl) ?_
        refine tw_get (ci := 9) (C := RX9) (T := TX9) (N := 5) hx hb hB cx_inX9 hown hK TH hm0 hk0 rfl ⟨by decide, rfl⟩ 4 (by decide) cw_46 (fun _ h9 => h9) dX9_cutWord_22 (fun hv => ?_)
        rw [hfm10_1]
        refine lv_aload_n hx hb dX9_cutWord_25 rfl (lv_at hl 0 rfl) ?_
        refine tw_get (ci := 9) (C := RX9) (T := TX9) (N := 5) hx hb hB cx_inX9 hown hK TH hm0 hk0 rfl ⟨by decide, rfl⟩ 3 (by decide) cw_43 (fun _ h9 => h9) dX9_cutWord_26 (fun hv => ?_)
        rw [hfm10_0]
        refine lv_isub hx hb dX9_cutWord_29 ?_
        refine lv_topi (fun zi51 ezi51 => ?_)
        have hzi51 : zi51.toInt = w10_0_4.toInt - w10_0_3.toInt := by rw [ezi51];  exact (ia_sub (by omega) (by omega)).trans (by omega)
        refine lv_bipush (v := 8) hx hb dX9_cutWord_30 (by decide) ?_
        refine lv_icmp_gt (tgt := 63) hx hb dX9_cutWord_32 (by decide) (fun hc52 => ?_) (fun hc52 => ?_)
        · have hf53 : 8 < zi51.toInt := by have z := (fa_lt _ _).mp hc52; have : ((8 : Int32).toInt) = 8 := (by decide); omega
          exact hJ63  _ _ ls   TH hS (lv_sub hl [0] rfl)
        · have hf54 : ¬ (8 < zi51.toInt) := fun q => hc52 ((fa_lt _ _).mpr (by have : ((8 : Int32).toInt) = 8 := (by decide); omega))
          refine lv_aload_n hx hb dX9_cutWord_35 rfl (lv_at hl 0 rfl) ?_
          refine tw_get (ci := 9) (C := RX9) (T := TX9) (N := 5) hx hb hB cx_inX9 hown hK TH hm0 hk0 rfl ⟨by decide, rfl⟩ 0 (by decide) cw_34 (fun _ h9 => h9) dX9_cutWord_36 (fun hv => ?_)
          obtain ⟨xr55, hxr55, hmxr55, hkxr55⟩ : ∃ a : Nat, tw_fv Eg10 a0 0 = .ref a ∧ a ∈ L ∧ kp a = 100 := hv
          rw [hxr55]
          refine lv_aload_n hx hb dX9_cutWord_39 rfl (lv_at hl 0 rfl) ?_
          refine tw_get (ci := 9) (C := RX9) (T := TX9) (N := 5) hx hb hB cx_inX9 hown hK TH hm0 hk0 rfl ⟨by decide, rfl⟩ 4 (by decide) cw_46 (fun _ h9 => h9) dX9_cutWord_40 (fun hv => ?_)
          rw [hfm10_1]
          refine tw_iald (k := 100) (t0 := 0) (n := 500) (lo := 0) (hi := 255) hx hb hK TH hmxr55 hkxr55 (by decide) rfl rfl (i := w10_0_4) (vp_in_iff.mpr ⟨by  omega, by  omega⟩) dX9_cutWord_43 (fun hxe56a hxe56b => ?_)
          generalize tw_iv Eg10 xr55 (Int32.toNatClampNeg w10_0_4) = xe56 at hxe56a hxe56b ⊢
          refine tw_SNc (n := 1) (post := (fun v kq Lq Eq => (∃ x : Int32, v = some (.int x) ∧ 0 ≤ x.toInt ∧ x.toInt ≤ 1) ∧ kp = kq ∧ L = Lq ∧ Eg10 = Eq)) (As := [.int xe56]) (rest := []) ⟨hx, hb, hml, hown, hB⟩ (fun sz => tX11_isWordByte l D cs xe56  sz) cw_548 cw_1 (by decide +kernel) cw_547 rfl rfl (by decide +kernel) ⟨Nat.le_of_ble_eq_true rfl, Nat.le_of_ble_eq_true rfl⟩ hK hN TH hS hA rfl hl.1 rfl (Nat.le_of_ble_eq_true rfl) dX9_cutWord_44 ⟨Nat.le_of_ble_eq_true rfl, Nat.le_of_ble_eq_true rfl⟩ (fun v57 kp57 L57 E57 H locs hq57 hx57 TH hS => ?_)
          obtain ⟨⟨xc58, rfl, hxc58a, hxc58b⟩, rfl, rfl, rfl⟩ := hq57
          refine W.eq (g2 := F0 m 47 ls [.int xc58]) rfl ?_
          refine lv_if_eq (tgt := 63) hx hb dX9_cutWord_47 (by decide) (fun hc59 => ?_) (fun hc59 => ?_)
          · have hf60 : xc58.toInt = 0 := by have z := (fa_eq _ _).mp hc59; have : ((0 : Int32).toInt) = 0 := (by decide); omega
            exact hJ63  _ _ ls   TH hS (lv_sub hl [0] rfl)
          · have hf61 : ¬ (xc58.toInt = 0) := fun q => hc59 ((fa_eq _ _).mpr (by have : ((0 : Int32).toInt) = 0 := (by decide); omega))
            refine lv_aload_n hx hb dX9_cutWord_50 rfl (lv_at hl 0 rfl) ?_
            refine lv_dup hx hb dX9_cutWord_51 rfl ?_
            refine tw_get (ci := 9) (C := RX9) (T := TX9) (N := 5) hx hb hB cx_inX9 hown hK TH hm0 hk0 rfl ⟨by decide, rfl⟩ 4 (by decide) cw_46 (fun _ h9 => h9) dX9_cutWord_52 (fun hv => ?_)
            rw [hfm10_1]
            refine lv_iconst (v := 1) hx hb dX9_cutWord_55 (by decide) ?_
            refine lv_iadd hx hb dX9_cutWord_56 ?_
            refine lv_topi (fun zi62 ezi62 => ?_)
            have hzi62 : zi62.toInt = w10_0_4.toInt + 1 := by rw [ezi62]; have : ((1 : Int32).toInt) = 1 := (by decide); exact (ia_add (by omega) (by omega)).trans (by omega)
            refine tw_put (ci := 9) (v := .int zi62) (ty := .int) (C := RX9) (T := TX9) (N := 5) hx hb hB cx_inX9 tyX9 tyX9_ok nmX9 hown hK TH hS hm0 hk0 rfl ⟨by decide, rfl⟩ 4 (by decide) cw_46 (fun _ h9 => h9) rfl (by decide +kernel) rfl rfl ⟨_, rfl, (show 0 ≤ Int32.toInt zi62 from by  omega), (show Int32.toInt zi62 ≤ 500 from by  omega)⟩ dX9_cutWord_57 (fun H locs E63 TH hS hp1 hp2 hp3 => ?_)
            have hm64 : tw_fv E63 a0 3 = .int w10_0_3 := (hp2 a0 3 (Or.inr (by decide))).trans hfm10_0
            have hm65 : tw_fv E63 a0 1 = .int xi5 := (hp2 a0 1 (Or.inr (by decide))).trans hxi5
            have hm66 : tw_fv E63 a0 0 = .ref xr55 := (hp2 a0 0 (Or.inr (by decide))).trans hxr55
            have hm67 := hp1
            refine lv_goto (tgt := 10) hx hb dX9_cutWord_60 (by decide) ?_
            exfalso; omega
    | succ n10 ih10 =>
      intro w10_0_3 w10_0_4 Eg10 H locs ls hw10_0_3a hw10_0_3b hw10_0_4a hw10_0_4b hmeas hfm10_0 hfm10_1 TH hS hl
      refine lv_aload_n hx hb dX9_cutWord_10 rfl (lv_at hl 0 rfl) ?_
      refine tw_get (ci := 9) (C := RX9) (T := TX9) (N := 5) hx hb hB cx_inX9 hown hK TH hm0 hk0 rfl ⟨by decide, rfl⟩ 4 (by decide) cw_46 (fun _ h9 => h9) dX9_cutWord_11 (fun hv => ?_)
      rw [hfm10_1]
      refine lv_aload_n hx hb dX9_cutWord_14 rfl (lv_at hl 0 rfl) ?_
      refine tw_get (ci := 9) (C := RX9) (T := TX9) (N := 5) hx hb hB cx_inX9 hown hK TH hm0 hk0 rfl ⟨by decide, rfl⟩ 1 (by decide) cw_36 (fun _ h9 => h9) dX9_cutWord_15 (fun hv => ?_)
      obtain ⟨xi68, hxi68, hxi68a, hxi68b⟩ : ∃ x : Int32, tw_fv Eg10 a0 1 = .int x ∧ 0 ≤ x.toInt ∧ x.toInt ≤ 500 := hv
      rw [hxi68]
      have hJ63 : ∀  (H : Heap) (locs : List Loc) (ls : Array Slot), tw_H D cs kp L Eg10 A H → va_S A s.heap H locs → lv_has ls 1 [(0, .ref a0)] → W p l e { frames := 2, cells := 0, slots := 0, locals := 40 } s m [.ref a0].toArray below meth c H locs 0 0 (MQ below (tw_Q D cs kp0 L0 (fun v _ _ _ => v = none) A) [.ref a0].toArray s 0 0 A) (F0 m 63 ls []) := by
        intro H locs ls TH hS hl
        refine lv_aload_n hx hb dX9_cutWord_63 rfl (lv_at hl 0 rfl) ?_
        refine tw_get (ci := 9) (C := RX9) (T := TX9) (N := 5) hx hb hB cx_inX9 hown hK TH hm0 hk0 rfl ⟨by decide, rfl⟩ 4 (by decide) cw_46 (fun _ h9 => h9) dX9_cutWord_64 (fun hv => ?_)
        rw [hfm10_1]
        refine lv_aload_n hx hb dX9_cutWord_67 rfl (lv_at hl 0 rfl) ?_
        refine tw_get (ci := 9) (C := RX9) (T := TX9) (N := 5) hx hb hB cx_inX9 hown hK TH hm0 hk0 rfl ⟨by decide, rfl⟩ 1 (by decide) cw_36 (fun _ h9 => h9) dX9_cutWord_68 (fun hv => ?_)
        rw [hxi68]
        refine lv_icmp_lt (tgt := 82) hx hb dX9_cutWord_71 (by decide) (fun hc69 => ?_) (fun hc69 => ?_)
        · have hf70 : w10_0_4.toInt < xi68.toInt := by have z := (fa_lt _ _).mp hc69;  omega
          refine lv_aload_n hx hb dX9_cutWord_82 rfl (lv_at hl 0 rfl) ?_
          refine tw_get (ci := 9) (C := RX9) (T := TX9) (N := 5) hx hb hB cx_inX9 hown hK TH hm0 hk0 rfl ⟨by decide, rfl⟩ 0 (by decide) cw_34 (fun _ h9 => h9) dX9_cutWord_83 (fun hv => ?_)
          obtain ⟨xr71, hxr71, hmxr71, hkxr71⟩ : ∃ a : Nat, tw_fv Eg10 a0 0 = .ref a ∧ a ∈ L ∧ kp a = 100 := hv
          rw [hxr71]
          refine lv_aload_n hx hb dX9_cutWord_86 rfl (lv_at hl 0 rfl) ?_
          refine tw_get (ci := 9) (C := RX9) (T := TX9) (N := 5) hx hb hB cx_inX9 hown hK TH hm0 hk0 rfl ⟨by decide, rfl⟩ 4 (by decide) cw_46 (fun _ h9 => h9) dX9_cutWord_87 (fun hv => ?_)
          rw [hfm10_1]
          refine tw_iald (k := 100) (t0 := 0) (n := 500) (lo := 0) (hi := 255) hx hb hK TH hmxr71 hkxr71 (by decide) rfl rfl (i := w10_0_4) (vp_in_iff.mpr ⟨by  omega, by  omega⟩) dX9_cutWord_90 (fun hxe72a hxe72b => ?_)
          generalize tw_iv Eg10 xr71 (Int32.toNatClampNeg w10_0_4) = xe72 at hxe72a hxe72b ⊢
          refine lv_bipush (v := 125) hx hb dX9_cutWord_91 (by decide) ?_
          refine lv_icmp_ne (tgt := 127) hx hb dX9_cutWord_93 (by decide) (fun hc73 => ?_) (fun hc73 => ?_)
          · have hf74 : ¬ (xe72.toInt = 125) := fun q => hc73 ((fa_eq _ _).mpr (by have : ((125 : Int32).toInt) = 125 := (by decide); omega))
            refine lv_aload_n hx hb dX9_cutWord_127 rfl (lv_at hl 0 rfl) ?_
            refine lv_bipush (v := 6) hx hb dX9_cutWord_128 (by decide) ?_
            refine tw_put (ci := 9) (v := .int 6) (ty := .int) (C := RX9) (T := TX9) (N := 5) hx hb hB cx_inX9 tyX9 tyX9_ok nmX9 hown hK TH hS hm0 hk0 rfl ⟨by decide, rfl⟩ 2 (by decide) cw_41 (fun _ h9 => h9) rfl (by decide +kernel) rfl rfl ⟨_, rfl, (show 0 ≤ Int32.toInt 6 from by have : ((6 : Int32).toInt) = 6 := (by decide); omega), (show Int32.toInt 6 ≤ 255 from by have : ((6 : Int32).toInt) = 6 := (by decide); omega)⟩ dX9_cutWord_130 (fun H locs E75 TH hS hp1 hp2 hp3 => ?_)
            have hm76 : tw_fv E75 a0 3 = .int w10_0_3 := (hp2 a0 3 (Or.inr (by decide))).trans hfm10_0
            have hm77 : tw_fv E75 a0 4 = .int w10_0_4 := (hp2 a0 4 (Or.inr (by decide))).trans hfm10_1
            have hm78 : tw_fv E75 a0 1 = .int xi68 := (hp2 a0 1 (Or.inr (by decide))).trans hxi68
            have hm79 : tw_fv E75 a0 0 = .ref xr71 := (hp2 a0 0 (Or.inr (by decide))).trans hxr71
            have hm80 := hp1
            exact tw_vret hx hb hr hlocks TH hS hex rfl (Nat.le_of_ble_eq_true rfl) (Nat.le_of_ble_eq_true rfl) dX9_cutWord_133
          · have hf81 : xe72.toInt = 125 := by have z := (fa_eq _ _).mp hc73; have : ((125 : Int32).toInt) = 125 := (by decide); omega
            refine lv_aload_n hx hb dX9_cutWord_96 rfl (lv_at hl 0 rfl) ?_
            refine tw_get (ci := 9) (C := RX9) (T := TX9) (N := 5) hx hb hB cx_inX9 hown hK TH hm0 hk0 rfl ⟨by decide, rfl⟩ 4 (by decide) cw_46 (fun _ h9 => h9) dX9_cutWord_97 (fun hv => ?_)
            rw [hfm10_1]
            refine lv_aload_n hx hb dX9_cutWord_100 rfl (lv_at hl 0 rfl) ?_
            refine tw_get (ci := 9) (C := RX9) (T := TX9) (N := 5) hx hb hB cx_inX9 hown hK TH hm0 hk0 rfl ⟨by decide, rfl⟩ 3 (by decide) cw_43 (fun _ h9 => h9) dX9_cutWord_101 (fun hv => ?_)
            rw [hfm10_0]
            refine lv_isub hx hb dX9_cutWord_104 ?_
            refine lv_topi (fun zi82 ezi82 => ?_)
            have hzi82 : zi82.toInt = w10_0_4.toInt - w10_0_3.toInt := by rw [ezi82];  exact (ia_sub (by omega) (by omega)).trans (by omega)
            refine lv_iconst (v := 1) hx hb dX9_cutWord_105 (by decide) ?_
            refine lv_icmp_le (tgt := 127) hx hb dX9_cutWord_106 (by decide) (fun hc83 => ?_) (fun hc83 => ?_)
            · have hf84 : zi82.toInt ≤ 1 := by have z := (fa_le _ _).mp hc83; have : ((1 : Int32).toInt) = 1 := (by decide); omega
              refine lv_aload_n hx hb dX9_cutWord_127 rfl (lv_at hl 0 rfl) ?_
              refine lv_bipush (v := 6) hx hb dX9_cutWord_128 (by decide) ?_
              refine tw_put (ci := 9) (v := .int 6) (ty := .int) (C := RX9) (T := TX9) (N := 5) hx hb hB cx_inX9 tyX9 tyX9_ok nmX9 hown hK TH hS hm0 hk0 rfl ⟨by decide, rfl⟩ 2 (by decide) cw_41 (fun _ h9 => h9) rfl (by decide +kernel) rfl rfl ⟨_, rfl, (show 0 ≤ Int32.toInt 6 from by have : ((6 : Int32).toInt) = 6 := (by decide); omega), (show Int32.toInt 6 ≤ 255 from by have : ((6 : Int32).toInt) = 6 := (by decide); omega)⟩ dX9_cutWord_130 (fun H locs E85 TH hS hp1 hp2 hp3 => ?_)
              have hm86 : tw_fv E85 a0 3 = .int w10_0_3 := (hp2 a0 3 (Or.inr (by decide))).trans hfm10_0
              have hm87 : tw_fv E85 a0 4 = .int w10_0_4 := (hp2 a0 4 (Or.inr (by decide))).trans hfm10_1
              have hm88 : tw_fv E85 a0 1 = .int xi68 := (hp2 a0 1 (Or.inr (by decide))).trans hxi68
              have hm89 : tw_fv E85 a0 0 = .ref xr71 := (hp2 a0 0 (Or.inr (by decide))).trans hxr71
              have hm90 := hp1
              exact tw_vret hx hb hr hlocks TH hS hex rfl (Nat.le_of_ble_eq_true rfl) (Nat.le_of_ble_eq_true rfl) dX9_cutWord_133
            · have hf91 : ¬ (zi82.toInt ≤ 1) := fun q => hc83 ((fa_le _ _).mpr (by have : ((1 : Int32).toInt) = 1 := (by decide); omega))
              refine lv_aload_n hx hb dX9_cutWord_109 rfl (lv_at hl 0 rfl) ?_
              refine lv_iconst (v := 4) hx hb dX9_cutWord_110 (by decide) ?_
              refine tw_put (ci := 9) (v := .int 4) (ty := .int) (C := RX9) (T := TX9) (N := 5) hx hb hB cx_inX9 tyX9 tyX9_ok nmX9 hown hK TH hS hm0 hk0 rfl ⟨by decide, rfl⟩ 2 (by decide) cw_41 (fun _ h9 => h9) rfl (by decide +kernel) rfl rfl ⟨_, rfl, (show 0 ≤ Int32.toInt 4 from by have : ((4 : Int32).toInt) = 4 := (by decide); omega), (show Int32.toInt 4 ≤ 255 from by have : ((4 : Int32).toInt) = 4 := (by decide); omega)⟩ dX9_cutWord_111 (fun H locs E92 TH hS hp1 hp2 hp3 => ?_)
              have hm93 : tw_fv E92 a0 3 = .int w10_0_3 := (hp2 a0 3 (Or.inr (by decide))).trans hfm10_0
              have hm94 : tw_fv E92 a0 4 = .int w10_0_4 := (hp2 a0 4 (Or.inr (by decide))).trans hfm10_1
              have hm95 : tw_fv E92 a0 1 = .int xi68 := (hp2 a0 1 (Or.inr (by decide))).trans hxi68
              have hm96 : tw_fv E92 a0 0 = .ref xr71 := (hp2 a0 0 (Or.inr (by decide))).trans hxr71
              have hm97 := hp1
              refine lv_aload_n hx hb dX9_cutWord_114 rfl (lv_at hl 0 rfl) ?_
              refine lv_dup hx hb dX9_cutWord_115 rfl ?_
              refine tw_get (ci := 9) (C := RX9) (T := TX9) (N := 5) hx hb hB cx_inX9 hown hK TH hm0 hk0 rfl ⟨by decide, rfl⟩ 4 (by decide) cw_46 (fun _ h9 => h9) dX9_cutWord_116 (fun hv => ?_)
              rw [hm94]
              refine lv_iconst (v := 1) hx hb dX9_cutWord_119 (by decide) ?_
              refine lv_iadd hx hb dX9_cutWord_120 ?_
              refine lv_topi (fun zi98 ezi98 => ?_)
              have hzi98 : zi98.toInt = w10_0_4.toInt + 1 := by rw [ezi98]; have : ((1 : Int32).toInt) = 1 := (by decide); exact (ia_add (by omega) (by omega)).trans (by omega)
              refine tw_put (ci := 9) (v := .int zi98) (ty := .int) (C := RX9) (T := TX9) (N := 5) hx hb hB cx_inX9 tyX9 tyX9_ok nmX9 hown hK TH hS hm0 hk0 rfl ⟨by decide, rfl⟩ 4 (by decide) cw_46 (fun _ h9 => h9) rfl (by decide +kernel) rfl rfl ⟨_, rfl, (show 0 ≤ Int32.toInt zi98 from by  omega), (show Int32.toInt zi98 ≤ 500 from by  omega)⟩ dX9_cutWord_121 (fun H locs E99 TH hS hp1 hp2 hp3 => ?_)
              have hm100 : tw_fv E99 a0 3 = .int w10_0_3 := (hp2 a0 3 (Or.inr (by decide))).trans hm93
              have hm101 : tw_fv E99 a0 1 = .int xi68 := (hp2 a0 1 (Or.inr (by decide))).trans hm95
              have hm102 : tw_fv E99 a0 0 = .ref xr71 := (hp2 a0 0 (Or.inr (by decide))).trans hm96
              have hm103 : tw_fv E99 a0 2 = .int 4 := (hp2 a0 2 (Or.inr (by decide))).trans hm97
              have hm104 := hp1
              refine lv_goto (tgt := 133) hx hb dX9_cutWord_124 (by decide) ?_
              exact tw_vret hx hb hr hlocks TH hS hex rfl (Nat.le_of_ble_eq_true rfl) (Nat.le_of_ble_eq_true rfl) dX9_cutWord_133
        · have hf105 : ¬ (w10_0_4.toInt < xi68.toInt) := fun q => hc69 ((fa_lt _ _).mpr (by  omega))
          refine lv_aload_n hx hb dX9_cutWord_74 rfl (lv_at hl 0 rfl) ?_
          refine lv_iconst (v := 5) hx hb dX9_cutWord_75 (by decide) ?_
          refine tw_put (ci := 9) (v := .int 5) (ty := .int) (C := RX9) (T := TX9) (N := 5) hx hb hB cx_inX9 tyX9 tyX9_ok nmX9 hown hK TH hS hm0 hk0 rfl ⟨by decide, rfl⟩ 2 (by decide) cw_41 (fun _ h9 => h9) rfl (by decide +kernel) rfl rfl ⟨_, rfl, (show 0 ≤ Int32.toInt 5 from by have : ((5 : Int32).toInt) = 5 := (by decide); omega), (show Int32.toInt 5 ≤ 255 from by have : ((5 : Int32).toInt) = 5 := (by decide); omega)⟩ dX9_cutWord_76 (fun H locs E106 TH hS hp1 hp2 hp3 => ?_)
          have hm107 : tw_fv E106 a0 3 = .int w10_0_3 := (hp2 a0 3 (Or.inr (by decide))).trans hfm10_0
          have hm108 : tw_fv E106 a0 4 = .int w10_0_4 := (hp2 a0 4 (Or.inr (by decide))).trans hfm10_1
          have hm109 : tw_fv E106 a0 1 = .int xi68 := (hp2 a0 1 (Or.inr (by decide))).trans hxi68
          have hm110 := hp1
          refine lv_goto (tgt := 133) hx hb dX9_cutWord_79 (by decide) ?_
          exact tw_vret hx hb hr hlocks TH hS hex rfl (Nat.le_of_ble_eq_true rfl) (Nat.le_of_ble_eq_true rfl) dX9_cutWord_133
      refine lv_icmp_ge (tgt := 63) hx hb dX9_cutWord_18 (by decide) (fun hc111 => ?_) (fun hc111 => ?_)
      · have hf112 : xi68.toInt ≤ w10_0_4.toInt := by have z := (fa_le _ _).mp hc111;  omega
        exact hJ63  _ _ ls   TH hS (lv_sub hl [0] rfl)
      · have hf113 : ¬ (xi68.toInt ≤ w10_0_4.toInt) := fun q => hc111 ((fa_le _ _).mpr (by  omega))
        refine lv_aload_n hx hb dX9_cutWord_21 rfl (lv_at hl 0 rfl) ?_
        refine tw_get (ci := 9) (C := RX9) (T := TX9) (N := 5) hx hb hB cx_inX9 hown hK TH hm0 hk0 rfl ⟨by decide, rfl⟩ 4 (by decide) cw_46 (fun _ h9 => h9) dX9_cutWord_22 (fun hv => ?_)
        rw [hfm10_1]
        refine lv_aload_n hx hb dX9_cutWord_25 rfl (lv_at hl 0 rfl) ?_
        refine tw_get (ci := 9) (C := RX9) (T := TX9) (N := 5) hx hb hB cx_inX9 hown hK TH hm0 hk0 rfl ⟨by decide, rfl⟩ 3 (by decide) cw_43 (fun _ h9 => h9) dX9_cutWord_26 (fun hv => ?_)
        rw [hfm10_0]
        refine lv_isub hx hb dX9_cutWord_29 ?_
        refine lv_topi (fun zi114 ezi114 => ?_)
        have hzi114 : zi114.toInt = w10_0_4.toInt - w10_0_3.toInt := by rw [ezi114];  exact (ia_sub (by omega) (by omega)).trans (by omega)
        refine lv_bipush (v := 8) hx hb dX9_cutWord_30 (by decide) ?_
        refine lv_icmp_gt (tgt := 63) hx hb dX9_cutWord_32 (by decide) (fun hc115 => ?_) (fun hc115 => ?_)
        · have hf116 : 8 < zi114.toInt := by have z := (fa_lt _ _).mp hc115; have : ((8 : Int32).toInt) = 8 := (by decide); omega
          exact hJ63  _ _ ls   TH hS (lv_sub hl [0] rfl)
        · have hf117 : ¬ (8 < zi114.toInt) := fun q => hc115 ((fa_lt _ _).mpr (by have : ((8 : Int32).toInt) = 8 := (by decide); omega))
          refine lv_aload_n hx hb dX9_cutWord_35 rfl (lv_at hl 0 rfl) ?_
          refine tw_get (ci := 9) (C := RX9) (T := TX9) (N := 5) hx hb hB cx_inX9 hown hK TH hm0 hk0 rfl ⟨by decide, rfl⟩ 0 (by decide) cw_34 (fun _ h9 => h9) dX9_cutWord_36 (fun hv => ?_)
          obtain ⟨xr118, hxr118, hmxr118, hkxr118⟩ : ∃ a : Nat, tw_fv Eg10 a0 0 = .ref a ∧ a ∈ L ∧ kp a = 100 := hv
          rw [hxr118]
          refine lv_aload_n hx hb dX9_cutWord_39 rfl (lv_at hl 0 rfl) ?_
          refine tw_get (ci := 9) (C := RX9) (T := TX9) (N := 5) hx hb hB cx_inX9 hown hK TH hm0 hk0 rfl ⟨by decide, rfl⟩ 4 (by decide) cw_46 (fun _ h9 => h9) dX9_cutWord_40 (fun hv => ?_)
          rw [hfm10_1]
          refine tw_iald (k := 100) (t0 := 0) (n := 500) (lo := 0) (hi := 255) hx hb hK TH hmxr118 hkxr118 (by decide) rfl rfl (i := w10_0_4) (vp_in_iff.mpr ⟨by  omega, by  omega⟩) dX9_cutWord_43 (fun hxe119a hxe119b => ?_)
          generalize tw_iv Eg10 xr118 (Int32.toNatClampNeg w10_0_4) = xe119 at hxe119a hxe119b ⊢
          refine tw_SNc (n := 1) (post := (fun v kq Lq Eq => (∃ x : Int32, v = some (.int x) ∧ 0 ≤ x.toInt ∧ x.toInt ≤ 1) ∧ kp = kq ∧ L = Lq ∧ Eg10 = Eq)) (As := [.int xe119]) (rest := []) ⟨hx, hb, hml, hown, hB⟩ (fun sz => tX11_isWordByte l D cs xe119  sz) cw_548 cw_1 (by decide +kernel) cw_547 rfl rfl (by decide +kernel) ⟨Nat.le_of_ble_eq_true rfl, Nat.le_of_ble_eq_true rfl⟩ hK hN TH hS hA rfl hl.1 rfl (Nat.le_of_ble_eq_true rfl) dX9_cutWord_44 ⟨Nat.le_of_ble_eq_true rfl, Nat.le_of_ble_eq_true rfl⟩ (fun v120 kp120 L120 E120 H locs hq120 hx120 TH hS => ?_)
          obtain ⟨⟨xc121, rfl, hxc121a, hxc121b⟩, rfl, rfl, rfl⟩ := hq120
          refine W.eq (g2 := F0 m 47 ls [.int xc121]) rfl ?_
          refine lv_if_eq (tgt := 63) hx hb dX9_cutWord_47 (by decide) (fun hc122 => ?_) (fun hc122 => ?_)
          · have hf123 : xc121.toInt = 0 := by have z := (fa_eq _ _).mp hc122; have : ((0 : Int32).toInt) = 0 := (by decide); omega
            exact hJ63  _ _ ls   TH hS (lv_sub hl [0] rfl)
          · have hf124 : ¬ (xc121.toInt = 0) := fun q => hc122 ((fa_eq _ _).mpr (by have : ((0 : Int32).toInt) = 0 := (by decide); omega))
            refine lv_aload_n hx hb dX9_cutWord_50 rfl (lv_at hl 0 rfl) ?_
            refine lv_dup hx hb dX9_cutWord_51 rfl ?_
            refine tw_get (ci := 9) (C := RX9) (T := TX9) (N := 5) hx hb hB cx_inX9 hown hK TH hm0 hk0 rfl ⟨by decide, rfl⟩ 4 (by decide) cw_46 (fun _ h9 => h9) dX9_cutWord_52 (fun hv => ?_)
            rw [hfm10_1]
            refine lv_iconst (v := 1) hx hb dX9_cutWord_55 (by decide) ?_
            refine lv_iadd hx hb dX9_cutWord_56 ?_
            refine lv_topi (fun zi125 ezi125 => ?_)
            have hzi125 : zi125.toInt = w10_0_4.toInt + 1 := by rw [ezi125]; have : ((1 : Int32).toInt) = 1 := (by decide); exact (ia_add (by omega) (by omega)).trans (by omega)
            refine tw_put (ci := 9) (v := .int zi125) (ty := .int) (C := RX9) (T := TX9) (N := 5) hx hb hB cx_inX9 tyX9 tyX9_ok nmX9 hown hK TH hS hm0 hk0 rfl ⟨by decide, rfl⟩ 4 (by decide) cw_46 (fun _ h9 => h9) rfl (by decide +kernel) rfl rfl ⟨_, rfl, (show 0 ≤ Int32.toInt zi125 from by  omega), (show Int32.toInt zi125 ≤ 500 from by  omega)⟩ dX9_cutWord_57 (fun H locs E126 TH hS hp1 hp2 hp3 => ?_)
            have hm127 : tw_fv E126 a0 3 = .int w10_0_3 := (hp2 a0 3 (Or.inr (by decide))).trans hfm10_0
            have hm128 : tw_fv E126 a0 1 = .int xi68 := (hp2 a0 1 (Or.inr (by decide))).trans hxi68
            have hm129 : tw_fv E126 a0 0 = .ref xr118 := (hp2 a0 0 (Or.inr (by decide))).trans hxr118
            have hm130 := hp1
            refine lv_goto (tgt := 10) hx hb dX9_cutWord_60 (by decide) ?_
            exact ih10 w10_0_3 zi125 _ _ _ ls (by  omega) (by  omega) (by  omega) (by  omega) (by  omega) hm127 hm130 TH hS (lv_sub hl [0] rfl)
  exact hJ10 500 fz0 zi1 _ _ _ ls (by  omega) (by  omega) (by  omega) (by  omega) (by  omega) hm3 hm4 TH hS (lv_sub hl [0] rfl)
set_option maxHeartbeats 4000000 in
set_option maxRecDepth 100000 in
theorem tX3_clear (l : Launch) (D : va_G) (cs : Nat → ClassId) {kp : Nat → Nat} {L : List Nat} {E : Nat → va_E} (a0 : Nat) (hm0 : a0 ∈ L) (hk0 : kp a0 = 3) (sz : Nat) : Met l yX3_clear (.code yX3_clear cX3_clear 1 none :: cx_big) { frames := 0, cells := 0, slots := 0, locals := 0 } (tw_P D cs kp L E [.ref a0] sz) (tw_Q D cs kp L (fun v _ _ _ => v = none) (va_A (va_pl L E) sz)) 0 0 (va_A (va_pl L E) sz) := by
  refine tw_ofW (by decide) (Nat.le_of_ble_eq_true rfl) ?_
  intro p e s m below meth c A ls hx hb hr hml hB hown hlocks hK hN hA TH hS hl
  have hown : s.vm.findClass "TreeMerge$Kids" = some m.cls := hown
  have hl : lv_has ls 1 [(0, .ref a0)] := hl
  obtain ⟨kp0, ekp⟩ : ∃ z, z = kp := ⟨_, rfl⟩
  obtain ⟨L0, eL⟩ : ∃ z, z = L := ⟨_, rfl⟩
  rw [show tw_Q D cs kp L = tw_Q D cs kp0 L0 by rw [ekp, eL]]
  have hex : ∀ a : Nat, a ∈ L0 → a ∈ L ∧ kp a = kp0 a := fun a h => ⟨by rw [← eL]; exact h, by rw [ekp]⟩
  refine lv_aload_n hx hb dX3_clear_0 rfl (lv_at hl 0 rfl) ?_
  refine lv_iconst (v := 0) hx hb dX3_clear_1 (by decide) ?_
  refine tw_put (ci := 3) (v := .int 0) (ty := .int) (C := RX3) (T := TX3) (N := 3) hx hb hB cx_inX3 tyX3 tyX3_ok nmX3 hown hK TH hS hm0 hk0 rfl ⟨by decide, rfl⟩ 0 (by decide) cw_177 (fun _ h9 => h9) rfl (by decide +kernel) rfl rfl ⟨_, rfl, (show 0 ≤ Int32.toInt 0 from by have : ((0 : Int32).toInt) = 0 := (by decide); omega), (show Int32.toInt 0 ≤ 40 from by have : ((0 : Int32).toInt) = 0 := (by decide); omega)⟩ dX3_clear_2 (fun H locs E1 TH hS hp1 hp2 hp3 => ?_)
  have hm2 := hp1
  exact tw_vret hx hb hr hlocks TH hS hex rfl (Nat.le_of_ble_eq_true rfl) (Nat.le_of_ble_eq_true rfl) dX3_clear_5
set_option maxHeartbeats 4000000 in
set_option maxRecDepth 100000 in
theorem tX3_hasLikes (l : Launch) (D : va_G) (cs : Nat → ClassId) {kp : Nat → Nat} {L : List Nat} {E : Nat → va_E} (a0 : Nat) (hm0 : a0 ∈ L) (hk0 : kp a0 = 3) (sz : Nat) : Met l yX3_hasLikes (.code yX3_hasLikes cX3_hasLikes 3 (some .boolean) :: cx_big) { frames := 0, cells := 0, slots := 0, locals := 0 } (tw_P D cs kp L E [.ref a0] sz) (tw_Q D cs kp L (fun v kq Lq Eq => (∃ x : Int32, v = some (.int x) ∧ 0 ≤ x.toInt ∧ x.toInt ≤ 1) ∧ kp = kq ∧ L = Lq ∧ E = Eq) (va_A (va_pl L E) sz)) 0 0 (va_A (va_pl L E) sz) := by
  refine tw_ofW (by decide) (Nat.le_of_ble_eq_true rfl) ?_
  intro p e s m below meth c A ls hx hb hr hml hB hown hlocks hK hN hA TH hS hl
  have hown : s.vm.findClass "TreeMerge$Kids" = some m.cls := hown
  have hl : lv_has ls 3 [(0, .ref a0)] := hl
  obtain ⟨kp0, ekp⟩ : ∃ z, z = kp := ⟨_, rfl⟩
  obtain ⟨L0, eL⟩ : ∃ z, z = L := ⟨_, rfl⟩
  rw [show tw_Q D cs kp L = tw_Q D cs kp0 L0 by rw [ekp, eL]]
  have hex : ∀ a : Nat, a ∈ L0 → a ∈ L ∧ kp a = kp0 a := fun a h => ⟨by rw [← eL]; exact h, by rw [ekp]⟩
  refine lv_iconst (v := 0) hx hb dX3_hasLikes_0 (by decide) ?_
  refine lv_istore_n (lv' := [(1, .int 0), (0, .ref a0)]) hx hb dX3_hasLikes_1 rfl hl (by decide) rfl (fun ls hl => ?_)
  have hJ2 : ∀ (n : Nat) (y2_1 : Int32) (H : Heap) (locs : List Loc) (ls : Array Slot), 0 ≤ y2_1.toInt → y2_1.toInt ≤ 40 → 40 - y2_1.toInt ≤ (n : Int) → tw_H D cs kp L E A H → va_S A s.heap H locs → lv_has ls 3 [(1, .int y2_1), (0, .ref a0)] → W p l e { frames := 0, cells := 0, slots := 0, locals := 0 } s m [.ref a0].toArray below meth c H locs 0 0 (MQ below (tw_Q D cs kp0 L0 (fun v kq Lq Eq => (∃ x : Int32, v = some (.int x) ∧ 0 ≤ x.toInt ∧ x.toInt ≤ 1) ∧ kp = kq ∧ L = Lq ∧ E = Eq) A) [.ref a0].toArray s 0 0 A) (F0 m 2 ls []) := by
    intro n2
    induction n2 with
    | zero =>
      intro y2_1 H locs ls hy2_1a hy2_1b hmeas TH hS hl
      refine lv_iload_n hx hb dX3_hasLikes_2 rfl (lv_at hl 0 rfl) ?_
      refine lv_aload_n hx hb dX3_hasLikes_3 rfl (lv_at hl 1 rfl) ?_
      refine tw_get (ci := 3) (C := RX3) (T := TX3) (N := 3) hx hb hB cx_inX3 hown hK TH hm0 hk0 rfl ⟨by decide, rfl⟩ 0 (by decide) cw_177 (fun _ h9 => h9) dX3_hasLikes_4 (fun hv => ?_)
      obtain ⟨xi1, hxi1, hxi1a, hxi1b⟩ : ∃ x : Int32, tw_fv E a0 0 = .int x ∧ 0 ≤ x.toInt ∧ x.toInt ≤ 40 := hv
      rw [hxi1]
      refine lv_icmp_ge (tgt := 62) hx hb dX3_hasLikes_7 (by decide) (fun hc2 => ?_) (fun hc2 => ?_)
      · have hf3 : xi1.toInt ≤ y2_1.toInt := by have z := (fa_le _ _).mp hc2;  omega
        refine lv_iconst (v := 0) hx hb dX3_hasLikes_62 (by decide) ?_
        exact tw_zret hx hb hr hlocks (by decide) TH hS hex ⟨⟨_, rfl, (show 0 ≤ Int32.toInt 0 from by have : ((0 : Int32).toInt) = 0 := (by decide); omega), (show Int32.toInt 0 ≤ 1 from by have : ((0 : Int32).toInt) = 0 := (by decide); omega)⟩, rfl, rfl, rfl⟩ (Nat.le_of_ble_eq_true rfl) (Nat.le_of_ble_eq_true rfl) dX3_hasLikes_63
      · have hf4 : ¬ (xi1.toInt ≤ y2_1.toInt) := fun q => hc2 ((fa_le _ _).mpr (by  omega))
        refine lv_iconst (v := 0) hx hb dX3_hasLikes_10 (by decide) ?_
        refine lv_istore_n (lv' := [(2, .int 0), (1, .int y2_1), (0, .ref a0)]) hx hb dX3_hasLikes_11 rfl hl (by decide) rfl (fun ls hl => ?_)
        have hJ12 : ∀ (n : Nat) (y12_2 : Int32) (H : Heap) (locs : List Loc) (ls : Array Slot), 0 ≤ y12_2.toInt → y12_2.toInt ≤ 40 → 40 - y12_2.toInt ≤ (n : Int) → tw_H D cs kp L E A H → va_S A s.heap H locs → lv_has ls 3 [(2, .int y12_2), (1, .int y2_1), (0, .ref a0)] → W p l e { frames := 0, cells := 0, slots := 0, locals := 0 } s m [.ref a0].toArray below meth c H locs 0 0 (MQ below (tw_Q D cs kp0 L0 (fun v kq Lq Eq => (∃ x : Int32, v = some (.int x) ∧ 0 ≤ x.toInt ∧ x.toInt ≤ 1) ∧ kp = kq ∧ L = Lq ∧ E = Eq) A) [.ref a0].toArray s 0 0 A) (F0 m 12 ls []) := by
          intro n12
          induction n12 with
          | zero =>
            intro y12_2 H locs ls hy12_2a hy12_2b hmeas TH hS hl
            refine lv_iload_n hx hb dX3_hasLikes_12 rfl (lv_at hl 0 rfl) ?_
            refine lv_iload_n hx hb dX3_hasLikes_13 rfl (lv_at hl 1 rfl) ?_
            refine lv_icmp_ge (tgt := 56) hx hb dX3_hasLikes_14 (by decide) (fun hc5 => ?_) (fun hc5 => ?_)
            · have hf6 : y2_1.toInt ≤ y12_2.toInt := by have z := (fa_le _ _).mp hc5;  omega
              obtain ⟨zi7, ezi7⟩ : ∃ z : Int32, z = y2_1 + Int32.ofInt 1 := ⟨_, rfl⟩
              have hzi7 : zi7.toInt = y2_1.toInt + 1 := by rw [ezi7]; have : ((Int32.ofInt 1).toInt) = 1 := (by decide);  exact (ia_add (by omega) (by omega)).trans (by omega)
              refine lv_iinc (v := zi7) (lv' := [(1, .int zi7), (2, .int y12_2), (0, .ref a0)]) hx hb dX3_hasLikes_56 hl (k := 1) rfl ezi7.symm (by decide) rfl (fun ls hl => ?_)
              refine lv_goto (tgt := 2) hx hb dX3_hasLikes_59 (by decide) ?_
              exfalso; omega
            · have hf8 : ¬ (y2_1.toInt ≤ y12_2.toInt) := fun q => hc5 ((fa_le _ _).mpr (by  omega))
              refine lv_aload_n hx hb dX3_hasLikes_17 rfl (lv_at hl 2 rfl) ?_
              refine tw_get (ci := 3) (C := RX3) (T := TX3) (N := 3) hx hb hB cx_inX3 hown hK TH hm0 hk0 rfl ⟨by decide, rfl⟩ 1 (by decide) cw_179 (fun _ h9 => h9) dX3_hasLikes_18 (fun hv => ?_)
              obtain ⟨xr9, hxr9, hmxr9, hkxr9⟩ : ∃ a : Nat, tw_fv E a0 1 = .ref a ∧ a ∈ L ∧ kp a = 101 := hv
              rw [hxr9]
              refine lv_iload_n hx hb dX3_hasLikes_21 rfl (lv_at hl 1 rfl) ?_
              refine tw_iald (k := 101) (t0 := 0) (n := 40) (lo := 0) (hi := 9) hx hb hK TH hmxr9 hkxr9 (by decide) rfl rfl (i := y2_1) (vp_in_iff.mpr ⟨by  omega, by  omega⟩) dX3_hasLikes_22 (fun hxe10a hxe10b => ?_)
              generalize tw_iv E xr9 (Int32.toNatClampNeg y2_1) = xe10 at hxe10a hxe10b ⊢
              refine lv_aload_n hx hb dX3_hasLikes_23 rfl (lv_at hl 2 rfl) ?_
              refine tw_get (ci := 3) (C := RX3) (T := TX3) (N := 3) hx hb hB cx_inX3 hown hK TH hm0 hk0 rfl ⟨by decide, rfl⟩ 1 (by decide) cw_179 (fun _ h9 => h9) dX3_hasLikes_24 (fun hv => ?_)
              rw [hxr9]
              refine lv_iload_n hx hb dX3_hasLikes_27 rfl (lv_at hl 0 rfl) ?_
              refine tw_iald (k := 101) (t0 := 0) (n := 40) (lo := 0) (hi := 9) hx hb hK TH hmxr9 hkxr9 (by decide) rfl rfl (i := y12_2) (vp_in_iff.mpr ⟨by  omega, by  omega⟩) dX3_hasLikes_28 (fun hxe11a hxe11b => ?_)
              generalize tw_iv E xr9 (Int32.toNatClampNeg y12_2) = xe11 at hxe11a hxe11b ⊢
              have hJ50 : ∀  (H : Heap) (locs : List Loc) (ls : Array Slot), tw_H D cs kp L E A H → va_S A s.heap H locs → lv_has ls 3 [(2, .int y12_2), (1, .int y2_1), (0, .ref a0)] → W p l e { frames := 0, cells := 0, slots := 0, locals := 0 } s m [.ref a0].toArray below meth c H locs 0 0 (MQ below (tw_Q D cs kp0 L0 (fun v kq Lq Eq => (∃ x : Int32, v = some (.int x) ∧ 0 ≤ x.toInt ∧ x.toInt ≤ 1) ∧ kp = kq ∧ L = Lq ∧ E = Eq) A) [.ref a0].toArray s 0 0 A) (F0 m 50 ls []) := by
                intro H locs ls TH hS hl
                obtain ⟨zi12, ezi12⟩ : ∃ z : Int32, z = y12_2 + Int32.ofInt 1 := ⟨_, rfl⟩
                have hzi12 : zi12.toInt = y12_2.toInt + 1 := by rw [ezi12]; have : ((Int32.ofInt 1).toInt) = 1 := (by decide);  exact (ia_add (by omega) (by omega)).trans (by omega)
                refine lv_iinc (v := zi12) (lv' := [(2, .int zi12), (1, .int y2_1), (0, .ref a0)]) hx hb dX3_hasLikes_50 hl (k := 0) rfl ezi12.symm (by decide) rfl (fun ls hl => ?_)
                refine lv_goto (tgt := 12) hx hb dX3_hasLikes_53 (by decide) ?_
                exfalso; omega
              refine lv_icmp_ne (tgt := 50) hx hb dX3_hasLikes_29 (by decide) (fun hc13 => ?_) (fun hc13 => ?_)
              · have hf14 : ¬ (xe10.toInt = xe11.toInt) := fun q => hc13 ((fa_eq _ _).mpr (by  omega))
                exact hJ50  _ _ ls   TH hS (lv_sub hl [0, 1, 2] rfl)
              · have hf15 : xe10.toInt = xe11.toInt := by have z := (fa_eq _ _).mp hc13;  omega
                refine lv_aload_n hx hb dX3_hasLikes_32 rfl (lv_at hl 2 rfl) ?_
                refine tw_get (ci := 3) (C := RX3) (T := TX3) (N := 3) hx hb hB cx_inX3 hown hK TH hm0 hk0 rfl ⟨by decide, rfl⟩ 2 (by decide) cw_181 (fun _ h9 => h9) dX3_hasLikes_33 (fun hv => ?_)
                obtain ⟨xr16, hxr16, hmxr16, hkxr16⟩ : ∃ a : Nat, tw_fv E a0 2 = .ref a ∧ a ∈ L ∧ kp a = 102 := hv
                rw [hxr16]
                refine lv_iload_n hx hb dX3_hasLikes_36 rfl (lv_at hl 1 rfl) ?_
                refine tw_lald (k := 102) (n := 40) (lo := 0) (hi := 0) hx hb hK TH hmxr16 hkxr16 (by decide) rfl (i := y2_1) (vp_in_iff.mpr ⟨by  omega, by  omega⟩) dX3_hasLikes_37 (fun xl17 => ?_)
                refine lv_aload_n hx hb dX3_hasLikes_38 rfl (lv_at hl 2 rfl) ?_
                refine tw_get (ci := 3) (C := RX3) (T := TX3) (N := 3) hx hb hB cx_inX3 hown hK TH hm0 hk0 rfl ⟨by decide, rfl⟩ 2 (by decide) cw_181 (fun _ h9 => h9) dX3_hasLikes_39 (fun hv => ?_)
                rw [hxr16]
                refine lv_iload_n hx hb dX3_hasLikes_42 rfl (lv_at hl 0 rfl) ?_
                refine tw_lald (k := 102) (n := 40) (lo := 0) (hi := 0) hx hb hK TH hmxr16 hkxr16 (by decide) rfl (i := y12_2) (vp_in_iff.mpr ⟨by  omega, by  omega⟩) dX3_hasLikes_43 (fun xl18 => ?_)
                refine W.lcmp hx hb dX3_hasLikes_44 ?_
                have hzi19 := ia_lcmp xl17 xl18
                generalize lg_cmp xl17 xl18 = zi19 at hzi19 ⊢
                refine lv_if_ne (tgt := 50) hx hb dX3_hasLikes_45 (by decide) (fun hc20 => ?_) (fun hc20 => ?_)
                · have hf21 : ¬ (zi19.toInt = 0) := fun q => hc20 ((fa_eq _ _).mpr (by have : ((0 : Int32).toInt) = 0 := (by decide); omega))
                  exact hJ50  _ _ ls   TH hS (lv_sub hl [0, 1, 2] rfl)
                · have hf22 : zi19.toInt = 0 := by have z := (fa_eq _ _).mp hc20; have : ((0 : Int32).toInt) = 0 := (by decide); omega
                  refine lv_iconst (v := 1) hx hb dX3_hasLikes_48 (by decide) ?_
                  exact tw_zret hx hb hr hlocks (by decide) TH hS hex ⟨⟨_, rfl, (show 0 ≤ Int32.toInt 1 from by have : ((1 : Int32).toInt) = 1 := (by decide); omega), (show Int32.toInt 1 ≤ 1 from by have : ((1 : Int32).toInt) = 1 := (by decide); omega)⟩, rfl, rfl, rfl⟩ (Nat.le_of_ble_eq_true rfl) (Nat.le_of_ble_eq_true rfl) dX3_hasLikes_49
          | succ n12 ih12 =>
            intro y12_2 H locs ls hy12_2a hy12_2b hmeas TH hS hl
            refine lv_iload_n hx hb dX3_hasLikes_12 rfl (lv_at hl 0 rfl) ?_
            refine lv_iload_n hx hb dX3_hasLikes_13 rfl (lv_at hl 1 rfl) ?_
            refine lv_icmp_ge (tgt := 56) hx hb dX3_hasLikes_14 (by decide) (fun hc23 => ?_) (fun hc23 => ?_)
            · have hf24 : y2_1.toInt ≤ y12_2.toInt := by have z := (fa_le _ _).mp hc23;  omega
              obtain ⟨zi25, ezi25⟩ : ∃ z : Int32, z = y2_1 + Int32.ofInt 1 := ⟨_, rfl⟩
              have hzi25 : zi25.toInt = y2_1.toInt + 1 := by rw [ezi25]; have : ((Int32.ofInt 1).toInt) = 1 := (by decide);  exact (ia_add (by omega) (by omega)).trans (by omega)
              refine lv_iinc (v := zi25) (lv' := [(1, .int zi25), (2, .int y12_2), (0, .ref a0)]) hx hb dX3_hasLikes_56 hl (k := 1) rfl ezi25.symm (by decide) rfl (fun ls hl => ?_)
              refine lv_goto (tgt := 2) hx hb dX3_hasLikes_59 (by decide) ?_
              exfalso; omega
            · have hf26 : ¬ (y2_1.toInt ≤ y12_2.toInt) := fun q => hc23 ((fa_le _ _).mpr (by  omega))
              refine lv_aload_n hx hb dX3_hasLikes_17 rfl (lv_at hl 2 rfl) ?_
              refine tw_get (ci := 3) (C := RX3) (T := TX3) (N := 3) hx hb hB cx_inX3 hown hK TH hm0 hk0 rfl ⟨by decide, rfl⟩ 1 (by decide) cw_179 (fun _ h9 => h9) dX3_hasLikes_18 (fun hv => ?_)
              obtain ⟨xr27, hxr27, hmxr27, hkxr27⟩ : ∃ a : Nat, tw_fv E a0 1 = .ref a ∧ a ∈ L ∧ kp a = 101 := hv
              rw [hxr27]
              refine lv_iload_n hx hb dX3_hasLikes_21 rfl (lv_at hl 1 rfl) ?_
              refine tw_iald (k := 101) (t0 := 0) (n := 40) (lo := 0) (hi := 9) hx hb hK TH hmxr27 hkxr27 (by decide) rfl rfl (i := y2_1) (vp_in_iff.mpr ⟨by  omega, by  omega⟩) dX3_hasLikes_22 (fun hxe28a hxe28b => ?_)
              generalize tw_iv E xr27 (Int32.toNatClampNeg y2_1) = xe28 at hxe28a hxe28b ⊢
              refine lv_aload_n hx hb dX3_hasLikes_23 rfl (lv_at hl 2 rfl) ?_
              refine tw_get (ci := 3) (C := RX3) (T := TX3) (N := 3) hx hb hB cx_inX3 hown hK TH hm0 hk0 rfl ⟨by decide, rfl⟩ 1 (by decide) cw_179 (fun _ h9 => h9) dX3_hasLikes_24 (fun hv => ?_)
              rw [hxr27]
              refine lv_iload_n hx hb dX3_hasLikes_27 rfl (lv_at hl 0 rfl) ?_
              refine tw_iald (k := 101) (t0 := 0) (n := 40) (lo := 0) (hi := 9) hx hb hK TH hmxr27 hkxr27 (by decide) rfl rfl (i := y12_2) (vp_in_iff.mpr ⟨by  omega, by  omega⟩) dX3_hasLikes_28 (fun hxe29a hxe29b => ?_)
              generalize tw_iv E xr27 (Int32.toNatClampNeg y12_2) = xe29 at hxe29a hxe29b ⊢
              have hJ50 : ∀  (H : Heap) (locs : List Loc) (ls : Array Slot), tw_H D cs kp L E A H → va_S A s.heap H locs → lv_has ls 3 [(2, .int y12_2), (1, .int y2_1), (0, .ref a0)] → W p l e { frames := 0, cells := 0, slots := 0, locals := 0 } s m [.ref a0].toArray below meth c H locs 0 0 (MQ below (tw_Q D cs kp0 L0 (fun v kq Lq Eq => (∃ x : Int32, v = some (.int x) ∧ 0 ≤ x.toInt ∧ x.toInt ≤ 1) ∧ kp = kq ∧ L = Lq ∧ E = Eq) A) [.ref a0].toArray s 0 0 A) (F0 m 50 ls []) := by
                intro H locs ls TH hS hl
                obtain ⟨zi30, ezi30⟩ : ∃ z : Int32, z = y12_2 + Int32.ofInt 1 := ⟨_, rfl⟩
                have hzi30 : zi30.toInt = y12_2.toInt + 1 := by rw [ezi30]; have : ((Int32.ofInt 1).toInt) = 1 := (by decide);  exact (ia_add (by omega) (by omega)).trans (by omega)
                refine lv_iinc (v := zi30) (lv' := [(2, .int zi30), (1, .int y2_1), (0, .ref a0)]) hx hb dX3_hasLikes_50 hl (k := 0) rfl ezi30.symm (by decide) rfl (fun ls hl => ?_)
                refine lv_goto (tgt := 12) hx hb dX3_hasLikes_53 (by decide) ?_
                exact ih12 zi30 _ _ ls (by  omega) (by  omega) (by  omega)  TH hS (lv_sub hl [0, 1, 2] rfl)
              refine lv_icmp_ne (tgt := 50) hx hb dX3_hasLikes_29 (by decide) (fun hc31 => ?_) (fun hc31 => ?_)
              · have hf32 : ¬ (xe28.toInt = xe29.toInt) := fun q => hc31 ((fa_eq _ _).mpr (by  omega))
                exact hJ50  _ _ ls   TH hS (lv_sub hl [0, 1, 2] rfl)
              · have hf33 : xe28.toInt = xe29.toInt := by have z := (fa_eq _ _).mp hc31;  omega
                refine lv_aload_n hx hb dX3_hasLikes_32 rfl (lv_at hl 2 rfl) ?_
                refine tw_get (ci := 3) (C := RX3) (T := TX3) (N := 3) hx hb hB cx_inX3 hown hK TH hm0 hk0 rfl ⟨by decide, rfl⟩ 2 (by decide) cw_181 (fun _ h9 => h9) dX3_hasLikes_33 (fun hv => ?_)
                obtain ⟨xr34, hxr34, hmxr34, hkxr34⟩ : ∃ a : Nat, tw_fv E a0 2 = .ref a ∧ a ∈ L ∧ kp a = 102 := hv
                rw [hxr34]
                refine lv_iload_n hx hb dX3_hasLikes_36 rfl (lv_at hl 1 rfl) ?_
                refine tw_lald (k := 102) (n := 40) (lo := 0) (hi := 0) hx hb hK TH hmxr34 hkxr34 (by decide) rfl (i := y2_1) (vp_in_iff.mpr ⟨by  omega, by  omega⟩) dX3_hasLikes_37 (fun xl35 => ?_)
                refine lv_aload_n hx hb dX3_hasLikes_38 rfl (lv_at hl 2 rfl) ?_
                refine tw_get (ci := 3) (C := RX3) (T := TX3) (N := 3) hx hb hB cx_inX3 hown hK TH hm0 hk0 rfl ⟨by decide, rfl⟩ 2 (by decide) cw_181 (fun _ h9 => h9) dX3_hasLikes_39 (fun hv => ?_)
                rw [hxr34]
                refine lv_iload_n hx hb dX3_hasLikes_42 rfl (lv_at hl 0 rfl) ?_
                refine tw_lald (k := 102) (n := 40) (lo := 0) (hi := 0) hx hb hK TH hmxr34 hkxr34 (by decide) rfl (i := y12_2) (vp_in_iff.mpr ⟨by  omega, by  omega⟩) dX3_hasLikes_43 (fun xl36 => ?_)
                refine W.lcmp hx hb dX3_hasLikes_44 ?_
                have hzi37 := ia_lcmp xl35 xl36
                generalize lg_cmp xl35 xl36 = zi37 at hzi37 ⊢
                refine lv_if_ne (tgt := 50) hx hb dX3_hasLikes_45 (by decide) (fun hc38 => ?_) (fun hc38 => ?_)
                · have hf39 : ¬ (zi37.toInt = 0) := fun q => hc38 ((fa_eq _ _).mpr (by have : ((0 : Int32).toInt) = 0 := (by decide); omega))
                  exact hJ50  _ _ ls   TH hS (lv_sub hl [0, 1, 2] rfl)
                · have hf40 : zi37.toInt = 0 := by have z := (fa_eq _ _).mp hc38; have : ((0 : Int32).toInt) = 0 := (by decide); omega
                  refine lv_iconst (v := 1) hx hb dX3_hasLikes_48 (by decide) ?_
                  exact tw_zret hx hb hr hlocks (by decide) TH hS hex ⟨⟨_, rfl, (show 0 ≤ Int32.toInt 1 from by have : ((1 : Int32).toInt) = 1 := (by decide); omega), (show Int32.toInt 1 ≤ 1 from by have : ((1 : Int32).toInt) = 1 := (by decide); omega)⟩, rfl, rfl, rfl⟩ (Nat.le_of_ble_eq_true rfl) (Nat.le_of_ble_eq_true rfl) dX3_hasLikes_49
        exact hJ12 40 0 _ _ ls (by have : ((0 : Int32).toInt) = 0 := (by decide); omega) (by have : ((0 : Int32).toInt) = 0 := (by decide); omega) (by have : ((0 : Int32).toInt) = 0 := (by decide); omega)  TH hS (lv_sub hl [0, 1, 2] rfl)
    | succ n2 ih2 =>
      intro y2_1 H locs ls hy2_1a hy2_1b hmeas TH hS hl
      refine lv_iload_n hx hb dX3_hasLikes_2 rfl (lv_at hl 0 rfl) ?_
      refine lv_aload_n hx hb dX3_hasLikes_3 rfl (lv_at hl 1 rfl) ?_
      refine tw_get (ci := 3) (C := RX3) (T := TX3) (N := 3) hx hb hB cx_inX3 hown hK TH hm0 hk0 rfl ⟨by decide, rfl⟩ 0 (by decide) cw_177 (fun _ h9 => h9) dX3_hasLikes_4 (fun hv => ?_)
      obtain ⟨xi41, hxi41, hxi41a, hxi41b⟩ : ∃ x : Int32, tw_fv E a0 0 = .int x ∧ 0 ≤ x.toInt ∧ x.toInt ≤ 40 := hv
      rw [hxi41]
      refine lv_icmp_ge (tgt := 62) hx hb dX3_hasLikes_7 (by decide) (fun hc42 => ?_) (fun hc42 => ?_)
      · have hf43 : xi41.toInt ≤ y2_1.toInt := by have z := (fa_le _ _).mp hc42;  omega
        refine lv_iconst (v := 0) hx hb dX3_hasLikes_62 (by decide) ?_
        exact tw_zret hx hb hr hlocks (by decide) TH hS hex ⟨⟨_, rfl, (show 0 ≤ Int32.toInt 0 from by have : ((0 : Int32).toInt) = 0 := (by decide); omega), (show Int32.toInt 0 ≤ 1 from by have : ((0 : Int32).toInt) = 0 := (by decide); omega)⟩, rfl, rfl, rfl⟩ (Nat.le_of_ble_eq_true rfl) (Nat.le_of_ble_eq_true rfl) dX3_hasLikes_63
      · have hf44 : ¬ (xi41.toInt ≤ y2_1.toInt) := fun q => hc42 ((fa_le _ _).mpr (by  omega))
        refine lv_iconst (v := 0) hx hb dX3_hasLikes_10 (by decide) ?_
        refine lv_istore_n (lv' := [(2, .int 0), (1, .int y2_1), (0, .ref a0)]) hx hb dX3_hasLikes_11 rfl hl (by decide) rfl (fun ls hl => ?_)
        have hJ12 : ∀ (n : Nat) (y12_2 : Int32) (H : Heap) (locs : List Loc) (ls : Array Slot), 0 ≤ y12_2.toInt → y12_2.toInt ≤ 40 → 40 - y12_2.toInt ≤ (n : Int) → tw_H D cs kp L E A H → va_S A s.heap H locs → lv_has ls 3 [(2, .int y12_2), (1, .int y2_1), (0, .ref a0)] → W p l e { frames := 0, cells := 0, slots := 0, locals := 0 } s m [.ref a0].toArray below meth c H locs 0 0 (MQ below (tw_Q D cs kp0 L0 (fun v kq Lq Eq => (∃ x : Int32, v = some (.int x) ∧ 0 ≤ x.toInt ∧ x.toInt ≤ 1) ∧ kp = kq ∧ L = Lq ∧ E = Eq) A) [.ref a0].toArray s 0 0 A) (F0 m 12 ls []) := by
          intro n12
          induction n12 with
          | zero =>
            intro y12_2 H locs ls hy12_2a hy12_2b hmeas TH hS hl
            refine lv_iload_n hx hb dX3_hasLikes_12 rfl (lv_at hl 0 rfl) ?_
            refine lv_iload_n hx hb dX3_hasLikes_13 rfl (lv_at hl 1 rfl) ?_
            refine lv_icmp_ge (tgt := 56) hx hb dX3_hasLikes_14 (by decide) (fun hc45 => ?_) (fun hc45 => ?_)
            · have hf46 : y2_1.toInt ≤ y12_2.toInt := by have z := (fa_le _ _).mp hc45;  omega
              obtain ⟨zi47, ezi47⟩ : ∃ z : Int32, z = y2_1 + Int32.ofInt 1 := ⟨_, rfl⟩
              have hzi47 : zi47.toInt = y2_1.toInt + 1 := by rw [ezi47]; have : ((Int32.ofInt 1).toInt) = 1 := (by decide);  exact (ia_add (by omega) (by omega)).trans (by omega)
              refine lv_iinc (v := zi47) (lv' := [(1, .int zi47), (2, .int y12_2), (0, .ref a0)]) hx hb dX3_hasLikes_56 hl (k := 1) rfl ezi47.symm (by decide) rfl (fun ls hl => ?_)
              refine lv_goto (tgt := 2) hx hb dX3_hasLikes_59 (by decide) ?_
              exact ih2 zi47 _ _ ls (by  omega) (by  omega) (by  omega)  TH hS (lv_sub hl [0, 2] rfl)
            · have hf48 : ¬ (y2_1.toInt ≤ y12_2.toInt) := fun q => hc45 ((fa_le _ _).mpr (by  omega))
              refine lv_aload_n hx hb dX3_hasLikes_17 rfl (lv_at hl 2 rfl) ?_
              refine tw_get (ci := 3) (C := RX3) (T := TX3) (N := 3) hx hb hB cx_inX3 hown hK TH hm0 hk0 rfl ⟨by decide, rfl⟩ 1 (by decide) cw_179 (fun _ h9 => h9) dX3_hasLikes_18 (fun hv => ?_)
              obtain ⟨xr49, hxr49, hmxr49, hkxr49⟩ : ∃ a : Nat, tw_fv E a0 1 = .ref a ∧ a ∈ L ∧ kp a = 101 := hv
              rw [hxr49]
              refine lv_iload_n hx hb dX3_hasLikes_21 rfl (lv_at hl 1 rfl) ?_
              refine tw_iald (k := 101) (t0 := 0) (n := 40) (lo := 0) (hi := 9) hx hb hK TH hmxr49 hkxr49 (by decide) rfl rfl (i := y2_1) (vp_in_iff.mpr ⟨by  omega, by  omega⟩) dX3_hasLikes_22 (fun hxe50a hxe50b => ?_)
              generalize tw_iv E xr49 (Int32.toNatClampNeg y2_1) = xe50 at hxe50a hxe50b ⊢
              refine lv_aload_n hx hb dX3_hasLikes_23 rfl (lv_at hl 2 rfl) ?_
              refine tw_get (ci := 3) (C := RX3) (T := TX3) (N := 3) hx hb hB cx_inX3 hown hK TH hm0 hk0 rfl ⟨by decide, rfl⟩ 1 (by decide) cw_179 (fun _ h9 => h9) dX3_hasLikes_24 (fun hv => ?_)
              rw [hxr49]
              refine lv_iload_n hx hb dX3_hasLikes_27 rfl (lv_at hl 0 rfl) ?_
              refine tw_iald (k := 101) (t0 := 0) (n := 40) (lo := 0) (hi := 9) hx hb hK TH hmxr49 hkxr49 (by decide) rfl rfl (i := y12_2) (vp_in_iff.mpr ⟨by  omega, by  omega⟩) dX3_hasLikes_28 (fun hxe51a hxe51b => ?_)
              generalize tw_iv E xr49 (Int32.toNatClampNeg y12_2) = xe51 at hxe51a hxe51b ⊢
              have hJ50 : ∀  (H : Heap) (locs : List Loc) (ls : Array Slot), tw_H D cs kp L E A H → va_S A s.heap H locs → lv_has ls 3 [(2, .int y12_2), (1, .int y2_1), (0, .ref a0)] → W p l e { frames := 0, cells := 0, slots := 0, locals := 0 } s m [.ref a0].toArray below meth c H locs 0 0 (MQ below (tw_Q D cs kp0 L0 (fun v kq Lq Eq => (∃ x : Int32, v = some (.int x) ∧ 0 ≤ x.toInt ∧ x.toInt ≤ 1) ∧ kp = kq ∧ L = Lq ∧ E = Eq) A) [.ref a0].toArray s 0 0 A) (F0 m 50 ls []) := by
                intro H locs ls TH hS hl
                obtain ⟨zi52, ezi52⟩ : ∃ z : Int32, z = y12_2 + Int32.ofInt 1 := ⟨_, rfl⟩
                have hzi52 : zi52.toInt = y12_2.toInt + 1 := by rw [ezi52]; have : ((Int32.ofInt 1).toInt) = 1 := (by decide);  exact (ia_add (by omega) (by omega)).trans (by omega)
                refine lv_iinc (v := zi52) (lv' := [(2, .int zi52), (1, .int y2_1), (0, .ref a0)]) hx hb dX3_hasLikes_50 hl (k := 0) rfl ezi52.symm (by decide) rfl (fun ls hl => ?_)
                refine lv_goto (tgt := 12) hx hb dX3_hasLikes_53 (by decide) ?_
                exfalso; omega
              refine lv_icmp_ne (tgt := 50) hx hb dX3_hasLikes_29 (by decide) (fun hc53 => ?_) (fun hc53 => ?_)
              · have hf54 : ¬ (xe50.toInt = xe51.toInt) := fun q => hc53 ((fa_eq _ _).mpr (by  omega))
                exact hJ50  _ _ ls   TH hS (lv_sub hl [0, 1, 2] rfl)
              · have hf55 : xe50.toInt = xe51.toInt := by have z := (fa_eq _ _).mp hc53;  omega
                refine lv_aload_n hx hb dX3_hasLikes_32 rfl (lv_at hl 2 rfl) ?_
                refine tw_get (ci := 3) (C := RX3) (T := TX3) (N := 3) hx hb hB cx_inX3 hown hK TH hm0 hk0 rfl ⟨by decide, rfl⟩ 2 (by decide) cw_181 (fun _ h9 => h9) dX3_hasLikes_33 (fun hv => ?_)
                obtain ⟨xr56, hxr56, hmxr56, hkxr56⟩ : ∃ a : Nat, tw_fv E a0 2 = .ref a ∧ a ∈ L ∧ kp a = 102 := hv
                rw [hxr56]
                refine lv_iload_n hx hb dX3_hasLikes_36 rfl (lv_at hl 1 rfl) ?_
                refine tw_lald (k := 102) (n := 40) (lo := 0) (hi := 0) hx hb hK TH hmxr56 hkxr56 (by decide) rfl (i := y2_1) (vp_in_iff.mpr ⟨by  omega, by  omega⟩) dX3_hasLikes_37 (fun xl57 => ?_)
                refine lv_aload_n hx hb dX3_hasLikes_38 rfl (lv_at hl 2 rfl) ?_
                refine tw_get (ci := 3) (C := RX3) (T := TX3) (N := 3) hx hb hB cx_inX3 hown hK TH hm0 hk0 rfl ⟨by decide, rfl⟩ 2 (by decide) cw_181 (fun _ h9 => h9) dX3_hasLikes_39 (fun hv => ?_)
                rw [hxr56]
                refine lv_iload_n hx hb dX3_hasLikes_42 rfl (lv_at hl 0 rfl) ?_
                refine tw_lald (k := 102) (n := 40) (lo := 0) (hi := 0) hx hb hK TH hmxr56 hkxr56 (by decide) rfl (i := y12_2) (vp_in_iff.mpr ⟨by  omega, by  omega⟩) dX3_hasLikes_43 (fun xl58 => ?_)
                refine W.lcmp hx hb dX3_hasLikes_44 ?_
                have hzi59 := ia_lcmp xl57 xl58
                generalize lg_cmp xl57 xl58 = zi59 at hzi59 ⊢
                refine lv_if_ne (tgt := 50) hx hb dX3_hasLikes_45 (by decide) (fun hc60 => ?_) (fun hc60 => ?_)
                · have hf61 : ¬ (zi59.toInt = 0) := fun q => hc60 ((fa_eq _ _).mpr (by have : ((0 : Int32).toInt) = 0 := (by decide); omega))
                  exact hJ50  _ _ ls   TH hS (lv_sub hl [0, 1, 2] rfl)
                · have hf62 : zi59.toInt = 0 := by have z := (fa_eq _ _).mp hc60; have : ((0 : Int32).toInt) = 0 := (by decide); omega
                  refine lv_iconst (v := 1) hx hb dX3_hasLikes_48 (by decide) ?_
                  exact tw_zret hx hb hr hlocks (by decide) TH hS hex ⟨⟨_, rfl, (show 0 ≤ Int32.toInt 1 from by have : ((1 : Int32).toInt) = 1 := (by decide); omega), (show Int32.toInt 1 ≤ 1 from by have : ((1 : Int32).toInt) = 1 := (by decide); omega)⟩, rfl, rfl, rfl⟩ (Nat.le_of_ble_eq_true rfl) (Nat.le_of_ble_eq_true rfl) dX3_hasLikes_49
          | succ n12 ih12 =>
            intro y12_2 H locs ls hy12_2a hy12_2b hmeas TH hS hl
            refine lv_iload_n hx hb dX3_hasLikes_12 rfl (lv_at hl 0 rfl) ?_
            refine lv_iload_n hx hb dX3_hasLikes_13 rfl (lv_at hl 1 rfl) ?_
            refine lv_icmp_ge (tgt := 56) hx hb dX3_hasLikes_14 (by decide) (fun hc63 => ?_) (fun hc63 => ?_)
            · have hf64 : y2_1.toInt ≤ y12_2.toInt := by have z := (fa_le _ _).mp hc63;  omega
              obtain ⟨zi65, ezi65⟩ : ∃ z : Int32, z = y2_1 + Int32.ofInt 1 := ⟨_, rfl⟩
              have hzi65 : zi65.toInt = y2_1.toInt + 1 := by rw [ezi65]; have : ((Int32.ofInt 1).toInt) = 1 := (by decide);  exact (ia_add (by omega) (by omega)).trans (by omega)
              refine lv_iinc (v := zi65) (lv' := [(1, .int zi65), (2, .int y12_2), (0, .ref a0)]) hx hb dX3_hasLikes_56 hl (k := 1) rfl ezi65.symm (by decide) rfl (fun ls hl => ?_)
              refine lv_goto (tgt := 2) hx hb dX3_hasLikes_59 (by decide) ?_
              exact ih2 zi65 _ _ ls (by  omega) (by  omega) (by  omega)  TH hS (lv_sub hl [0, 2] rfl)
            · have hf66 : ¬ (y2_1.toInt ≤ y12_2.toInt) := fun q => hc63 ((fa_le _ _).mpr (by  omega))
              refine lv_aload_n hx hb dX3_hasLikes_17 rfl (lv_at hl 2 rfl) ?_
              refine tw_get (ci := 3) (C := RX3) (T := TX3) (N := 3) hx hb hB cx_inX3 hown hK TH hm0 hk0 rfl ⟨by decide, rfl⟩ 1 (by decide) cw_179 (fun _ h9 => h9) dX3_hasLikes_18 (fun hv => ?_)
              obtain ⟨xr67, hxr67, hmxr67, hkxr67⟩ : ∃ a : Nat, tw_fv E a0 1 = .ref a ∧ a ∈ L ∧ kp a = 101 := hv
              rw [hxr67]
              refine lv_iload_n hx hb dX3_hasLikes_21 rfl (lv_at hl 1 rfl) ?_
              refine tw_iald (k := 101) (t0 := 0) (n := 40) (lo := 0) (hi := 9) hx hb hK TH hmxr67 hkxr67 (by decide) rfl rfl (i := y2_1) (vp_in_iff.mpr ⟨by  omega, by  omega⟩) dX3_hasLikes_22 (fun hxe68a hxe68b => ?_)
              generalize tw_iv E xr67 (Int32.toNatClampNeg y2_1) = xe68 at hxe68a hxe68b ⊢
              refine lv_aload_n hx hb dX3_hasLikes_23 rfl (lv_at hl 2 rfl) ?_
              refine tw_get (ci := 3) (C := RX3) (T := TX3) (N := 3) hx hb hB cx_inX3 hown hK TH hm0 hk0 rfl ⟨by decide, rfl⟩ 1 (by decide) cw_179 (fun _ h9 => h9) dX3_hasLikes_24 (fun hv => ?_)
              rw [hxr67]
              refine lv_iload_n hx hb dX3_hasLikes_27 rfl (lv_at hl 0 rfl) ?_
              refine tw_iald (k := 101) (t0 := 0) (n := 40) (lo := 0) (hi := 9) hx hb hK TH hmxr67 hkxr67 (by decide) rfl rfl (i := y12_2) (vp_in_iff.mpr ⟨by  omega, by  omega⟩) dX3_hasLikes_28 (fun hxe69a hxe69b => ?_)
              generalize tw_iv E xr67 (Int32.toNatClampNeg y12_2) = xe69 at hxe69a hxe69b ⊢
              have hJ50 : ∀  (H : Heap) (locs : List Loc) (ls : Array Slot), tw_H D cs kp L E A H → va_S A s.heap H locs → lv_has ls 3 [(2, .int y12_2), (1, .int y2_1), (0, .ref a0)] → W p l e { frames := 0, cells := 0, slots := 0, locals := 0 } s m [.ref a0].toArray below meth c H locs 0 0 (MQ below (tw_Q D cs kp0 L0 (fun v kq Lq Eq => (∃ x : Int32, v = some (.int x) ∧ 0 ≤ x.toInt ∧ x.toInt ≤ 1) ∧ kp = kq ∧ L = Lq ∧ E = Eq) A) [.ref a0].toArray s 0 0 A) (F0 m 50 ls []) := by
                intro H locs ls TH hS hl
                obtain ⟨zi70, ezi70⟩ : ∃ z : Int32, z = y12_2 + Int32.ofInt 1 := ⟨_, rfl⟩
                have hzi70 : zi70.toInt = y12_2.toInt + 1 := by rw [ezi70]; have : ((Int32.ofInt 1).toInt) = 1 := (by decide);  exact (ia_add (by omega) (by omega)).trans (by omega)
                refine lv_iinc (v := zi70) (lv' := [(2, .int zi70), (1, .int y2_1), (0, .ref a0)]) hx hb dX3_hasLikes_50 hl (k := 0) rfl ezi70.symm (by decide) rfl (fun ls hl => ?_)
                refine lv_goto (tgt := 12) hx hb dX3_hasLikes_53 (by decide) ?_
                exact ih12 zi70 _ _ ls (by  omega) (by  omega) (by  omega)  TH hS (lv_sub hl [0, 1, 2] rfl)
              refine lv_icmp_ne (tgt := 50) hx hb dX3_hasLikes_29 (by decide) (fun hc71 => ?_) (fun hc71 => ?_)
              · have hf72 : ¬ (xe68.toInt = xe69.toInt) := fun q => hc71 ((fa_eq _ _).mpr (by  omega))
                exact hJ50  _ _ ls   TH hS (lv_sub hl [0, 1, 2] rfl)
              · have hf73 : xe68.toInt = xe69.toInt := by have z := (fa_eq _ _).mp hc71;  omega
                refine lv_aload_n hx hb dX3_hasLikes_32 rfl (lv_at hl 2 rfl) ?_
                refine tw_get (ci := 3) (C := RX3) (T := TX3) (N := 3) hx hb hB cx_inX3 hown hK TH hm0 hk0 rfl ⟨by decide, rfl⟩ 2 (by decide) cw_181 (fun _ h9 => h9) dX3_hasLikes_33 (fun hv => ?_)
                obtain ⟨xr74, hxr74, hmxr74, hkxr74⟩ : ∃ a : Nat, tw_fv E a0 2 = .ref a ∧ a ∈ L ∧ kp a = 102 := hv
                rw [hxr74]
                refine lv_iload_n hx hb dX3_hasLikes_36 rfl (lv_at hl 1 rfl) ?_
                refine tw_lald (k := 102) (n := 40) (lo := 0) (hi := 0) hx hb hK TH hmxr74 hkxr74 (by decide) rfl (i := y2_1) (vp_in_iff.mpr ⟨by  omega, by  omega⟩) dX3_hasLikes_37 (fun xl75 => ?_)
                refine lv_aload_n hx hb dX3_hasLikes_38 rfl (lv_at hl 2 rfl) ?_
                refine tw_get (ci := 3) (C := RX3) (T := TX3) (N := 3) hx hb hB cx_inX3 hown hK TH hm0 hk0 rfl ⟨by decide, rfl⟩ 2 (by decide) cw_181 (fun _ h9 => h9) dX3_hasLikes_39 (fun hv => ?_)
                rw [hxr74]
                refine lv_iload_n hx hb dX3_hasLikes_42 rfl (lv_at hl 0 rfl) ?_
                refine tw_lald (k := 102) (n := 40) (lo := 0) (hi := 0) hx hb hK TH hmxr74 hkxr74 (by decide) rfl (i := y12_2) (vp_in_iff.mpr ⟨by  omega, by  omega⟩) dX3_hasLikes_43 (fun xl76 => ?_)
                refine W.lcmp hx hb dX3_hasLikes_44 ?_
                have hzi77 := ia_lcmp xl75 xl76
                generalize lg_cmp xl75 xl76 = zi77 at hzi77 ⊢
                refine lv_if_ne (tgt := 50) hx hb dX3_hasLikes_45 (by decide) (fun hc78 => ?_) (fun hc78 => ?_)
                · have hf79 : ¬ (zi77.toInt = 0) := fun q => hc78 ((fa_eq _ _).mpr (by have : ((0 : Int32).toInt) = 0 := (by decide); omega))
                  exact hJ50  _ _ ls   TH hS (lv_sub hl [0, 1, 2] rfl)
                · have hf80 : zi77.toInt = 0 := by have z := (fa_eq _ _).mp hc78; have : ((0 : Int32).toInt) = 0 := (by decide); omega
                  refine lv_iconst (v := 1) hx hb dX3_hasLikes_48 (by decide) ?_
                  exact tw_zret hx hb hr hlocks (by decide) TH hS hex ⟨⟨_, rfl, (show 0 ≤ Int32.toInt 1 from by have : ((1 : Int32).toInt) = 1 := (by decide); omega), (show Int32.toInt 1 ≤ 1 from by have : ((1 : Int32).toInt) = 1 := (by decide); omega)⟩, rfl, rfl, rfl⟩ (Nat.le_of_ble_eq_true rfl) (Nat.le_of_ble_eq_true rfl) dX3_hasLikes_49
        exact hJ12 40 0 _ _ ls (by have : ((0 : Int32).toInt) = 0 := (by decide); omega) (by have : ((0 : Int32).toInt) = 0 := (by decide); omega) (by have : ((0 : Int32).toInt) = 0 := (by decide); omega)  TH hS (lv_sub hl [0, 1, 2] rfl)
  exact hJ2 40 0 _ _ ls (by have : ((0 : Int32).toInt) = 0 := (by decide); omega) (by have : ((0 : Int32).toInt) = 0 := (by decide); omega) (by have : ((0 : Int32).toInt) = 0 := (by decide); omega)  TH hS (lv_sub hl [0, 1] rfl)
set_option maxHeartbeats 4000000 in
set_option maxRecDepth 100000 in
theorem tX3_add (l : Launch) (D : va_G) (cs : Nat → ClassId) {kp : Nat → Nat} {L : List Nat} {E : Nat → va_E} (a0 : Nat) (x1 : Int32) (x2 : Int64) (hm0 : a0 ∈ L) (hk0 : kp a0 = 3) (hp1a : 0 ≤ x1.toInt) (hp1b : x1.toInt ≤ 9) (sz : Nat) : Met l yX3_add (.code yX3_add cX3_add 4 none :: cx_big) { frames := 0, cells := 0, slots := 0, locals := 0 } (tw_P D cs kp L E [.ref a0, .int x1, .long x2] sz) (tw_Q D cs kp L (fun v _ _ _ => v = none) (va_A (va_pl L E) sz)) 0 0 (va_A (va_pl L E) sz) := by
  refine tw_ofW (by decide) (Nat.le_of_ble_eq_true rfl) ?_
  intro p e s m below meth c A ls hx hb hr hml hB hown hlocks hK hN hA TH hS hl
  have hown : s.vm.findClass "TreeMerge$Kids" = some m.cls := hown
  have hl : lv_has ls 4 [(0, .ref a0), (1, .int x1), (2, .long x2)] := hl
  obtain ⟨kp0, ekp⟩ : ∃ z, z = kp := ⟨_, rfl⟩
  obtain ⟨L0, eL⟩ : ∃ z, z = L := ⟨_, rfl⟩
  rw [show tw_Q D cs kp L = tw_Q D cs kp0 L0 by rw [ekp, eL]]
  have hex : ∀ a : Nat, a ∈ L0 → a ∈ L ∧ kp a = kp0 a := fun a h => ⟨by rw [← eL]; exact h, by rw [ekp]⟩
  refine lv_aload_n hx hb dX3_add_0 rfl (lv_at hl 0 rfl) ?_
  refine tw_get (ci := 3) (C := RX3) (T := TX3) (N := 3) hx hb hB cx_inX3 hown hK TH hm0 hk0 rfl ⟨by decide, rfl⟩ 0 (by decide) cw_177 (fun _ h9 => h9) dX3_add_1 (fun hv => ?_)
  obtain ⟨xi1, hxi1, hxi1a, hxi1b⟩ : ∃ x : Int32, tw_fv E a0 0 = .int x ∧ 0 ≤ x.toInt ∧ x.toInt ≤ 40 := hv
  rw [hxi1]
  refine lv_bipush (v := 40) hx hb dX3_add_4 (by decide) ?_
  refine lv_icmp_ge (tgt := 39) hx hb dX3_add_6 (by decide) (fun hc2 => ?_) (fun hc2 => ?_)
  · have hf3 : 40 ≤ xi1.toInt := by have z := (fa_le _ _).mp hc2; have : ((40 : Int32).toInt) = 40 := (by decide); omega
    exact tw_vret hx hb hr hlocks TH hS hex rfl (Nat.le_of_ble_eq_true rfl) (Nat.le_of_ble_eq_true rfl) dX3_add_39
  · have hf4 : ¬ (40 ≤ xi1.toInt) := fun q => hc2 ((fa_le _ _).mpr (by have : ((40 : Int32).toInt) = 40 := (by decide); omega))
    refine lv_aload_n hx hb dX3_add_9 rfl (lv_at hl 0 rfl) ?_
    refine tw_get (ci := 3) (C := RX3) (T := TX3) (N := 3) hx hb hB cx_inX3 hown hK TH hm0 hk0 rfl ⟨by decide, rfl⟩ 1 (by decide) cw_179 (fun _ h9 => h9) dX3_add_10 (fun hv => ?_)
    obtain ⟨xr5, hxr5, hmxr5, hkxr5⟩ : ∃ a : Nat, tw_fv E a0 1 = .ref a ∧ a ∈ L ∧ kp a = 101 := hv
    rw [hxr5]
    refine lv_aload_n hx hb dX3_add_13 rfl (lv_at hl 0 rfl) ?_
    refine tw_get (ci := 3) (C := RX3) (T := TX3) (N := 3) hx hb hB cx_inX3 hown hK TH hm0 hk0 rfl ⟨by decide, rfl⟩ 0 (by decide) cw_177 (fun _ h9 => h9) dX3_add_14 (fun hv => ?_)
    rw [hxi1]
    refine lv_iload_n hx hb dX3_add_17 rfl (lv_at hl 1 rfl) ?_
    refine tw_iast (k := 101) (n := 40) (lo := 0) (hi := 9) hx hb hK TH hS hmxr5 hkxr5 (by decide) rfl (i := xi1) (x := x1) (vp_in_iff.mpr ⟨by  omega, by  omega⟩) (by  omega) (by  omega) dX3_add_18 (fun H locs E6 TH hS hp2 hp3 hp4 => ?_)
    have hm7 : tw_fv E6 a0 0 = .int xi1 := (hp2 a0 0).trans hxi1
    have hm8 : tw_fv E6 a0 1 = .ref xr5 := (hp2 a0 1).trans hxr5
    refine lv_aload_n hx hb dX3_add_19 rfl (lv_at hl 0 rfl) ?_
    refine tw_get (ci := 3) (C := RX3) (T := TX3) (N := 3) hx hb hB cx_inX3 hown hK TH hm0 hk0 rfl ⟨by decide, rfl⟩ 2 (by decide) cw_181 (fun _ h9 => h9) dX3_add_20 (fun hv => ?_)
    obtain ⟨xr9, hxr9, hmxr9, hkxr9⟩ : ∃ a : Nat, tw_fv E6 a0 2 = .ref a ∧ a ∈ L ∧ kp a = 102 := hv
    rw [hxr9]
    refine lv_aload_n hx hb dX3_add_23 rfl (lv_at hl 0 rfl) ?_
    refine tw_get (ci := 3) (C := RX3) (T := TX3) (N := 3) hx hb hB cx_inX3 hown hK TH hm0 hk0 rfl ⟨by decide, rfl⟩ 0 (by decide) cw_177 (fun _ h9 => h9) dX3_add_24 (fun hv => ?_)
    rw [hm7]
    refine lv_lload_n hx hb dX3_add_27 rfl (lv_at hl 2 rfl) ?_
    refine tw_last (k := 102) (n := 40) (lo := 0) (hi := 0) hx hb hK TH hS hmxr9 hkxr9 (by decide) rfl (i := xi1) (x := x2) (vp_in_iff.mpr ⟨by  omega, by  omega⟩) dX3_add_28 (fun H locs E10 TH hS hp2 hp3 => ?_)
    have hm11 : tw_fv E10 a0 0 = .int xi1 := (hp2 a0 0).trans hm7
    have hm12 : tw_fv E10 a0 1 = .ref xr5 := (hp2 a0 1).trans hm8
    have hm13 : tw_fv E10 a0 2 = .ref xr9 := (hp2 a0 2).trans hxr9
    refine lv_aload_n hx hb dX3_add_29 rfl (lv_at hl 0 rfl) ?_
    refine lv_dup hx hb dX3_add_30 rfl ?_
    refine tw_get (ci := 3) (C := RX3) (T := TX3) (N := 3) hx hb hB cx_inX3 hown hK TH hm0 hk0 rfl ⟨by decide, rfl⟩ 0 (by decide) cw_177 (fun _ h9 => h9) dX3_add_31 (fun hv => ?_)
    rw [hm11]
    refine lv_iconst (v := 1) hx hb dX3_add_34 (by decide) ?_
    refine lv_iadd hx hb dX3_add_35 ?_
    refine lv_topi (fun zi14 ezi14 => ?_)
    have hzi14 : zi14.toInt = xi1.toInt + 1 := by rw [ezi14]; have : ((1 : Int32).toInt) = 1 := (by decide); exact (ia_add (by omega) (by omega)).trans (by omega)
    refine tw_put (ci := 3) (v := .int zi14) (ty := .int) (C := RX3) (T := TX3) (N := 3) hx hb hB cx_inX3 tyX3 tyX3_ok nmX3 hown hK TH hS hm0 hk0 rfl ⟨by decide, rfl⟩ 0 (by decide) cw_177 (fun _ h9 => h9) rfl (by decide +kernel) rfl rfl ⟨_, rfl, (show 0 ≤ Int32.toInt zi14 from by  omega), (show Int32.toInt zi14 ≤ 40 from by  omega)⟩ dX3_add_36 (fun H locs E15 TH hS hp1 hp2 hp3 => ?_)
    have hm16 : tw_fv E15 a0 1 = .ref xr5 := (hp2 a0 1 (Or.inr (by decide))).trans hm12
    have hm17 : tw_fv E15 a0 2 = .ref xr9 := (hp2 a0 2 (Or.inr (by decide))).trans hm13
    have hm18 := hp1
    exact tw_vret hx hb hr hlocks TH hS hex rfl (Nat.le_of_ble_eq_true rfl) (Nat.le_of_ble_eq_true rfl) dX3_add_39
set_option maxHeartbeats 4000000 in
set_option maxRecDepth 100000 in
theorem tX10_clear (l : Launch) (D : va_G) (cs : Nat → ClassId) {kp : Nat → Nat} {L : List Nat} {E : Nat → va_E} (a0 : Nat) (hm0 : a0 ∈ L) (hk0 : kp a0 = 10) (sz : Nat) : Met l yX10_clear (.code yX10_clear cX10_clear 1 none :: cx_big) { frames := 0, cells := 0, slots := 0, locals := 0 } (tw_P D cs kp L E [.ref a0] sz) (tw_Q D cs kp L (fun v _ _ _ => v = none) (va_A (va_pl L E) sz)) 0 0 (va_A (va_pl L E) sz) := by
  refine tw_ofW (by decide) (Nat.le_of_ble_eq_true rfl) ?_
  intro p e s m below meth c A ls hx hb hr hml hB hown hlocks hK hN hA TH hS hl
  have hown : s.vm.findClass "TreeMerge$Tree" = some m.cls := hown
  have hl : lv_has ls 1 [(0, .ref a0)] := hl
  obtain ⟨kp0, ekp⟩ : ∃ z, z = kp := ⟨_, rfl⟩
  obtain ⟨L0, eL⟩ : ∃ z, z = L := ⟨_, rfl⟩
  rw [show tw_Q D cs kp L = tw_Q D cs kp0 L0 by rw [ekp, eL]]
  have hex : ∀ a : Nat, a ∈ L0 → a ∈ L ∧ kp a = kp0 a := fun a h => ⟨by rw [← eL]; exact h, by rw [ekp]⟩
  refine lv_aload_n hx hb dX10_clear_0 rfl (lv_at hl 0 rfl) ?_
  refine lv_iconst (v := 0) hx hb dX10_clear_1 (by decide) ?_
  refine tw_put (ci := 10) (v := .int 0) (ty := .int) (C := RX10) (T := TX10) (N := 8) hx hb hB cx_inX10 tyX10 tyX10_ok nmX10 hown hK TH hS hm0 hk0 rfl ⟨by decide, rfl⟩ 0 (by decide) cw_116 (fun _ h9 => h9) rfl (by decide +kernel) rfl rfl ⟨_, rfl, (show 0 ≤ Int32.toInt 0 from by have : ((0 : Int32).toInt) = 0 := (by decide); omega), (show Int32.toInt 0 ≤ 40 from by have : ((0 : Int32).toInt) = 0 := (by decide); omega)⟩ dX10_clear_2 (fun H locs E1 TH hS hp1 hp2 hp3 => ?_)
  have hm2 := hp1
  exact tw_vret hx hb hr hlocks TH hS hex rfl (Nat.le_of_ble_eq_true rfl) (Nat.le_of_ble_eq_true rfl) dX10_clear_5
set_option maxHeartbeats 4000000 in
set_option maxRecDepth 100000 in
theorem tX10_find (l : Launch) (D : va_G) (cs : Nat → ClassId) {kp : Nat → Nat} {L : List Nat} {E : Nat → va_E} (a0 : Nat) (x1 : Int32) (hm0 : a0 ∈ L) (hk0 : kp a0 = 10) (sz : Nat) : Met l yX10_find (.code yX10_find cX10_find 3 (some .int) :: cx_big) { frames := 0, cells := 0, slots := 0, locals := 0 } (tw_P D cs kp L E [.ref a0, .int x1] sz) (tw_Q D cs kp L (fun v kq Lq Eq => (∃ x : Int32, v = some (.int x) ∧ (-1) ≤ x.toInt ∧ x.toInt ≤ 39) ∧ kp = kq ∧ L = Lq ∧ E = Eq) (va_A (va_pl L E) sz)) 0 0 (va_A (va_pl L E) sz) := by
  refine tw_ofW (by decide) (Nat.le_of_ble_eq_true rfl) ?_
  intro p e s m below meth c A ls hx hb hr hml hB hown hlocks hK hN hA TH hS hl
  have hown : s.vm.findClass "TreeMerge$Tree" = some m.cls := hown
  have hl : lv_has ls 3 [(0, .ref a0), (1, .int x1)] := hl
  obtain ⟨kp0, ekp⟩ : ∃ z, z = kp := ⟨_, rfl⟩
  obtain ⟨L0, eL⟩ : ∃ z, z = L := ⟨_, rfl⟩
  rw [show tw_Q D cs kp L = tw_Q D cs kp0 L0 by rw [ekp, eL]]
  have hex : ∀ a : Nat, a ∈ L0 → a ∈ L ∧ kp a = kp0 a := fun a h => ⟨by rw [← eL]; exact h, by rw [ekp]⟩
  refine lv_iconst (v := 0) hx hb dX10_find_0 (by decide) ?_
  refine lv_istore_n (lv' := [(2, .int 0), (0, .ref a0), (1, .int x1)]) hx hb dX10_find_1 rfl hl (by decide) rfl (fun ls hl => ?_)
  have hJ2 : ∀ (n : Nat) (y2_2 : Int32) (H : Heap) (locs : List Loc) (ls : Array Slot), 0 ≤ y2_2.toInt → y2_2.toInt ≤ 40 → 40 - y2_2.toInt ≤ (n : Int) → tw_H D cs kp L E A H → va_S A s.heap H locs → lv_has ls 3 [(2, .int y2_2), (0, .ref a0), (1, .int x1)] → W p l e { frames := 0, cells := 0, slots := 0, locals := 0 } s m [.ref a0, .int x1].toArray below meth c H locs 0 0 (MQ below (tw_Q D cs kp0 L0 (fun v kq Lq Eq => (∃ x : Int32, v = some (.int x) ∧ (-1) ≤ x.toInt ∧ x.toInt ≤ 39) ∧ kp = kq ∧ L = Lq ∧ E = Eq) A) [.ref a0, .int x1].toArray s 0 0 A) (F0 m 2 ls []) := by
    intro n2
    induction n2 with
    | zero =>
      intro y2_2 H locs ls hy2_2a hy2_2b hmeas TH hS hl
      refine lv_iload_n hx hb dX10_find_2 rfl (lv_at hl 0 rfl) ?_
      refine lv_aload_n hx hb dX10_find_3 rfl (lv_at hl 1 rfl) ?_
      refine tw_get (ci := 10) (C := RX10) (T := TX10) (N := 8) hx hb hB cx_inX10 hown hK TH hm0 hk0 rfl ⟨by decide, rfl⟩ 0 (by decide) cw_116 (fun _ h9 => h9) dX10_find_4 (fun hv => ?_)
      obtain ⟨xi1, hxi1, hxi1a, hxi1b⟩ : ∃ x : Int32, tw_fv E a0 0 = .int x ∧ 0 ≤ x.toInt ∧ x.toInt ≤ 40 := hv
      rw [hxi1]
      refine lv_icmp_ge (tgt := 28) hx hb dX10_find_7 (by decide) (fun hc2 => ?_) (fun hc2 => ?_)
      · have hf3 : xi1.toInt ≤ y2_2.toInt := by have z := (fa_le _ _).mp hc2;  omega
        refine lv_iconst (v := (-1)) hx hb dX10_find_28 (by decide) ?_
        exact tw_iret hx hb hr hlocks TH hS hex ⟨⟨_, rfl, (show (-1) ≤ Int32.toInt (-1) from by have : (((-1) : Int32).toInt) = (-1) := (by decide); omega), (show Int32.toInt (-1) ≤ 39 from by have : (((-1) : Int32).toInt) = (-1) := (by decide); omega)⟩, rfl, rfl, rfl⟩ (Nat.le_of_ble_eq_true rfl) (Nat.le_of_ble_eq_true rfl) dX10_find_29
      · have hf4 : ¬ (xi1.toInt ≤ y2_2.toInt) := fun q => hc2 ((fa_le _ _).mpr (by  omega))
        refine lv_aload_n hx hb dX10_find_10 rfl (lv_at hl 1 rfl) ?_
        refine tw_get (ci := 10) (C := RX10) (T := TX10) (N := 8) hx hb hB cx_inX10 hown hK TH hm0 hk0 rfl ⟨by decide, rfl⟩ 1 (by decide) cw_122 (fun _ h9 => h9) dX10_find_11 (fun hv => ?_)
        obtain ⟨xr5, hxr5, hmxr5, hkxr5⟩ : ∃ a : Nat, tw_fv E a0 1 = .ref a ∧ a ∈ L ∧ kp a = 110 := hv
        rw [hxr5]
        refine lv_iload_n hx hb dX10_find_14 rfl (lv_at hl 0 rfl) ?_
        refine tw_iald (k := 110) (t0 := 0) (n := 40) (lo := (-1)) (hi := 149) hx hb hK TH hmxr5 hkxr5 (by decide) rfl rfl (i := y2_2) (vp_in_iff.mpr ⟨by  omega, by  omega⟩) dX10_find_15 (fun hxe6a hxe6b => ?_)
        generalize tw_iv E xr5 (Int32.toNatClampNeg y2_2) = xe6 at hxe6a hxe6b ⊢
        refine lv_iload_n hx hb dX10_find_16 rfl (lv_at hl 2 rfl) ?_
        refine lv_icmp_ne (tgt := 22) hx hb dX10_find_17 (by decide) (fun hc7 => ?_) (fun hc7 => ?_)
        · have hf8 : ¬ (xe6.toInt = x1.toInt) := fun q => hc7 ((fa_eq _ _).mpr (by  omega))
          obtain ⟨zi9, ezi9⟩ : ∃ z : Int32, z = y2_2 + Int32.ofInt 1 := ⟨_, rfl⟩
          have hzi9 : zi9.toInt = y2_2.toInt + 1 := by rw [ezi9]; have : ((Int32.ofInt 1).toInt) = 1 := (by decide);  exact (ia_add (by omega) (by omega)).trans (by omega)
          refine lv_iinc (v := zi9) (lv' := [(2, .int zi9), (0, .ref a0), (1, .int x1)]) hx hb dX10_find_22 hl (k := 0) rfl ezi9.symm (by decide) rfl (fun ls hl => ?_)
          refine lv_goto (tgt := 2) hx hb dX10_find_25 (by decide) ?_
          exfalso; omega
        · have hf10 : xe6.toInt = x1.toInt := by have z := (fa_eq _ _).mp hc7;  omega
          refine lv_iload_n hx hb dX10_find_20 rfl (lv_at hl 0 rfl) ?_
          exact tw_iret hx hb hr hlocks TH hS hex ⟨⟨_, rfl, (show (-1) ≤ Int32.toInt y2_2 from by  omega), (show Int32.toInt y2_2 ≤ 39 from by  omega)⟩, rfl, rfl, rfl⟩ (Nat.le_of_ble_eq_true rfl) (Nat.le_of_ble_eq_true rfl) dX10_find_21
    | succ n2 ih2 =>
      intro y2_2 H locs ls hy2_2a hy2_2b hmeas TH hS hl
      refine lv_iload_n hx hb dX10_find_2 rfl (lv_at hl 0 rfl) ?_
      refine lv_aload_n hx hb dX10_find_3 rfl (lv_at hl 1 rfl) ?_
      refine tw_get (ci := 10) (C := RX10) (T := TX10) (N := 8) hx hb hB cx_inX10 hown hK TH hm0 hk0 rfl ⟨by decide, rfl⟩ 0 (by decide) cw_116 (fun _ h9 => h9) dX10_find_4 (fun hv => ?_)
      obtain ⟨xi11, hxi11, hxi11a, hxi11b⟩ : ∃ x : Int32, tw_fv E a0 0 = .int x ∧ 0 ≤ x.toInt ∧ x.toInt ≤ 40 := hv
      rw [hxi11]
      refine lv_icmp_ge (tgt := 28) hx hb dX10_find_7 (by decide) (fun hc12 => ?_) (fun hc12 => ?_)
      · have hf13 : xi11.toInt ≤ y2_2.toInt := by have z := (fa_le _ _).mp hc12;  omega
        refine lv_iconst (v := (-1)) hx hb dX10_find_28 (by decide) ?_
        exact tw_iret hx hb hr hlocks TH hS hex ⟨⟨_, rfl, (show (-1) ≤ Int32.toInt (-1) from by have : (((-1) : Int32).toInt) = (-1) := (by decide); omega), (show Int32.toInt (-1) ≤ 39 from by have : (((-1) : Int32).toInt) = (-1) := (by decide); omega)⟩, rfl, rfl, rfl⟩ (Nat.le_of_ble_eq_true rfl) (Nat.le_of_ble_eq_true rfl) dX10_find_29
      · have hf14 : ¬ (xi11.toInt ≤ y2_2.toInt) := fun q => hc12 ((fa_le _ _).mpr (by  omega))
        refine lv_aload_n hx hb dX10_find_10 rfl (lv_at hl 1 rfl) ?_
        refine tw_get (ci := 10) (C := RX10) (T := TX10) (N := 8) hx hb hB cx_inX10 hown hK TH hm0 hk0 rfl ⟨by decide, rfl⟩ 1 (by decide) cw_122 (fun _ h9 => h9) dX10_find_11 (fun hv => ?_)
        obtain ⟨xr15, hxr15, hmxr15, hkxr15⟩ : ∃ a : Nat, tw_fv E a0 1 = .ref a ∧ a ∈ L ∧ kp a = 110 := hv
        rw [hxr15]
        refine lv_iload_n hx hb dX10_find_14 rfl (lv_at hl 0 rfl) ?_
        refine tw_iald (k := 110) (t0 := 0) (n := 40) (lo := (-1)) (hi := 149) hx hb hK TH hmxr15 hkxr15 (by decide) rfl rfl (i := y2_2) (vp_in_iff.mpr ⟨by  omega, by  omega⟩) dX10_find_15 (fun hxe16a hxe16b => ?_)
        generalize tw_iv E xr15 (Int32.toNatClampNeg y2_2) = xe16 at hxe16a hxe16b ⊢
        refine lv_iload_n hx hb dX10_find_16 rfl (lv_at hl 2 rfl) ?_
        refine lv_icmp_ne (tgt := 22) hx hb dX10_find_17 (by decide) (fun hc17 => ?_) (fun hc17 => ?_)
        · have hf18 : ¬ (xe16.toInt = x1.toInt) := fun q => hc17 ((fa_eq _ _).mpr (by  omega))
          obtain ⟨zi19, ezi19⟩ : ∃ z : Int32, z = y2_2 + Int32.ofInt 1 := ⟨_, rfl⟩
          have hzi19 : zi19.toInt = y2_2.toInt + 1 := by rw [ezi19]; have : ((Int32.ofInt 1).toInt) = 1 := (by decide);  exact (ia_add (by omega) (by omega)).trans (by omega)
          refine lv_iinc (v := zi19) (lv' := [(2, .int zi19), (0, .ref a0), (1, .int x1)]) hx hb dX10_find_22 hl (k := 0) rfl ezi19.symm (by decide) rfl (fun ls hl => ?_)
          refine lv_goto (tgt := 2) hx hb dX10_find_25 (by decide) ?_
          exact ih2 zi19 _ _ ls (by  omega) (by  omega) (by  omega)  TH hS (lv_sub hl [0, 1, 2] rfl)
        · have hf20 : xe16.toInt = x1.toInt := by have z := (fa_eq _ _).mp hc17;  omega
          refine lv_iload_n hx hb dX10_find_20 rfl (lv_at hl 0 rfl) ?_
          exact tw_iret hx hb hr hlocks TH hS hex ⟨⟨_, rfl, (show (-1) ≤ Int32.toInt y2_2 from by  omega), (show Int32.toInt y2_2 ≤ 39 from by  omega)⟩, rfl, rfl, rfl⟩ (Nat.le_of_ble_eq_true rfl) (Nat.le_of_ble_eq_true rfl) dX10_find_21
  exact hJ2 41 0 _ _ ls (by have : ((0 : Int32).toInt) = 0 := (by decide); omega) (by have : ((0 : Int32).toInt) = 0 := (by decide); omega) (by have : ((0 : Int32).toInt) = 0 := (by decide); omega)  TH hS (lv_sub hl [0, 1, 2] rfl)
set_option maxHeartbeats 4000000 in
set_option maxRecDepth 100000 in
theorem tX10_childCount (l : Launch) (D : va_G) (cs : Nat → ClassId) {kp : Nat → Nat} {L : List Nat} {E : Nat → va_E} (a0 : Nat) (x1 : Int32) (hm0 : a0 ∈ L) (hk0 : kp a0 = 10) (hp1a : 0 ≤ x1.toInt) (hp1b : x1.toInt ≤ 39) (sz : Nat) : Met l yX10_childCount (.code yX10_childCount cX10_childCount 4 (some .int) :: cx_big) { frames := 0, cells := 0, slots := 0, locals := 0 } (tw_P D cs kp L E [.ref a0, .int x1] sz) (tw_Q D cs kp L (fun v kq Lq Eq => (∃ x : Int32, v = some (.int x)) ∧ kp = kq ∧ L = Lq ∧ E = Eq) (va_A (va_pl L E) sz)) 0 0 (va_A (va_pl L E) sz) := by
  refine tw_ofW (by decide) (Nat.le_of_ble_eq_true rfl) ?_
  intro p e s m below meth c A ls hx hb hr hml hB hown hlocks hK hN hA TH hS hl
  have hown : s.vm.findClass "TreeMerge$Tree" = some m.cls := hown
  have hl : lv_has ls 4 [(0, .ref a0), (1, .int x1)] := hl
  obtain ⟨kp0, ekp⟩ : ∃ z, z = kp := ⟨_, rfl⟩
  obtain ⟨L0, eL⟩ : ∃ z, z = L := ⟨_, rfl⟩
  rw [show tw_Q D cs kp L = tw_Q D cs kp0 L0 by rw [ekp, eL]]
  have hex : ∀ a : Nat, a ∈ L0 → a ∈ L ∧ kp a = kp0 a := fun a h => ⟨by rw [← eL]; exact h, by rw [ekp]⟩
  refine lv_iconst (v := 0) hx hb dX10_childCount_0 (by decide) ?_
  refine lv_istore_n (lv' := [(2, .int 0), (0, .ref a0), (1, .int x1)]) hx hb dX10_childCount_1 rfl hl (by decide) rfl (fun ls hl => ?_)
  refine lv_iload_n hx hb dX10_childCount_2 rfl (lv_at hl 2 rfl) ?_
  refine lv_iconst (v := 1) hx hb dX10_childCount_3 (by decide) ?_
  refine lv_iadd hx hb dX10_childCount_4 ?_
  refine lv_topi (fun zi1 ezi1 => ?_)
  have hzi1 : zi1.toInt = x1.toInt + 1 := by rw [ezi1]; have : ((1 : Int32).toInt) = 1 := (by decide); exact (ia_add (by omega) (by omega)).trans (by omega)
  refine lv_istore_n (lv' := [(3, .int zi1), (2, .int 0), (0, .ref a0), (1, .int x1)]) hx hb dX10_childCount_5 rfl hl (by decide) rfl (fun ls hl => ?_)
  have hJ6 : ∀ (n : Nat) (y6_3 : Int32) (y6_2 : Int32) (H : Heap) (locs : List Loc) (ls : Array Slot), 1 ≤ y6_3.toInt → y6_3.toInt ≤ 40 → 40 - y6_3.toInt ≤ (n : Int) → tw_H D cs kp L E A H → va_S A s.heap H locs → lv_has ls 4 [(3, .int y6_3), (2, .int y6_2), (0, .ref a0), (1, .int x1)] → W p l e { frames := 0, cells := 0, slots := 0, locals := 0 } s m [.ref a0, .int x1].toArray below meth c H locs 0 0 (MQ below (tw_Q D cs kp0 L0 (fun v kq Lq Eq => (∃ x : Int32, v = some (.int x)) ∧ kp = kq ∧ L = Lq ∧ E = Eq) A) [.ref a0, .int x1].toArray s 0 0 A) (F0 m 6 ls []) := by
    intro n6
    induction n6 with
    | zero =>
      intro y6_3 y6_2 H locs ls hy6_3a hy6_3b hmeas TH hS hl
      refine lv_iload_n hx hb dX10_childCount_6 rfl (lv_at hl 0 rfl) ?_
      refine lv_aload_n hx hb dX10_childCount_7 rfl (lv_at hl 2 rfl) ?_
      refine tw_get (ci := 10) (C := RX10) (T := TX10) (N := 8) hx hb hB cx_inX10 hown hK TH hm0 hk0 rfl ⟨by decide, rfl⟩ 0 (by decide) cw_116 (fun _ h9 => h9) dX10_childCount_8 (fun hv => ?_)
      obtain ⟨xi2, hxi2, hxi2a, hxi2b⟩ : ∃ x : Int32, tw_fv E a0 0 = .int x ∧ 0 ≤ x.toInt ∧ x.toInt ≤ 40 := hv
      rw [hxi2]
      refine lv_icmp_ge (tgt := 33) hx hb dX10_childCount_11 (by decide) (fun hc3 => ?_) (fun hc3 => ?_)
      · have hf4 : xi2.toInt ≤ y6_3.toInt := by have z := (fa_le _ _).mp hc3;  omega
        refine lv_iload_n hx hb dX10_childCount_33 rfl (lv_at hl 1 rfl) ?_
        exact tw_iret hx hb hr hlocks TH hS hex ⟨⟨_, rfl⟩, rfl, rfl, rfl⟩ (Nat.le_of_ble_eq_true rfl) (Nat.le_of_ble_eq_true rfl) dX10_childCount_34
      · have hf5 : ¬ (xi2.toInt ≤ y6_3.toInt) := fun q => hc3 ((fa_le _ _).mpr (by  omega))
        refine lv_aload_n hx hb dX10_childCount_14 rfl (lv_at hl 2 rfl) ?_
        refine tw_get (ci := 10) (C := RX10) (T := TX10) (N := 8) hx hb hB cx_inX10 hown hK TH hm0 hk0 rfl ⟨by decide, rfl⟩ 3 (by decide) cw_130 (fun _ h9 => h9) dX10_childCount_15 (fun hv => ?_)
        obtain ⟨xr6, hxr6, hmxr6, hkxr6⟩ : ∃ a : Nat, tw_fv E a0 3 = .ref a ∧ a ∈ L ∧ kp a = 112 := hv
        rw [hxr6]
        refine lv_iload_n hx hb dX10_childCount_18 rfl (lv_at hl 0 rfl) ?_
        refine tw_iald (k := 112) (t0 := 0) (n := 40) (lo := (-1)) (hi := 39) hx hb hK TH hmxr6 hkxr6 (by decide) rfl rfl (i := y6_3) (vp_in_iff.mpr ⟨by  omega, by  omega⟩) dX10_childCount_19 (fun hxe7a hxe7b => ?_)
        generalize tw_iv E xr6 (Int32.toNatClampNeg y6_3) = xe7 at hxe7a hxe7b ⊢
        refine lv_iload_n hx hb dX10_childCount_20 rfl (lv_at hl 3 rfl) ?_
        have hJ27 : ∀ (y27_2 : Int32) (H : Heap) (locs : List Loc) (ls : Array Slot), tw_H D cs kp L E A H → va_S A s.heap H locs → lv_has ls 4 [(3, .int y6_3), (2, .int y27_2), (0, .ref a0), (1, .int x1)] → W p l e { frames := 0, cells := 0, slots := 0, locals := 0 } s m [.ref a0, .int x1].toArray below meth c H locs 0 0 (MQ below (tw_Q D cs kp0 L0 (fun v kq Lq Eq => (∃ x : Int32, v = some (.int x)) ∧ kp = kq ∧ L = Lq ∧ E = Eq) A) [.ref a0, .int x1].toArray s 0 0 A) (F0 m 27 ls []) := by
          intro y27_2 H locs ls TH hS hl
          obtain ⟨zi8, ezi8⟩ : ∃ z : Int32, z = y6_3 + Int32.ofInt 1 := ⟨_, rfl⟩
          have hzi8 : zi8.toInt = y6_3.toInt + 1 := by rw [ezi8]; have : ((Int32.ofInt 1).toInt) = 1 := (by decide);  exact (ia_add (by omega) (by omega)).trans (by omega)
          refine lv_iinc (v := zi8) (lv' := [(3, .int zi8), (2, .int y27_2), (0, .ref a0), (1, .int x1)]) hx hb dX10_childCount_27 hl (k := 0) rfl ezi8.symm (by decide) rfl (fun ls hl => ?_)
          refine lv_goto (tgt := 6) hx hb dX10_childCount_30 (by decide) ?_
          exfalso; omega
        refine lv_icmp_ne (tgt := 27) hx hb dX10_childCount_21 (by decide) (fun hc9 => ?_) (fun hc9 => ?_)
        · have hf10 : ¬ (xe7.toInt = x1.toInt) := fun q => hc9 ((fa_eq _ _).mpr (by  omega))
          exact hJ27 y6_2 _ _ ls   TH hS (lv_sub hl [0, 1, 2, 3] rfl)
        · have hf11 : xe7.toInt = x1.toInt := by have z := (fa_eq _ _).mp hc9;  omega
          obtain ⟨zi12, ezi12⟩ : ∃ z : Int32, z = y6_2 + Int32.ofInt 1 := ⟨_, rfl⟩
          refine lv_iinc (v := zi12) (lv' := [(2, .int zi12), (3, .int y6_3), (0, .ref a0), (1, .int x1)]) hx hb dX10_childCount_24 hl (k := 1) rfl ezi12.symm (by decide) rfl (fun ls hl => ?_)
          exact hJ27 zi12 _ _ ls   TH hS (lv_sub hl [1, 0, 2, 3] rfl)
    | succ n6 ih6 =>
      intro y6_3 y6_2 H locs ls hy6_3a hy6_3b hmeas TH hS hl
      refine lv_iload_n hx hb dX10_childCount_6 rfl (lv_at hl 0 rfl) ?_
      refine lv_aload_n hx hb dX10_childCount_7 rfl (lv_at hl 2 rfl) ?_
      refine tw_get (ci := 10) (C := RX10) (T := TX10) (N := 8) hx hb hB cx_inX10 hown hK TH hm0 hk0 rfl ⟨by decide, rfl⟩ 0 (by decide) cw_116 (fun _ h9 => h9) dX10_childCount_8 (fun hv => ?_)
      obtain ⟨xi13, hxi13, hxi13a, hxi13b⟩ : ∃ x : Int32, tw_fv E a0 0 = .int x ∧ 0 ≤ x.toInt ∧ x.toInt ≤ 40 := hv
      rw [hxi13]
      refine lv_icmp_ge (tgt := 33) hx hb dX10_childCount_11 (by decide) (fun hc14 => ?_) (fun hc14 => ?_)
      · have hf15 : xi13.toInt ≤ y6_3.toInt := by have z := (fa_le _ _).mp hc14;  omega
        refine lv_iload_n hx hb dX10_childCount_33 rfl (lv_at hl 1 rfl) ?_
        exact tw_iret hx hb hr hlocks TH hS hex ⟨⟨_, rfl⟩, rfl, rfl, rfl⟩ (Nat.le_of_ble_eq_true rfl) (Nat.le_of_ble_eq_true rfl) dX10_childCount_34
      · have hf16 : ¬ (xi13.toInt ≤ y6_3.toInt) := fun q => hc14 ((fa_le _ _).mpr (by  omega))
        refine lv_aload_n hx hb dX10_childCount_14 rfl (lv_at hl 2 rfl) ?_
        refine tw_get (ci := 10) (C := RX10) (T := TX10) (N := 8) hx hb hB cx_inX10 hown hK TH hm0 hk0 rfl ⟨by decide, rfl⟩ 3 (by decide) cw_130 (fun _ h9 => h9) dX10_childCount_15 (fun hv => ?_)
        obtain ⟨xr17, hxr17, hmxr17, hkxr17⟩ : ∃ a : Nat, tw_fv E a0 3 = .ref a ∧ a ∈ L ∧ kp a = 112 := hv
        rw [hxr17]
        refine lv_iload_n hx hb dX10_childCount_18 rfl (lv_at hl 0 rfl) ?_
        refine tw_iald (k := 112) (t0 := 0) (n := 40) (lo := (-1)) (hi := 39) hx hb hK TH hmxr17 hkxr17 (by decide) rfl rfl (i := y6_3) (vp_in_iff.mpr ⟨by  omega, by  omega⟩) dX10_childCount_19 (fun hxe18a hxe18b => ?_)
        generalize tw_iv E xr17 (Int32.toNatClampNeg y6_3) = xe18 at hxe18a hxe18b ⊢
        refine lv_iload_n hx hb dX10_childCount_20 rfl (lv_at hl 3 rfl) ?_
        have hJ27 : ∀ (y27_2 : Int32) (H : Heap) (locs : List Loc) (ls : Array Slot), tw_H D cs kp L E A H → va_S A s.heap H locs → lv_has ls 4 [(3, .int y6_3), (2, .int y27_2), (0, .ref a0), (1, .int x1)] → W p l e { frames := 0, cells := 0, slots := 0, locals := 0 } s m [.ref a0, .int x1].toArray below meth c H locs 0 0 (MQ below (tw_Q D cs kp0 L0 (fun v kq Lq Eq => (∃ x : Int32, v = some (.int x)) ∧ kp = kq ∧ L = Lq ∧ E = Eq) A) [.ref a0, .int x1].toArray s 0 0 A) (F0 m 27 ls []) := by
          intro y27_2 H locs ls TH hS hl
          obtain ⟨zi19, ezi19⟩ : ∃ z : Int32, z = y6_3 + Int32.ofInt 1 := ⟨_, rfl⟩
          have hzi19 : zi19.toInt = y6_3.toInt + 1 := by rw [ezi19]; have : ((Int32.ofInt 1).toInt) = 1 := (by decide);  exact (ia_add (by omega) (by omega)).trans (by omega)
          refine lv_iinc (v := zi19) (lv' := [(3, .int zi19), (2, .int y27_2), (0, .ref a0), (1, .int x1)]) hx hb dX10_childCount_27 hl (k := 0) rfl ezi19.symm (by decide) rfl (fun ls hl => ?_)
          refine lv_goto (tgt := 6) hx hb dX10_childCount_30 (by decide) ?_
          exact ih6 zi19 y27_2 _ _ ls (by  omega) (by  omega) (by  omega)  TH hS (lv_sub hl [0, 1, 2, 3] rfl)
        refine lv_icmp_ne (tgt := 27) hx hb dX10_childCount_21 (by decide) (fun hc20 => ?_) (fun hc20 => ?_)
        · have hf21 : ¬ (xe18.toInt = x1.toInt) := fun q => hc20 ((fa_eq _ _).mpr (by  omega))
          exact hJ27 y6_2 _ _ ls   TH hS (lv_sub hl [0, 1, 2, 3] rfl)
        · have hf22 : xe18.toInt = x1.toInt := by have z := (fa_eq _ _).mp hc20;  omega
          obtain ⟨zi23, ezi23⟩ : ∃ z : Int32, z = y6_2 + Int32.ofInt 1 := ⟨_, rfl⟩
          refine lv_iinc (v := zi23) (lv' := [(2, .int zi23), (3, .int y6_3), (0, .ref a0), (1, .int x1)]) hx hb dX10_childCount_24 hl (k := 1) rfl ezi23.symm (by decide) rfl (fun ls hl => ?_)
          exact hJ27 zi23 _ _ ls   TH hS (lv_sub hl [1, 0, 2, 3] rfl)
  exact hJ6 40 zi1 0 _ _ ls (by  omega) (by  omega) (by have : ((0 : Int32).toInt) = 0 := (by decide); omega)  TH hS (lv_sub hl [0, 1, 2, 3] rfl)
set_option maxHeartbeats 4000000 in
set_option maxRecDepth 100000 in
theorem tX10_placeOf (l : Launch) (D : va_G) (cs : Nat → ClassId) {kp : Nat → Nat} {L : List Nat} {E : Nat → va_E} (a0 : Nat) (x1 : Int32) (hm0 : a0 ∈ L) (hk0 : kp a0 = 10) (hp1a : 0 ≤ x1.toInt) (hp1b : x1.toInt ≤ 39) (sz : Nat) : Met l yX10_placeOf (.code yX10_placeOf cX10_placeOf 4 (some .int) :: cx_big) { frames := 0, cells := 0, slots := 0, locals := 0 } (tw_P D cs kp L E [.ref a0, .int x1] sz) (tw_Q D cs kp L (fun v kq Lq Eq => (∃ x : Int32, v = some (.int x)) ∧ kp = kq ∧ L = Lq ∧ E = Eq) (va_A (va_pl L E) sz)) 0 0 (va_A (va_pl L E) sz) := by
  refine tw_ofW (by decide) (Nat.le_of_ble_eq_true rfl) ?_
  intro p e s m below meth c A ls hx hb hr hml hB hown hlocks hK hN hA TH hS hl
  have hown : s.vm.findClass "TreeMerge$Tree" = some m.cls := hown
  have hl : lv_has ls 4 [(0, .ref a0), (1, .int x1)] := hl
  obtain ⟨kp0, ekp⟩ : ∃ z, z = kp := ⟨_, rfl⟩
  obtain ⟨L0, eL⟩ : ∃ z, z = L := ⟨_, rfl⟩
  rw [show tw_Q D cs kp L = tw_Q D cs kp0 L0 by rw [ekp, eL]]
  have hex : ∀ a : Nat, a ∈ L0 → a ∈ L ∧ kp a = kp0 a := fun a h => ⟨by rw [← eL]; exact h, by rw [ekp]⟩
  refine lv_iconst (v := 0) hx hb dX10_placeOf_0 (by decide) ?_
  refine lv_istore_n (lv' := [(2, .int 0), (0, .ref a0), (1, .int x1)]) hx hb dX10_placeOf_1 rfl hl (by decide) rfl (fun ls hl => ?_)
  refine lv_iconst (v := 1) hx hb dX10_placeOf_2 (by decide) ?_
  refine lv_istore_n (lv' := [(3, .int 1), (2, .int 0), (0, .ref a0), (1, .int x1)]) hx hb dX10_placeOf_3 rfl hl (by decide) rfl (fun ls hl => ?_)
  have hJ4 : ∀ (n : Nat) (y4_3 : Int32) (y4_2 : Int32) (H : Heap) (locs : List Loc) (ls : Array Slot), 1 ≤ y4_3.toInt → y4_3.toInt ≤ 40 → 40 - y4_3.toInt ≤ (n : Int) → tw_H D cs kp L E A H → va_S A s.heap H locs → lv_has ls 4 [(3, .int y4_3), (2, .int y4_2), (0, .ref a0), (1, .int x1)] → W p l e { frames := 0, cells := 0, slots := 0, locals := 0 } s m [.ref a0, .int x1].toArray below meth c H locs 0 0 (MQ below (tw_Q D cs kp0 L0 (fun v kq Lq Eq => (∃ x : Int32, v = some (.int x)) ∧ kp = kq ∧ L = Lq ∧ E = Eq) A) [.ref a0, .int x1].toArray s 0 0 A) (F0 m 4 ls []) := by
    intro n4
    induction n4 with
    | zero =>
      intro y4_3 y4_2 H locs ls hy4_3a hy4_3b hmeas TH hS hl
      refine lv_iload_n hx hb dX10_placeOf_4 rfl (lv_at hl 0 rfl) ?_
      refine lv_iload_n hx hb dX10_placeOf_5 rfl (lv_at hl 3 rfl) ?_
      refine lv_icmp_ge (tgt := 33) hx hb dX10_placeOf_6 (by decide) (fun hc1 => ?_) (fun hc1 => ?_)
      · have hf2 : x1.toInt ≤ y4_3.toInt := by have z := (fa_le _ _).mp hc1;  omega
        refine lv_iload_n hx hb dX10_placeOf_33 rfl (lv_at hl 1 rfl) ?_
        exact tw_iret hx hb hr hlocks TH hS hex ⟨⟨_, rfl⟩, rfl, rfl, rfl⟩ (Nat.le_of_ble_eq_true rfl) (Nat.le_of_ble_eq_true rfl) dX10_placeOf_34
      · have hf3 : ¬ (x1.toInt ≤ y4_3.toInt) := fun q => hc1 ((fa_le _ _).mpr (by  omega))
        refine lv_aload_n hx hb dX10_placeOf_9 rfl (lv_at hl 2 rfl) ?_
        refine tw_get (ci := 10) (C := RX10) (T := TX10) (N := 8) hx hb hB cx_inX10 hown hK TH hm0 hk0 rfl ⟨by decide, rfl⟩ 3 (by decide) cw_130 (fun _ h9 => h9) dX10_placeOf_10 (fun hv => ?_)
        obtain ⟨xr4, hxr4, hmxr4, hkxr4⟩ : ∃ a : Nat, tw_fv E a0 3 = .ref a ∧ a ∈ L ∧ kp a = 112 := hv
        rw [hxr4]
        refine lv_iload_n hx hb dX10_placeOf_13 rfl (lv_at hl 0 rfl) ?_
        refine tw_iald (k := 112) (t0 := 0) (n := 40) (lo := (-1)) (hi := 39) hx hb hK TH hmxr4 hkxr4 (by decide) rfl rfl (i := y4_3) (vp_in_iff.mpr ⟨by  omega, by  omega⟩) dX10_placeOf_14 (fun hxe5a hxe5b => ?_)
        generalize tw_iv E xr4 (Int32.toNatClampNeg y4_3) = xe5 at hxe5a hxe5b ⊢
        refine lv_aload_n hx hb dX10_placeOf_15 rfl (lv_at hl 2 rfl) ?_
        refine tw_get (ci := 10) (C := RX10) (T := TX10) (N := 8) hx hb hB cx_inX10 hown hK TH hm0 hk0 rfl ⟨by decide, rfl⟩ 3 (by decide) cw_130 (fun _ h9 => h9) dX10_placeOf_16 (fun hv => ?_)
        rw [hxr4]
        refine lv_iload_n hx hb dX10_placeOf_19 rfl (lv_at hl 3 rfl) ?_
        refine tw_iald (k := 112) (t0 := 0) (n := 40) (lo := (-1)) (hi := 39) hx hb hK TH hmxr4 hkxr4 (by decide) rfl rfl (i := x1) (vp_in_iff.mpr ⟨by  omega, by  omega⟩) dX10_placeOf_20 (fun hxe6a hxe6b => ?_)
        generalize tw_iv E xr4 (Int32.toNatClampNeg x1) = xe6 at hxe6a hxe6b ⊢
        have hJ27 : ∀ (y27_2 : Int32) (H : Heap) (locs : List Loc) (ls : Array Slot), tw_H D cs kp L E A H → va_S A s.heap H locs → lv_has ls 4 [(3, .int y4_3), (2, .int y27_2), (0, .ref a0), (1, .int x1)] → W p l e { frames := 0, cells := 0, slots := 0, locals := 0 } s m [.ref a0, .int x1].toArray below meth c H locs 0 0 (MQ below (tw_Q D cs kp0 L0 (fun v kq Lq Eq => (∃ x : Int32, v = some (.int x)) ∧ kp = kq ∧ L = Lq ∧ E = Eq) A) [.ref a0, .int x1].toArray s 0 0 A) (F0 m 27 ls []) := by
          intro y27_2 H locs ls TH hS hl
          obtain ⟨zi7, ezi7⟩ : ∃ z : Int32, z = y4_3 + Int32.ofInt 1 := ⟨_, rfl⟩
          have hzi7 : zi7.toInt = y4_3.toInt + 1 := by rw [ezi7]; have : ((Int32.ofInt 1).toInt) = 1 := (by decide);  exact (ia_add (by omega) (by omega)).trans (by omega)
          refine lv_iinc (v := zi7) (lv' := [(3, .int zi7), (2, .int y27_2), (0, .ref a0), (1, .int x1)]) hx hb dX10_placeOf_27 hl (k := 0) rfl ezi7.symm (by decide) rfl (fun ls hl => ?_)
          refine lv_goto (tgt := 4) hx hb dX10_placeOf_30 (by decide) ?_
          exfalso; omega
        refine lv_icmp_ne (tgt := 27) hx hb dX10_placeOf_21 (by decide) (fun hc8 => ?_) (fun hc8 => ?_)
        · have hf9 : ¬ (xe5.toInt = xe6.toInt) := fun q => hc8 ((fa_eq _ _).mpr (by  omega))
          exact hJ27 y4_2 _ _ ls   TH hS (lv_sub hl [0, 1, 2, 3] rfl)
        · have hf10 : xe5.toInt = xe6.toInt := by have z := (fa_eq _ _).mp hc8;  omega
          obtain ⟨zi11, ezi11⟩ : ∃ z : Int32, z = y4_2 + Int32.ofInt 1 := ⟨_, rfl⟩
          refine lv_iinc (v := zi11) (lv' := [(2, .int zi11), (3, .int y4_3), (0, .ref a0), (1, .int x1)]) hx hb dX10_placeOf_24 hl (k := 1) rfl ezi11.symm (by decide) rfl (fun ls hl => ?_)
          exact hJ27 zi11 _ _ ls   TH hS (lv_sub hl [1, 0, 2, 3] rfl)
    | succ n4 ih4 =>
      intro y4_3 y4_2 H locs ls hy4_3a hy4_3b hmeas TH hS hl
      refine lv_iload_n hx hb dX10_placeOf_4 rfl (lv_at hl 0 rfl) ?_
      refine lv_iload_n hx hb dX10_placeOf_5 rfl (lv_at hl 3 rfl) ?_
      refine lv_icmp_ge (tgt := 33) hx hb dX10_placeOf_6 (by decide) (fun hc12 => ?_) (fun hc12 => ?_)
      · have hf13 : x1.toInt ≤ y4_3.toInt := by have z := (fa_le _ _).mp hc12;  omega
        refine lv_iload_n hx hb dX10_placeOf_33 rfl (lv_at hl 1 rfl) ?_
        exact tw_iret hx hb hr hlocks TH hS hex ⟨⟨_, rfl⟩, rfl, rfl, rfl⟩ (Nat.le_of_ble_eq_true rfl) (Nat.le_of_ble_eq_true rfl) dX10_placeOf_34
      · have hf14 : ¬ (x1.toInt ≤ y4_3.toInt) := fun q => hc12 ((fa_le _ _).mpr (by  omega))
        refine lv_aload_n hx hb dX10_placeOf_9 rfl (lv_at hl 2 rfl) ?_
        refine tw_get (ci := 10) (C := RX10) (T := TX10) (N := 8) hx hb hB cx_inX10 hown hK TH hm0 hk0 rfl ⟨by decide, rfl⟩ 3 (by decide) cw_130 (fun _ h9 => h9) dX10_placeOf_10 (fun hv => ?_)
        obtain ⟨xr15, hxr15, hmxr15, hkxr15⟩ : ∃ a : Nat, tw_fv E a0 3 = .ref a ∧ a ∈ L ∧ kp a = 112 := hv
        rw [hxr15]
        refine lv_iload_n hx hb dX10_placeOf_13 rfl (lv_at hl 0 rfl) ?_
        refine tw_iald (k := 112) (t0 := 0) (n := 40) (lo := (-1)) (hi := 39) hx hb hK TH hmxr15 hkxr15 (by decide) rfl rfl (i := y4_3) (vp_in_iff.mpr ⟨by  omega, by  omega⟩) dX10_placeOf_14 (fun hxe16a hxe16b => ?_)
        generalize tw_iv E xr15 (Int32.toNatClampNeg y4_3) = xe16 at hxe16a hxe16b ⊢
        refine lv_aload_n hx hb dX10_placeOf_15 rfl (lv_at hl 2 rfl) ?_
        refine tw_get (ci := 10) (C := RX10) (T := TX10) (N := 8) hx hb hB cx_inX10 hown hK TH hm0 hk0 rfl ⟨by decide, rfl⟩ 3 (by decide) cw_130 (fun _ h9 => h9) dX10_placeOf_16 (fun hv => ?_)
        rw [hxr15]
        refine lv_iload_n hx hb dX10_placeOf_19 rfl (lv_at hl 3 rfl) ?_
        refine tw_iald (k := 112) (t0 := 0) (n := 40) (lo := (-1)) (hi := 39) hx hb hK TH hmxr15 hkxr15 (by decide) rfl rfl (i := x1) (vp_in_iff.mpr ⟨by  omega, by  omega⟩) dX10_placeOf_20 (fun hxe17a hxe17b => ?_)
        generalize tw_iv E xr15 (Int32.toNatClampNeg x1) = xe17 at hxe17a hxe17b ⊢
        have hJ27 : ∀ (y27_2 : Int32) (H : Heap) (locs : List Loc) (ls : Array Slot), tw_H D cs kp L E A H → va_S A s.heap H locs → lv_has ls 4 [(3, .int y4_3), (2, .int y27_2), (0, .ref a0), (1, .int x1)] → W p l e { frames := 0, cells := 0, slots := 0, locals := 0 } s m [.ref a0, .int x1].toArray below meth c H locs 0 0 (MQ below (tw_Q D cs kp0 L0 (fun v kq Lq Eq => (∃ x : Int32, v = some (.int x)) ∧ kp = kq ∧ L = Lq ∧ E = Eq) A) [.ref a0, .int x1].toArray s 0 0 A) (F0 m 27 ls []) := by
          intro y27_2 H locs ls TH hS hl
          obtain ⟨zi18, ezi18⟩ : ∃ z : Int32, z = y4_3 + Int32.ofInt 1 := ⟨_, rfl⟩
          have hzi18 : zi18.toInt = y4_3.toInt + 1 := by rw [ezi18]; have : ((Int32.ofInt 1).toInt) = 1 := (by decide);  exact (ia_add (by omega) (by omega)).trans (by omega)
          refine lv_iinc (v := zi18) (lv' := [(3, .int zi18), (2, .int y27_2), (0, .ref a0), (1, .int x1)]) hx hb dX10_placeOf_27 hl (k := 0) rfl ezi18.symm (by decide) rfl (fun ls hl => ?_)
          refine lv_goto (tgt := 4) hx hb dX10_placeOf_30 (by decide) ?_
          exact ih4 zi18 y27_2 _ _ ls (by  omega) (by  omega) (by  omega)  TH hS (lv_sub hl [0, 1, 2, 3] rfl)
        refine lv_icmp_ne (tgt := 27) hx hb dX10_placeOf_21 (by decide) (fun hc19 => ?_) (fun hc19 => ?_)
        · have hf20 : ¬ (xe16.toInt = xe17.toInt) := fun q => hc19 ((fa_eq _ _).mpr (by  omega))
          exact hJ27 y4_2 _ _ ls   TH hS (lv_sub hl [0, 1, 2, 3] rfl)
        · have hf21 : xe16.toInt = xe17.toInt := by have z := (fa_eq _ _).mp hc19;  omega
          obtain ⟨zi22, ezi22⟩ : ∃ z : Int32, z = y4_2 + Int32.ofInt 1 := ⟨_, rfl⟩
          refine lv_iinc (v := zi22) (lv' := [(2, .int zi22), (3, .int y4_3), (0, .ref a0), (1, .int x1)]) hx hb dX10_placeOf_24 hl (k := 1) rfl ezi22.symm (by decide) rfl (fun ls hl => ?_)
          exact hJ27 zi22 _ _ ls   TH hS (lv_sub hl [1, 0, 2, 3] rfl)
  exact hJ4 40 1 0 _ _ ls (by have : ((1 : Int32).toInt) = 1 := (by decide); omega) (by have : ((1 : Int32).toInt) = 1 := (by decide); omega) (by have : ((1 : Int32).toInt) = 1 := (by decide); have : ((0 : Int32).toInt) = 0 := (by decide); omega)  TH hS (lv_sub hl [0, 1, 2, 3] rfl)
set_option maxHeartbeats 4000000 in
set_option maxRecDepth 100000 in
theorem tX10_extent (l : Launch) (D : va_G) (cs : Nat → ClassId) {kp : Nat → Nat} {L : List Nat} {E : Nat → va_E} (a0 : Nat) (x1 : Int32) (hm0 : a0 ∈ L) (hk0 : kp a0 = 10) (hp1a : 0 ≤ x1.toInt) (hp1b : x1.toInt ≤ 39) (sz : Nat) : Met l yX10_extent (.code yX10_extent cX10_extent 3 (some .int) :: cx_big) { frames := 0, cells := 0, slots := 0, locals := 0 } (tw_P D cs kp L E [.ref a0, .int x1] sz) (tw_Q D cs kp L (fun v kq Lq Eq => (∃ x : Int32, v = some (.int x) ∧ (-38) ≤ x.toInt ∧ x.toInt ≤ 40) ∧ kp = kq ∧ L = Lq ∧ E = Eq) (va_A (va_pl L E) sz)) 0 0 (va_A (va_pl L E) sz) := by
  refine tw_ofW (by decide) (Nat.le_of_ble_eq_true rfl) ?_
  intro p e s m below meth c A ls hx hb hr hml hB hown hlocks hK hN hA TH hS hl
  have hown : s.vm.findClass "TreeMerge$Tree" = some m.cls := hown
  have hl : lv_has ls 3 [(0, .ref a0), (1, .int x1)] := hl
  obtain ⟨kp0, ekp⟩ : ∃ z, z = kp := ⟨_, rfl⟩
  obtain ⟨L0, eL⟩ : ∃ z, z = L := ⟨_, rfl⟩
  rw [show tw_Q D cs kp L = tw_Q D cs kp0 L0 by rw [ekp, eL]]
  have hex : ∀ a : Nat, a ∈ L0 → a ∈ L ∧ kp a = kp0 a := fun a h => ⟨by rw [← eL]; exact h, by rw [ekp]⟩
  refine lv_iload_n hx hb dX10_extent_0 rfl (lv_at hl 1 rfl) ?_
  refine lv_iconst (v := 1) hx hb dX10_extent_1 (by decide) ?_
  refine lv_iadd hx hb dX10_extent_2 ?_
  refine lv_topi (fun zi1 ezi1 => ?_)
  have hzi1 : zi1.toInt = x1.toInt + 1 := by rw [ezi1]; have : ((1 : Int32).toInt) = 1 := (by decide); exact (ia_add (by omega) (by omega)).trans (by omega)
  refine lv_istore_n (lv' := [(2, .int zi1), (0, .ref a0), (1, .int x1)]) hx hb dX10_extent_3 rfl hl (by decide) rfl (fun ls hl => ?_)
  have hJ4 : ∀ (n : Nat) (y4_2 : Int32) (H : Heap) (locs : List Loc) (ls : Array Slot), 1 ≤ y4_2.toInt → y4_2.toInt ≤ 40 → 40 - y4_2.toInt ≤ (n : Int) → tw_H D cs kp L E A H → va_S A s.heap H locs → lv_has ls 3 [(2, .int y4_2), (0, .ref a0), (1, .int x1)] → W p l e { frames := 0, cells := 0, slots := 0, locals := 0 } s m [.ref a0, .int x1].toArray below meth c H locs 0 0 (MQ below (tw_Q D cs kp0 L0 (fun v kq Lq Eq => (∃ x : Int32, v = some (.int x) ∧ (-38) ≤ x.toInt ∧ x.toInt ≤ 40) ∧ kp = kq ∧ L = Lq ∧ E = Eq) A) [.ref a0, .int x1].toArray s 0 0 A) (F0 m 4 ls []) := by
    intro n4
    induction n4 with
    | zero =>
      intro y4_2 H locs ls hy4_2a hy4_2b hmeas TH hS hl
      refine lv_iload_n hx hb dX10_extent_4 rfl (lv_at hl 0 rfl) ?_
      refine lv_aload_n hx hb dX10_extent_5 rfl (lv_at hl 1 rfl) ?_
      refine tw_get (ci := 10) (C := RX10) (T := TX10) (N := 8) hx hb hB cx_inX10 hown hK TH hm0 hk0 rfl ⟨by decide, rfl⟩ 0 (by decide) cw_116 (fun _ h9 => h9) dX10_extent_6 (fun hv => ?_)
      obtain ⟨xi2, hxi2, hxi2a, hxi2b⟩ : ∃ x : Int32, tw_fv E a0 0 = .int x ∧ 0 ≤ x.toInt ∧ x.toInt ≤ 40 := hv
      rw [hxi2]
      refine lv_icmp_ge (tgt := 33) hx hb dX10_extent_9 (by decide) (fun hc3 => ?_) (fun hc3 => ?_)
      · have hf4 : xi2.toInt ≤ y4_2.toInt := by have z := (fa_le _ _).mp hc3;  omega
        refine lv_iload_n hx hb dX10_extent_33 rfl (lv_at hl 0 rfl) ?_
        refine lv_iload_n hx hb dX10_extent_34 rfl (lv_at hl 2 rfl) ?_
        refine lv_isub hx hb dX10_extent_35 ?_
        refine lv_topi (fun zi5 ezi5 => ?_)
        have hzi5 : zi5.toInt = y4_2.toInt - x1.toInt := by rw [ezi5];  exact (ia_sub (by omega) (by omega)).trans (by omega)
        exact tw_iret hx hb hr hlocks TH hS hex ⟨⟨_, rfl, (show (-38) ≤ Int32.toInt zi5 from by  omega), (show Int32.toInt zi5 ≤ 40 from by  omega)⟩, rfl, rfl, rfl⟩ (Nat.le_of_ble_eq_true rfl) (Nat.le_of_ble_eq_true rfl) dX10_extent_36
      · have hf6 : ¬ (xi2.toInt ≤ y4_2.toInt) := fun q => hc3 ((fa_le _ _).mpr (by  omega))
        refine lv_aload_n hx hb dX10_extent_12 rfl (lv_at hl 1 rfl) ?_
        refine tw_get (ci := 10) (C := RX10) (T := TX10) (N := 8) hx hb hB cx_inX10 hown hK TH hm0 hk0 rfl ⟨by decide, rfl⟩ 4 (by decide) cw_135 (fun _ h9 => h9) dX10_extent_13 (fun hv => ?_)
        obtain ⟨xr7, hxr7, hmxr7, hkxr7⟩ : ∃ a : Nat, tw_fv E a0 4 = .ref a ∧ a ∈ L ∧ kp a = 113 := hv
        rw [hxr7]
        refine lv_iload_n hx hb dX10_extent_16 rfl (lv_at hl 0 rfl) ?_
        refine tw_iald (k := 113) (t0 := 0) (n := 40) (lo := 0) (hi := 40) hx hb hK TH hmxr7 hkxr7 (by decide) rfl rfl (i := y4_2) (vp_in_iff.mpr ⟨by  omega, by  omega⟩) dX10_extent_17 (fun hxe8a hxe8b => ?_)
        generalize tw_iv E xr7 (Int32.toNatClampNeg y4_2) = xe8 at hxe8a hxe8b ⊢
        refine lv_aload_n hx hb dX10_extent_18 rfl (lv_at hl 1 rfl) ?_
        refine tw_get (ci := 10) (C := RX10) (T := TX10) (N := 8) hx hb hB cx_inX10 hown hK TH hm0 hk0 rfl ⟨by decide, rfl⟩ 4 (by decide) cw_135 (fun _ h9 => h9) dX10_extent_19 (fun hv => ?_)
        rw [hxr7]
        refine lv_iload_n hx hb dX10_extent_22 rfl (lv_at hl 2 rfl) ?_
        refine tw_iald (k := 113) (t0 := 0) (n := 40) (lo := 0) (hi := 40) hx hb hK TH hmxr7 hkxr7 (by decide) rfl rfl (i := x1) (vp_in_iff.mpr ⟨by  omega, by  omega⟩) dX10_extent_23 (fun hxe9a hxe9b => ?_)
        generalize tw_iv E xr7 (Int32.toNatClampNeg x1) = xe9 at hxe9a hxe9b ⊢
        refine lv_icmp_le (tgt := 33) hx hb dX10_extent_24 (by decide) (fun hc10 => ?_) (fun hc10 => ?_)
        · have hf11 : xe8.toInt ≤ xe9.toInt := by have z := (fa_le _ _).mp hc10;  omega
          refine lv_iload_n hx hb dX10_extent_33 rfl (lv_at hl 0 rfl) ?_
          refine lv_iload_n hx hb dX10_extent_34 rfl (lv_at hl 2 rfl) ?_
          refine lv_isub hx hb dX10_extent_35 ?_
          refine lv_topi (fun zi12 ezi12 => ?_)
          have hzi12 : zi12.toInt = y4_2.toInt - x1.toInt := by rw [ezi12];  exact (ia_sub (by omega) (by omega)).trans (by omega)
          exact tw_iret hx hb hr hlocks TH hS hex ⟨⟨_, rfl, (show (-38) ≤ Int32.toInt zi12 from by  omega), (show Int32.toInt zi12 ≤ 40 from by  omega)⟩, rfl, rfl, rfl⟩ (Nat.le_of_ble_eq_true rfl) (Nat.le_of_ble_eq_true rfl) dX10_extent_36
        · have hf13 : ¬ (xe8.toInt ≤ xe9.toInt) := fun q => hc10 ((fa_le _ _).mpr (by  omega))
          obtain ⟨zi14, ezi14⟩ : ∃ z : Int32, z = y4_2 + Int32.ofInt 1 := ⟨_, rfl⟩
          have hzi14 : zi14.toInt = y4_2.toInt + 1 := by rw [ezi14]; have : ((Int32.ofInt 1).toInt) = 1 := (by decide);  exact (ia_add (by omega) (by omega)).trans (by omega)
          refine lv_iinc (v := zi14) (lv' := [(2, .int zi14), (0, .ref a0), (1, .int x1)]) hx hb dX10_extent_27 hl (k := 0) rfl ezi14.symm (by decide) rfl (fun ls hl => ?_)
          refine lv_goto (tgt := 4) hx hb dX10_extent_30 (by decide) ?_
          exfalso; omega
    | succ n4 ih4 =>
      intro y4_2 H locs ls hy4_2a hy4_2b hmeas TH hS hl
      refine lv_iload_n hx hb dX10_extent_4 rfl (lv_at hl 0 rfl) ?_
      refine lv_aload_n hx hb dX10_extent_5 rfl (lv_at hl 1 rfl) ?_
      refine tw_get (ci := 10) (C := RX10) (T := TX10) (N := 8) hx hb hB cx_inX10 hown hK TH hm0 hk0 rfl ⟨by decide, rfl⟩ 0 (by decide) cw_116 (fun _ h9 => h9) dX10_extent_6 (fun hv => ?_)
      obtain ⟨xi15, hxi15, hxi15a, hxi15b⟩ : ∃ x : Int32, tw_fv E a0 0 = .int x ∧ 0 ≤ x.toInt ∧ x.toInt ≤ 40 := hv
      rw [hxi15]
      refine lv_icmp_ge (tgt := 33) hx hb dX10_extent_9 (by decide) (fun hc16 => ?_) (fun hc16 => ?_)
      · have hf17 : xi15.toInt ≤ y4_2.toInt := by have z := (fa_le _ _).mp hc16;  omega
        refine lv_iload_n hx hb dX10_extent_33 rfl (lv_at hl 0 rfl) ?_
        refine lv_iload_n hx hb dX10_extent_34 rfl (lv_at hl 2 rfl) ?_
        refine lv_isub hx hb dX10_extent_35 ?_
        refine lv_topi (fun zi18 ezi18 => ?_)
        have hzi18 : zi18.toInt = y4_2.toInt - x1.toInt := by rw [ezi18];  exact (ia_sub (by omega) (by omega)).trans (by omega)
        exact tw_iret hx hb hr hlocks TH hS hex ⟨⟨_, rfl, (show (-38) ≤ Int32.toInt zi18 from by  omega), (show Int32.toInt zi18 ≤ 40 from by  omega)⟩, rfl, rfl, rfl⟩ (Nat.le_of_ble_eq_true rfl) (Nat.le_of_ble_eq_true rfl) dX10_extent_36
      · have hf19 : ¬ (xi15.toInt ≤ y4_2.toInt) := fun q => hc16 ((fa_le _ _).mpr (by  omega))
        refine lv_aload_n hx hb dX10_extent_12 rfl (lv_at hl 1 rfl) ?_
        refine tw_get (ci := 10) (C := RX10) (T := TX10) (N := 8) hx hb hB cx_inX10 hown hK TH hm0 hk0 rfl ⟨by decide, rfl⟩ 4 (by decide) cw_135 (fun _ h9 => h9) dX10_extent_13 (fun hv => ?_)
        obtain ⟨xr20, hxr20, hmxr20, hkxr20⟩ : ∃ a : Nat, tw_fv E a0 4 = .ref a ∧ a ∈ L ∧ kp a = 113 := hv
        rw [hxr20]
        refine lv_iload_n hx hb dX10_extent_16 rfl (lv_at hl 0 rfl) ?_
        refine tw_iald (k := 113) (t0 := 0) (n := 40) (lo := 0) (hi := 40) hx hb hK TH hmxr20 hkxr20 (by decide) rfl rfl (i := y4_2) (vp_in_iff.mpr ⟨by  omega, by  omega⟩) dX10_extent_17 (fun hxe21a hxe21b => ?_)
        generalize tw_iv E xr20 (Int32.toNatClampNeg y4_2) = xe21 at hxe21a hxe21b ⊢
        refine lv_aload_n hx hb dX10_extent_18 rfl (lv_at hl 1 rfl) ?_
        refine tw_get (ci := 10) (C := RX10) (T := TX10) (N := 8) hx hb hB cx_inX10 hown hK TH hm0 hk0 rfl ⟨by decide, rfl⟩ 4 (by decide) cw_135 (fun _ h9 => h9) dX10_extent_19 (fun hv => ?_)
        rw [hxr20]
        refine lv_iload_n hx hb dX10_extent_22 rfl (lv_at hl 2 rfl) ?_
        refine tw_iald (k := 113) (t0 := 0) (n := 40) (lo := 0) (hi := 40) hx hb hK TH hmxr20 hkxr20 (by decide) rfl rfl (i := x1) (vp_in_iff.mpr ⟨by  omega, by  omega⟩) dX10_extent_23 (fun hxe22a hxe22b => ?_)
        generalize tw_iv E xr20 (Int32.toNatClampNeg x1) = xe22 at hxe22a hxe22b ⊢
        refine lv_icmp_le (tgt := 33) hx hb dX10_extent_24 (by decide) (fun hc23 => ?_) (fun hc23 => ?_)
        · have hf24 : xe21.toInt ≤ xe22.toInt := by have z := (fa_le _ _).mp hc23;  omega
          refine lv_iload_n hx hb dX10_extent_33 rfl (lv_at hl 0 rfl) ?_
          refine lv_iload_n hx hb dX10_extent_34 rfl (lv_at hl 2 rfl) ?_
          refine lv_isub hx hb dX10_extent_35 ?_
          refine lv_topi (fun zi25 ezi25 => ?_)
          have hzi25 : zi25.toInt = y4_2.toInt - x1.toInt := by rw [ezi25];  exact (ia_sub (by omega) (by omega)).trans (by omega)
          exact tw_iret hx hb hr hlocks TH hS hex ⟨⟨_, rfl, (show (-38) ≤ Int32.toInt zi25 from by  omega), (show Int32.toInt zi25 ≤ 40 from by  omega)⟩, rfl, rfl, rfl⟩ (Nat.le_of_ble_eq_true rfl) (Nat.le_of_ble_eq_true rfl) dX10_extent_36
        · have hf26 : ¬ (xe21.toInt ≤ xe22.toInt) := fun q => hc23 ((fa_le _ _).mpr (by  omega))
          obtain ⟨zi27, ezi27⟩ : ∃ z : Int32, z = y4_2 + Int32.ofInt 1 := ⟨_, rfl⟩
          have hzi27 : zi27.toInt = y4_2.toInt + 1 := by rw [ezi27]; have : ((Int32.ofInt 1).toInt) = 1 := (by decide);  exact (ia_add (by omega) (by omega)).trans (by omega)
          refine lv_iinc (v := zi27) (lv' := [(2, .int zi27), (0, .ref a0), (1, .int x1)]) hx hb dX10_extent_27 hl (k := 0) rfl ezi27.symm (by decide) rfl (fun ls hl => ?_)
          refine lv_goto (tgt := 4) hx hb dX10_extent_30 (by decide) ?_
          exact ih4 zi27 _ _ ls (by  omega) (by  omega) (by  omega)  TH hS (lv_sub hl [0, 1, 2] rfl)
  exact hJ4 40 zi1 _ _ ls (by  omega) (by  omega) (by  omega)  TH hS (lv_sub hl [0, 1, 2] rfl)
set_option maxHeartbeats 4000000 in
set_option maxRecDepth 100000 in
theorem tX10_childIndex (l : Launch) (D : va_G) (cs : Nat → ClassId) {kp : Nat → Nat} {L : List Nat} {E : Nat → va_E} (a0 : Nat) (x1 : Int32) (x2 : Int32) (hm0 : a0 ∈ L) (hk0 : kp a0 = 10) (sz : Nat) : Met l yX10_childIndex (.code yX10_childIndex cX10_childIndex 5 (some .int) :: cx_big) { frames := 0, cells := 0, slots := 0, locals := 0 } (tw_P D cs kp L E [.ref a0, .int x1, .int x2] sz) (tw_Q D cs kp L (fun v kq Lq Eq => (∃ x : Int32, v = some (.int x) ∧ (-1) ≤ x.toInt ∧ x.toInt ≤ 40) ∧ kp = kq ∧ L = Lq ∧ E = Eq) (va_A (va_pl L E) sz)) 0 0 (va_A (va_pl L E) sz) := by
  refine tw_ofW (by decide) (Nat.le_of_ble_eq_true rfl) ?_
  intro p e s m below meth c A ls hx hb hr hml hB hown hlocks hK hN hA TH hS hl
  have hown : s.vm.findClass "TreeMerge$Tree" = some m.cls := hown
  have hl : lv_has ls 5 [(0, .ref a0), (1, .int x1), (2, .int x2)] := hl
  obtain ⟨kp0, ekp⟩ : ∃ z, z = kp := ⟨_, rfl⟩
  obtain ⟨L0, eL⟩ : ∃ z, z = L := ⟨_, rfl⟩
  rw [show tw_Q D cs kp L = tw_Q D cs kp0 L0 by rw [ekp, eL]]
  have hex : ∀ a : Nat, a ∈ L0 → a ∈ L ∧ kp a = kp0 a := fun a h => ⟨by rw [← eL]; exact h, by rw [ekp]⟩
  refine lv_iconst (v := 0) hx hb dX10_childIndex_0 (by decide) ?_
  refine lv_istore_n (lv' := [(3, .int 0), (0, .ref a0), (1, .int x1), (2, .int x2)]) hx hb dX10_childIndex_1 rfl hl (by decide) rfl (fun ls hl => ?_)
  refine lv_iconst (v := 0) hx hb dX10_childIndex_2 (by decide) ?_
  refine lv_istore (lv' := [(4, .int 0), (3, .int 0), (0, .ref a0), (1, .int x1), (2, .int x2)]) hx hb dX10_childIndex_3 hl (by decide) rfl (fun ls hl => ?_)
  have hJ5 : ∀ (n : Nat) (y5_4 : Int32) (y5_3 : Int32) (H : Heap) (locs : List Loc) (ls : Array Slot), 0 ≤ y5_4.toInt → y5_4.toInt ≤ 40 → 40 - y5_4.toInt ≤ (n : Int) → tw_H D cs kp L E A H → va_S A s.heap H locs → lv_has ls 5 [(4, .int y5_4), (3, .int y5_3), (0, .ref a0), (1, .int x1), (2, .int x2)] → W p l e { frames := 0, cells := 0, slots := 0, locals := 0 } s m [.ref a0, .int x1, .int x2].toArray below meth c H locs 0 0 (MQ below (tw_Q D cs kp0 L0 (fun v kq Lq Eq => (∃ x : Int32, v = some (.int x) ∧ (-1) ≤ x.toInt ∧ x.toInt ≤ 40) ∧ kp = kq ∧ L = Lq ∧ E = Eq) A) [.ref a0, .int x1, .int x2].toArray s 0 0 A) (F0 m 5 ls []) := by
    intro n5
    induction n5 with
    | zero =>
      intro y5_4 y5_3 H locs ls hy5_4a hy5_4b hmeas TH hS hl
      refine lv_iload hx hb dX10_childIndex_5 (lv_at hl 0 rfl) ?_
      refine lv_aload_n hx hb dX10_childIndex_7 rfl (lv_at hl 2 rfl) ?_
      refine tw_get (ci := 10) (C := RX10) (T := TX10) (N := 8) hx hb hB cx_inX10 hown hK TH hm0 hk0 rfl ⟨by decide, rfl⟩ 0 (by decide) cw_116 (fun _ h9 => h9) dX10_childIndex_8 (fun hv => ?_)
      obtain ⟨xi1, hxi1, hxi1a, hxi1b⟩ : ∃ x : Int32, tw_fv E a0 0 = .int x ∧ 0 ≤ x.toInt ∧ x.toInt ≤ 40 := hv
      rw [hxi1]
      refine lv_icmp_ge (tgt := 42) hx hb dX10_childIndex_11 (by decide) (fun hc2 => ?_) (fun hc2 => ?_)
      · have hf3 : xi1.toInt ≤ y5_4.toInt := by have z := (fa_le _ _).mp hc2;  omega
        refine lv_aload_n hx hb dX10_childIndex_42 rfl (lv_at hl 2 rfl) ?_
        refine tw_get (ci := 10) (C := RX10) (T := TX10) (N := 8) hx hb hB cx_inX10 hown hK TH hm0 hk0 rfl ⟨by decide, rfl⟩ 0 (by decide) cw_116 (fun _ h9 => h9) dX10_childIndex_43 (fun hv => ?_)
        rw [hxi1]
        exact tw_iret hx hb hr hlocks TH hS hex ⟨⟨_, rfl, (show (-1) ≤ Int32.toInt xi1 from by  omega), (show Int32.toInt xi1 ≤ 40 from by  omega)⟩, rfl, rfl, rfl⟩ (Nat.le_of_ble_eq_true rfl) (Nat.le_of_ble_eq_true rfl) dX10_childIndex_46
      · have hf4 : ¬ (xi1.toInt ≤ y5_4.toInt) := fun q => hc2 ((fa_le _ _).mpr (by  omega))
        refine lv_aload_n hx hb dX10_childIndex_14 rfl (lv_at hl 2 rfl) ?_
        refine tw_get (ci := 10) (C := RX10) (T := TX10) (N := 8) hx hb hB cx_inX10 hown hK TH hm0 hk0 rfl ⟨by decide, rfl⟩ 2 (by decide) cw_127 (fun _ h9 => h9) dX10_childIndex_15 (fun hv => ?_)
        obtain ⟨xr5, hxr5, hmxr5, hkxr5⟩ : ∃ a : Nat, tw_fv E a0 2 = .ref a ∧ a ∈ L ∧ kp a = 111 := hv
        rw [hxr5]
        refine lv_iload hx hb dX10_childIndex_18 (lv_at hl 0 rfl) ?_
        refine tw_iald (k := 111) (t0 := 0) (n := 40) (lo := (-1)) (hi := 149) hx hb hK TH hmxr5 hkxr5 (by decide) rfl rfl (i := y5_4) (vp_in_iff.mpr ⟨by  omega, by  omega⟩) dX10_childIndex_20 (fun hxe6a hxe6b => ?_)
        generalize tw_iv E xr5 (Int32.toNatClampNeg y5_4) = xe6 at hxe6a hxe6b ⊢
        refine lv_iload_n hx hb dX10_childIndex_21 rfl (lv_at hl 3 rfl) ?_
        have hJ36 : ∀ (y36_3 : Int32) (H : Heap) (locs : List Loc) (ls : Array Slot), tw_H D cs kp L E A H → va_S A s.heap H locs → lv_has ls 5 [(4, .int y5_4), (3, .int y36_3), (0, .ref a0), (1, .int x1), (2, .int x2)] → W p l e { frames := 0, cells := 0, slots := 0, locals := 0 } s m [.ref a0, .int x1, .int x2].toArray below meth c H locs 0 0 (MQ below (tw_Q D cs kp0 L0 (fun v kq Lq Eq => (∃ x : Int32, v = some (.int x) ∧ (-1) ≤ x.toInt ∧ x.toInt ≤ 40) ∧ kp = kq ∧ L = Lq ∧ E = Eq) A) [.ref a0, .int x1, .int x2].toArray s 0 0 A) (F0 m 36 ls []) := by
          intro y36_3 H locs ls TH hS hl
          obtain ⟨zi7, ezi7⟩ : ∃ z : Int32, z = y5_4 + Int32.ofInt 1 := ⟨_, rfl⟩
          have hzi7 : zi7.toInt = y5_4.toInt + 1 := by rw [ezi7]; have : ((Int32.ofInt 1).toInt) = 1 := (by decide);  exact (ia_add (by omega) (by omega)).trans (by omega)
          refine lv_iinc (v := zi7) (lv' := [(4, .int zi7), (3, .int y36_3), (0, .ref a0), (1, .int x1), (2, .int x2)]) hx hb dX10_childIndex_36 hl (k := 0) rfl ezi7.symm (by decide) rfl (fun ls hl => ?_)
          refine lv_goto (tgt := 5) hx hb dX10_childIndex_39 (by decide) ?_
          exfalso; omega
        refine lv_icmp_ne (tgt := 36) hx hb dX10_childIndex_22 (by decide) (fun hc8 => ?_) (fun hc8 => ?_)
        · have hf9 : ¬ (xe6.toInt = x1.toInt) := fun q => hc8 ((fa_eq _ _).mpr (by  omega))
          exact hJ36 y5_3 _ _ ls   TH hS (lv_sub hl [0, 1, 2, 3, 4] rfl)
        · have hf10 : xe6.toInt = x1.toInt := by have z := (fa_eq _ _).mp hc8;  omega
          refine lv_iload_n hx hb dX10_childIndex_25 rfl (lv_at hl 1 rfl) ?_
          refine lv_iload_n hx hb dX10_childIndex_26 rfl (lv_at hl 4 rfl) ?_
          refine lv_icmp_ne (tgt := 33) hx hb dX10_childIndex_27 (by decide) (fun hc11 => ?_) (fun hc11 => ?_)
          · have hf12 : ¬ (y5_3.toInt = x2.toInt) := fun q => hc11 ((fa_eq _ _).mpr (by  omega))
            obtain ⟨zi13, ezi13⟩ : ∃ z : Int32, z = y5_3 + Int32.ofInt 1 := ⟨_, rfl⟩
            refine lv_iinc (v := zi13) (lv' := [(3, .int zi13), (4, .int y5_4), (0, .ref a0), (1, .int x1), (2, .int x2)]) hx hb dX10_childIndex_33 hl (k := 1) rfl ezi13.symm (by decide) rfl (fun ls hl => ?_)
            exact hJ36 zi13 _ _ ls   TH hS (lv_sub hl [1, 0, 2, 3, 4] rfl)
          · have hf14 : y5_3.toInt = x2.toInt := by have z := (fa_eq _ _).mp hc11;  omega
            refine lv_iload hx hb dX10_childIndex_30 (lv_at hl 0 rfl) ?_
            exact tw_iret hx hb hr hlocks TH hS hex ⟨⟨_, rfl, (show (-1) ≤ Int32.toInt y5_4 from by  omega), (show Int32.toInt y5_4 ≤ 40 from by  omega)⟩, rfl, rfl, rfl⟩ (Nat.le_of_ble_eq_true rfl) (Nat.le_of_ble_eq_true rfl) dX10_childIndex_32
    | succ n5 ih5 =>
      intro y5_4 y5_3 H locs ls hy5_4a hy5_4b hmeas TH hS hl
      refine lv_iload hx hb dX10_childIndex_5 (lv_at hl 0 rfl) ?_
      refine lv_aload_n hx hb dX10_childIndex_7 rfl (lv_at hl 2 rfl) ?_
      refine tw_get (ci := 10) (C := RX10) (T := TX10) (N := 8) hx hb hB cx_inX10 hown hK TH hm0 hk0 rfl ⟨by decide, rfl⟩ 0 (by decide) cw_116 (fun _ h9 => h9) dX10_childIndex_8 (fun hv => ?_)
      obtain ⟨xi15, hxi15, hxi15a, hxi15b⟩ : ∃ x : Int32, tw_fv E a0 0 = .int x ∧ 0 ≤ x.toInt ∧ x.toInt ≤ 40 := hv
      rw [hxi15]
      refine lv_icmp_ge (tgt := 42) hx hb dX10_childIndex_11 (by decide) (fun hc16 => ?_) (fun hc16 => ?_)
      · have hf17 : xi15.toInt ≤ y5_4.toInt := by have z := (fa_le _ _).mp hc16;  omega
        refine lv_aload_n hx hb dX10_childIndex_42 rfl (lv_at hl 2 rfl) ?_
        refine tw_get (ci := 10) (C := RX10) (T := TX10) (N := 8) hx hb hB cx_inX10 hown hK TH hm0 hk0 rfl ⟨by decide, rfl⟩ 0 (by decide) cw_116 (fun _ h9 => h9) dX10_childIndex_43 (fun hv => ?_)
        rw [hxi15]
        exact tw_iret hx hb hr hlocks TH hS hex ⟨⟨_, rfl, (show (-1) ≤ Int32.toInt xi15 from by  omega), (show Int32.toInt xi15 ≤ 40 from by  omega)⟩, rfl, rfl, rfl⟩ (Nat.le_of_ble_eq_true rfl) (Nat.le_of_ble_eq_true rfl) dX10_childIndex_46
      · have hf18 : ¬ (xi15.toInt ≤ y5_4.toInt) := fun q => hc16 ((fa_le _ _).mpr (by  omega))
        refine lv_aload_n hx hb dX10_childIndex_14 rfl (lv_at hl 2 rfl) ?_
        refine tw_get (ci := 10) (C := RX10) (T := TX10) (N := 8) hx hb hB cx_inX10 hown hK TH hm0 hk0 rfl ⟨by decide, rfl⟩ 2 (by decide) cw_127 (fun _ h9 => h9) dX10_childIndex_15 (fun hv => ?_)
        obtain ⟨xr19, hxr19, hmxr19, hkxr19⟩ : ∃ a : Nat, tw_fv E a0 2 = .ref a ∧ a ∈ L ∧ kp a = 111 := hv
        rw [hxr19]
        refine lv_iload hx hb dX10_childIndex_18 (lv_at hl 0 rfl) ?_
        refine tw_iald (k := 111) (t0 := 0) (n := 40) (lo := (-1)) (hi := 149) hx hb hK TH hmxr19 hkxr19 (by decide) rfl rfl (i := y5_4) (vp_in_iff.mpr ⟨by  omega, by  omega⟩) dX10_childIndex_20 (fun hxe20a hxe20b => ?_)
        generalize tw_iv E xr19 (Int32.toNatClampNeg y5_4) = xe20 at hxe20a hxe20b ⊢
        refine lv_iload_n hx hb dX10_childIndex_21 rfl (lv_at hl 3 rfl) ?_
        have hJ36 : ∀ (y36_3 : Int32) (H : Heap) (locs : List Loc) (ls : Array Slot), tw_H D cs kp L E A H → va_S A s.heap H locs → lv_has ls 5 [(4, .int y5_4), (3, .int y36_3), (0, .ref a0), (1, .int x1), (2, .int x2)] → W p l e { frames := 0, cells := 0, slots := 0, locals := 0 } s m [.ref a0, .int x1, .int x2].toArray below meth c H locs 0 0 (MQ below (tw_Q D cs kp0 L0 (fun v kq Lq Eq => (∃ x : Int32, v = some (.int x) ∧ (-1) ≤ x.toInt ∧ x.toInt ≤ 40) ∧ kp = kq ∧ L = Lq ∧ E = Eq) A) [.ref a0, .int x1, .int x2].toArray s 0 0 A) (F0 m 36 ls []) := by
          intro y36_3 H locs ls TH hS hl
          obtain ⟨zi21, ezi21⟩ : ∃ z : Int32, z = y5_4 + Int32.ofInt 1 := ⟨_, rfl⟩
          have hzi21 : zi21.toInt = y5_4.toInt + 1 := by rw [ezi21]; have : ((Int32.ofInt 1).toInt) = 1 := (by decide);  exact (ia_add (by omega) (by omega)).trans (by omega)
          refine lv_iinc (v := zi21) (lv' := [(4, .int zi21), (3, .int y36_3), (0, .ref a0), (1, .int x1), (2, .int x2)]) hx hb dX10_childIndex_36 hl (k := 0) rfl ezi21.symm (by decide) rfl (fun ls hl => ?_)
          refine lv_goto (tgt := 5) hx hb dX10_childIndex_39 (by decide) ?_
          exact ih5 zi21 y36_3 _ _ ls (by  omega) (by  omega) (by  omega)  TH hS (lv_sub hl [0, 1, 2, 3, 4] rfl)
        refine lv_icmp_ne (tgt := 36) hx hb dX10_childIndex_22 (by decide) (fun hc22 => ?_) (fun hc22 => ?_)
        · have hf23 : ¬ (xe20.toInt = x1.toInt) := fun q => hc22 ((fa_eq _ _).mpr (by  omega))
          exact hJ36 y5_3 _ _ ls   TH hS (lv_sub hl [0, 1, 2, 3, 4] rfl)
        · have hf24 : xe20.toInt = x1.toInt := by have z := (fa_eq _ _).mp hc22;  omega
          refine lv_iload_n hx hb dX10_childIndex_25 rfl (lv_at hl 1 rfl) ?_
          refine lv_iload_n hx hb dX10_childIndex_26 rfl (lv_at hl 4 rfl) ?_
          refine lv_icmp_ne (tgt := 33) hx hb dX10_childIndex_27 (by decide) (fun hc25 => ?_) (fun hc25 => ?_)
          · have hf26 : ¬ (y5_3.toInt = x2.toInt) := fun q => hc25 ((fa_eq _ _).mpr (by  omega))
            obtain ⟨zi27, ezi27⟩ : ∃ z : Int32, z = y5_3 + Int32.ofInt 1 := ⟨_, rfl⟩
            refine lv_iinc (v := zi27) (lv' := [(3, .int zi27), (4, .int y5_4), (0, .ref a0), (1, .int x1), (2, .int x2)]) hx hb dX10_childIndex_33 hl (k := 1) rfl ezi27.symm (by decide) rfl (fun ls hl => ?_)
            exact hJ36 zi27 _ _ ls   TH hS (lv_sub hl [1, 0, 2, 3, 4] rfl)
          · have hf28 : y5_3.toInt = x2.toInt := by have z := (fa_eq _ _).mp hc25;  omega
            refine lv_iload hx hb dX10_childIndex_30 (lv_at hl 0 rfl) ?_
            exact tw_iret hx hb hr hlocks TH hS hex ⟨⟨_, rfl, (show (-1) ≤ Int32.toInt y5_4 from by  omega), (show Int32.toInt y5_4 ≤ 40 from by  omega)⟩, rfl, rfl, rfl⟩ (Nat.le_of_ble_eq_true rfl) (Nat.le_of_ble_eq_true rfl) dX10_childIndex_32
  exact hJ5 41 0 0 _ _ ls (by have : ((0 : Int32).toInt) = 0 := (by decide); omega) (by have : ((0 : Int32).toInt) = 0 := (by decide); omega) (by have : ((0 : Int32).toInt) = 0 := (by decide); have : ((0 : Int32).toInt) = 0 := (by decide); omega)  TH hS (lv_sub hl [0, 1, 2, 3, 4] rfl)
set_option maxHeartbeats 4000000 in
set_option maxRecDepth 100000 in
theorem tX10_moveEntry (l : Launch) (D : va_G) (cs : Nat → ClassId) {kp : Nat → Nat} {L : List Nat} {E : Nat → va_E} (a0 : Nat) (x1 : Int32) (x2 : Int32) (hm0 : a0 ∈ L) (hk0 : kp a0 = 10) (hp1a : 0 ≤ x1.toInt) (hp1b : x1.toInt ≤ 39) (hp2a : 0 ≤ x2.toInt) (hp2b : x2.toInt ≤ 39) (sz : Nat) : Met l yX10_moveEntry (.code yX10_moveEntry cX10_moveEntry 3 none :: cx_big) { frames := 0, cells := 0, slots := 0, locals := 0 } (tw_P D cs kp L E [.ref a0, .int x1, .int x2] sz) (tw_Q D cs kp L (fun v kq Lq Eq => v = none ∧ kp = kq ∧ L = Lq ∧ ∀ b j : Nat, tw_fv Eq b j = tw_fv E b j) (va_A (va_pl L E) sz)) 0 0 (va_A (va_pl L E) sz) := by
  refine tw_ofW (by decide) (Nat.le_of_ble_eq_true rfl) ?_
  intro p e s m below meth c A ls hx hb hr hml hB hown hlocks hK hN hA TH hS hl
  have hown : s.vm.findClass "TreeMerge$Tree" = some m.cls := hown
  have hl : lv_has ls 3 [(0, .ref a0), (1, .int x1), (2, .int x2)] := hl
  obtain ⟨kp0, ekp⟩ : ∃ z, z = kp := ⟨_, rfl⟩
  obtain ⟨L0, eL⟩ : ∃ z, z = L := ⟨_, rfl⟩
  rw [show tw_Q D cs kp L = tw_Q D cs kp0 L0 by rw [ekp, eL]]
  have hex : ∀ a : Nat, a ∈ L0 → a ∈ L ∧ kp a = kp0 a := fun a h => ⟨by rw [← eL]; exact h, by rw [ekp]⟩
  have hkf : ∀ b j : Nat, tw_fv E b j = tw_fv E b j := fun _ _ => rfl
  refine lv_aload_n hx hb dX10_moveEntry_0 rfl (lv_at hl 0 rfl) ?_
  refine tw_get (ci := 10) (C := RX10) (T := TX10) (N := 8) hx hb hB cx_inX10 hown hK TH hm0 hk0 rfl ⟨by decide, rfl⟩ 1 (by decide) cw_122 (fun _ h9 => h9) dX10_moveEntry_1 (fun hv => ?_)
  obtain ⟨xr1, hxr1, hmxr1, hkxr1⟩ : ∃ a : Nat, tw_fv E a0 1 = .ref a ∧ a ∈ L ∧ kp a = 110 := hv
  rw [hxr1]
  refine lv_iload_n hx hb dX10_moveEntry_4 rfl (lv_at hl 2 rfl) ?_
  refine lv_aload_n hx hb dX10_moveEntry_5 rfl (lv_at hl 0 rfl) ?_
  refine tw_get (ci := 10) (C := RX10) (T := TX10) (N := 8) hx hb hB cx_inX10 hown hK TH hm0 hk0 rfl ⟨by decide, rfl⟩ 1 (by decide) cw_122 (fun _ h9 => h9) dX10_moveEntry_6 (fun hv => ?_)
  rw [hxr1]
  refine lv_iload_n hx hb dX10_moveEntry_9 rfl (lv_at hl 1 rfl) ?_
  refine tw_iald (k := 110) (t0 := 0) (n := 40) (lo := (-1)) (hi := 149) hx hb hK TH hmxr1 hkxr1 (by decide) rfl rfl (i := x1) (vp_in_iff.mpr ⟨by  omega, by  omega⟩) dX10_moveEntry_10 (fun hxe2a hxe2b => ?_)
  generalize tw_iv E xr1 (Int32.toNatClampNeg x1) = xe2 at hxe2a hxe2b ⊢
  refine tw_iast (k := 110) (n := 40) (lo := (-1)) (hi := 149) hx hb hK TH hS hmxr1 hkxr1 (by decide) rfl (i := x2) (x := xe2) (vp_in_iff.mpr ⟨by  omega, by  omega⟩) (by  omega) (by  omega) dX10_moveEntry_11 (fun H locs E3 TH hS hp2 hp3 hp4 => ?_)
  have hm4 : tw_fv E3 a0 1 = .ref xr1 := (hp2 a0 1).trans hxr1
  have hkf : ∀ b j : Nat, tw_fv E3 b j = tw_fv E b j := fun b j => (hp2 b j).trans (hkf b j)
  refine lv_aload_n hx hb dX10_moveEntry_12 rfl (lv_at hl 0 rfl) ?_
  refine tw_get (ci := 10) (C := RX10) (T := TX10) (N := 8) hx hb hB cx_inX10 hown hK TH hm0 hk0 rfl ⟨by decide, rfl⟩ 2 (by decide) cw_127 (fun _ h9 => h9) dX10_moveEntry_13 (fun hv => ?_)
  obtain ⟨xr5, hxr5, hmxr5, hkxr5⟩ : ∃ a : Nat, tw_fv E3 a0 2 = .ref a ∧ a ∈ L ∧ kp a = 111 := hv
  rw [hxr5]
  refine lv_iload_n hx hb dX10_moveEntry_16 rfl (lv_at hl 2 rfl) ?_
  refine lv_aload_n hx hb dX10_moveEntry_17 rfl (lv_at hl 0 rfl) ?_
  refine tw_get (ci := 10) (C := RX10) (T := TX10) (N := 8) hx hb hB cx_inX10 hown hK TH hm0 hk0 rfl ⟨by decide, rfl⟩ 2 (by decide) cw_127 (fun _ h9 => h9) dX10_moveEntry_18 (fun hv => ?_)
  rw [hxr5]
  refine lv_iload_n hx hb dX10_moveEntry_21 rfl (lv_at hl 1 rfl) ?_
  refine tw_iald (k := 111) (t0 := 0) (n := 40) (lo := (-1)) (hi := 149) hx hb hK TH hmxr5 hkxr5 (by decide) rfl rfl (i := x1) (vp_in_iff.mpr ⟨by  omega, by  omega⟩) dX10_moveEntry_22 (fun hxe6a hxe6b => ?_)
  generalize tw_iv E3 xr5 (Int32.toNatClampNeg x1) = xe6 at hxe6a hxe6b ⊢
  refine tw_iast (k := 111) (n := 40) (lo := (-1)) (hi := 149) hx hb hK TH hS hmxr5 hkxr5 (by decide) rfl (i := x2) (x := xe6) (vp_in_iff.mpr ⟨by  omega, by  omega⟩) (by  omega) (by  omega) dX10_moveEntry_23 (fun H locs E7 TH hS hp2 hp3 hp4 => ?_)
  have hm8 : tw_fv E7 a0 1 = .ref xr1 := (hp2 a0 1).trans hm4
  have hm9 : tw_fv E7 a0 2 = .ref xr5 := (hp2 a0 2).trans hxr5
  have hkf : ∀ b j : Nat, tw_fv E7 b j = tw_fv E b j := fun b j => (hp2 b j).trans (hkf b j)
  refine lv_aload_n hx hb dX10_moveEntry_24 rfl (lv_at hl 0 rfl) ?_
  refine tw_get (ci := 10) (C := RX10) (T := TX10) (N := 8) hx hb hB cx_inX10 hown hK TH hm0 hk0 rfl ⟨by decide, rfl⟩ 5 (by decide) cw_138 (fun _ h9 => h9) dX10_moveEntry_25 (fun hv => ?_)
  obtain ⟨xr10, hxr10, hmxr10, hkxr10⟩ : ∃ a : Nat, tw_fv E7 a0 5 = .ref a ∧ a ∈ L ∧ kp a = 114 := hv
  rw [hxr10]
  refine lv_iload_n hx hb dX10_moveEntry_28 rfl (lv_at hl 2 rfl) ?_
  refine lv_aload_n hx hb dX10_moveEntry_29 rfl (lv_at hl 0 rfl) ?_
  refine tw_get (ci := 10) (C := RX10) (T := TX10) (N := 8) hx hb hB cx_inX10 hown hK TH hm0 hk0 rfl ⟨by decide, rfl⟩ 5 (by decide) cw_138 (fun _ h9 => h9) dX10_moveEntry_30 (fun hv => ?_)
  rw [hxr10]
  refine lv_iload_n hx hb dX10_moveEntry_33 rfl (lv_at hl 1 rfl) ?_
  refine tw_iald (k := 114) (t0 := 0) (n := 40) (lo := 0) (hi := 9) hx hb hK TH hmxr10 hkxr10 (by decide) rfl rfl (i := x1) (vp_in_iff.mpr ⟨by  omega, by  omega⟩) dX10_moveEntry_34 (fun hxe11a hxe11b => ?_)
  generalize tw_iv E7 xr10 (Int32.toNatClampNeg x1) = xe11 at hxe11a hxe11b ⊢
  refine tw_iast (k := 114) (n := 40) (lo := 0) (hi := 9) hx hb hK TH hS hmxr10 hkxr10 (by decide) rfl (i := x2) (x := xe11) (vp_in_iff.mpr ⟨by  omega, by  omega⟩) (by  omega) (by  omega) dX10_moveEntry_35 (fun H locs E12 TH hS hp2 hp3 hp4 => ?_)
  have hm13 : tw_fv E12 a0 1 = .ref xr1 := (hp2 a0 1).trans hm8
  have hm14 : tw_fv E12 a0 2 = .ref xr5 := (hp2 a0 2).trans hm9
  have hm15 : tw_fv E12 a0 5 = .ref xr10 := (hp2 a0 5).trans hxr10
  have hkf : ∀ b j : Nat, tw_fv E12 b j = tw_fv E b j := fun b j => (hp2 b j).trans (hkf b j)
  refine lv_aload_n hx hb dX10_moveEntry_36 rfl (lv_at hl 0 rfl) ?_
  refine tw_get (ci := 10) (C := RX10) (T := TX10) (N := 8) hx hb hB cx_inX10 hown hK TH hm0 hk0 rfl ⟨by decide, rfl⟩ 6 (by decide) cw_144 (fun _ h9 => h9) dX10_moveEntry_37 (fun hv => ?_)
  obtain ⟨xr16, hxr16, hmxr16, hkxr16⟩ : ∃ a : Nat, tw_fv E12 a0 6 = .ref a ∧ a ∈ L ∧ kp a = 102 := hv
  rw [hxr16]
  refine lv_iload_n hx hb dX10_moveEntry_40 rfl (lv_at hl 2 rfl) ?_
  refine lv_aload_n hx hb dX10_moveEntry_41 rfl (lv_at hl 0 rfl) ?_
  refine tw_get (ci := 10) (C := RX10) (T := TX10) (N := 8) hx hb hB cx_inX10 hown hK TH hm0 hk0 rfl ⟨by decide, rfl⟩ 6 (by decide) cw_144 (fun _ h9 => h9) dX10_moveEntry_42 (fun hv => ?_)
  rw [hxr16]
  refine lv_iload_n hx hb dX10_moveEntry_45 rfl (lv_at hl 1 rfl) ?_
  refine tw_lald (k := 102) (n := 40) (lo := 0) (hi := 0) hx hb hK TH hmxr16 hkxr16 (by decide) rfl (i := x1) (vp_in_iff.mpr ⟨by  omega, by  omega⟩) dX10_moveEntry_46 (fun xl17 => ?_)
  refine tw_last (k := 102) (n := 40) (lo := 0) (hi := 0) hx hb hK TH hS hmxr16 hkxr16 (by decide) rfl (i := x2) (x := xl17) (vp_in_iff.mpr ⟨by  omega, by  omega⟩) dX10_moveEntry_47 (fun H locs E18 TH hS hp2 hp3 => ?_)
  have hm19 : tw_fv E18 a0 1 = .ref xr1 := (hp2 a0 1).trans hm13
  have hm20 : tw_fv E18 a0 2 = .ref xr5 := (hp2 a0 2).trans hm14
  have hm21 : tw_fv E18 a0 5 = .ref xr10 := (hp2 a0 5).trans hm15
  have hm22 : tw_fv E18 a0 6 = .ref xr16 := (hp2 a0 6).trans hxr16
  have hkf : ∀ b j : Nat, tw_fv E18 b j = tw_fv E b j := fun b j => (hp2 b j).trans (hkf b j)
  exact tw_vret hx hb hr hlocks TH hS hex ⟨rfl, rfl, rfl, hkf⟩ (Nat.le_of_ble_eq_true rfl) (Nat.le_of_ble_eq_true rfl) dX10_moveEntry_48
set_option maxHeartbeats 4000000 in
set_option maxRecDepth 100000 in
theorem tX10_add (l : Launch) (D : va_G) (cs : Nat → ClassId) {kp : Nat → Nat} {L : List Nat} {E : Nat → va_E} (a0 : Nat) (x1 : Int32) (x2 : Int32) (x3 : Int32) (x4 : Int64) (hm0 : a0 ∈ L) (hk0 : kp a0 = 10) (hp1a : (-1) ≤ x1.toInt) (hp1b : x1.toInt ≤ 149) (hp2a : (-1) ≤ x2.toInt) (hp2b : x2.toInt ≤ 149) (hp3a : 0 ≤ x3.toInt) (hp3b : x3.toInt ≤ 9) (sz : Nat) : Met l yX10_add (.code yX10_add cX10_add 6 none :: cx_big) { frames := 0, cells := 0, slots := 0, locals := 0 } (tw_P D cs kp L E [.ref a0, .int x1, .int x2, .int x3, .long x4] sz) (tw_Q D cs kp L (fun v _ _ _ => v = none) (va_A (va_pl L E) sz)) 0 0 (va_A (va_pl L E) sz) := by
  refine tw_ofW (by decide) (Nat.le_of_ble_eq_true rfl) ?_
  intro p e s m below meth c A ls hx hb hr hml hB hown hlocks hK hN hA TH hS hl
  have hown : s.vm.findClass "TreeMerge$Tree" = some m.cls := hown
  have hl : lv_has ls 6 [(0, .ref a0), (1, .int x1), (2, .int x2), (3, .int x3), (4, .long x4)] := hl
  obtain ⟨kp0, ekp⟩ : ∃ z, z = kp := ⟨_, rfl⟩
  obtain ⟨L0, eL⟩ : ∃ z, z = L := ⟨_, rfl⟩
  rw [show tw_Q D cs kp L = tw_Q D cs kp0 L0 by rw [ekp, eL]]
  have hex : ∀ a : Nat, a ∈ L0 → a ∈ L ∧ kp a = kp0 a := fun a h => ⟨by rw [← eL]; exact h, by rw [ekp]⟩
  refine lv_aload_n hx hb dX10_add_0 rfl (lv_at hl 0 rfl) ?_
  refine tw_get (ci := 10) (C := RX10) (T := TX10) (N := 8) hx hb hB cx_inX10 hown hK TH hm0 hk0 rfl ⟨by decide, rfl⟩ 0 (by decide) cw_116 (fun _ h9 => h9) dX10_add_1 (fun hv => ?_)
  obtain ⟨xi1, hxi1, hxi1a, hxi1b⟩ : ∃ x : Int32, tw_fv E a0 0 = .int x ∧ 0 ≤ x.toInt ∧ x.toInt ≤ 40 := hv
  rw [hxi1]
  refine lv_bipush (v := 40) hx hb dX10_add_4 (by decide) ?_
  refine lv_icmp_ge (tgt := 60) hx hb dX10_add_6 (by decide) (fun hc2 => ?_) (fun hc2 => ?_)
  · have hf3 : 40 ≤ xi1.toInt := by have z := (fa_le _ _).mp hc2; have : ((40 : Int32).toInt) = 40 := (by decide); omega
    exact tw_vret hx hb hr hlocks TH hS hex rfl (Nat.le_of_ble_eq_true rfl) (Nat.le_of_ble_eq_true rfl) dX10_add_60
  · have hf4 : ¬ (40 ≤ xi1.toInt) := fun q => hc2 ((fa_le _ _).mpr (by have : ((40 : Int32).toInt) = 40 := (by decide); omega))
    refine lv_aload_n hx hb dX10_add_9 rfl (lv_at hl 0 rfl) ?_
    refine tw_get (ci := 10) (C := RX10) (T := TX10) (N := 8) hx hb hB cx_inX10 hown hK TH hm0 hk0 rfl ⟨by decide, rfl⟩ 1 (by decide) cw_122 (fun _ h9 => h9) dX10_add_10 (fun hv => ?_)
    obtain ⟨xr5, hxr5, hmxr5, hkxr5⟩ : ∃ a : Nat, tw_fv E a0 1 = .ref a ∧ a ∈ L ∧ kp a = 110 := hv
    rw [hxr5]
    refine lv_aload_n hx hb dX10_add_13 rfl (lv_at hl 0 rfl) ?_
    refine tw_get (ci := 10) (C := RX10) (T := TX10) (N := 8) hx hb hB cx_inX10 hown hK TH hm0 hk0 rfl ⟨by decide, rfl⟩ 0 (by decide) cw_116 (fun _ h9 => h9) dX10_add_14 (fun hv => ?_)
    rw [hxi1]
    refine lv_iload_n hx hb dX10_add_17 rfl (lv_at hl 1 rfl) ?_
    refine tw_iast (k := 110) (n := 40) (lo := (-1)) (hi := 149) hx hb hK TH hS hmxr5 hkxr5 (by decide) rfl (i := xi1) (x := x1) (vp_in_iff.mpr ⟨by  omega, by  omega⟩) (by  omega) (by  omega) dX10_add_18 (fun H locs E6 TH hS hp2 hp3 hp4 => ?_)
    have hm7 : tw_fv E6 a0 0 = .int xi1 := (hp2 a0 0).trans hxi1
    have hm8 : tw_fv E6 a0 1 = .ref xr5 := (hp2 a0 1).trans hxr5
    refine lv_aload_n hx hb dX10_add_19 rfl (lv_at hl 0 rfl) ?_
    refine tw_get (ci := 10) (C := RX10) (T := TX10) (N := 8) hx hb hB cx_inX10 hown hK TH hm0 hk0 rfl ⟨by decide, rfl⟩ 2 (by decide) cw_127 (fun _ h9 => h9) dX10_add_20 (fun hv => ?_)
    obtain ⟨xr9, hxr9, hmxr9, hkxr9⟩ : ∃ a : Nat, tw_fv E6 a0 2 = .ref a ∧ a ∈ L ∧ kp a = 111 := hv
    rw [hxr9]
    refine lv_aload_n hx hb dX10_add_23 rfl (lv_at hl 0 rfl) ?_
    refine tw_get (ci := 10) (C := RX10) (T := TX10) (N := 8) hx hb hB cx_inX10 hown hK TH hm0 hk0 rfl ⟨by decide, rfl⟩ 0 (by decide) cw_116 (fun _ h9 => h9) dX10_add_24 (fun hv => ?_)
    rw [hm7]
    refine lv_iload_n hx hb dX10_add_27 rfl (lv_at hl 2 rfl) ?_
    refine tw_iast (k := 111) (n := 40) (lo := (-1)) (hi := 149) hx hb hK TH hS hmxr9 hkxr9 (by decide) rfl (i := xi1) (x := x2) (vp_in_iff.mpr ⟨by  omega, by  omega⟩) (by  omega) (by  omega) dX10_add_28 (fun H locs E10 TH hS hp2 hp3 hp4 => ?_)
    have hm11 : tw_fv E10 a0 0 = .int xi1 := (hp2 a0 0).trans hm7
    have hm12 : tw_fv E10 a0 1 = .ref xr5 := (hp2 a0 1).trans hm8
    have hm13 : tw_fv E10 a0 2 = .ref xr9 := (hp2 a0 2).trans hxr9
    refine lv_aload_n hx hb dX10_add_29 rfl (lv_at hl 0 rfl) ?_
    refine tw_get (ci := 10) (C := RX10) (T := TX10) (N := 8) hx hb hB cx_inX10 hown hK TH hm0 hk0 rfl ⟨by decide, rfl⟩ 5 (by decide) cw_138 (fun _ h9 => h9) dX10_add_30 (fun hv => ?_)
    obtain ⟨xr14, hxr14, hmxr14, hkxr14⟩ : ∃ a : Nat, tw_fv E10 a0 5 = .ref a ∧ a ∈ L ∧ kp a = 114 := hv
    rw [hxr14]
    refine lv_aload_n hx hb dX10_add_33 rfl (lv_at hl 0 rfl) ?_
    refine tw_get (ci := 10) (C := RX10) (T := TX10) (N := 8) hx hb hB cx_inX10 hown hK TH hm0 hk0 rfl ⟨by decide, rfl⟩ 0 (by decide) cw_116 (fun _ h9 => h9) dX10_add_34 (fun hv => ?_)
    rw [hm11]
    refine lv_iload_n hx hb dX10_add_37 rfl (lv_at hl 3 rfl) ?_
    refine tw_iast (k := 114) (n := 40) (lo := 0) (hi := 9) hx hb hK TH hS hmxr14 hkxr14 (by decide) rfl (i := xi1) (x := x3) (vp_in_iff.mpr ⟨by  omega, by  omega⟩) (by  omega) (by  omega) dX10_add_38 (fun H locs E15 TH hS hp2 hp3 hp4 => ?_)
    have hm16 : tw_fv E15 a0 0 = .int xi1 := (hp2 a0 0).trans hm11
    have hm17 : tw_fv E15 a0 1 = .ref xr5 := (hp2 a0 1).trans hm12
    have hm18 : tw_fv E15 a0 2 = .ref xr9 := (hp2 a0 2).trans hm13
    have hm19 : tw_fv E15 a0 5 = .ref xr14 := (hp2 a0 5).trans hxr14
    refine lv_aload_n hx hb dX10_add_39 rfl (lv_at hl 0 rfl) ?_
    refine tw_get (ci := 10) (C := RX10) (T := TX10) (N := 8) hx hb hB cx_inX10 hown hK TH hm0 hk0 rfl ⟨by decide, rfl⟩ 6 (by decide) cw_144 (fun _ h9 => h9) dX10_add_40 (fun hv => ?_)
    obtain ⟨xr20, hxr20, hmxr20, hkxr20⟩ : ∃ a : Nat, tw_fv E15 a0 6 = .ref a ∧ a ∈ L ∧ kp a = 102 := hv
    rw [hxr20]
    refine lv_aload_n hx hb dX10_add_43 rfl (lv_at hl 0 rfl) ?_
    refine tw_get (ci := 10) (C := RX10) (T := TX10) (N := 8) hx hb hB cx_inX10 hown hK TH hm0 hk0 rfl ⟨by decide, rfl⟩ 0 (by decide) cw_116 (fun _ h9 => h9) dX10_add_44 (fun hv => ?_)
    rw [hm16]
    refine lv_lload hx hb dX10_add_47 (lv_at hl 4 rfl) ?_
    refine tw_last (k := 102) (n := 40) (lo := 0) (hi := 0) hx hb hK TH hS hmxr20 hkxr20 (by decide) rfl (i := xi1) (x := x4) (vp_in_iff.mpr ⟨by  omega, by  omega⟩) dX10_add_49 (fun H locs E21 TH hS hp2 hp3 => ?_)
    have hm22 : tw_fv E21 a0 0 = .int xi1 := (hp2 a0 0).trans hm16
    have hm23 : tw_fv E21 a0 1 = .ref xr5 := (hp2 a0 1).trans hm17
    have hm24 : tw_fv E21 a0 2 = .ref xr9 := (hp2 a0 2).trans hm18
    have hm25 : tw_fv E21 a0 5 = .ref xr14 := (hp2 a0 5).trans hm19
    have hm26 : tw_fv E21 a0 6 = .ref xr20 := (hp2 a0 6).trans hxr20
    refine lv_aload_n hx hb dX10_add_50 rfl (lv_at hl 0 rfl) ?_
    refine lv_dup hx hb dX10_add_51 rfl ?_
    refine tw_get (ci := 10) (C := RX10) (T := TX10) (N := 8) hx hb hB cx_inX10 hown hK TH hm0 hk0 rfl ⟨by decide, rfl⟩ 0 (by decide) cw_116 (fun _ h9 => h9) dX10_add_52 (fun hv => ?_)
    rw [hm22]
    refine lv_iconst (v := 1) hx hb dX10_add_55 (by decide) ?_
    refine lv_iadd hx hb dX10_add_56 ?_
    refine lv_topi (fun zi27 ezi27 => ?_)
    have hzi27 : zi27.toInt = xi1.toInt + 1 := by rw [ezi27]; have : ((1 : Int32).toInt) = 1 := (by decide); exact (ia_add (by omega) (by omega)).trans (by omega)
    refine tw_put (ci := 10) (v := .int zi27) (ty := .int) (C := RX10) (T := TX10) (N := 8) hx hb hB cx_inX10 tyX10 tyX10_ok nmX10 hown hK TH hS hm0 hk0 rfl ⟨by decide, rfl⟩ 0 (by decide) cw_116 (fun _ h9 => h9) rfl (by decide +kernel) rfl rfl ⟨_, rfl, (show 0 ≤ Int32.toInt zi27 from by  omega), (show Int32.toInt zi27 ≤ 40 from by  omega)⟩ dX10_add_57 (fun H locs E28 TH hS hp1 hp2 hp3 => ?_)
    have hm29 : tw_fv E28 a0 1 = .ref xr5 := (hp2 a0 1 (Or.inr (by decide))).trans hm23
    have hm30 : tw_fv E28 a0 2 = .ref xr9 := (hp2 a0 2 (Or.inr (by decide))).trans hm24
    have hm31 : tw_fv E28 a0 5 = .ref xr14 := (hp2 a0 5 (Or.inr (by decide))).trans hm25
    have hm32 : tw_fv E28 a0 6 = .ref xr20 := (hp2 a0 6 (Or.inr (by decide))).trans hm26
    have hm33 := hp1
    exact tw_vret hx hb hr hlocks TH hS hex rfl (Nat.le_of_ble_eq_true rfl) (Nat.le_of_ble_eq_true rfl) dX10_add_60
set_option maxHeartbeats 4000000 in
set_option maxRecDepth 100000 in
theorem tX10_insert (l : Launch) (D : va_G) (cs : Nat → ClassId) {kp : Nat → Nat} {L : List Nat} {E : Nat → va_E} (a0 : Nat) (x1 : Int32) (x2 : Int32) (x3 : Int32) (x4 : Int32) (x5 : Int64) (hm0 : a0 ∈ L) (hk0 : kp a0 = 10) (hp2a : (-1) ≤ x2.toInt) (hp2b : x2.toInt ≤ 149) (hp3a : (-1) ≤ x3.toInt) (hp3b : x3.toInt ≤ 149) (hp4a : 0 ≤ x4.toInt) (hp4b : x4.toInt ≤ 9) (sz : Nat) : Met l yX10_insert (.code yX10_insert cX10_insert 8 none :: cx_big) { frames := 1, cells := 0, slots := 0, locals := 22 } (tw_P D cs kp L E [.ref a0, .int x1, .int x2, .int x3, .int x4, .long x5] sz) (tw_Q D cs kp L (fun v _ _ _ => v = none) (va_A (va_pl L E) sz)) 0 0 (va_A (va_pl L E) sz) := by
  refine tw_ofW (by decide) (Nat.le_of_ble_eq_true rfl) ?_
  intro p e s m below meth c A ls hx hb hr hml hB hown hlocks hK hN hA TH hS hl
  have hown : s.vm.findClass "TreeMerge$Tree" = some m.cls := hown
  have hl : lv_has ls 8 [(0, .ref a0), (1, .int x1), (2, .int x2), (3, .int x3), (4, .int x4), (5, .long x5)] := hl
  obtain ⟨kp0, ekp⟩ : ∃ z, z = kp := ⟨_, rfl⟩
  obtain ⟨L0, eL⟩ : ∃ z, z = L := ⟨_, rfl⟩
  rw [show tw_Q D cs kp L = tw_Q D cs kp0 L0 by rw [ekp, eL]]
  have hex : ∀ a : Nat, a ∈ L0 → a ∈ L ∧ kp a = kp0 a := fun a h => ⟨by rw [← eL]; exact h, by rw [ekp]⟩
  refine lv_iload_n hx hb dX10_insert_0 rfl (lv_at hl 1 rfl) ?_
  refine lv_if_lt (tgt := 21) hx hb dX10_insert_1 (by decide) (fun hc1 => ?_) (fun hc1 => ?_)
  · have hf2 : x1.toInt < 0 := by have z := (fa_lt _ _).mp hc1; have : ((0 : Int32).toInt) = 0 := (by decide); omega
    exact tw_vret hx hb hr hlocks TH hS hex rfl (Nat.le_of_ble_eq_true rfl) (Nat.le_of_ble_eq_true rfl) dX10_insert_21
  · have hf3 : ¬ (x1.toInt < 0) := fun q => hc1 ((fa_lt _ _).mpr (by have : ((0 : Int32).toInt) = 0 := (by decide); omega))
    refine lv_iload_n hx hb dX10_insert_4 rfl (lv_at hl 1 rfl) ?_
    refine lv_aload_n hx hb dX10_insert_5 rfl (lv_at hl 0 rfl) ?_
    refine tw_get (ci := 10) (C := RX10) (T := TX10) (N := 8) hx hb hB cx_inX10 hown hK TH hm0 hk0 rfl ⟨by decide, rfl⟩ 0 (by decide) cw_116 (fun _ h9 => h9) dX10_insert_6 (fun hv => ?_)
    obtain ⟨xi4, hxi4, hxi4a, hxi4b⟩ : ∃ x : Int32, tw_fv E a0 0 = .int x ∧ 0 ≤ x.toInt ∧ x.toInt ≤ 40 := hv
    rw [hxi4]
    refine lv_icmp_gt (tgt := 21) hx hb dX10_insert_9 (by decide) (fun hc5 => ?_) (fun hc5 => ?_)
    · have hf6 : xi4.toInt < x1.toInt := by have z := (fa_lt _ _).mp hc5;  omega
      exact tw_vret hx hb hr hlocks TH hS hex rfl (Nat.le_of_ble_eq_true rfl) (Nat.le_of_ble_eq_true rfl) dX10_insert_21
    · have hf7 : ¬ (xi4.toInt < x1.toInt) := fun q => hc5 ((fa_lt _ _).mpr (by  omega))
      refine lv_aload_n hx hb dX10_insert_12 rfl (lv_at hl 0 rfl) ?_
      refine tw_get (ci := 10) (C := RX10) (T := TX10) (N := 8) hx hb hB cx_inX10 hown hK TH hm0 hk0 rfl ⟨by decide, rfl⟩ 0 (by decide) cw_116 (fun _ h9 => h9) dX10_insert_13 (fun hv => ?_)
      rw [hxi4]
      refine lv_bipush (v := 40) hx hb dX10_insert_16 (by decide) ?_
      refine lv_icmp_lt (tgt := 22) hx hb dX10_insert_18 (by decide) (fun hc8 => ?_) (fun hc8 => ?_)
      · have hf9 : xi4.toInt < 40 := by have z := (fa_lt _ _).mp hc8; have : ((40 : Int32).toInt) = 40 := (by decide); omega
        refine lv_aload_n hx hb dX10_insert_22 rfl (lv_at hl 0 rfl) ?_
        refine tw_get (ci := 10) (C := RX10) (T := TX10) (N := 8) hx hb hB cx_inX10 hown hK TH hm0 hk0 rfl ⟨by decide, rfl⟩ 0 (by decide) cw_116 (fun _ h9 => h9) dX10_insert_23 (fun hv => ?_)
        rw [hxi4]
        refine lv_istore (lv' := [(7, .int xi4), (0, .ref a0), (1, .int x1), (2, .int x2), (3, .int x3), (4, .int x4), (5, .long x5)]) hx hb dX10_insert_26 hl (by decide) rfl (fun ls hl => ?_)
        have hJ28 : ∀ (n : Nat) (y28_7 : Int32) (w28_0_0 : Int32) (Eg28 : Nat → va_E) (H : Heap) (locs : List Loc) (ls : Array Slot), 0 ≤ y28_7.toInt → y28_7.toInt ≤ 39 → 0 ≤ w28_0_0.toInt → w28_0_0.toInt ≤ 39 → y28_7.toInt - 0 ≤ (n : Int) → tw_fv Eg28 a0 0 = .int w28_0_0 → tw_H D cs kp L Eg28 A H → va_S A s.heap H locs → lv_has ls 8 [(7, .int y28_7), (0, .ref a0), (1, .int x1), (2, .int x2), (3, .int x3), (4, .int x4), (5, .long x5)] → W p l e { frames := 1, cells := 0, slots := 0, locals := 22 } s m [.ref a0, .int x1, .int x2, .int x3, .int x4, .long x5].toArray below meth c H locs 0 0 (MQ below (tw_Q D cs kp0 L0 (fun v _ _ _ => v = none) A) [.ref a0, .int x1, .int x2, .int x3, .int x4, .long x5].toArray s 0 0 A) (F0 m 28 ls []) := by
          intro n28
          induction n28 with
          | zero =>
            intro y28_7 w28_0_0 Eg28 H locs ls hy28_7a hy28_7b hw28_0_0a hw28_0_0b hmeas hfm28_0 TH hS hl
            refine lv_iload hx hb dX10_insert_28 (lv_at hl 0 rfl) ?_
            refine lv_iload_n hx hb dX10_insert_30 rfl (lv_at hl 2 rfl) ?_
            refine lv_icmp_le (tgt := 50) hx hb dX10_insert_31 (by decide) (fun hc10 => ?_) (fun hc10 => ?_)
            · have hf11 : y28_7.toInt ≤ x1.toInt := by have z := (fa_le _ _).mp hc10;  omega
              refine lv_aload_n hx hb dX10_insert_50 rfl (lv_at hl 1 rfl) ?_
              refine tw_get (ci := 10) (C := RX10) (T := TX10) (N := 8) hx hb hB cx_inX10 hown hK TH hm0 hk0 rfl ⟨by decide, rfl⟩ 1 (by decide) cw_122 (fun _ h9 => h9) dX10_insert_51 (fun hv => ?_)
              obtain ⟨xr12, hxr12, hmxr12, hkxr12⟩ : ∃ a : Nat, tw_fv Eg28 a0 1 = .ref a ∧ a ∈ L ∧ kp a = 110 := hv
              rw [hxr12]
              refine lv_iload_n hx hb dX10_insert_54 rfl (lv_at hl 2 rfl) ?_
              refine lv_iload_n hx hb dX10_insert_55 rfl (lv_at hl 3 rfl) ?_
              refine tw_iast (k := 110) (n := 40) (lo := (-1)) (hi := 149) hx hb hK TH hS hmxr12 hkxr12 (by decide) rfl (i := x1) (x := x2) (vp_in_iff.mpr ⟨by  omega, by  omega⟩) (by  omega) (by  omega) dX10_insert_56 (fun H locs E13 TH hS hp2 hp3 hp4 => ?_)
              have hm14 : tw_fv E13 a0 0 = .int w28_0_0 := (hp2 a0 0).trans hfm28_0
              have hm15 : tw_fv E13 a0 1 = .ref xr12 := (hp2 a0 1).trans hxr12
              refine lv_aload_n hx hb dX10_insert_57 rfl (lv_at hl 1 rfl) ?_
              refine tw_get (ci := 10) (C := RX10) (T := TX10) (N := 8) hx hb hB cx_inX10 hown hK TH hm0 hk0 rfl ⟨by decide, rfl⟩ 2 (by decide) cw_127 (fun _ h9 => h9) dX10_insert_58 (fun hv => ?_)
              obtain ⟨xr16, hxr16, hmxr16, hkxr16⟩ : ∃ a : Nat, tw_fv E13 a0 2 = .ref a ∧ a ∈ L ∧ kp a = 111 := hv
              rw [hxr16]
              refine lv_iload_n hx hb dX10_insert_61 rfl (lv_at hl 2 rfl) ?_
              refine lv_iload_n hx hb dX10_insert_62 rfl (lv_at hl 4 rfl) ?_
              refine tw_iast (k := 111) (n := 40) (lo := (-1)) (hi := 149) hx hb hK TH hS hmxr16 hkxr16 (by decide) rfl (i := x1) (x := x3) (vp_in_iff.mpr ⟨by  omega, by  omega⟩) (by  omega) (by  omega) dX10_insert_63 (fun H locs E17 TH hS hp2 hp3 hp4 => ?_)
              have hm18 : tw_fv E17 a0 0 = .int w28_0_0 := (hp2 a0 0).trans hm14
              have hm19 : tw_fv E17 a0 1 = .ref xr12 := (hp2 a0 1).trans hm15
              have hm20 : tw_fv E17 a0 2 = .ref xr16 := (hp2 a0 2).trans hxr16
              refine lv_aload_n hx hb dX10_insert_64 rfl (lv_at hl 1 rfl) ?_
              refine tw_get (ci := 10) (C := RX10) (T := TX10) (N := 8) hx hb hB cx_inX10 hown hK TH hm0 hk0 rfl ⟨by decide, rfl⟩ 5 (by decide) cw_138 (fun _ h9 => h9) dX10_insert_65 (fun hv => ?_)
              obtain ⟨xr21, hxr21, hmxr21, hkxr21⟩ : ∃ a : Nat, tw_fv E17 a0 5 = .ref a ∧ a ∈ L ∧ kp a = 114 := hv
              rw [hxr21]
              refine lv_iload_n hx hb dX10_insert_68 rfl (lv_at hl 2 rfl) ?_
              refine lv_iload hx hb dX10_insert_69 (lv_at hl 5 rfl) ?_
              refine tw_iast (k := 114) (n := 40) (lo := 0) (hi := 9) hx hb hK TH hS hmxr21 hkxr21 (by decide) rfl (i := x1) (x := x4) (vp_in_iff.mpr ⟨by  omega, by  omega⟩) (by  omega) (by  omega) dX10_insert_71 (fun H locs E22 TH hS hp2 hp3 hp4 => ?_)
              have hm23 : tw_fv E22 a0 0 = .int w28_0_0 := (hp2 a0 0).trans hm18
              have hm24 : tw_fv E22 a0 1 = .ref xr12 := (hp2 a0 1).trans hm19
              have hm25 : tw_fv E22 a0 2 = .ref xr16 := (hp2 a0 2).trans hm20
              have hm26 : tw_fv E22 a0 5 = .ref xr21 := (hp2 a0 5).trans hxr21
              refine lv_aload_n hx hb dX10_insert_72 rfl (lv_at hl 1 rfl) ?_
              refine tw_get (ci := 10) (C := RX10) (T := TX10) (N := 8) hx hb hB cx_inX10 hown hK TH hm0 hk0 rfl ⟨by decide, rfl⟩ 6 (by decide) cw_144 (fun _ h9 => h9) dX10_insert_73 (fun hv => ?_)
              obtain ⟨xr27, hxr27, hmxr27, hkxr27⟩ : ∃ a : Nat, tw_fv E22 a0 6 = .ref a ∧ a ∈ L ∧ kp a = 102 := hv
              rw [hxr27]
              refine lv_iload_n hx hb dX10_insert_76 rfl (lv_at hl 2 rfl) ?_
              refine lv_lload hx hb dX10_insert_77 (lv_at hl 6 rfl) ?_
              refine tw_last (k := 102) (n := 40) (lo := 0) (hi := 0) hx hb hK TH hS hmxr27 hkxr27 (by decide) rfl (i := x1) (x := x5) (vp_in_iff.mpr ⟨by  omega, by  omega⟩) dX10_insert_79 (fun H locs E28 TH hS hp2 hp3 => ?_)
              have hm29 : tw_fv E28 a0 0 = .int w28_0_0 := (hp2 a0 0).trans hm23
              have hm30 : tw_fv E28 a0 1 = .ref xr12 := (hp2 a0 1).trans hm24
              have hm31 : tw_fv E28 a0 2 = .ref xr16 := (hp2 a0 2).trans hm25
              have hm32 : tw_fv E28 a0 5 = .ref xr21 := (hp2 a0 5).trans hm26
              have hm33 : tw_fv E28 a0 6 = .ref xr27 := (hp2 a0 6).trans hxr27
              refine lv_aload_n hx hb dX10_insert_80 rfl (lv_at hl 1 rfl) ?_
              refine lv_dup hx hb dX10_insert_81 rfl ?_
              refine tw_get (ci := 10) (C := RX10) (T := TX10) (N := 8) hx hb hB cx_inX10 hown hK TH hm0 hk0 rfl ⟨by decide, rfl⟩ 0 (by decide) cw_116 (fun _ h9 => h9) dX10_insert_82 (fun hv => ?_)
              rw [hm29]
              refine lv_iconst (v := 1) hx hb dX10_insert_85 (by decide) ?_
              refine lv_iadd hx hb dX10_insert_86 ?_
              refine lv_topi (fun zi34 ezi34 => ?_)
              have hzi34 : zi34.toInt = w28_0_0.toInt + 1 := by rw [ezi34]; have : ((1 : Int32).toInt) = 1 := (by decide); exact (ia_add (by omega) (by omega)).trans (by omega)
              refine tw_put (ci := 10) (v := .int zi34) (ty := .int) (C := RX10) (T := TX10) (N := 8) hx hb hB cx_inX10 tyX10 tyX10_ok nmX10 hown hK TH hS hm0 hk0 rfl ⟨by decide, rfl⟩ 0 (by decide) cw_116 (fun _ h9 => h9) rfl (by decide +kernel) rfl rfl ⟨_, rfl, (show 0 ≤ Int32.toInt zi34 from by  omega), (show Int32.toInt zi34 ≤ 40 from by  omega)⟩ dX10_insert_87 (fun H locs E35 TH hS hp1 hp2 hp3 => ?_)
              have hm36 : tw_fv E35 a0 1 = .ref xr12 := (hp2 a0 1 (Or.inr (by decide))).trans hm30
              have hm37 : tw_fv E35 a0 2 = .ref xr16 := (hp2 a0 2 (Or.inr (by decide))).trans hm31
              have hm38 : tw_fv E35 a0 5 = .ref xr21 := (hp2 a0 5 (Or.inr (by decide))).trans hm32
              have hm39 : tw_fv E35 a0 6 = .ref xr27 := (hp2 a0 6 (Or.inr (by decide))).trans hm33
              have hm40 := hp1
              exact tw_vret hx hb hr hlocks TH hS hex rfl (Nat.le_of_ble_eq_true rfl) (Nat.le_of_ble_eq_true rfl) dX10_insert_90
            · have hf41 : ¬ (y28_7.toInt ≤ x1.toInt) := fun q => hc10 ((fa_le _ _).mpr (by  omega))
              refine lv_aload_n hx hb dX10_insert_34 rfl (lv_at hl 1 rfl) ?_
              refine lv_iload hx hb dX10_insert_35 (lv_at hl 0 rfl) ?_
              refine lv_iconst (v := 1) hx hb dX10_insert_37 (by decide) ?_
              refine lv_isub hx hb dX10_insert_38 ?_
              refine lv_topi (fun zi42 ezi42 => ?_)
              have hzi42 : zi42.toInt = y28_7.toInt - 1 := by rw [ezi42]; have : ((1 : Int32).toInt) = 1 := (by decide); exact (ia_sub (by omega) (by omega)).trans (by omega)
              refine lv_iload hx hb dX10_insert_39 (lv_at hl 0 rfl) ?_
              refine tw_Vc (o := a0) (ci := 10) (n := 2) (post := (fun v kq Lq Eq => v = none ∧ kp = kq ∧ L = Lq ∧ ∀ b j : Nat, tw_fv Eq b j = tw_fv Eg28 b j)) (As := [.int zi42, .int y28_7]) (rest := []) ⟨hx, hb, hml, hown, hB⟩ (fun sz => tX10_moveEntry l D cs a0 zi42 y28_7 hm0 hk0 (by  omega) (by  omega) (by  omega) (by  omega) sz) cg_10_38_X10_moveEntry rfl rfl (by decide +kernel) ⟨Nat.le_of_ble_eq_true rfl, Nat.le_of_ble_eq_true rfl⟩ hK hN TH hS hA rfl hm0 hk0 (by decide) rfl hl.1 rfl (Nat.le_of_ble_eq_true rfl) dX10_insert_41 ⟨Nat.le_of_ble_eq_true rfl, Nat.le_of_ble_eq_true rfl⟩ (fun v43 kp43 L43 E43 H locs hq43 hx43 TH hS => ?_)
              obtain ⟨rfl, rfl, rfl, hkc43⟩ := hq43
              refine W.eq (g2 := F0 m 44 ls []) rfl ?_
              have hm45 : tw_fv E43 a0 0 = .int w28_0_0 := (hkc43 a0 0).trans hfm28_0
              obtain ⟨zi46, ezi46⟩ : ∃ z : Int32, z = y28_7 + Int32.ofInt (-1) := ⟨_, rfl⟩
              have hzi46 : zi46.toInt = y28_7.toInt + (-1) := by rw [ezi46]; have : ((Int32.ofInt (-1)).toInt) = (-1) := (by decide);  exact (ia_add (by omega) (by omega)).trans (by omega)
              refine lv_iinc (v := zi46) (lv' := [(7, .int zi46), (0, .ref a0), (1, .int x1), (2, .int x2), (3, .int x3), (4, .int x4), (5, .long x5)]) hx hb dX10_insert_44 hl (k := 0) rfl ezi46.symm (by decide) rfl (fun ls hl => ?_)
              refine lv_goto (tgt := 28) hx hb dX10_insert_47 (by decide) ?_
              exfalso; omega
          | succ n28 ih28 =>
            intro y28_7 w28_0_0 Eg28 H locs ls hy28_7a hy28_7b hw28_0_0a hw28_0_0b hmeas hfm28_0 TH hS hl
            refine lv_iload hx hb dX10_insert_28 (lv_at hl 0 rfl) ?_
            refine lv_iload_n hx hb dX10_insert_30 rfl (lv_at hl 2 rfl) ?_
            refine lv_icmp_le (tgt := 50) hx hb dX10_insert_31 (by decide) (fun hc47 => ?_) (fun hc47 => ?_)
            · have hf48 : y28_7.toInt ≤ x1.toInt := by have z := (fa_le _ _).mp hc47;  omega
              refine lv_aload_n hx hb dX10_insert_50 rfl (lv_at hl 1 rfl) ?_
              refine tw_get (ci := 10) (C := RX10) (T := TX10) (N := 8) hx hb hB cx_inX10 hown hK TH hm0 hk0 rfl ⟨by decide, rfl⟩ 1 (by decide) cw_122 (fun _ h9 => h9) dX10_insert_51 (fun hv => ?_)
              obtain ⟨xr49, hxr49, hmxr49, hkxr49⟩ : ∃ a : Nat, tw_fv Eg28 a0 1 = .ref a ∧ a ∈ L ∧ kp a = 110 := hv
              rw [hxr49]
              refine lv_iload_n hx hb dX10_insert_54 rfl (lv_at hl 2 rfl) ?_
              refine lv_iload_n hx hb dX10_insert_55 rfl (lv_at hl 3 rfl) ?_
              refine tw_iast (k := 110) (n := 40) (lo := (-1)) (hi := 149) hx hb hK TH hS hmxr49 hkxr49 (by decide) rfl (i := x1) (x := x2) (vp_in_iff.mpr ⟨by  omega, by  omega⟩) (by  omega) (by  omega) dX10_insert_56 (fun H locs E50 TH hS hp2 hp3 hp4 => ?_)
              have hm51 : tw_fv E50 a0 0 = .int w28_0_0 := (hp2 a0 0).trans hfm28_0
              have hm52 : tw_fv E50 a0 1 = .ref xr49 := (hp2 a0 1).trans hxr49
              refine lv_aload_n hx hb dX10_insert_57 rfl (lv_at hl 1 rfl) ?_
              refine tw_get (ci := 10) (C := RX10) (T := TX10) (N := 8) hx hb hB cx_inX10 hown hK TH hm0 hk0 rfl ⟨by decide, rfl⟩ 2 (by decide) cw_127 (fun _ h9 => h9) dX10_insert_58 (fun hv => ?_)
              obtain ⟨xr53, hxr53, hmxr53, hkxr53⟩ : ∃ a : Nat, tw_fv E50 a0 2 = .ref a ∧ a ∈ L ∧ kp a = 111 := hv
              rw [hxr53]
              refine lv_iload_n hx hb dX10_insert_61 rfl (lv_at hl 2 rfl) ?_
              refine lv_iload_n hx hb dX10_insert_62 rfl (lv_at hl 4 rfl) ?_
              refine tw_iast (k := 111) (n := 40) (lo := (-1)) (hi := 149) hx hb hK TH hS hmxr53 hkxr53 (by decide) rfl (i := x1) (x := x3) (vp_in_iff.mpr ⟨by  omega, by  omega⟩) (by  omega) (by  omega) dX10_insert_63 (fun H locs E54 TH hS hp2 hp3 hp4 => ?_)
              have hm55 : tw_fv E54 a0 0 = .int w28_0_0 := (hp2 a0 0).trans hm51
              have hm56 : tw_fv E54 a0 1 = .ref xr49 := (hp2 a0 1).trans hm52
              have hm57 : tw_fv E54 a0 2 = .ref xr53 := (hp2 a0 2).trans hxr53
              refine lv_aload_n hx hb dX10_insert_64 rfl (lv_at hl 1 rfl) ?_
              refine tw_get (ci := 10) (C := RX10) (T := TX10) (N := 8) hx hb hB cx_inX10 hown hK TH hm0 hk0 rfl ⟨by decide, rfl⟩ 5 (by decide) cw_138 (fun _ h9 => h9) dX10_insert_65 (fun hv => ?_)
              obtain ⟨xr58, hxr58, hmxr58, hkxr58⟩ : ∃ a : Nat, tw_fv E54 a0 5 = .ref a ∧ a ∈ L ∧ kp a = 114 := hv
              rw [hxr58]
              refine lv_iload_n hx hb dX10_insert_68 rfl (lv_at hl 2 rfl) ?_
              refine lv_iload hx hb dX10_insert_69 (lv_at hl 5 rfl) ?_
              refine tw_iast (k := 114) (n := 40) (lo := 0) (hi := 9) hx hb hK TH hS hmxr58 hkxr58 (by decide) rfl (i := x1) (x := x4) (vp_in_iff.mpr ⟨by  omega, by  omega⟩) (by  omega) (by  omega) dX10_insert_71 (fun H locs E59 TH hS hp2 hp3 hp4 => ?_)
              have hm60 : tw_fv E59 a0 0 = .int w28_0_0 := (hp2 a0 0).trans hm55
              have hm61 : tw_fv E59 a0 1 = .ref xr49 := (hp2 a0 1).trans hm56
              have hm62 : tw_fv E59 a0 2 = .ref xr53 := (hp2 a0 2).trans hm57
              have hm63 : tw_fv E59 a0 5 = .ref xr58 := (hp2 a0 5).trans hxr58
              refine lv_aload_n hx hb dX10_insert_72 rfl (lv_at hl 1 rfl) ?_
              refine tw_get (ci := 10) (C := RX10) (T := TX10) (N := 8) hx hb hB cx_inX10 hown hK TH hm0 hk0 rfl ⟨by decide, rfl⟩ 6 (by decide) cw_144 (fun _ h9 => h9) dX10_insert_73 (fun hv => ?_)
              obtain ⟨xr64, hxr64, hmxr64, hkxr64⟩ : ∃ a : Nat, tw_fv E59 a0 6 = .ref a ∧ a ∈ L ∧ kp a = 102 := hv
              rw [hxr64]
              refine lv_iload_n hx hb dX10_insert_76 rfl (lv_at hl 2 rfl) ?_
              refine lv_lload hx hb dX10_insert_77 (lv_at hl 6 rfl) ?_
              refine tw_last (k := 102) (n := 40) (lo := 0) (hi := 0) hx hb hK TH hS hmxr64 hkxr64 (by decide) rfl (i := x1) (x := x5) (vp_in_iff.mpr ⟨by  omega, by  omega⟩) dX10_insert_79 (fun H locs E65 TH hS hp2 hp3 => ?_)
              have hm66 : tw_fv E65 a0 0 = .int w28_0_0 := (hp2 a0 0).trans hm60
              have hm67 : tw_fv E65 a0 1 = .ref xr49 := (hp2 a0 1).trans hm61
              have hm68 : tw_fv E65 a0 2 = .ref xr53 := (hp2 a0 2).trans hm62
              have hm69 : tw_fv E65 a0 5 = .ref xr58 := (hp2 a0 5).trans hm63
              have hm70 : tw_fv E65 a0 6 = .ref xr64 := (hp2 a0 6).trans hxr64
              refine lv_aload_n hx hb dX10_insert_80 rfl (lv_at hl 1 rfl) ?_
              refine lv_dup hx hb dX10_insert_81 rfl ?_
              refine tw_get (ci := 10) (C := RX10) (T := TX10) (N := 8) hx hb hB cx_inX10 hown hK TH hm0 hk0 rfl ⟨by decide, rfl⟩ 0 (by decide) cw_116 (fun _ h9 => h9) dX10_insert_82 (fun hv => ?_)
              rw [hm66]
              refine lv_iconst (v := 1) hx hb dX10_insert_85 (by decide) ?_
              refine lv_iadd hx hb dX10_insert_86 ?_
              refine lv_topi (fun zi71 ezi71 => ?_)
              have hzi71 : zi71.toInt = w28_0_0.toInt + 1 := by rw [ezi71]; have : ((1 : Int32).toInt) = 1 := (by decide); exact (ia_add (by omega) (by omega)).trans (by omega)
              refine tw_put (ci := 10) (v := .int zi71) (ty := .int) (C := RX10) (T := TX10) (N := 8) hx hb hB cx_inX10 tyX10 tyX10_ok nmX10 hown hK TH hS hm0 hk0 rfl ⟨by decide, rfl⟩ 0 (by decide) cw_116 (fun _ h9 => h9) rfl (by decide +kernel) rfl rfl ⟨_, rfl, (show 0 ≤ Int32.toInt zi71 from by  omega), (show Int32.toInt zi71 ≤ 40 from by  omega)⟩ dX10_insert_87 (fun H locs E72 TH hS hp1 hp2 hp3 => ?_)
              have hm73 : tw_fv E72 a0 1 = .ref xr49 := (hp2 a0 1 (Or.inr (by decide))).trans hm67
              have hm74 : tw_fv E72 a0 2 = .ref xr53 := (hp2 a0 2 (Or.inr (by decide))).trans hm68
              have hm75 : tw_fv E72 a0 5 = .ref xr58 := (hp2 a0 5 (Or.inr (by decide))).trans hm69
              have hm76 : tw_fv E72 a0 6 = .ref xr64 := (hp2 a0 6 (Or.inr (by decide))).trans hm70
              have hm77 := hp1
              exact tw_vret hx hb hr hlocks TH hS hex rfl (Nat.le_of_ble_eq_true rfl) (Nat.le_of_ble_eq_true rfl) dX10_insert_90
            · have hf78 : ¬ (y28_7.toInt ≤ x1.toInt) := fun q => hc47 ((fa_le _ _).mpr (by  omega))
              refine lv_aload_n hx hb dX10_insert_34 rfl (lv_at hl 1 rfl) ?_
              refine lv_iload hx hb dX10_insert_35 (lv_at hl 0 rfl) ?_
              refine lv_iconst (v := 1) hx hb dX10_insert_37 (by decide) ?_
              refine lv_isub hx hb dX10_insert_38 ?_
              refine lv_topi (fun zi79 ezi79 => ?_)
              have hzi79 : zi79.toInt = y28_7.toInt - 1 := by rw [ezi79]; have : ((1 : Int32).toInt) = 1 := (by decide); exact (ia_sub (by omega) (by omega)).trans (by omega)
              refine lv_iload hx hb dX10_insert_39 (lv_at hl 0 rfl) ?_
              refine tw_Vc (o := a0) (ci := 10) (n := 2) (post := (fun v kq Lq Eq => v = none ∧ kp = kq ∧ L = Lq ∧ ∀ b j : Nat, tw_fv Eq b j = tw_fv Eg28 b j)) (As := [.int zi79, .int y28_7]) (rest := []) ⟨hx, hb, hml, hown, hB⟩ (fun sz => tX10_moveEntry l D cs a0 zi79 y28_7 hm0 hk0 (by  omega) (by  omega) (by  omega) (by  omega) sz) cg_10_38_X10_moveEntry rfl rfl (by decide +kernel) ⟨Nat.le_of_ble_eq_true rfl, Nat.le_of_ble_eq_true rfl⟩ hK hN TH hS hA rfl hm0 hk0 (by decide) rfl hl.1 rfl (Nat.le_of_ble_eq_true rfl) dX10_insert_41 ⟨Nat.le_of_ble_eq_true rfl, Nat.le_of_ble_eq_true rfl⟩ (fun v80 kp80 L80 E80 H locs hq80 hx80 TH hS => ?_)
              obtain ⟨rfl, rfl, rfl, hkc80⟩ := hq80
              refine W.eq (g2 := F0 m 44 ls []) rfl ?_
              have hm82 : tw_fv E80 a0 0 = .int w28_0_0 := (hkc80 a0 0).trans hfm28_0
              obtain ⟨zi83, ezi83⟩ : ∃ z : Int32, z = y28_7 + Int32.ofInt (-1) := ⟨_, rfl⟩
              have hzi83 : zi83.toInt = y28_7.toInt + (-1) := by rw [ezi83]; have : ((Int32.ofInt (-1)).toInt) = (-1) := (by decide);  exact (ia_add (by omega) (by omega)).trans (by omega)
              refine lv_iinc (v := zi83) (lv' := [(7, .int zi83), (0, .ref a0), (1, .int x1), (2, .int x2), (3, .int x3), (4, .int x4), (5, .long x5)]) hx hb dX10_insert_44 hl (k := 0) rfl ezi83.symm (by decide) rfl (fun ls hl => ?_)
              refine lv_goto (tgt := 28) hx hb dX10_insert_47 (by decide) ?_
              exact ih28 zi83 w28_0_0 _ _ _ ls (by  omega) (by  omega) (by  omega) (by  omega) (by  omega) hm82 TH hS (lv_sub hl [0, 1, 2, 3, 4, 5, 6] rfl)
        exact hJ28 40 xi4 xi4 _ _ _ ls (by  omega) (by  omega) (by  omega) (by  omega) (by  omega) hxi4 TH hS (lv_sub hl [0, 1, 2, 3, 4, 5, 6] rfl)
      · have hf84 : ¬ (xi4.toInt < 40) := fun q => hc8 ((fa_lt _ _).mpr (by have : ((40 : Int32).toInt) = 40 := (by decide); omega))
        exact tw_vret hx hb hr hlocks TH hS hex rfl (Nat.le_of_ble_eq_true rfl) (Nat.le_of_ble_eq_true rfl) dX10_insert_21
set_option maxHeartbeats 4000000 in
set_option maxRecDepth 100000 in
theorem tX10_cut (l : Launch) (D : va_G) (cs : Nat → ClassId) {kp : Nat → Nat} {L : List Nat} {E : Nat → va_E} (a0 : Nat) (x1 : Int32) (hm0 : a0 ∈ L) (hk0 : kp a0 = 10) (sz : Nat) : Met l yX10_cut (.code yX10_cut cX10_cut 3 none :: cx_big) { frames := 1, cells := 0, slots := 0, locals := 22 } (tw_P D cs kp L E [.ref a0, .int x1] sz) (tw_Q D cs kp L (fun v _ _ _ => v = none) (va_A (va_pl L E) sz)) 0 0 (va_A (va_pl L E) sz) := by
  refine tw_ofW (by decide) (Nat.le_of_ble_eq_true rfl) ?_
  intro p e s m below meth c A ls hx hb hr hml hB hown hlocks hK hN hA TH hS hl
  have hown : s.vm.findClass "TreeMerge$Tree" = some m.cls := hown
  have hl : lv_has ls 3 [(0, .ref a0), (1, .int x1)] := hl
  obtain ⟨kp0, ekp⟩ : ∃ z, z = kp := ⟨_, rfl⟩
  obtain ⟨L0, eL⟩ : ∃ z, z = L := ⟨_, rfl⟩
  rw [show tw_Q D cs kp L = tw_Q D cs kp0 L0 by rw [ekp, eL]]
  have hex : ∀ a : Nat, a ∈ L0 → a ∈ L ∧ kp a = kp0 a := fun a h => ⟨by rw [← eL]; exact h, by rw [ekp]⟩
  refine lv_iload_n hx hb dX10_cut_0 rfl (lv_at hl 1 rfl) ?_
  refine lv_if_lt (tgt := 12) hx hb dX10_cut_1 (by decide) (fun hc1 => ?_) (fun hc1 => ?_)
  · have hf2 : x1.toInt < 0 := by have z := (fa_lt _ _).mp hc1; have : ((0 : Int32).toInt) = 0 := (by decide); omega
    exact tw_vret hx hb hr hlocks TH hS hex rfl (Nat.le_of_ble_eq_true rfl) (Nat.le_of_ble_eq_true rfl) dX10_cut_12
  · have hf3 : ¬ (x1.toInt < 0) := fun q => hc1 ((fa_lt _ _).mpr (by have : ((0 : Int32).toInt) = 0 := (by decide); omega))
    refine lv_iload_n hx hb dX10_cut_4 rfl (lv_at hl 1 rfl) ?_
    refine lv_aload_n hx hb dX10_cut_5 rfl (lv_at hl 0 rfl) ?_
    refine tw_get (ci := 10) (C := RX10) (T := TX10) (N := 8) hx hb hB cx_inX10 hown hK TH hm0 hk0 rfl ⟨by decide, rfl⟩ 0 (by decide) cw_116 (fun _ h9 => h9) dX10_cut_6 (fun hv => ?_)
    obtain ⟨xi4, hxi4, hxi4a, hxi4b⟩ : ∃ x : Int32, tw_fv E a0 0 = .int x ∧ 0 ≤ x.toInt ∧ x.toInt ≤ 40 := hv
    rw [hxi4]
    refine lv_icmp_lt (tgt := 13) hx hb dX10_cut_9 (by decide) (fun hc5 => ?_) (fun hc5 => ?_)
    · have hf6 : x1.toInt < xi4.toInt := by have z := (fa_lt _ _).mp hc5;  omega
      refine lv_iload_n hx hb dX10_cut_13 rfl (lv_at hl 1 rfl) ?_
      refine lv_iconst (v := 1) hx hb dX10_cut_14 (by decide) ?_
      refine lv_iadd hx hb dX10_cut_15 ?_
      refine lv_topi (fun zi7 ezi7 => ?_)
      have hzi7 : zi7.toInt = x1.toInt + 1 := by rw [ezi7]; have : ((1 : Int32).toInt) = 1 := (by decide); exact (ia_add (by omega) (by omega)).trans (by omega)
      refine lv_istore_n (lv' := [(2, .int zi7), (0, .ref a0), (1, .int x1)]) hx hb dX10_cut_16 rfl hl (by decide) rfl (fun ls hl => ?_)
      have hJ17 : ∀ (n : Nat) (y17_2 : Int32) (w17_0_0 : Int32) (Eg17 : Nat → va_E) (H : Heap) (locs : List Loc) (ls : Array Slot), 1 ≤ y17_2.toInt → y17_2.toInt ≤ 40 → 1 ≤ w17_0_0.toInt → w17_0_0.toInt ≤ 40 → 40 - y17_2.toInt ≤ (n : Int) → tw_fv Eg17 a0 0 = .int w17_0_0 → tw_H D cs kp L Eg17 A H → va_S A s.heap H locs → lv_has ls 3 [(2, .int y17_2), (0, .ref a0), (1, .int x1)] → W p l e { frames := 1, cells := 0, slots := 0, locals := 22 } s m [.ref a0, .int x1].toArray below meth c H locs 0 0 (MQ below (tw_Q D cs kp0 L0 (fun v _ _ _ => v = none) A) [.ref a0, .int x1].toArray s 0 0 A) (F0 m 17 ls []) := by
        intro n17
        induction n17 with
        | zero =>
          intro y17_2 w17_0_0 Eg17 H locs ls hy17_2a hy17_2b hw17_0_0a hw17_0_0b hmeas hfm17_0 TH hS hl
          refine lv_iload_n hx hb dX10_cut_17 rfl (lv_at hl 0 rfl) ?_
          refine lv_aload_n hx hb dX10_cut_18 rfl (lv_at hl 1 rfl) ?_
          refine tw_get (ci := 10) (C := RX10) (T := TX10) (N := 8) hx hb hB cx_inX10 hown hK TH hm0 hk0 rfl ⟨by decide, rfl⟩ 0 (by decide) cw_116 (fun _ h9 => h9) dX10_cut_19 (fun hv => ?_)
          rw [hfm17_0]
          refine lv_icmp_ge (tgt := 39) hx hb dX10_cut_22 (by decide) (fun hc8 => ?_) (fun hc8 => ?_)
          · have hf9 : w17_0_0.toInt ≤ y17_2.toInt := by have z := (fa_le _ _).mp hc8;  omega
            refine lv_aload_n hx hb dX10_cut_39 rfl (lv_at hl 1 rfl) ?_
            refine lv_dup hx hb dX10_cut_40 rfl ?_
            refine tw_get (ci := 10) (C := RX10) (T := TX10) (N := 8) hx hb hB cx_inX10 hown hK TH hm0 hk0 rfl ⟨by decide, rfl⟩ 0 (by decide) cw_116 (fun _ h9 => h9) dX10_cut_41 (fun hv => ?_)
            rw [hfm17_0]
            refine lv_iconst (v := 1) hx hb dX10_cut_44 (by decide) ?_
            refine lv_isub hx hb dX10_cut_45 ?_
            refine lv_topi (fun zi10 ezi10 => ?_)
            have hzi10 : zi10.toInt = w17_0_0.toInt - 1 := by rw [ezi10]; have : ((1 : Int32).toInt) = 1 := (by decide); exact (ia_sub (by omega) (by omega)).trans (by omega)
            refine tw_put (ci := 10) (v := .int zi10) (ty := .int) (C := RX10) (T := TX10) (N := 8) hx hb hB cx_inX10 tyX10 tyX10_ok nmX10 hown hK TH hS hm0 hk0 rfl ⟨by decide, rfl⟩ 0 (by decide) cw_116 (fun _ h9 => h9) rfl (by decide +kernel) rfl rfl ⟨_, rfl, (show 0 ≤ Int32.toInt zi10 from by  omega), (show Int32.toInt zi10 ≤ 40 from by  omega)⟩ dX10_cut_46 (fun H locs E11 TH hS hp1 hp2 hp3 => ?_)
            have hm12 := hp1
            exact tw_vret hx hb hr hlocks TH hS hex rfl (Nat.le_of_ble_eq_true rfl) (Nat.le_of_ble_eq_true rfl) dX10_cut_49
          · have hf13 : ¬ (w17_0_0.toInt ≤ y17_2.toInt) := fun q => hc8 ((fa_le _ _).mpr (by  omega))
            refine lv_aload_n hx hb dX10_cut_25 rfl (lv_at hl 1 rfl) ?_
            refine lv_iload_n hx hb dX10_cut_26 rfl (lv_at hl 0 rfl) ?_
            refine lv_iload_n hx hb dX10_cut_27 rfl (lv_at hl 0 rfl) ?_
            refine lv_iconst (v := 1) hx hb dX10_cut_28 (by decide) ?_
            refine lv_isub hx hb dX10_cut_29 ?_
            refine lv_topi (fun zi14 ezi14 => ?_)
            have hzi14 : zi14.toInt = y17_2.toInt - 1 := by rw [ezi14]; have : ((1 : Int32).toInt) = 1 := (by decide); exact (ia_sub (by omega) (by omega)).trans (by omega)
            refine tw_Vc (o := a0) (ci := 10) (n := 2) (post := (fun v kq Lq Eq => v = none ∧ kp = kq ∧ L = Lq ∧ ∀ b j : Nat, tw_fv Eq b j = tw_fv Eg17 b j)) (As := [.int y17_2, .int zi14]) (rest := []) ⟨hx, hb, hml, hown, hB⟩ (fun sz => tX10_moveEntry l D cs a0 y17_2 zi14 hm0 hk0 (by  omega) (by  omega) (by  omega) (by  omega) sz) cg_10_38_X10_moveEntry rfl rfl (by decide +kernel) ⟨Nat.le_of_ble_eq_true rfl, Nat.le_of_ble_eq_true rfl⟩ hK hN TH hS hA rfl hm0 hk0 (by decide) rfl hl.1 rfl (Nat.le_of_ble_eq_true rfl) dX10_cut_30 ⟨Nat.le_of_ble_eq_true rfl, Nat.le_of_ble_eq_true rfl⟩ (fun v15 kp15 L15 E15 H locs hq15 hx15 TH hS => ?_)
            obtain ⟨rfl, rfl, rfl, hkc15⟩ := hq15
            refine W.eq (g2 := F0 m 33 ls []) rfl ?_
            have hm17 : tw_fv E15 a0 0 = .int w17_0_0 := (hkc15 a0 0).trans hfm17_0
            obtain ⟨zi18, ezi18⟩ : ∃ z : Int32, z = y17_2 + Int32.ofInt 1 := ⟨_, rfl⟩
            have hzi18 : zi18.toInt = y17_2.toInt + 1 := by rw [ezi18]; have : ((Int32.ofInt 1).toInt) = 1 := (by decide);  exact (ia_add (by omega) (by omega)).trans (by omega)
            refine lv_iinc (v := zi18) (lv' := [(2, .int zi18), (0, .ref a0), (1, .int x1)]) hx hb dX10_cut_33 hl (k := 0) rfl ezi18.symm (by decide) rfl (fun ls hl => ?_)
            refine lv_goto (tgt := 17) hx hb dX10_cut_36 (by decide) ?_
            exfalso; omega
        | succ n17 ih17 =>
          intro y17_2 w17_0_0 Eg17 H locs ls hy17_2a hy17_2b hw17_0_0a hw17_0_0b hmeas hfm17_0 TH hS hl
          refine lv_iload_n hx hb dX10_cut_17 rfl (lv_at hl 0 rfl) ?_
          refine lv_aload_n hx hb dX10_cut_18 rfl (lv_at hl 1 rfl) ?_
          refine tw_get (ci := 10) (C := RX10) (T := TX10) (N := 8) hx hb hB cx_inX10 hown hK TH hm0 hk0 rfl ⟨by decide, rfl⟩ 0 (by decide) cw_116 (fun _ h9 => h9) dX10_cut_19 (fun hv => ?_)
          rw [hfm17_0]
          refine lv_icmp_ge (tgt := 39) hx hb dX10_cut_22 (by decide) (fun hc19 => ?_) (fun hc19 => ?_)
          · have hf20 : w17_0_0.toInt ≤ y17_2.toInt := by have z := (fa_le _ _).mp hc19;  omega
            refine lv_aload_n hx hb dX10_cut_39 rfl (lv_at hl 1 rfl) ?_
            refine lv_dup hx hb dX10_cut_40 rfl ?_
            refine tw_get (ci := 10) (C := RX10) (T := TX10) (N := 8) hx hb hB cx_inX10 hown hK TH hm0 hk0 rfl ⟨by decide, rfl⟩ 0 (by decide) cw_116 (fun _ h9 => h9) dX10_cut_41 (fun hv => ?_)
            rw [hfm17_0]
            refine lv_iconst (v := 1) hx hb dX10_cut_44 (by decide) ?_
            refine lv_isub hx hb dX10_cut_45 ?_
            refine lv_topi (fun zi21 ezi21 => ?_)
            have hzi21 : zi21.toInt = w17_0_0.toInt - 1 := by rw [ezi21]; have : ((1 : Int32).toInt) = 1 := (by decide); exact (ia_sub (by omega) (by omega)).trans (by omega)
            refine tw_put (ci := 10) (v := .int zi21) (ty := .int) (C := RX10) (T := TX10) (N := 8) hx hb hB cx_inX10 tyX10 tyX10_ok nmX10 hown hK TH hS hm0 hk0 rfl ⟨by decide, rfl⟩ 0 (by decide) cw_116 (fun _ h9 => h9) rfl (by decide +kernel) rfl rfl ⟨_, rfl, (show 0 ≤ Int32.toInt zi21 from by  omega), (show Int32.toInt zi21 ≤ 40 from by  omega)⟩ dX10_cut_46 (fun H locs E22 TH hS hp1 hp2 hp3 => ?_)
            have hm23 := hp1
            exact tw_vret hx hb hr hlocks TH hS hex rfl (Nat.le_of_ble_eq_true rfl) (Nat.le_of_ble_eq_true rfl) dX10_cut_49
          · have hf24 : ¬ (w17_0_0.toInt ≤ y17_2.toInt) := fun q => hc19 ((fa_le _ _).mpr (by  omega))
            refine lv_aload_n hx hb dX10_cut_25 rfl (lv_at hl 1 rfl) ?_
            refine lv_iload_n hx hb dX10_cut_26 rfl (lv_at hl 0 rfl) ?_
            refine lv_iload_n hx hb dX10_cut_27 rfl (lv_at hl 0 rfl) ?_
            refine lv_iconst (v := 1) hx hb dX10_cut_28 (by decide) ?_
            refine lv_isub hx hb dX10_cut_29 ?_
            refine lv_topi (fun zi25 ezi25 => ?_)
            have hzi25 : zi25.toInt = y17_2.toInt - 1 := by rw [ezi25]; have : ((1 : Int32).toInt) = 1 := (by decide); exact (ia_sub (by omega) (by omega)).trans (by omega)
            refine tw_Vc (o := a0) (ci := 10) (n := 2) (post := (fun v kq Lq Eq => v = none ∧ kp = kq ∧ L = Lq ∧ ∀ b j : Nat, tw_fv Eq b j = tw_fv Eg17 b j)) (As := [.int y17_2, .int zi25]) (rest := []) ⟨hx, hb, hml, hown, hB⟩ (fun sz => tX10_moveEntry l D cs a0 y17_2 zi25 hm0 hk0 (by  omega) (by  omega) (by  omega) (by  omega) sz) cg_10_38_X10_moveEntry rfl rfl (by decide +kernel) ⟨Nat.le_of_ble_eq_true rfl, Nat.le_of_ble_eq_true rfl⟩ hK hN TH hS hA rfl hm0 hk0 (by decide) rfl hl.1 rfl (Nat.le_of_ble_eq_true rfl) dX10_cut_30 ⟨Nat.le_of_ble_eq_true rfl, Nat.le_of_ble_eq_true rfl⟩ (fun v26 kp26 L26 E26 H locs hq26 hx26 TH hS => ?_)
            obtain ⟨rfl, rfl, rfl, hkc26⟩ := hq26
            refine W.eq (g2 := F0 m 33 ls []) rfl ?_
            have hm28 : tw_fv E26 a0 0 = .int w17_0_0 := (hkc26 a0 0).trans hfm17_0
            obtain ⟨zi29, ezi29⟩ : ∃ z : Int32, z = y17_2 + Int32.ofInt 1 := ⟨_, rfl⟩
            have hzi29 : zi29.toInt = y17_2.toInt + 1 := by rw [ezi29]; have : ((Int32.ofInt 1).toInt) = 1 := (by decide);  exact (ia_add (by omega) (by omega)).trans (by omega)
            refine lv_iinc (v := zi29) (lv' := [(2, .int zi29), (0, .ref a0), (1, .int x1)]) hx hb dX10_cut_33 hl (k := 0) rfl ezi29.symm (by decide) rfl (fun ls hl => ?_)
            refine lv_goto (tgt := 17) hx hb dX10_cut_36 (by decide) ?_
            exact ih17 zi29 w17_0_0 _ _ _ ls (by  omega) (by  omega) (by  omega) (by  omega) (by  omega) hm28 TH hS (lv_sub hl [0, 1, 2] rfl)
      exact hJ17 40 zi7 xi4 _ _ _ ls (by  omega) (by  omega) (by  omega) (by  omega) (by  omega) hxi4 TH hS (lv_sub hl [0, 1, 2] rfl)
    · have hf30 : ¬ (x1.toInt < xi4.toInt) := fun q => hc5 ((fa_lt _ _).mpr (by  omega))
      exact tw_vret hx hb hr hlocks TH hS hex rfl (Nat.le_of_ble_eq_true rfl) (Nat.le_of_ble_eq_true rfl) dX10_cut_12
set_option maxHeartbeats 4000000 in
set_option maxRecDepth 100000 in
theorem tX2_hasKind (l : Launch) (D : va_G) (cs : Nat → ClassId) {kp : Nat → Nat} {L : List Nat} {E : Nat → va_E} (a0 : Nat) (x1 : Int32) (hm0 : a0 ∈ L) (hk0 : kp a0 = 2) (sz : Nat) : Met l yX2_hasKind (.code yX2_hasKind cX2_hasKind 2 (some .boolean) :: cx_big) { frames := 0, cells := 0, slots := 0, locals := 0 } (tw_P D cs kp L E [.ref a0, .int x1] sz) (tw_Q D cs kp L (fun v kq Lq Eq => (∃ x : Int32, v = some (.int x) ∧ 0 ≤ x.toInt ∧ x.toInt ≤ 1 ∧ (x.toInt ≠ 0 → 0 ≤ x1.toInt ∧ x1.toInt ≤ 9)) ∧ kp = kq ∧ L = Lq ∧ E = Eq) (va_A (va_pl L E) sz)) 0 0 (va_A (va_pl L E) sz) := by
  refine tw_ofW (by decide) (Nat.le_of_ble_eq_true rfl) ?_
  intro p e s m below meth c A ls hx hb hr hml hB hown hlocks hK hN hA TH hS hl
  have hown : s.vm.findClass "TreeMerge$Grammar" = some m.cls := hown
  have hl : lv_has ls 2 [(0, .ref a0), (1, .int x1)] := hl
  obtain ⟨kp0, ekp⟩ : ∃ z, z = kp := ⟨_, rfl⟩
  obtain ⟨L0, eL⟩ : ∃ z, z = L := ⟨_, rfl⟩
  rw [show tw_Q D cs kp L = tw_Q D cs kp0 L0 by rw [ekp, eL]]
  have hex : ∀ a : Nat, a ∈ L0 → a ∈ L ∧ kp a = kp0 a := fun a h => ⟨by rw [← eL]; exact h, by rw [ekp]⟩
  refine lv_iload_n hx hb dX2_hasKind_0 rfl (lv_at hl 1 rfl) ?_
  refine lv_if_lt (tgt := 16) hx hb dX2_hasKind_1 (by decide) (fun hc1 => ?_) (fun hc1 => ?_)
  · have hf2 : x1.toInt < 0 := by have z := (fa_lt _ _).mp hc1; have : ((0 : Int32).toInt) = 0 := (by decide); omega
    refine lv_iconst (v := 0) hx hb dX2_hasKind_16 (by decide) ?_
    exact tw_zret hx hb hr hlocks (by decide) TH hS hex ⟨⟨_, rfl, (show 0 ≤ Int32.toInt 0 from by have : ((0 : Int32).toInt) = 0 := (by decide); omega), (show Int32.toInt 0 ≤ 1 from by have : ((0 : Int32).toInt) = 0 := (by decide); omega), (fun h => ⟨by have : ((0 : Int32).toInt) = 0 := (by decide); omega, by have : ((0 : Int32).toInt) = 0 := (by decide); omega⟩)⟩, rfl, rfl, rfl⟩ (Nat.le_of_ble_eq_true rfl) (Nat.le_of_ble_eq_true rfl) dX2_hasKind_17
  · have hf3 : ¬ (x1.toInt < 0) := fun q => hc1 ((fa_lt _ _).mpr (by have : ((0 : Int32).toInt) = 0 := (by decide); omega))
    refine lv_iload_n hx hb dX2_hasKind_4 rfl (lv_at hl 1 rfl) ?_
    refine lv_aload_n hx hb dX2_hasKind_5 rfl (lv_at hl 0 rfl) ?_
    refine tw_get (ci := 2) (C := RX2) (T := TX2) (N := 13) hx hb hB cx_inX2 hown hK TH hm0 hk0 rfl ⟨by decide, rfl⟩ 1 (by decide) cw_68 (fun _ h9 => h9) dX2_hasKind_6 (fun hv => ?_)
    obtain ⟨xi4, hxi4, hxi4a, hxi4b⟩ : ∃ x : Int32, tw_fv E a0 1 = .int x ∧ 0 ≤ x.toInt ∧ x.toInt ≤ 10 := hv
    rw [hxi4]
    refine lv_icmp_ge (tgt := 16) hx hb dX2_hasKind_9 (by decide) (fun hc5 => ?_) (fun hc5 => ?_)
    · have hf6 : xi4.toInt ≤ x1.toInt := by have z := (fa_le _ _).mp hc5;  omega
      refine lv_iconst (v := 0) hx hb dX2_hasKind_16 (by decide) ?_
      exact tw_zret hx hb hr hlocks (by decide) TH hS hex ⟨⟨_, rfl, (show 0 ≤ Int32.toInt 0 from by have : ((0 : Int32).toInt) = 0 := (by decide); omega), (show Int32.toInt 0 ≤ 1 from by have : ((0 : Int32).toInt) = 0 := (by decide); omega), (fun h => ⟨by have : ((0 : Int32).toInt) = 0 := (by decide); omega, by have : ((0 : Int32).toInt) = 0 := (by decide); omega⟩)⟩, rfl, rfl, rfl⟩ (Nat.le_of_ble_eq_true rfl) (Nat.le_of_ble_eq_true rfl) dX2_hasKind_17
    · have hf7 : ¬ (xi4.toInt ≤ x1.toInt) := fun q => hc5 ((fa_le _ _).mpr (by  omega))
      refine lv_iconst (v := 1) hx hb dX2_hasKind_12 (by decide) ?_
      refine lv_goto (tgt := 17) hx hb dX2_hasKind_13 (by decide) ?_
      exact tw_zret hx hb hr hlocks (by decide) TH hS hex ⟨⟨_, rfl, (show 0 ≤ Int32.toInt 1 from by have : ((1 : Int32).toInt) = 1 := (by decide); omega), (show Int32.toInt 1 ≤ 1 from by have : ((1 : Int32).toInt) = 1 := (by decide); omega), (fun h => ⟨by have : ((1 : Int32).toInt) = 1 := (by decide); omega, by have : ((1 : Int32).toInt) = 1 := (by decide); omega⟩)⟩, rfl, rfl, rfl⟩ (Nat.le_of_ble_eq_true rfl) (Nat.le_of_ble_eq_true rfl) dX2_hasKind_17
set_option maxHeartbeats 4000000 in
set_option maxRecDepth 100000 in
theorem tX2_isSet (l : Launch) (D : va_G) (cs : Nat → ClassId) {kp : Nat → Nat} {L : List Nat} {E : Nat → va_E} (a0 : Nat) (x1 : Int32) (hm0 : a0 ∈ L) (hk0 : kp a0 = 2) (sz : Nat) : Met l yX2_isSet (.code yX2_isSet cX2_isSet 2 (some .boolean) :: cx_big) { frames := 1, cells := 0, slots := 0, locals := 21 } (tw_P D cs kp L E [.ref a0, .int x1] sz) (tw_Q D cs kp L (fun v kq Lq Eq => (∃ x : Int32, v = some (.int x) ∧ 0 ≤ x.toInt ∧ x.toInt ≤ 1) ∧ kp = kq ∧ L = Lq ∧ E = Eq) (va_A (va_pl L E) sz)) 0 0 (va_A (va_pl L E) sz) := by
  refine tw_ofW (by decide) (Nat.le_of_ble_eq_true rfl) ?_
  intro p e s m below meth c A ls hx hb hr hml hB hown hlocks hK hN hA TH hS hl
  have hown : s.vm.findClass "TreeMerge$Grammar" = some m.cls := hown
  have hl : lv_has ls 2 [(0, .ref a0), (1, .int x1)] := hl
  obtain ⟨kp0, ekp⟩ : ∃ z, z = kp := ⟨_, rfl⟩
  obtain ⟨L0, eL⟩ : ∃ z, z = L := ⟨_, rfl⟩
  rw [show tw_Q D cs kp L = tw_Q D cs kp0 L0 by rw [ekp, eL]]
  have hex : ∀ a : Nat, a ∈ L0 → a ∈ L ∧ kp a = kp0 a := fun a h => ⟨by rw [← eL]; exact h, by rw [ekp]⟩
  refine lv_aload_n hx hb dX2_isSet_0 rfl (lv_at hl 0 rfl) ?_
  refine lv_iload_n hx hb dX2_isSet_1 rfl (lv_at hl 1 rfl) ?_
  refine tw_Vc (o := a0) (ci := 2) (n := 1) (post := (fun v kq Lq Eq => (∃ x : Int32, v = some (.int x) ∧ 0 ≤ x.toInt ∧ x.toInt ≤ 1 ∧ (x.toInt ≠ 0 → 0 ≤ x1.toInt ∧ x1.toInt ≤ 9)) ∧ kp = kq ∧ L = Lq ∧ E = Eq)) (As := [.int x1]) (rest := []) ⟨hx, hb, hml, hown, hB⟩ (fun sz => tX2_hasKind l D cs a0 x1 hm0 hk0 sz) cg_2_49_X2_hasKind rfl rfl (by decide +kernel) ⟨Nat.le_of_ble_eq_true rfl, Nat.le_of_ble_eq_true rfl⟩ hK hN TH hS hA rfl hm0 hk0 (by decide) rfl hl.1 rfl (Nat.le_of_ble_eq_true rfl) dX2_isSet_2 ⟨Nat.le_of_ble_eq_true rfl, Nat.le_of_ble_eq_true rfl⟩ (fun v1 kp1 L1 E1 H locs hq1 hx1 TH hS => ?_)
  obtain ⟨⟨xc2, rfl, hxc2a, hxc2b, hixc2⟩, rfl, rfl, rfl⟩ := hq1
  refine W.eq (g2 := F0 m 5 ls [.int xc2]) rfl ?_
  refine lv_if_eq (tgt := 22) hx hb dX2_isSet_5 (by decide) (fun hc3 => ?_) (fun hc3 => ?_)
  · have hf4 : xc2.toInt = 0 := by have z := (fa_eq _ _).mp hc3; have : ((0 : Int32).toInt) = 0 := (by decide); omega
    refine lv_iconst (v := 0) hx hb dX2_isSet_22 (by decide) ?_
    exact tw_zret hx hb hr hlocks (by decide) TH hS hex ⟨⟨_, rfl, (show 0 ≤ Int32.toInt 0 from by have : ((0 : Int32).toInt) = 0 := (by decide); omega), (show Int32.toInt 0 ≤ 1 from by have : ((0 : Int32).toInt) = 0 := (by decide); omega)⟩, rfl, rfl, rfl⟩ (Nat.le_of_ble_eq_true rfl) (Nat.le_of_ble_eq_true rfl) dX2_isSet_23
  · have hf5 : ¬ (xc2.toInt = 0) := fun q => hc3 ((fa_eq _ _).mpr (by have : ((0 : Int32).toInt) = 0 := (by decide); omega))
    have hhixc2_10 := hixc2 (by omega)
    refine lv_aload_n hx hb dX2_isSet_8 rfl (lv_at hl 0 rfl) ?_
    refine tw_get (ci := 2) (C := RX2) (T := TX2) (N := 13) hx hb hB cx_inX2 hown hK TH hm0 hk0 rfl ⟨by decide, rfl⟩ 4 (by decide) cw_74 (fun _ h9 => h9) dX2_isSet_9 (fun hv => ?_)
    obtain ⟨xr6, hxr6, hmxr6, hkxr6⟩ : ∃ a : Nat, tw_fv E a0 4 = .ref a ∧ a ∈ L ∧ kp a = 131 := hv
    rw [hxr6]
    refine lv_iload_n hx hb dX2_isSet_12 rfl (lv_at hl 1 rfl) ?_
    refine tw_iald (k := 131) (t0 := 0) (n := 10) (lo := 0) (hi := 255) hx hb hK TH hmxr6 hkxr6 (by decide) rfl rfl (i := x1) (vp_in_iff.mpr ⟨by  omega, by  omega⟩) dX2_isSet_13 (fun hxe7a hxe7b => ?_)
    generalize tw_iv E xr6 (Int32.toNatClampNeg x1) = xe7 at hxe7a hxe7b ⊢
    refine lv_iconst (v := 3) hx hb dX2_isSet_14 (by decide) ?_
    refine lv_icmp_ne (tgt := 22) hx hb dX2_isSet_15 (by decide) (fun hc8 => ?_) (fun hc8 => ?_)
    · have hf9 : ¬ (xe7.toInt = 3) := fun q => hc8 ((fa_eq _ _).mpr (by have : ((3 : Int32).toInt) = 3 := (by decide); omega))
      refine lv_iconst (v := 0) hx hb dX2_isSet_22 (by decide) ?_
      exact tw_zret hx hb hr hlocks (by decide) TH hS hex ⟨⟨_, rfl, (show 0 ≤ Int32.toInt 0 from by have : ((0 : Int32).toInt) = 0 := (by decide); omega), (show Int32.toInt 0 ≤ 1 from by have : ((0 : Int32).toInt) = 0 := (by decide); omega)⟩, rfl, rfl, rfl⟩ (Nat.le_of_ble_eq_true rfl) (Nat.le_of_ble_eq_true rfl) dX2_isSet_23
    · have hf10 : xe7.toInt = 3 := by have z := (fa_eq _ _).mp hc8; have : ((3 : Int32).toInt) = 3 := (by decide); omega
      refine lv_iconst (v := 1) hx hb dX2_isSet_18 (by decide) ?_
      refine lv_goto (tgt := 23) hx hb dX2_isSet_19 (by decide) ?_
      exact tw_zret hx hb hr hlocks (by decide) TH hS hex ⟨⟨_, rfl, (show 0 ≤ Int32.toInt 1 from by have : ((1 : Int32).toInt) = 1 := (by decide); omega), (show Int32.toInt 1 ≤ 1 from by have : ((1 : Int32).toInt) = 1 := (by decide); omega)⟩, rfl, rfl, rfl⟩ (Nat.le_of_ble_eq_true rfl) (Nat.le_of_ble_eq_true rfl) dX2_isSet_23
set_option maxHeartbeats 4000000 in
set_option maxRecDepth 100000 in
theorem tX2_namesAll (l : Launch) (D : va_G) (cs : Nat → ClassId) {kp : Nat → Nat} {L : List Nat} {E : Nat → va_E} (a0 : Nat) (x1 : Int32) (a2 : Nat) (hm0 : a0 ∈ L) (hk0 : kp a0 = 2) (hp1a : 0 ≤ x1.toInt) (hp1b : x1.toInt ≤ 9) (hm2 : a2 ∈ L) (hk2 : kp a2 = 3) (sz : Nat) : Met l yX2_namesAll (.code yX2_namesAll cX2_namesAll 6 (some .boolean) :: cx_big) { frames := 0, cells := 0, slots := 0, locals := 0 } (tw_P D cs kp L E [.ref a0, .int x1, .ref a2] sz) (tw_Q D cs kp L (fun v kq Lq Eq => (∃ x : Int32, v = some (.int x) ∧ 0 ≤ x.toInt ∧ x.toInt ≤ 1) ∧ kp = kq ∧ L = Lq ∧ E = Eq) (va_A (va_pl L E) sz)) 0 0 (va_A (va_pl L E) sz) := by
  refine tw_ofW (by decide) (Nat.le_of_ble_eq_true rfl) ?_
  intro p e s m below meth c A ls hx hb hr hml hB hown hlocks hK hN hA TH hS hl
  have hown : s.vm.findClass "TreeMerge$Grammar" = some m.cls := hown
  have hl : lv_has ls 6 [(0, .ref a0), (1, .int x1), (2, .ref a2)] := hl
  obtain ⟨kp0, ekp⟩ : ∃ z, z = kp := ⟨_, rfl⟩
  obtain ⟨L0, eL⟩ : ∃ z, z = L := ⟨_, rfl⟩
  rw [show tw_Q D cs kp L = tw_Q D cs kp0 L0 by rw [ekp, eL]]
  have hex : ∀ a : Nat, a ∈ L0 → a ∈ L ∧ kp a = kp0 a := fun a h => ⟨by rw [← eL]; exact h, by rw [ekp]⟩
  refine lv_iconst (v := 0) hx hb dX2_namesAll_0 (by decide) ?_
  refine lv_istore_n (lv' := [(3, .int 0), (0, .ref a0), (1, .int x1), (2, .ref a2)]) hx hb dX2_namesAll_1 rfl hl (by decide) rfl (fun ls hl => ?_)
  have hJ2 : ∀ (n : Nat) (y2_3 : Int32) (H : Heap) (locs : List Loc) (ls : Array Slot), 0 ≤ y2_3.toInt → y2_3.toInt ≤ 40 → 40 - y2_3.toInt ≤ (n : Int) → tw_H D cs kp L E A H → va_S A s.heap H locs → lv_has ls 6 [(3, .int y2_3), (0, .ref a0), (1, .int x1), (2, .ref a2)] → W p l e { frames := 0, cells := 0, slots := 0, locals := 0 } s m [.ref a0, .int x1, .ref a2].toArray below meth c H locs 0 0 (MQ below (tw_Q D cs kp0 L0 (fun v kq Lq Eq => (∃ x : Int32, v = some (.int x) ∧ 0 ≤ x.toInt ∧ x.toInt ≤ 1) ∧ kp = kq ∧ L = Lq ∧ E = Eq) A) [.ref a0, .int x1, .ref a2].toArray s 0 0 A) (F0 m 2 ls []) := by
    intro n2
    induction n2 with
    | zero =>
      intro y2_3 H locs ls hy2_3a hy2_3b hmeas TH hS hl
      refine lv_iload_n hx hb dX2_namesAll_2 rfl (lv_at hl 0 rfl) ?_
      refine lv_aload_n hx hb dX2_namesAll_3 rfl (lv_at hl 3 rfl) ?_
      refine tw_get (ci := 3) (C := RX3) (T := TX3) (N := 3) hx hb hB cx_inX3 hown hK TH hm2 hk2 rfl ⟨by decide, rfl⟩ 0 (by decide) cw_178 (fun _ h9 => h9) dX2_namesAll_4 (fun hv => ?_)
      obtain ⟨xi1, hxi1, hxi1a, hxi1b⟩ : ∃ x : Int32, tw_fv E a2 0 = .int x ∧ 0 ≤ x.toInt ∧ x.toInt ≤ 40 := hv
      rw [hxi1]
      refine lv_icmp_ge (tgt := 79) hx hb dX2_namesAll_7 (by decide) (fun hc2 => ?_) (fun hc2 => ?_)
      · have hf3 : xi1.toInt ≤ y2_3.toInt := by have z := (fa_le _ _).mp hc2;  omega
        refine lv_iconst (v := 1) hx hb dX2_namesAll_79 (by decide) ?_
        exact tw_zret hx hb hr hlocks (by decide) TH hS hex ⟨⟨_, rfl, (show 0 ≤ Int32.toInt 1 from by have : ((1 : Int32).toInt) = 1 := (by decide); omega), (show Int32.toInt 1 ≤ 1 from by have : ((1 : Int32).toInt) = 1 := (by decide); omega)⟩, rfl, rfl, rfl⟩ (Nat.le_of_ble_eq_true rfl) (Nat.le_of_ble_eq_true rfl) dX2_namesAll_80
      · have hf4 : ¬ (xi1.toInt ≤ y2_3.toInt) := fun q => hc2 ((fa_le _ _).mpr (by  omega))
        refine lv_iconst (v := 0) hx hb dX2_namesAll_10 (by decide) ?_
        refine lv_istore (lv' := [(4, .int 0), (3, .int y2_3), (0, .ref a0), (1, .int x1), (2, .ref a2)]) hx hb dX2_namesAll_11 hl (by decide) rfl (fun ls hl => ?_)
        refine lv_aload_n hx hb dX2_namesAll_13 rfl (lv_at hl 2 rfl) ?_
        refine tw_get (ci := 2) (C := RX2) (T := TX2) (N := 13) hx hb hB cx_inX2 hown hK TH hm0 hk0 rfl ⟨by decide, rfl⟩ 5 (by decide) cw_75 (fun _ h9 => h9) dX2_namesAll_14 (fun hv => ?_)
        obtain ⟨xr5, hxr5, hmxr5, hkxr5⟩ : ∃ a : Nat, tw_fv E a0 5 = .ref a ∧ a ∈ L ∧ kp a = 130 := hv
        rw [hxr5]
        refine lv_iload_n hx hb dX2_namesAll_17 rfl (lv_at hl 3 rfl) ?_
        refine tw_iald (k := 130) (t0 := 0) (n := 10) (lo := 0) (hi := 500) hx hb hK TH hmxr5 hkxr5 (by decide) rfl rfl (i := x1) (vp_in_iff.mpr ⟨by  omega, by  omega⟩) dX2_namesAll_18 (fun hxe6a hxe6b => ?_)
        generalize tw_iv E xr5 (Int32.toNatClampNeg x1) = xe6 at hxe6a hxe6b ⊢
        refine lv_istore (lv' := [(5, .int xe6), (4, .int 0), (3, .int y2_3), (0, .ref a0), (1, .int x1), (2, .ref a2)]) hx hb dX2_namesAll_19 hl (by decide) rfl (fun ls hl => ?_)
        have hJ21 : ∀ (n : Nat) (y21_5 : Int32) (y21_4 : Int32) (H : Heap) (locs : List Loc) (ls : Array Slot), 0 ≤ y21_5.toInt → y21_5.toInt ≤ 500 → 0 ≤ y21_4.toInt → y21_4.toInt ≤ 1 → 500 - y21_5.toInt ≤ (n : Int) → tw_H D cs kp L E A H → va_S A s.heap H locs → lv_has ls 6 [(5, .int y21_5), (4, .int y21_4), (3, .int y2_3), (0, .ref a0), (1, .int x1), (2, .ref a2)] → W p l e { frames := 0, cells := 0, slots := 0, locals := 0 } s m [.ref a0, .int x1, .ref a2].toArray below meth c H locs 0 0 (MQ below (tw_Q D cs kp0 L0 (fun v kq Lq Eq => (∃ x : Int32, v = some (.int x) ∧ 0 ≤ x.toInt ∧ x.toInt ≤ 1) ∧ kp = kq ∧ L = Lq ∧ E = Eq) A) [.ref a0, .int x1, .ref a2].toArray s 0 0 A) (F0 m 21 ls []) := by
          intro n21
          induction n21 with
          | zero =>
            intro y21_5 y21_4 H locs ls hy21_5a hy21_5b hy21_4a hy21_4b hmeas TH hS hl
            refine lv_iload hx hb dX2_namesAll_21 (lv_at hl 0 rfl) ?_
            refine lv_aload_n hx hb dX2_namesAll_23 rfl (lv_at hl 3 rfl) ?_
            refine tw_get (ci := 2) (C := RX2) (T := TX2) (N := 13) hx hb hB cx_inX2 hown hK TH hm0 hk0 rfl ⟨by decide, rfl⟩ 6 (by decide) cw_76 (fun _ h9 => h9) dX2_namesAll_24 (fun hv => ?_)
            obtain ⟨xr7, hxr7, hmxr7, hkxr7⟩ : ∃ a : Nat, tw_fv E a0 6 = .ref a ∧ a ∈ L ∧ kp a = 130 := hv
            rw [hxr7]
            refine lv_iload_n hx hb dX2_namesAll_27 rfl (lv_at hl 4 rfl) ?_
            refine tw_iald (k := 130) (t0 := 0) (n := 10) (lo := 0) (hi := 500) hx hb hK TH hmxr7 hkxr7 (by decide) rfl rfl (i := x1) (vp_in_iff.mpr ⟨by  omega, by  omega⟩) dX2_namesAll_28 (fun hxe8a hxe8b => ?_)
            generalize tw_iv E xr7 (Int32.toNatClampNeg x1) = xe8 at hxe8a hxe8b ⊢
            refine lv_icmp_ge (tgt := 66) hx hb dX2_namesAll_29 (by decide) (fun hc9 => ?_) (fun hc9 => ?_)
            · have hf10 : xe8.toInt ≤ y21_5.toInt := by have z := (fa_le _ _).mp hc9;  omega
              refine lv_iload hx hb dX2_namesAll_66 (lv_at hl 1 rfl) ?_
              refine lv_if_ne (tgt := 73) hx hb dX2_namesAll_68 (by decide) (fun hc11 => ?_) (fun hc11 => ?_)
              · have hf12 : ¬ (y21_4.toInt = 0) := fun q => hc11 ((fa_eq _ _).mpr (by have : ((0 : Int32).toInt) = 0 := (by decide); omega))
                obtain ⟨zi13, ezi13⟩ : ∃ z : Int32, z = y2_3 + Int32.ofInt 1 := ⟨_, rfl⟩
                have hzi13 : zi13.toInt = y2_3.toInt + 1 := by rw [ezi13]; have : ((Int32.ofInt 1).toInt) = 1 := (by decide);  exact (ia_add (by omega) (by omega)).trans (by omega)
                refine lv_iinc (v := zi13) (lv' := [(3, .int zi13), (5, .int y21_5), (4, .int y21_4), (0, .ref a0), (1, .int x1), (2, .ref a2)]) hx hb dX2_namesAll_73 hl (k := 2) rfl ezi13.symm (by decide) rfl (fun ls hl => ?_)
                refine lv_goto (tgt := 2) hx hb dX2_namesAll_76 (by decide) ?_
                exfalso; omega
              · have hf14 : y21_4.toInt = 0 := by have z := (fa_eq _ _).mp hc11; have : ((0 : Int32).toInt) = 0 := (by decide); omega
                refine lv_iconst (v := 0) hx hb dX2_namesAll_71 (by decide) ?_
                exact tw_zret hx hb hr hlocks (by decide) TH hS hex ⟨⟨_, rfl, (show 0 ≤ Int32.toInt 0 from by have : ((0 : Int32).toInt) = 0 := (by decide); omega), (show Int32.toInt 0 ≤ 1 from by have : ((0 : Int32).toInt) = 0 := (by decide); omega)⟩, rfl, rfl, rfl⟩ (Nat.le_of_ble_eq_true rfl) (Nat.le_of_ble_eq_true rfl) dX2_namesAll_72
            · have hf15 : ¬ (xe8.toInt ≤ y21_5.toInt) := fun q => hc9 ((fa_le _ _).mpr (by  omega))
              refine lv_iload hx hb dX2_namesAll_32 (lv_at hl 1 rfl) ?_
              have hJ58 : ∀ (z58_0 : Int32) (H : Heap) (locs : List Loc) (ls : Array Slot), 0 ≤ z58_0.toInt → z58_0.toInt ≤ 1 → tw_H D cs kp L E A H → va_S A s.heap H locs → lv_has ls 6 [(5, .int y21_5), (4, .int y21_4), (3, .int y2_3), (0, .ref a0), (1, .int x1), (2, .ref a2)] → W p l e { frames := 0, cells := 0, slots := 0, locals := 0 } s m [.ref a0, .int x1, .ref a2].toArray below meth c H locs 0 0 (MQ below (tw_Q D cs kp0 L0 (fun v kq Lq Eq => (∃ x : Int32, v = some (.int x) ∧ 0 ≤ x.toInt ∧ x.toInt ≤ 1) ∧ kp = kq ∧ L = Lq ∧ E = Eq) A) [.ref a0, .int x1, .ref a2].toArray s 0 0 A) (F0 m 58 ls [.int z58_0]) := by
                intro z58_0 H locs ls hz58_0a hz58_0b TH hS hl
                refine lv_istore (lv' := [(4, .int z58_0), (5, .int y21_5), (3, .int y2_3), (0, .ref a0), (1, .int x1), (2, .ref a2)]) hx hb dX2_namesAll_58 hl (by decide) rfl (fun ls hl => ?_)
                obtain ⟨zi16, ezi16⟩ : ∃ z : Int32, z = y21_5 + Int32.ofInt 1 := ⟨_, rfl⟩
                have hzi16 : zi16.toInt = y21_5.toInt + 1 := by rw [ezi16]; have : ((Int32.ofInt 1).toInt) = 1 := (by decide);  exact (ia_add (by omega) (by omega)).trans (by omega)
                refine lv_iinc (v := zi16) (lv' := [(5, .int zi16), (4, .int z58_0), (3, .int y2_3), (0, .ref a0), (1, .int x1), (2, .ref a2)]) hx hb dX2_namesAll_60 hl (k := 1) rfl ezi16.symm (by decide) rfl (fun ls hl => ?_)
                refine lv_goto (tgt := 21) hx hb dX2_namesAll_63 (by decide) ?_
                exfalso; omega
              have hJ53 : ∀  (H : Heap) (locs : List Loc) (ls : Array Slot), tw_H D cs kp L E A H → va_S A s.heap H locs → lv_has ls 6 [(5, .int y21_5), (4, .int y21_4), (3, .int y2_3), (0, .ref a0), (1, .int x1), (2, .ref a2)] → W p l e { frames := 0, cells := 0, slots := 0, locals := 0 } s m [.ref a0, .int x1, .ref a2].toArray below meth c H locs 0 0 (MQ below (tw_Q D cs kp0 L0 (fun v kq Lq Eq => (∃ x : Int32, v = some (.int x) ∧ 0 ≤ x.toInt ∧ x.toInt ≤ 1) ∧ kp = kq ∧ L = Lq ∧ E = Eq) A) [.ref a0, .int x1, .ref a2].toArray s 0 0 A) (F0 m 53 ls []) := by
                intro H locs ls TH hS hl
                refine lv_iconst (v := 1) hx hb dX2_namesAll_53 (by decide) ?_
                refine lv_goto (tgt := 58) hx hb dX2_namesAll_54 (by decide) ?_
                exact hJ58 1 _ _ ls (by have : ((1 : Int32).toInt) = 1 := (by decide); omega) (by have : ((1 : Int32).toInt) = 1 := (by decide); omega)  TH hS (lv_sub hl [0, 1, 2, 3, 4, 5] rfl)
              refine lv_if_ne (tgt := 53) hx hb dX2_namesAll_34 (by decide) (fun hc17 => ?_) (fun hc17 => ?_)
              · have hf18 : ¬ (y21_4.toInt = 0) := fun q => hc17 ((fa_eq _ _).mpr (by have : ((0 : Int32).toInt) = 0 := (by decide); omega))
                exact hJ53  _ _ ls   TH hS (lv_sub hl [0, 1, 2, 3, 4, 5] rfl)
              · have hf19 : y21_4.toInt = 0 := by have z := (fa_eq _ _).mp hc17; have : ((0 : Int32).toInt) = 0 := (by decide); omega
                refine lv_aload_n hx hb dX2_namesAll_37 rfl (lv_at hl 3 rfl) ?_
                refine tw_get (ci := 2) (C := RX2) (T := TX2) (N := 13) hx hb hB cx_inX2 hown hK TH hm0 hk0 rfl ⟨by decide, rfl⟩ 10 (by decide) cw_80 (fun _ h9 => h9) dX2_namesAll_38 (fun hv => ?_)
                obtain ⟨xr20, hxr20, hmxr20, hkxr20⟩ : ∃ a : Nat, tw_fv E a0 10 = .ref a ∧ a ∈ L ∧ kp a = 133 := hv
                rw [hxr20]
                refine lv_iload hx hb dX2_namesAll_41 (lv_at hl 0 rfl) ?_
                refine tw_iald (k := 133) (t0 := 0) (n := 500) (lo := (-1)) (hi := 9) hx hb hK TH hmxr20 hkxr20 (by decide) rfl rfl (i := y21_5) (vp_in_iff.mpr ⟨by  omega, by  omega⟩) dX2_namesAll_43 (fun hxe21a hxe21b => ?_)
                generalize tw_iv E xr20 (Int32.toNatClampNeg y21_5) = xe21 at hxe21a hxe21b ⊢
                refine lv_aload_n hx hb dX2_namesAll_44 rfl (lv_at hl 5 rfl) ?_
                refine tw_get (ci := 3) (C := RX3) (T := TX3) (N := 3) hx hb hB cx_inX3 hown hK TH hm2 hk2 rfl ⟨by decide, rfl⟩ 1 (by decide) cw_180 (fun _ h9 => h9) dX2_namesAll_45 (fun hv => ?_)
                obtain ⟨xr22, hxr22, hmxr22, hkxr22⟩ : ∃ a : Nat, tw_fv E a2 1 = .ref a ∧ a ∈ L ∧ kp a = 101 := hv
                rw [hxr22]
                refine lv_iload_n hx hb dX2_namesAll_48 rfl (lv_at hl 2 rfl) ?_
                refine tw_iald (k := 101) (t0 := 0) (n := 40) (lo := 0) (hi := 9) hx hb hK TH hmxr22 hkxr22 (by decide) rfl rfl (i := y2_3) (vp_in_iff.mpr ⟨by  omega, by  omega⟩) dX2_namesAll_49 (fun hxe23a hxe23b => ?_)
                generalize tw_iv E xr22 (Int32.toNatClampNeg y2_3) = xe23 at hxe23a hxe23b ⊢
                refine lv_icmp_ne (tgt := 57) hx hb dX2_namesAll_50 (by decide) (fun hc24 => ?_) (fun hc24 => ?_)
                · have hf25 : ¬ (xe21.toInt = xe23.toInt) := fun q => hc24 ((fa_eq _ _).mpr (by  omega))
                  refine lv_iconst (v := 0) hx hb dX2_namesAll_57 (by decide) ?_
                  exact hJ58 0 _ _ ls (by have : ((0 : Int32).toInt) = 0 := (by decide); omega) (by have : ((0 : Int32).toInt) = 0 := (by decide); omega)  TH hS (lv_sub hl [0, 1, 2, 3, 4, 5] rfl)
                · have hf26 : xe21.toInt = xe23.toInt := by have z := (fa_eq _ _).mp hc24;  omega
                  exact hJ53  _ _ ls   TH hS (lv_sub hl [0, 1, 2, 3, 4, 5] rfl)
          | succ n21 ih21 =>
            intro y21_5 y21_4 H locs ls hy21_5a hy21_5b hy21_4a hy21_4b hmeas TH hS hl
            refine lv_iload hx hb dX2_namesAll_21 (lv_at hl 0 rfl) ?_
            refine lv_aload_n hx hb dX2_namesAll_23 rfl (lv_at hl 3 rfl) ?_
            refine tw_get (ci := 2) (C := RX2) (T := TX2) (N := 13) hx hb hB cx_inX2 hown hK TH hm0 hk0 rfl ⟨by decide, rfl⟩ 6 (by decide) cw_76 (fun _ h9 => h9) dX2_namesAll_24 (fun hv => ?_)
            obtain ⟨xr27, hxr27, hmxr27, hkxr27⟩ : ∃ a : Nat, tw_fv E a0 6 = .ref a ∧ a ∈ L ∧ kp a = 130 := hv
            rw [hxr27]
            refine lv_iload_n hx hb dX2_namesAll_27 rfl (lv_at hl 4 rfl) ?_
            refine tw_iald (k := 130) (t0 := 0) (n := 10) (lo := 0) (hi := 500) hx hb hK TH hmxr27 hkxr27 (by decide) rfl rfl (i := x1) (vp_in_iff.mpr ⟨by  omega, by  omega⟩) dX2_namesAll_28 (fun hxe28a hxe28b => ?_)
            generalize tw_iv E xr27 (Int32.toNatClampNeg x1) = xe28 at hxe28a hxe28b ⊢
            refine lv_icmp_ge (tgt := 66) hx hb dX2_namesAll_29 (by decide) (fun hc29 => ?_) (fun hc29 => ?_)
            · have hf30 : xe28.toInt ≤ y21_5.toInt := by have z := (fa_le _ _).mp hc29;  omega
              refine lv_iload hx hb dX2_namesAll_66 (lv_at hl 1 rfl) ?_
              refine lv_if_ne (tgt := 73) hx hb dX2_namesAll_68 (by decide) (fun hc31 => ?_) (fun hc31 => ?_)
              · have hf32 : ¬ (y21_4.toInt = 0) := fun q => hc31 ((fa_eq _ _).mpr (by have : ((0 : Int32).toInt) = 0 := (by decide); omega))
                obtain ⟨zi33, ezi33⟩ : ∃ z : Int32, z = y2_3 + Int32.ofInt 1 := ⟨_, rfl⟩
                have hzi33 : zi33.toInt = y2_3.toInt + 1 := by rw [ezi33]; have : ((Int32.ofInt 1).toInt) = 1 := (by decide);  exact (ia_add (by omega) (by omega)).trans (by omega)
                refine lv_iinc (v := zi33) (lv' := [(3, .int zi33), (5, .int y21_5), (4, .int y21_4), (0, .ref a0), (1, .int x1), (2, .ref a2)]) hx hb dX2_namesAll_73 hl (k := 2) rfl ezi33.symm (by decide) rfl (fun ls hl => ?_)
                refine lv_goto (tgt := 2) hx hb dX2_namesAll_76 (by decide) ?_
                exfalso; omega
              · have hf34 : y21_4.toInt = 0 := by have z := (fa_eq _ _).mp hc31; have : ((0 : Int32).toInt) = 0 := (by decide); omega
                refine lv_iconst (v := 0) hx hb dX2_namesAll_71 (by decide) ?_
                exact tw_zret hx hb hr hlocks (by decide) TH hS hex ⟨⟨_, rfl, (show 0 ≤ Int32.toInt 0 from by have : ((0 : Int32).toInt) = 0 := (by decide); omega), (show Int32.toInt 0 ≤ 1 from by have : ((0 : Int32).toInt) = 0 := (by decide); omega)⟩, rfl, rfl, rfl⟩ (Nat.le_of_ble_eq_true rfl) (Nat.le_of_ble_eq_true rfl) dX2_namesAll_72
            · have hf35 : ¬ (xe28.toInt ≤ y21_5.toInt) := fun q => hc29 ((fa_le _ _).mpr (by  omega))
              refine lv_iload hx hb dX2_namesAll_32 (lv_at hl 1 rfl) ?_
              have hJ58 : ∀ (z58_0 : Int32) (H : Heap) (locs : List Loc) (ls : Array Slot), 0 ≤ z58_0.toInt → z58_0.toInt ≤ 1 → tw_H D cs kp L E A H → va_S A s.heap H locs → lv_has ls 6 [(5, .int y21_5), (4, .int y21_4), (3, .int y2_3), (0, .ref a0), (1, .int x1), (2, .ref a2)] → W p l e { frames := 0, cells := 0, slots := 0, locals := 0 } s m [.ref a0, .int x1, .ref a2].toArray below meth c H locs 0 0 (MQ below (tw_Q D cs kp0 L0 (fun v kq Lq Eq => (∃ x : Int32, v = some (.int x) ∧ 0 ≤ x.toInt ∧ x.toInt ≤ 1) ∧ kp = kq ∧ L = Lq ∧ E = Eq) A) [.ref a0, .int x1, .ref a2].toArray s 0 0 A) (F0 m 58 ls [.int z58_0]) := by
                intro z58_0 H locs ls hz58_0a hz58_0b TH hS hl
                refine lv_istore (lv' := [(4, .int z58_0), (5, .int y21_5), (3, .int y2_3), (0, .ref a0), (1, .int x1), (2, .ref a2)]) hx hb dX2_namesAll_58 hl (by decide) rfl (fun ls hl => ?_)
                obtain ⟨zi36, ezi36⟩ : ∃ z : Int32, z = y21_5 + Int32.ofInt 1 := ⟨_, rfl⟩
                have hzi36 : zi36.toInt = y21_5.toInt + 1 := by rw [ezi36]; have : ((Int32.ofInt 1).toInt) = 1 := (by decide);  exact (ia_add (by omega) (by omega)).trans (by omega)
                refine lv_iinc (v := zi36) (lv' := [(5, .int zi36), (4, .int z58_0), (3, .int y2_3), (0, .ref a0), (1, .int x1), (2, .ref a2)]) hx hb dX2_namesAll_60 hl (k := 1) rfl ezi36.symm (by decide) rfl (fun ls hl => ?_)
                refine lv_goto (tgt := 21) hx hb dX2_namesAll_63 (by decide) ?_
                exact ih21 zi36 z58_0 _ _ ls (by  omega) (by  omega) (by  omega) (by  omega) (by  omega)  TH hS (lv_sub hl [0, 1, 2, 3, 4, 5] rfl)
              have hJ53 : ∀  (H : Heap) (locs : List Loc) (ls : Array Slot), tw_H D cs kp L E A H → va_S A s.heap H locs → lv_has ls 6 [(5, .int y21_5), (4, .int y21_4), (3, .int y2_3), (0, .ref a0), (1, .int x1), (2, .ref a2)] → W p l e { frames := 0, cells := 0, slots := 0, locals := 0 } s m [.ref a0, .int x1, .ref a2].toArray below meth c H locs 0 0 (MQ below (tw_Q D cs kp0 L0 (fun v kq Lq Eq => (∃ x : Int32, v = some (.int x) ∧ 0 ≤ x.toInt ∧ x.toInt ≤ 1) ∧ kp = kq ∧ L = Lq ∧ E = Eq) A) [.ref a0, .int x1, .ref a2].toArray s 0 0 A) (F0 m 53 ls []) := by
                intro H locs ls TH hS hl
                refine lv_iconst (v := 1) hx hb dX2_namesAll_53 (by decide) ?_
                refine lv_goto (tgt := 58) hx hb dX2_namesAll_54 (by decide) ?_
                exact hJ58 1 _ _ ls (by have : ((1 : Int32).toInt) = 1 := (by decide); omega) (by have : ((1 : Int32).toInt) = 1 := (by decide); omega)  TH hS (lv_sub hl [0, 1, 2, 3, 4, 5] rfl)
              refine lv_if_ne (tgt := 53) hx hb dX2_namesAll_34 (by decide) (fun hc37 => ?_) (fun hc37 => ?_)
              · have hf38 : ¬ (y21_4.toInt = 0) := fun q => hc37 ((fa_eq _ _).mpr (by have : ((0 : Int32).toInt) = 0 := (by decide); omega))
                exact hJ53  _ _ ls   TH hS (lv_sub hl [0, 1, 2, 3, 4, 5] rfl)
              · have hf39 : y21_4.toInt = 0 := by have z := (fa_eq _ _).mp hc37; have : ((0 : Int32).toInt) = 0 := (by decide); omega
                refine lv_aload_n hx hb dX2_namesAll_37 rfl (lv_at hl 3 rfl) ?_
                refine tw_get (ci := 2) (C := RX2) (T := TX2) (N := 13) hx hb hB cx_inX2 hown hK TH hm0 hk0 rfl ⟨by decide, rfl⟩ 10 (by decide) cw_80 (fun _ h9 => h9) dX2_namesAll_38 (fun hv => ?_)
                obtain ⟨xr40, hxr40, hmxr40, hkxr40⟩ : ∃ a : Nat, tw_fv E a0 10 = .ref a ∧ a ∈ L ∧ kp a = 133 := hv
                rw [hxr40]
                refine lv_iload hx hb dX2_namesAll_41 (lv_at hl 0 rfl) ?_
                refine tw_iald (k := 133) (t0 := 0) (n := 500) (lo := (-1)) (hi := 9) hx hb hK TH hmxr40 hkxr40 (by decide) rfl rfl (i := y21_5) (vp_in_iff.mpr ⟨by  omega, by  omega⟩) dX2_namesAll_43 (fun hxe41a hxe41b => ?_)
                generalize tw_iv E xr40 (Int32.toNatClampNeg y21_5) = xe41 at hxe41a hxe41b ⊢
                refine lv_aload_n hx hb dX2_namesAll_44 rfl (lv_at hl 5 rfl) ?_
                refine tw_get (ci := 3) (C := RX3) (T := TX3) (N := 3) hx hb hB cx_inX3 hown hK TH hm2 hk2 rfl ⟨by decide, rfl⟩ 1 (by decide) cw_180 (fun _ h9 => h9) dX2_namesAll_45 (fun hv => ?_)
                obtain ⟨xr42, hxr42, hmxr42, hkxr42⟩ : ∃ a : Nat, tw_fv E a2 1 = .ref a ∧ a ∈ L ∧ kp a = 101 := hv
                rw [hxr42]
                refine lv_iload_n hx hb dX2_namesAll_48 rfl (lv_at hl 2 rfl) ?_
                refine tw_iald (k := 101) (t0 := 0) (n := 40) (lo := 0) (hi := 9) hx hb hK TH hmxr42 hkxr42 (by decide) rfl rfl (i := y2_3) (vp_in_iff.mpr ⟨by  omega, by  omega⟩) dX2_namesAll_49 (fun hxe43a hxe43b => ?_)
                generalize tw_iv E xr42 (Int32.toNatClampNeg y2_3) = xe43 at hxe43a hxe43b ⊢
                refine lv_icmp_ne (tgt := 57) hx hb dX2_namesAll_50 (by decide) (fun hc44 => ?_) (fun hc44 => ?_)
                · have hf45 : ¬ (xe41.toInt = xe43.toInt) := fun q => hc44 ((fa_eq _ _).mpr (by  omega))
                  refine lv_iconst (v := 0) hx hb dX2_namesAll_57 (by decide) ?_
                  exact hJ58 0 _ _ ls (by have : ((0 : Int32).toInt) = 0 := (by decide); omega) (by have : ((0 : Int32).toInt) = 0 := (by decide); omega)  TH hS (lv_sub hl [0, 1, 2, 3, 4, 5] rfl)
                · have hf46 : xe41.toInt = xe43.toInt := by have z := (fa_eq _ _).mp hc44;  omega
                  exact hJ53  _ _ ls   TH hS (lv_sub hl [0, 1, 2, 3, 4, 5] rfl)
        exact hJ21 501 xe6 0 _ _ ls (by  omega) (by  omega) (by have : ((0 : Int32).toInt) = 0 := (by decide); omega) (by have : ((0 : Int32).toInt) = 0 := (by decide); omega) (by have : ((0 : Int32).toInt) = 0 := (by decide); omega)  TH hS (lv_sub hl [0, 1, 2, 3, 4, 5] rfl)
    | succ n2 ih2 =>
      intro y2_3 H locs ls hy2_3a hy2_3b hmeas TH hS hl
      refine lv_iload_n hx hb dX2_namesAll_2 rfl (lv_at hl 0 rfl) ?_
      refine lv_aload_n hx hb dX2_namesAll_3 rfl (lv_at hl 3 rfl) ?_
      refine tw_get (ci := 3) (C := RX3) (T := TX3) (N := 3) hx hb hB cx_inX3 hown hK TH hm2 hk2 rfl ⟨by decide, rfl⟩ 0 (by decide) cw_178 (fun _ h9 => h9) dX2_namesAll_4 (fun hv => ?_)
      obtain ⟨xi47, hxi47, hxi47a, hxi47b⟩ : ∃ x : Int32, tw_fv E a2 0 = .int x ∧ 0 ≤ x.toInt ∧ x.toInt ≤ 40 := hv
      rw [hxi47]
      refine lv_icmp_ge (tgt := 79) hx hb dX2_namesAll_7 (by decide) (fun hc48 => ?_) (fun hc48 => ?_)
      · have hf49 : xi47.toInt ≤ y2_3.toInt := by have z := (fa_le _ _).mp hc48;  omega
        refine lv_iconst (v := 1) hx hb dX2_namesAll_79 (by decide) ?_
        exact tw_zret hx hb hr hlocks (by decide) TH hS hex ⟨⟨_, rfl, (show 0 ≤ Int32.toInt 1 from by have : ((1 : Int32).toInt) = 1 := (by decide); omega), (show Int32.toInt 1 ≤ 1 from by have : ((1 : Int32).toInt) = 1 := (by decide); omega)⟩, rfl, rfl, rfl⟩ (Nat.le_of_ble_eq_true rfl) (Nat.le_of_ble_eq_true rfl) dX2_namesAll_80
      · have hf50 : ¬ (xi47.toInt ≤ y2_3.toInt) := fun q => hc48 ((fa_le _ _).mpr (by  omega))
        refine lv_iconst (v := 0) hx hb dX2_namesAll_10 (by decide) ?_
        refine lv_istore (lv' := [(4, .int 0), (3, .int y2_3), (0, .ref a0), (1, .int x1), (2, .ref a2)]) hx hb dX2_namesAll_11 hl (by decide) rfl (fun ls hl => ?_)
        refine lv_aload_n hx hb dX2_namesAll_13 rfl (lv_at hl 2 rfl) ?_
        refine tw_get (ci := 2) (C := RX2) (T := TX2) (N := 13) hx hb hB cx_inX2 hown hK TH hm0 hk0 rfl ⟨by decide, rfl⟩ 5 (by decide) cw_75 (fun _ h9 => h9) dX2_namesAll_14 (fun hv => ?_)
        obtain ⟨xr51, hxr51, hmxr51, hkxr51⟩ : ∃ a : Nat, tw_fv E a0 5 = .ref a ∧ a ∈ L ∧ kp a = 130 := hv
        rw [hxr51]
        refine lv_iload_n hx hb dX2_namesAll_17 rfl (lv_at hl 3 rfl) ?_
        refine tw_iald (k := 130) (t0 := 0) (n := 10) (lo := 0) (hi := 500) hx hb hK TH hmxr51 hkxr51 (by decide) rfl rfl (i := x1) (vp_in_iff.mpr ⟨by  omega, by  omega⟩) dX2_namesAll_18 (fun hxe52a hxe52b => ?_)
        generalize tw_iv E xr51 (Int32.toNatClampNeg x1) = xe52 at hxe52a hxe52b ⊢
        refine lv_istore (lv' := [(5, .int xe52), (4, .int 0), (3, .int y2_3), (0, .ref a0), (1, .int x1), (2, .ref a2)]) hx hb dX2_namesAll_19 hl (by decide) rfl (fun ls hl => ?_)
        have hJ21 : ∀ (n : Nat) (y21_5 : Int32) (y21_4 : Int32) (H : Heap) (locs : List Loc) (ls : Array Slot), 0 ≤ y21_5.toInt → y21_5.toInt ≤ 500 → 0 ≤ y21_4.toInt → y21_4.toInt ≤ 1 → 500 - y21_5.toInt ≤ (n : Int) → tw_H D cs kp L E A H → va_S A s.heap H locs → lv_has ls 6 [(5, .int y21_5), (4, .int y21_4), (3, .int y2_3), (0, .ref a0), (1, .int x1), (2, .ref a2)] → W p l e { frames := 0, cells := 0, slots := 0, locals := 0 } s m [.ref a0, .int x1, .ref a2].toArray below meth c H locs 0 0 (MQ below (tw_Q D cs kp0 L0 (fun v kq Lq Eq => (∃ x : Int32, v = some (.int x) ∧ 0 ≤ x.toInt ∧ x.toInt ≤ 1) ∧ kp = kq ∧ L = Lq ∧ E = Eq) A) [.ref a0, .int x1, .ref a2].toArray s 0 0 A) (F0 m 21 ls []) := by
          intro n21
          induction n21 with
          | zero =>
            intro y21_5 y21_4 H locs ls hy21_5a hy21_5b hy21_4a hy21_4b hmeas TH hS hl
            refine lv_iload hx hb dX2_namesAll_21 (lv_at hl 0 rfl) ?_
            refine lv_aload_n hx hb dX2_namesAll_23 rfl (lv_at hl 3 rfl) ?_
            refine tw_get (ci := 2) (C := RX2) (T := TX2) (N := 13) hx hb hB cx_inX2 hown hK TH hm0 hk0 rfl ⟨by decide, rfl⟩ 6 (by decide) cw_76 (fun _ h9 => h9) dX2_namesAll_24 (fun hv => ?_)
            obtain ⟨xr53, hxr53, hmxr53, hkxr53⟩ : ∃ a : Nat, tw_fv E a0 6 = .ref a ∧ a ∈ L ∧ kp a = 130 := hv
            rw [hxr53]
            refine lv_iload_n hx hb dX2_namesAll_27 rfl (lv_at hl 4 rfl) ?_
            refine tw_iald (k := 130) (t0 := 0) (n := 10) (lo := 0) (hi := 500) hx hb hK TH hmxr53 hkxr53 (by decide) rfl rfl (i := x1) (vp_in_iff.mpr ⟨by  omega, by  omega⟩) dX2_namesAll_28 (fun hxe54a hxe54b => ?_)
            generalize tw_iv E xr53 (Int32.toNatClampNeg x1) = xe54 at hxe54a hxe54b ⊢
            refine lv_icmp_ge (tgt := 66) hx hb dX2_namesAll_29 (by decide) (fun hc55 => ?_) (fun hc55 => ?_)
            · have hf56 : xe54.toInt ≤ y21_5.toInt := by have z := (fa_le _ _).mp hc55;  omega
              refine lv_iload hx hb dX2_namesAll_66 (lv_at hl 1 rfl) ?_
              refine lv_if_ne (tgt := 73) hx hb dX2_namesAll_68 (by decide) (fun hc57 => ?_) (fun hc57 => ?_)
              · have hf58 : ¬ (y21_4.toInt = 0) := fun q => hc57 ((fa_eq _ _).mpr (by have : ((0 : Int32).toInt) = 0 := (by decide); omega))
                obtain ⟨zi59, ezi59⟩ : ∃ z : Int32, z = y2_3 + Int32.ofInt 1 := ⟨_, rfl⟩
                have hzi59 : zi59.toInt = y2_3.toInt + 1 := by rw [ezi59]; have : ((Int32.ofInt 1).toInt) = 1 := (by decide);  exact (ia_add (by omega) (by omega)).trans (by omega)
                refine lv_iinc (v := zi59) (lv' := [(3, .int zi59), (5, .int y21_5), (4, .int y21_4), (0, .ref a0), (1, .int x1), (2, .ref a2)]) hx hb dX2_namesAll_73 hl (k := 2) rfl ezi59.symm (by decide) rfl (fun ls hl => ?_)
                refine lv_goto (tgt := 2) hx hb dX2_namesAll_76 (by decide) ?_
                exact ih2 zi59 _ _ ls (by  omega) (by  omega) (by  omega)  TH hS (lv_sub hl [0, 3, 4, 5] rfl)
              · have hf60 : y21_4.toInt = 0 := by have z := (fa_eq _ _).mp hc57; have : ((0 : Int32).toInt) = 0 := (by decide); omega
                refine lv_iconst (v := 0) hx hb dX2_namesAll_71 (by decide) ?_
                exact tw_zret hx hb hr hlocks (by decide) TH hS hex ⟨⟨_, rfl, (show 0 ≤ Int32.toInt 0 from by have : ((0 : Int32).toInt) = 0 := (by decide); omega), (show Int32.toInt 0 ≤ 1 from by have : ((0 : Int32).toInt) = 0 := (by decide); omega)⟩, rfl, rfl, rfl⟩ (Nat.le_of_ble_eq_true rfl) (Nat.le_of_ble_eq_true rfl) dX2_namesAll_72
            · have hf61 : ¬ (xe54.toInt ≤ y21_5.toInt) := fun q => hc55 ((fa_le _ _).mpr (by  omega))
              refine lv_iload hx hb dX2_namesAll_32 (lv_at hl 1 rfl) ?_
              have hJ58 : ∀ (z58_0 : Int32) (H : Heap) (locs : List Loc) (ls : Array Slot), 0 ≤ z58_0.toInt → z58_0.toInt ≤ 1 → tw_H D cs kp L E A H → va_S A s.heap H locs → lv_has ls 6 [(5, .int y21_5), (4, .int y21_4), (3, .int y2_3), (0, .ref a0), (1, .int x1), (2, .ref a2)] → W p l e { frames := 0, cells := 0, slots := 0, locals := 0 } s m [.ref a0, .int x1, .ref a2].toArray below meth c H locs 0 0 (MQ below (tw_Q D cs kp0 L0 (fun v kq Lq Eq => (∃ x : Int32, v = some (.int x) ∧ 0 ≤ x.toInt ∧ x.toInt ≤ 1) ∧ kp = kq ∧ L = Lq ∧ E = Eq) A) [.ref a0, .int x1, .ref a2].toArray s 0 0 A) (F0 m 58 ls [.int z58_0]) := by
                intro z58_0 H locs ls hz58_0a hz58_0b TH hS hl
                refine lv_istore (lv' := [(4, .int z58_0), (5, .int y21_5), (3, .int y2_3), (0, .ref a0), (1, .int x1), (2, .ref a2)]) hx hb dX2_namesAll_58 hl (by decide) rfl (fun ls hl => ?_)
                obtain ⟨zi62, ezi62⟩ : ∃ z : Int32, z = y21_5 + Int32.ofInt 1 := ⟨_, rfl⟩
                have hzi62 : zi62.toInt = y21_5.toInt + 1 := by rw [ezi62]; have : ((Int32.ofInt 1).toInt) = 1 := (by decide);  exact (ia_add (by omega) (by omega)).trans (by omega)
                refine lv_iinc (v := zi62) (lv' := [(5, .int zi62), (4, .int z58_0), (3, .int y2_3), (0, .ref a0), (1, .int x1), (2, .ref a2)]) hx hb dX2_namesAll_60 hl (k := 1) rfl ezi62.symm (by decide) rfl (fun ls hl => ?_)
                refine lv_goto (tgt := 21) hx hb dX2_namesAll_63 (by decide) ?_
                exfalso; omega
              have hJ53 : ∀  (H : Heap) (locs : List Loc) (ls : Array Slot), tw_H D cs kp L E A H → va_S A s.heap H locs → lv_has ls 6 [(5, .int y21_5), (4, .int y21_4), (3, .int y2_3), (0, .ref a0), (1, .int x1), (2, .ref a2)] → W p l e { frames := 0, cells := 0, slots := 0, locals := 0 } s m [.ref a0, .int x1, .ref a2].toArray below meth c H locs 0 0 (MQ below (tw_Q D cs kp0 L0 (fun v kq Lq Eq => (∃ x : Int32, v = some (.int x) ∧ 0 ≤ x.toInt ∧ x.toInt ≤ 1) ∧ kp = kq ∧ L = Lq ∧ E = Eq) A) [.ref a0, .int x1, .ref a2].toArray s 0 0 A) (F0 m 53 ls []) := by
                intro H locs ls TH hS hl
                refine lv_iconst (v := 1) hx hb dX2_namesAll_53 (by decide) ?_
                refine lv_goto (tgt := 58) hx hb dX2_namesAll_54 (by decide) ?_
                exact hJ58 1 _ _ ls (by have : ((1 : Int32).toInt) = 1 := (by decide); omega) (by have : ((1 : Int32).toInt) = 1 := (by decide); omega)  TH hS (lv_sub hl [0, 1, 2, 3, 4, 5] rfl)
              refine lv_if_ne (tgt := 53) hx hb dX2_namesAll_34 (by decide) (fun hc63 => ?_) (fun hc63 => ?_)
              · have hf64 : ¬ (y21_4.toInt = 0) := fun q => hc63 ((fa_eq _ _).mpr (by have : ((0 : Int32).toInt) = 0 := (by decide); omega))
                exact hJ53  _ _ ls   TH hS (lv_sub hl [0, 1, 2, 3, 4, 5] rfl)
              · have hf65 : y21_4.toInt = 0 := by have z := (fa_eq _ _).mp hc63; have : ((0 : Int32).toInt) = 0 := (by decide); omega
                refine lv_aload_n hx hb dX2_namesAll_37 rfl (lv_at hl 3 rfl) ?_
                refine tw_get (ci := 2) (C := RX2) (T := TX2) (N := 13) hx hb hB cx_inX2 hown hK TH hm0 hk0 rfl ⟨by decide, rfl⟩ 10 (by decide) cw_80 (fun _ h9 => h9) dX2_namesAll_38 (fun hv => ?_)
                obtain ⟨xr66, hxr66, hmxr66, hkxr66⟩ : ∃ a : Nat, tw_fv E a0 10 = .ref a ∧ a ∈ L ∧ kp a = 133 := hv
                rw [hxr66]
                refine lv_iload hx hb dX2_namesAll_41 (lv_at hl 0 rfl) ?_
                refine tw_iald (k := 133) (t0 := 0) (n := 500) (lo := (-1)) (hi := 9) hx hb hK TH hmxr66 hkxr66 (by decide) rfl rfl (i := y21_5) (vp_in_iff.mpr ⟨by  omega, by  omega⟩) dX2_namesAll_43 (fun hxe67a hxe67b => ?_)
                generalize tw_iv E xr66 (Int32.toNatClampNeg y21_5) = xe67 at hxe67a hxe67b ⊢
                refine lv_aload_n hx hb dX2_namesAll_44 rfl (lv_at hl 5 rfl) ?_
                refine tw_get (ci := 3) (C := RX3) (T := TX3) (N := 3) hx hb hB cx_inX3 hown hK TH hm2 hk2 rfl ⟨by decide, rfl⟩ 1 (by decide) cw_180 (fun _ h9 => h9) dX2_namesAll_45 (fun hv => ?_)
                obtain ⟨xr68, hxr68, hmxr68, hkxr68⟩ : ∃ a : Nat, tw_fv E a2 1 = .ref a ∧ a ∈ L ∧ kp a = 101 := hv
                rw [hxr68]
                refine lv_iload_n hx hb dX2_namesAll_48 rfl (lv_at hl 2 rfl) ?_
                refine tw_iald (k := 101) (t0 := 0) (n := 40) (lo := 0) (hi := 9) hx hb hK TH hmxr68 hkxr68 (by decide) rfl rfl (i := y2_3) (vp_in_iff.mpr ⟨by  omega, by  omega⟩) dX2_namesAll_49 (fun hxe69a hxe69b => ?_)
                generalize tw_iv E xr68 (Int32.toNatClampNeg y2_3) = xe69 at hxe69a hxe69b ⊢
                refine lv_icmp_ne (tgt := 57) hx hb dX2_namesAll_50 (by decide) (fun hc70 => ?_) (fun hc70 => ?_)
                · have hf71 : ¬ (xe67.toInt = xe69.toInt) := fun q => hc70 ((fa_eq _ _).mpr (by  omega))
                  refine lv_iconst (v := 0) hx hb dX2_namesAll_57 (by decide) ?_
                  exact hJ58 0 _ _ ls (by have : ((0 : Int32).toInt) = 0 := (by decide); omega) (by have : ((0 : Int32).toInt) = 0 := (by decide); omega)  TH hS (lv_sub hl [0, 1, 2, 3, 4, 5] rfl)
                · have hf72 : xe67.toInt = xe69.toInt := by have z := (fa_eq _ _).mp hc70;  omega
                  exact hJ53  _ _ ls   TH hS (lv_sub hl [0, 1, 2, 3, 4, 5] rfl)
          | succ n21 ih21 =>
            intro y21_5 y21_4 H locs ls hy21_5a hy21_5b hy21_4a hy21_4b hmeas TH hS hl
            refine lv_iload hx hb dX2_namesAll_21 (lv_at hl 0 rfl) ?_
            refine lv_aload_n hx hb dX2_namesAll_23 rfl (lv_at hl 3 rfl) ?_
            refine tw_get (ci := 2) (C := RX2) (T := TX2) (N := 13) hx hb hB cx_inX2 hown hK TH hm0 hk0 rfl ⟨by decide, rfl⟩ 6 (by decide) cw_76 (fun _ h9 => h9) dX2_namesAll_24 (fun hv => ?_)
            obtain ⟨xr73, hxr73, hmxr73, hkxr73⟩ : ∃ a : Nat, tw_fv E a0 6 = .ref a ∧ a ∈ L ∧ kp a = 130 := hv
            rw [hxr73]
            refine lv_iload_n hx hb dX2_namesAll_27 rfl (lv_at hl 4 rfl) ?_
            refine tw_iald (k := 130) (t0 := 0) (n := 10) (lo := 0) (hi := 500) hx hb hK TH hmxr73 hkxr73 (by decide) rfl rfl (i := x1) (vp_in_iff.mpr ⟨by  omega, by  omega⟩) dX2_namesAll_28 (fun hxe74a hxe74b => ?_)
            generalize tw_iv E xr73 (Int32.toNatClampNeg x1) = xe74 at hxe74a hxe74b ⊢
            refine lv_icmp_ge (tgt := 66) hx hb dX2_namesAll_29 (by decide) (fun hc75 => ?_) (fun hc75 => ?_)
            · have hf76 : xe74.toInt ≤ y21_5.toInt := by have z := (fa_le _ _).mp hc75;  omega
              refine lv_iload hx hb dX2_namesAll_66 (lv_at hl 1 rfl) ?_
              refine lv_if_ne (tgt := 73) hx hb dX2_namesAll_68 (by decide) (fun hc77 => ?_) (fun hc77 => ?_)
              · have hf78 : ¬ (y21_4.toInt = 0) := fun q => hc77 ((fa_eq _ _).mpr (by have : ((0 : Int32).toInt) = 0 := (by decide); omega))
                obtain ⟨zi79, ezi79⟩ : ∃ z : Int32, z = y2_3 + Int32.ofInt 1 := ⟨_, rfl⟩
                have hzi79 : zi79.toInt = y2_3.toInt + 1 := by rw [ezi79]; have : ((Int32.ofInt 1).toInt) = 1 := (by decide);  exact (ia_add (by omega) (by omega)).trans (by omega)
                refine lv_iinc (v := zi79) (lv' := [(3, .int zi79), (5, .int y21_5), (4, .int y21_4), (0, .ref a0), (1, .int x1), (2, .ref a2)]) hx hb dX2_namesAll_73 hl (k := 2) rfl ezi79.symm (by decide) rfl (fun ls hl => ?_)
                refine lv_goto (tgt := 2) hx hb dX2_namesAll_76 (by decide) ?_
                exact ih2 zi79 _ _ ls (by  omega) (by  omega) (by  omega)  TH hS (lv_sub hl [0, 3, 4, 5] rfl)
              · have hf80 : y21_4.toInt = 0 := by have z := (fa_eq _ _).mp hc77; have : ((0 : Int32).toInt) = 0 := (by decide); omega
                refine lv_iconst (v := 0) hx hb dX2_namesAll_71 (by decide) ?_
                exact tw_zret hx hb hr hlocks (by decide) TH hS hex ⟨⟨_, rfl, (show 0 ≤ Int32.toInt 0 from by have : ((0 : Int32).toInt) = 0 := (by decide); omega), (show Int32.toInt 0 ≤ 1 from by have : ((0 : Int32).toInt) = 0 := (by decide); omega)⟩, rfl, rfl, rfl⟩ (Nat.le_of_ble_eq_true rfl) (Nat.le_of_ble_eq_true rfl) dX2_namesAll_72
            · have hf81 : ¬ (xe74.toInt ≤ y21_5.toInt) := fun q => hc75 ((fa_le _ _).mpr (by  omega))
              refine lv_iload hx hb dX2_namesAll_32 (lv_at hl 1 rfl) ?_
              have hJ58 : ∀ (z58_0 : Int32) (H : Heap) (locs : List Loc) (ls : Array Slot), 0 ≤ z58_0.toInt → z58_0.toInt ≤ 1 → tw_H D cs kp L E A H → va_S A s.heap H locs → lv_has ls 6 [(5, .int y21_5), (4, .int y21_4), (3, .int y2_3), (0, .ref a0), (1, .int x1), (2, .ref a2)] → W p l e { frames := 0, cells := 0, slots := 0, locals := 0 } s m [.ref a0, .int x1, .ref a2].toArray below meth c H locs 0 0 (MQ below (tw_Q D cs kp0 L0 (fun v kq Lq Eq => (∃ x : Int32, v = some (.int x) ∧ 0 ≤ x.toInt ∧ x.toInt ≤ 1) ∧ kp = kq ∧ L = Lq ∧ E = Eq) A) [.ref a0, .int x1, .ref a2].toArray s 0 0 A) (F0 m 58 ls [.int z58_0]) := by
                intro z58_0 H locs ls hz58_0a hz58_0b TH hS hl
                refine lv_istore (lv' := [(4, .int z58_0), (5, .int y21_5), (3, .int y2_3), (0, .ref a0), (1, .int x1), (2, .ref a2)]) hx hb dX2_namesAll_58 hl (by decide) rfl (fun ls hl => ?_)
                obtain ⟨zi82, ezi82⟩ : ∃ z : Int32, z = y21_5 + Int32.ofInt 1 := ⟨_, rfl⟩
                have hzi82 : zi82.toInt = y21_5.toInt + 1 := by rw [ezi82]; have : ((Int32.ofInt 1).toInt) = 1 := (by decide);  exact (ia_add (by omega) (by omega)).trans (by omega)
                refine lv_iinc (v := zi82) (lv' := [(5, .int zi82), (4, .int z58_0), (3, .int y2_3), (0, .ref a0), (1, .int x1), (2, .ref a2)]) hx hb dX2_namesAll_60 hl (k := 1) rfl ezi82.symm (by decide) rfl (fun ls hl => ?_)
                refine lv_goto (tgt := 21) hx hb dX2_namesAll_63 (by decide) ?_
                exact ih21 zi82 z58_0 _ _ ls (by  omega) (by  omega) (by  omega) (by  omega) (by  omega)  TH hS (lv_sub hl [0, 1, 2, 3, 4, 5] rfl)
              have hJ53 : ∀  (H : Heap) (locs : List Loc) (ls : Array Slot), tw_H D cs kp L E A H → va_S A s.heap H locs → lv_has ls 6 [(5, .int y21_5), (4, .int y21_4), (3, .int y2_3), (0, .ref a0), (1, .int x1), (2, .ref a2)] → W p l e { frames := 0, cells := 0, slots := 0, locals := 0 } s m [.ref a0, .int x1, .ref a2].toArray below meth c H locs 0 0 (MQ below (tw_Q D cs kp0 L0 (fun v kq Lq Eq => (∃ x : Int32, v = some (.int x) ∧ 0 ≤ x.toInt ∧ x.toInt ≤ 1) ∧ kp = kq ∧ L = Lq ∧ E = Eq) A) [.ref a0, .int x1, .ref a2].toArray s 0 0 A) (F0 m 53 ls []) := by
                intro H locs ls TH hS hl
                refine lv_iconst (v := 1) hx hb dX2_namesAll_53 (by decide) ?_
                refine lv_goto (tgt := 58) hx hb dX2_namesAll_54 (by decide) ?_
                exact hJ58 1 _ _ ls (by have : ((1 : Int32).toInt) = 1 := (by decide); omega) (by have : ((1 : Int32).toInt) = 1 := (by decide); omega)  TH hS (lv_sub hl [0, 1, 2, 3, 4, 5] rfl)
              refine lv_if_ne (tgt := 53) hx hb dX2_namesAll_34 (by decide) (fun hc83 => ?_) (fun hc83 => ?_)
              · have hf84 : ¬ (y21_4.toInt = 0) := fun q => hc83 ((fa_eq _ _).mpr (by have : ((0 : Int32).toInt) = 0 := (by decide); omega))
                exact hJ53  _ _ ls   TH hS (lv_sub hl [0, 1, 2, 3, 4, 5] rfl)
              · have hf85 : y21_4.toInt = 0 := by have z := (fa_eq _ _).mp hc83; have : ((0 : Int32).toInt) = 0 := (by decide); omega
                refine lv_aload_n hx hb dX2_namesAll_37 rfl (lv_at hl 3 rfl) ?_
                refine tw_get (ci := 2) (C := RX2) (T := TX2) (N := 13) hx hb hB cx_inX2 hown hK TH hm0 hk0 rfl ⟨by decide, rfl⟩ 10 (by decide) cw_80 (fun _ h9 => h9) dX2_namesAll_38 (fun hv => ?_)
                obtain ⟨xr86, hxr86, hmxr86, hkxr86⟩ : ∃ a : Nat, tw_fv E a0 10 = .ref a ∧ a ∈ L ∧ kp a = 133 := hv
                rw [hxr86]
                refine lv_iload hx hb dX2_namesAll_41 (lv_at hl 0 rfl) ?_
                refine tw_iald (k := 133) (t0 := 0) (n := 500) (lo := (-1)) (hi := 9) hx hb hK TH hmxr86 hkxr86 (by decide) rfl rfl (i := y21_5) (vp_in_iff.mpr ⟨by  omega, by  omega⟩) dX2_namesAll_43 (fun hxe87a hxe87b => ?_)
                generalize tw_iv E xr86 (Int32.toNatClampNeg y21_5) = xe87 at hxe87a hxe87b ⊢
                refine lv_aload_n hx hb dX2_namesAll_44 rfl (lv_at hl 5 rfl) ?_
                refine tw_get (ci := 3) (C := RX3) (T := TX3) (N := 3) hx hb hB cx_inX3 hown hK TH hm2 hk2 rfl ⟨by decide, rfl⟩ 1 (by decide) cw_180 (fun _ h9 => h9) dX2_namesAll_45 (fun hv => ?_)
                obtain ⟨xr88, hxr88, hmxr88, hkxr88⟩ : ∃ a : Nat, tw_fv E a2 1 = .ref a ∧ a ∈ L ∧ kp a = 101 := hv
                rw [hxr88]
                refine lv_iload_n hx hb dX2_namesAll_48 rfl (lv_at hl 2 rfl) ?_
                refine tw_iald (k := 101) (t0 := 0) (n := 40) (lo := 0) (hi := 9) hx hb hK TH hmxr88 hkxr88 (by decide) rfl rfl (i := y2_3) (vp_in_iff.mpr ⟨by  omega, by  omega⟩) dX2_namesAll_49 (fun hxe89a hxe89b => ?_)
                generalize tw_iv E xr88 (Int32.toNatClampNeg y2_3) = xe89 at hxe89a hxe89b ⊢
                refine lv_icmp_ne (tgt := 57) hx hb dX2_namesAll_50 (by decide) (fun hc90 => ?_) (fun hc90 => ?_)
                · have hf91 : ¬ (xe87.toInt = xe89.toInt) := fun q => hc90 ((fa_eq _ _).mpr (by  omega))
                  refine lv_iconst (v := 0) hx hb dX2_namesAll_57 (by decide) ?_
                  exact hJ58 0 _ _ ls (by have : ((0 : Int32).toInt) = 0 := (by decide); omega) (by have : ((0 : Int32).toInt) = 0 := (by decide); omega)  TH hS (lv_sub hl [0, 1, 2, 3, 4, 5] rfl)
                · have hf92 : xe87.toInt = xe89.toInt := by have z := (fa_eq _ _).mp hc90;  omega
                  exact hJ53  _ _ ls   TH hS (lv_sub hl [0, 1, 2, 3, 4, 5] rfl)
        exact hJ21 501 xe52 0 _ _ ls (by  omega) (by  omega) (by have : ((0 : Int32).toInt) = 0 := (by decide); omega) (by have : ((0 : Int32).toInt) = 0 := (by decide); omega) (by have : ((0 : Int32).toInt) = 0 := (by decide); omega)  TH hS (lv_sub hl [0, 1, 2, 3, 4, 5] rfl)
  exact hJ2 41 0 _ _ ls (by have : ((0 : Int32).toInt) = 0 := (by decide); omega) (by have : ((0 : Int32).toInt) = 0 := (by decide); omega) (by have : ((0 : Int32).toInt) = 0 := (by decide); omega)  TH hS (lv_sub hl [0, 1, 2, 3] rfl)
set_option maxHeartbeats 4000000 in
set_option maxRecDepth 100000 in
theorem tX10_isWithin (l : Launch) (D : va_G) (cs : Nat → ClassId) {kp : Nat → Nat} {L : List Nat} {E : Nat → va_E} (a0 : Nat) (x1 : Int32) (x2 : Int32) (hm0 : a0 ∈ L) (hk0 : kp a0 = 10) (hp1a : 0 ≤ x1.toInt) (hp1b : x1.toInt ≤ 39) (hp2a : 0 ≤ x2.toInt) (hp2b : x2.toInt ≤ 39) (sz : Nat) : Met l yX10_isWithin (.code yX10_isWithin cX10_isWithin 3 (some .boolean) :: cx_big) { frames := 1, cells := 0, slots := 0, locals := 22 } (tw_P D cs kp L E [.ref a0, .int x1, .int x2] sz) (tw_Q D cs kp L (fun v kq Lq Eq => (∃ x : Int32, v = some (.int x) ∧ 0 ≤ x.toInt ∧ x.toInt ≤ 1) ∧ kp = kq ∧ L = Lq ∧ E = Eq) (va_A (va_pl L E) sz)) 0 0 (va_A (va_pl L E) sz) := by
  refine tw_ofW (by decide) (Nat.le_of_ble_eq_true rfl) ?_
  intro p e s m below meth c A ls hx hb hr hml hB hown hlocks hK hN hA TH hS hl
  have hown : s.vm.findClass "TreeMerge$Tree" = some m.cls := hown
  have hl : lv_has ls 3 [(0, .ref a0), (1, .int x1), (2, .int x2)] := hl
  obtain ⟨kp0, ekp⟩ : ∃ z, z = kp := ⟨_, rfl⟩
  obtain ⟨L0, eL⟩ : ∃ z, z = L := ⟨_, rfl⟩
  rw [show tw_Q D cs kp L = tw_Q D cs kp0 L0 by rw [ekp, eL]]
  have hex : ∀ a : Nat, a ∈ L0 → a ∈ L ∧ kp a = kp0 a := fun a h => ⟨by rw [← eL]; exact h, by rw [ekp]⟩
  refine lv_iload_n hx hb dX10_isWithin_0 rfl (lv_at hl 1 rfl) ?_
  refine lv_iload_n hx hb dX10_isWithin_1 rfl (lv_at hl 2 rfl) ?_
  refine lv_icmp_lt (tgt := 20) hx hb dX10_isWithin_2 (by decide) (fun hc1 => ?_) (fun hc1 => ?_)
  · have hf2 : x1.toInt < x2.toInt := by have z := (fa_lt _ _).mp hc1;  omega
    refine lv_iconst (v := 0) hx hb dX10_isWithin_20 (by decide) ?_
    exact tw_zret hx hb hr hlocks (by decide) TH hS hex ⟨⟨_, rfl, (show 0 ≤ Int32.toInt 0 from by have : ((0 : Int32).toInt) = 0 := (by decide); omega), (show Int32.toInt 0 ≤ 1 from by have : ((0 : Int32).toInt) = 0 := (by decide); omega)⟩, rfl, rfl, rfl⟩ (Nat.le_of_ble_eq_true rfl) (Nat.le_of_ble_eq_true rfl) dX10_isWithin_21
  · have hf3 : ¬ (x1.toInt < x2.toInt) := fun q => hc1 ((fa_lt _ _).mpr (by  omega))
    refine lv_iload_n hx hb dX10_isWithin_5 rfl (lv_at hl 1 rfl) ?_
    refine lv_iload_n hx hb dX10_isWithin_6 rfl (lv_at hl 2 rfl) ?_
    refine lv_aload_n hx hb dX10_isWithin_7 rfl (lv_at hl 0 rfl) ?_
    refine lv_iload_n hx hb dX10_isWithin_8 rfl (lv_at hl 2 rfl) ?_
    refine tw_Vc (o := a0) (ci := 10) (n := 1) (post := (fun v kq Lq Eq => (∃ x : Int32, v = some (.int x) ∧ (-38) ≤ x.toInt ∧ x.toInt ≤ 40) ∧ kp = kq ∧ L = Lq ∧ E = Eq)) (As := [.int x2]) (rest := [.int x2, .int x1]) ⟨hx, hb, hml, hown, hB⟩ (fun sz => tX10_extent l D cs a0 x2 hm0 hk0 (by  omega) (by  omega) sz) cg_10_96_X10_extent rfl rfl (by decide +kernel) ⟨Nat.le_of_ble_eq_true rfl, Nat.le_of_ble_eq_true rfl⟩ hK hN TH hS hA rfl hm0 hk0 (by decide) rfl hl.1 rfl (Nat.le_of_ble_eq_true rfl) dX10_isWithin_9 ⟨Nat.le_of_ble_eq_true rfl, Nat.le_of_ble_eq_true rfl⟩ (fun v4 kp4 L4 E4 H locs hq4 hx4 TH hS => ?_)
    obtain ⟨⟨xc5, rfl, hxc5a, hxc5b⟩, rfl, rfl, rfl⟩ := hq4
    refine W.eq (g2 := F0 m 12 ls [.int xc5, .int x2, .int x1]) rfl ?_
    refine lv_iadd hx hb dX10_isWithin_12 ?_
    refine lv_topi (fun zi6 ezi6 => ?_)
    have hzi6 : zi6.toInt = x2.toInt + xc5.toInt := by rw [ezi6];  exact (ia_add (by omega) (by omega)).trans (by omega)
    refine lv_icmp_ge (tgt := 20) hx hb dX10_isWithin_13 (by decide) (fun hc7 => ?_) (fun hc7 => ?_)
    · have hf8 : zi6.toInt ≤ x1.toInt := by have z := (fa_le _ _).mp hc7;  omega
      refine lv_iconst (v := 0) hx hb dX10_isWithin_20 (by decide) ?_
      exact tw_zret hx hb hr hlocks (by decide) TH hS hex ⟨⟨_, rfl, (show 0 ≤ Int32.toInt 0 from by have : ((0 : Int32).toInt) = 0 := (by decide); omega), (show Int32.toInt 0 ≤ 1 from by have : ((0 : Int32).toInt) = 0 := (by decide); omega)⟩, rfl, rfl, rfl⟩ (Nat.le_of_ble_eq_true rfl) (Nat.le_of_ble_eq_true rfl) dX10_isWithin_21
    · have hf9 : ¬ (zi6.toInt ≤ x1.toInt) := fun q => hc7 ((fa_le _ _).mpr (by  omega))
      refine lv_iconst (v := 1) hx hb dX10_isWithin_16 (by decide) ?_
      refine lv_goto (tgt := 21) hx hb dX10_isWithin_17 (by decide) ?_
      exact tw_zret hx hb hr hlocks (by decide) TH hS hex ⟨⟨_, rfl, (show 0 ≤ Int32.toInt 1 from by have : ((1 : Int32).toInt) = 1 := (by decide); omega), (show Int32.toInt 1 ≤ 1 from by have : ((1 : Int32).toInt) = 1 := (by decide); omega)⟩, rfl, rfl, rfl⟩ (Nat.le_of_ble_eq_true rfl) (Nat.le_of_ble_eq_true rfl) dX10_isWithin_21
set_option maxHeartbeats 4000000 in
set_option maxRecDepth 100000 in
theorem tX1_has (l : Launch) (D : va_G) (cs : Nat → ClassId) {kp : Nat → Nat} {L : List Nat} {E : Nat → va_E} (a0 : Nat) (x1 : Int32) (hm0 : a0 ∈ L) (hk0 : kp a0 = 1) (sz : Nat) : Met l yX1_has (.code yX1_has cX1_has 2 (some .boolean) :: cx_big) { frames := 0, cells := 0, slots := 0, locals := 0 } (tw_P D cs kp L E [.ref a0, .int x1] sz) (tw_Q D cs kp L (fun v kq Lq Eq => (∃ x : Int32, v = some (.int x) ∧ 0 ≤ x.toInt ∧ x.toInt ≤ 1 ∧ (x.toInt ≠ 0 → 0 ≤ x1.toInt ∧ x1.toInt ≤ 11)) ∧ kp = kq ∧ L = Lq ∧ E = Eq) (va_A (va_pl L E) sz)) 0 0 (va_A (va_pl L E) sz) := by
  refine tw_ofW (by decide) (Nat.le_of_ble_eq_true rfl) ?_
  intro p e s m below meth c A ls hx hb hr hml hB hown hlocks hK hN hA TH hS hl
  have hown : s.vm.findClass "TreeMerge$Editions" = some m.cls := hown
  have hl : lv_has ls 2 [(0, .ref a0), (1, .int x1)] := hl
  obtain ⟨kp0, ekp⟩ : ∃ z, z = kp := ⟨_, rfl⟩
  obtain ⟨L0, eL⟩ : ∃ z, z = L := ⟨_, rfl⟩
  rw [show tw_Q D cs kp L = tw_Q D cs kp0 L0 by rw [ekp, eL]]
  have hex : ∀ a : Nat, a ∈ L0 → a ∈ L ∧ kp a = kp0 a := fun a h => ⟨by rw [← eL]; exact h, by rw [ekp]⟩
  refine lv_iload_n hx hb dX1_has_0 rfl (lv_at hl 1 rfl) ?_
  refine lv_if_lt (tgt := 16) hx hb dX1_has_1 (by decide) (fun hc1 => ?_) (fun hc1 => ?_)
  · have hf2 : x1.toInt < 0 := by have z := (fa_lt _ _).mp hc1; have : ((0 : Int32).toInt) = 0 := (by decide); omega
    refine lv_iconst (v := 0) hx hb dX1_has_16 (by decide) ?_
    exact tw_zret hx hb hr hlocks (by decide) TH hS hex ⟨⟨_, rfl, (show 0 ≤ Int32.toInt 0 from by have : ((0 : Int32).toInt) = 0 := (by decide); omega), (show Int32.toInt 0 ≤ 1 from by have : ((0 : Int32).toInt) = 0 := (by decide); omega), (fun h => ⟨by have : ((0 : Int32).toInt) = 0 := (by decide); omega, by have : ((0 : Int32).toInt) = 0 := (by decide); omega⟩)⟩, rfl, rfl, rfl⟩ (Nat.le_of_ble_eq_true rfl) (Nat.le_of_ble_eq_true rfl) dX1_has_17
  · have hf3 : ¬ (x1.toInt < 0) := fun q => hc1 ((fa_lt _ _).mpr (by have : ((0 : Int32).toInt) = 0 := (by decide); omega))
    refine lv_iload_n hx hb dX1_has_4 rfl (lv_at hl 1 rfl) ?_
    refine lv_aload_n hx hb dX1_has_5 rfl (lv_at hl 0 rfl) ?_
    refine tw_get (ci := 1) (C := RX1) (T := TX1) (N := 5) hx hb hB cx_inX1 hown hK TH hm0 hk0 rfl ⟨by decide, rfl⟩ 0 (by decide) cw_229 (fun _ h9 => h9) dX1_has_6 (fun hv => ?_)
    obtain ⟨xi4, hxi4, hxi4a, hxi4b⟩ : ∃ x : Int32, tw_fv E a0 0 = .int x ∧ 0 ≤ x.toInt ∧ x.toInt ≤ 12 := hv
    rw [hxi4]
    refine lv_icmp_ge (tgt := 16) hx hb dX1_has_9 (by decide) (fun hc5 => ?_) (fun hc5 => ?_)
    · have hf6 : xi4.toInt ≤ x1.toInt := by have z := (fa_le _ _).mp hc5;  omega
      refine lv_iconst (v := 0) hx hb dX1_has_16 (by decide) ?_
      exact tw_zret hx hb hr hlocks (by decide) TH hS hex ⟨⟨_, rfl, (show 0 ≤ Int32.toInt 0 from by have : ((0 : Int32).toInt) = 0 := (by decide); omega), (show Int32.toInt 0 ≤ 1 from by have : ((0 : Int32).toInt) = 0 := (by decide); omega), (fun h => ⟨by have : ((0 : Int32).toInt) = 0 := (by decide); omega, by have : ((0 : Int32).toInt) = 0 := (by decide); omega⟩)⟩, rfl, rfl, rfl⟩ (Nat.le_of_ble_eq_true rfl) (Nat.le_of_ble_eq_true rfl) dX1_has_17
    · have hf7 : ¬ (xi4.toInt ≤ x1.toInt) := fun q => hc5 ((fa_le _ _).mpr (by  omega))
      refine lv_iconst (v := 1) hx hb dX1_has_12 (by decide) ?_
      refine lv_goto (tgt := 17) hx hb dX1_has_13 (by decide) ?_
      exact tw_zret hx hb hr hlocks (by decide) TH hS hex ⟨⟨_, rfl, (show 0 ≤ Int32.toInt 1 from by have : ((1 : Int32).toInt) = 1 := (by decide); omega), (show Int32.toInt 1 ≤ 1 from by have : ((1 : Int32).toInt) = 1 := (by decide); omega), (fun h => ⟨by have : ((1 : Int32).toInt) = 1 := (by decide); omega, by have : ((1 : Int32).toInt) = 1 := (by decide); omega⟩)⟩, rfl, rfl, rfl⟩ (Nat.le_of_ble_eq_true rfl) (Nat.le_of_ble_eq_true rfl) dX1_has_17
set_option maxHeartbeats 4000000 in
set_option maxRecDepth 100000 in
theorem tX1_isFull (l : Launch) (D : va_G) (cs : Nat → ClassId) {kp : Nat → Nat} {L : List Nat} {E : Nat → va_E} (a0 : Nat) (hm0 : a0 ∈ L) (hk0 : kp a0 = 1) (sz : Nat) : Met l yX1_isFull (.code yX1_isFull cX1_isFull 1 (some .boolean) :: cx_big) { frames := 0, cells := 0, slots := 0, locals := 0 } (tw_P D cs kp L E [.ref a0] sz) (tw_Q D cs kp L (fun v kq Lq Eq => (∃ x : Int32, v = some (.int x) ∧ 0 ≤ x.toInt ∧ x.toInt ≤ 1) ∧ kp = kq ∧ L = Lq ∧ E = Eq) (va_A (va_pl L E) sz)) 0 0 (va_A (va_pl L E) sz) := by
  refine tw_ofW (by decide) (Nat.le_of_ble_eq_true rfl) ?_
  intro p e s m below meth c A ls hx hb hr hml hB hown hlocks hK hN hA TH hS hl
  have hown : s.vm.findClass "TreeMerge$Editions" = some m.cls := hown
  have hl : lv_has ls 1 [(0, .ref a0)] := hl
  obtain ⟨kp0, ekp⟩ : ∃ z, z = kp := ⟨_, rfl⟩
  obtain ⟨L0, eL⟩ : ∃ z, z = L := ⟨_, rfl⟩
  rw [show tw_Q D cs kp L = tw_Q D cs kp0 L0 by rw [ekp, eL]]
  have hex : ∀ a : Nat, a ∈ L0 → a ∈ L ∧ kp a = kp0 a := fun a h => ⟨by rw [← eL]; exact h, by rw [ekp]⟩
  refine lv_aload_n hx hb dX1_isFull_0 rfl (lv_at hl 0 rfl) ?_
  refine tw_get (ci := 1) (C := RX1) (T := TX1) (N := 5) hx hb hB cx_inX1 hown hK TH hm0 hk0 rfl ⟨by decide, rfl⟩ 0 (by decide) cw_229 (fun _ h9 => h9) dX1_isFull_1 (fun hv => ?_)
  obtain ⟨xi1, hxi1, hxi1a, hxi1b⟩ : ∃ x : Int32, tw_fv E a0 0 = .int x ∧ 0 ≤ x.toInt ∧ x.toInt ≤ 12 := hv
  rw [hxi1]
  refine lv_bipush (v := 12) hx hb dX1_isFull_4 (by decide) ?_
  refine lv_icmp_lt (tgt := 13) hx hb dX1_isFull_6 (by decide) (fun hc2 => ?_) (fun hc2 => ?_)
  · have hf3 : xi1.toInt < 12 := by have z := (fa_lt _ _).mp hc2; have : ((12 : Int32).toInt) = 12 := (by decide); omega
    refine lv_iconst (v := 0) hx hb dX1_isFull_13 (by decide) ?_
    exact tw_zret hx hb hr hlocks (by decide) TH hS hex ⟨⟨_, rfl, (show 0 ≤ Int32.toInt 0 from by have : ((0 : Int32).toInt) = 0 := (by decide); omega), (show Int32.toInt 0 ≤ 1 from by have : ((0 : Int32).toInt) = 0 := (by decide); omega)⟩, rfl, rfl, rfl⟩ (Nat.le_of_ble_eq_true rfl) (Nat.le_of_ble_eq_true rfl) dX1_isFull_14
  · have hf4 : ¬ (xi1.toInt < 12) := fun q => hc2 ((fa_lt _ _).mpr (by have : ((12 : Int32).toInt) = 12 := (by decide); omega))
    refine lv_iconst (v := 1) hx hb dX1_isFull_9 (by decide) ?_
    refine lv_goto (tgt := 14) hx hb dX1_isFull_10 (by decide) ?_
    exact tw_zret hx hb hr hlocks (by decide) TH hS hex ⟨⟨_, rfl, (show 0 ≤ Int32.toInt 1 from by have : ((1 : Int32).toInt) = 1 := (by decide); omega), (show Int32.toInt 1 ≤ 1 from by have : ((1 : Int32).toInt) = 1 := (by decide); omega)⟩, rfl, rfl, rfl⟩ (Nat.le_of_ble_eq_true rfl) (Nat.le_of_ble_eq_true rfl) dX1_isFull_14
set_option maxHeartbeats 4000000 in
set_option maxRecDepth 100000 in
theorem tX1_fromsOf (l : Launch) (D : va_G) (cs : Nat → ClassId) {kp : Nat → Nat} {L : List Nat} {E : Nat → va_E} (a0 : Nat) (x1 : Int32) (hm0 : a0 ∈ L) (hk0 : kp a0 = 1) (sz : Nat) : Met l yX1_fromsOf (.code yX1_fromsOf cX1_fromsOf 2 (some .int) :: cx_big) { frames := 1, cells := 0, slots := 0, locals := 21 } (tw_P D cs kp L E [.ref a0, .int x1] sz) (tw_Q D cs kp L (fun v kq Lq Eq => (∃ x : Int32, v = some (.int x)) ∧ kp = kq ∧ L = Lq ∧ E = Eq) (va_A (va_pl L E) sz)) 0 0 (va_A (va_pl L E) sz) := by
  refine tw_ofW (by decide) (Nat.le_of_ble_eq_true rfl) ?_
  intro p e s m below meth c A ls hx hb hr hml hB hown hlocks hK hN hA TH hS hl
  have hown : s.vm.findClass "TreeMerge$Editions" = some m.cls := hown
  have hl : lv_has ls 2 [(0, .ref a0), (1, .int x1)] := hl
  obtain ⟨kp0, ekp⟩ : ∃ z, z = kp := ⟨_, rfl⟩
  obtain ⟨L0, eL⟩ : ∃ z, z = L := ⟨_, rfl⟩
  rw [show tw_Q D cs kp L = tw_Q D cs kp0 L0 by rw [ekp, eL]]
  have hex : ∀ a : Nat, a ∈ L0 → a ∈ L ∧ kp a = kp0 a := fun a h => ⟨by rw [← eL]; exact h, by rw [ekp]⟩
  refine lv_aload_n hx hb dX1_fromsOf_0 rfl (lv_at hl 0 rfl) ?_
  refine lv_iload_n hx hb dX1_fromsOf_1 rfl (lv_at hl 1 rfl) ?_
  refine tw_Vc (o := a0) (ci := 1) (n := 1) (post := (fun v kq Lq Eq => (∃ x : Int32, v = some (.int x) ∧ 0 ≤ x.toInt ∧ x.toInt ≤ 1 ∧ (x.toInt ≠ 0 → 0 ≤ x1.toInt ∧ x1.toInt ≤ 11)) ∧ kp = kq ∧ L = Lq ∧ E = Eq)) (As := [.int x1]) (rest := []) ⟨hx, hb, hml, hown, hB⟩ (fun sz => tX1_has l D cs a0 x1 hm0 hk0 sz) cg_1_31_X1_has rfl rfl (by decide +kernel) ⟨Nat.le_of_ble_eq_true rfl, Nat.le_of_ble_eq_true rfl⟩ hK hN TH hS hA rfl hm0 hk0 (by decide) rfl hl.1 rfl (Nat.le_of_ble_eq_true rfl) dX1_fromsOf_2 ⟨Nat.le_of_ble_eq_true rfl, Nat.le_of_ble_eq_true rfl⟩ (fun v1 kp1 L1 E1 H locs hq1 hx1 TH hS => ?_)
  obtain ⟨⟨xc2, rfl, hxc2a, hxc2b, hixc2⟩, rfl, rfl, rfl⟩ := hq1
  refine W.eq (g2 := F0 m 5 ls [.int xc2]) rfl ?_
  refine lv_if_eq (tgt := 17) hx hb dX1_fromsOf_5 (by decide) (fun hc3 => ?_) (fun hc3 => ?_)
  · have hf4 : xc2.toInt = 0 := by have z := (fa_eq _ _).mp hc3; have : ((0 : Int32).toInt) = 0 := (by decide); omega
    refine lv_iconst (v := 0) hx hb dX1_fromsOf_17 (by decide) ?_
    exact tw_iret hx hb hr hlocks TH hS hex ⟨⟨_, rfl⟩, rfl, rfl, rfl⟩ (Nat.le_of_ble_eq_true rfl) (Nat.le_of_ble_eq_true rfl) dX1_fromsOf_18
  · have hf5 : ¬ (xc2.toInt = 0) := fun q => hc3 ((fa_eq _ _).mpr (by have : ((0 : Int32).toInt) = 0 := (by decide); omega))
    have hhixc2_10 := hixc2 (by omega)
    refine lv_aload_n hx hb dX1_fromsOf_8 rfl (lv_at hl 0 rfl) ?_
    refine tw_get (ci := 1) (C := RX1) (T := TX1) (N := 5) hx hb hB cx_inX1 hown hK TH hm0 hk0 rfl ⟨by decide, rfl⟩ 4 (by decide) cw_236 (fun _ h9 => h9) dX1_fromsOf_9 (fun hv => ?_)
    obtain ⟨xr6, hxr6, hmxr6, hkxr6⟩ : ∃ a : Nat, tw_fv E a0 4 = .ref a ∧ a ∈ L ∧ kp a = 142 := hv
    rw [hxr6]
    refine lv_iload_n hx hb dX1_fromsOf_12 rfl (lv_at hl 1 rfl) ?_
    refine tw_iald (k := 142) (t0 := 0) (n := 12) (lo := (-2147483648)) (hi := 2147483647) hx hb hK TH hmxr6 hkxr6 (by decide) rfl rfl (i := x1) (vp_in_iff.mpr ⟨by  omega, by  omega⟩) dX1_fromsOf_13 (fun hxe7a hxe7b => ?_)
    generalize tw_iv E xr6 (Int32.toNatClampNeg x1) = xe7 at hxe7a hxe7b ⊢
    refine lv_goto (tgt := 18) hx hb dX1_fromsOf_14 (by decide) ?_
    exact tw_iret hx hb hr hlocks TH hS hex ⟨⟨_, rfl⟩, rfl, rfl, rfl⟩ (Nat.le_of_ble_eq_true rfl) (Nat.le_of_ble_eq_true rfl) dX1_fromsOf_18
set_option maxHeartbeats 4000000 in
set_option maxRecDepth 100000 in
theorem tX1_onlyParent (l : Launch) (D : va_G) (cs : Nat → ClassId) {kp : Nat → Nat} {L : List Nat} {E : Nat → va_E} (a0 : Nat) (x1 : Int32) (hm0 : a0 ∈ L) (hk0 : kp a0 = 1) (sz : Nat) : Met l yX1_onlyParent (.code yX1_onlyParent cX1_onlyParent 2 (some .int) :: cx_big) { frames := 1, cells := 0, slots := 0, locals := 21 } (tw_P D cs kp L E [.ref a0, .int x1] sz) (tw_Q D cs kp L (fun v kq Lq Eq => (∃ x : Int32, v = some (.int x) ∧ (-1) ≤ x.toInt ∧ x.toInt ≤ 11) ∧ kp = kq ∧ L = Lq ∧ E = Eq) (va_A (va_pl L E) sz)) 0 0 (va_A (va_pl L E) sz) := by
  refine tw_ofW (by decide) (Nat.le_of_ble_eq_true rfl) ?_
  intro p e s m below meth c A ls hx hb hr hml hB hown hlocks hK hN hA TH hS hl
  have hown : s.vm.findClass "TreeMerge$Editions" = some m.cls := hown
  have hl : lv_has ls 2 [(0, .ref a0), (1, .int x1)] := hl
  obtain ⟨kp0, ekp⟩ : ∃ z, z = kp := ⟨_, rfl⟩
  obtain ⟨L0, eL⟩ : ∃ z, z = L := ⟨_, rfl⟩
  rw [show tw_Q D cs kp L = tw_Q D cs kp0 L0 by rw [ekp, eL]]
  have hex : ∀ a : Nat, a ∈ L0 → a ∈ L ∧ kp a = kp0 a := fun a h => ⟨by rw [← eL]; exact h, by rw [ekp]⟩
  refine lv_aload_n hx hb dX1_onlyParent_0 rfl (lv_at hl 0 rfl) ?_
  refine lv_iload_n hx hb dX1_onlyParent_1 rfl (lv_at hl 1 rfl) ?_
  refine tw_Vc (o := a0) (ci := 1) (n := 1) (post := (fun v kq Lq Eq => (∃ x : Int32, v = some (.int x) ∧ 0 ≤ x.toInt ∧ x.toInt ≤ 1 ∧ (x.toInt ≠ 0 → 0 ≤ x1.toInt ∧ x1.toInt ≤ 11)) ∧ kp = kq ∧ L = Lq ∧ E = Eq)) (As := [.int x1]) (rest := []) ⟨hx, hb, hml, hown, hB⟩ (fun sz => tX1_has l D cs a0 x1 hm0 hk0 sz) cg_1_31_X1_has rfl rfl (by decide +kernel) ⟨Nat.le_of_ble_eq_true rfl, Nat.le_of_ble_eq_true rfl⟩ hK hN TH hS hA rfl hm0 hk0 (by decide) rfl hl.1 rfl (Nat.le_of_ble_eq_true rfl) dX1_onlyParent_2 ⟨Nat.le_of_ble_eq_true rfl, Nat.le_of_ble_eq_true rfl⟩ (fun v1 kp1 L1 E1 H locs hq1 hx1 TH hS => ?_)
  obtain ⟨⟨xc2, rfl, hxc2a, hxc2b, hixc2⟩, rfl, rfl, rfl⟩ := hq1
  refine W.eq (g2 := F0 m 5 ls [.int xc2]) rfl ?_
  refine lv_if_eq (tgt := 27) hx hb dX1_onlyParent_5 (by decide) (fun hc3 => ?_) (fun hc3 => ?_)
  · have hf4 : xc2.toInt = 0 := by have z := (fa_eq _ _).mp hc3; have : ((0 : Int32).toInt) = 0 := (by decide); omega
    refine lv_iconst (v := (-1)) hx hb dX1_onlyParent_27 (by decide) ?_
    exact tw_iret hx hb hr hlocks TH hS hex ⟨⟨_, rfl, (show (-1) ≤ Int32.toInt (-1) from by have : (((-1) : Int32).toInt) = (-1) := (by decide); omega), (show Int32.toInt (-1) ≤ 11 from by have : (((-1) : Int32).toInt) = (-1) := (by decide); omega)⟩, rfl, rfl, rfl⟩ (Nat.le_of_ble_eq_true rfl) (Nat.le_of_ble_eq_true rfl) dX1_onlyParent_28
  · have hf5 : ¬ (xc2.toInt = 0) := fun q => hc3 ((fa_eq _ _).mpr (by have : ((0 : Int32).toInt) = 0 := (by decide); omega))
    have hhixc2_10 := hixc2 (by omega)
    refine lv_aload_n hx hb dX1_onlyParent_8 rfl (lv_at hl 0 rfl) ?_
    refine tw_get (ci := 1) (C := RX1) (T := TX1) (N := 5) hx hb hB cx_inX1 hown hK TH hm0 hk0 rfl ⟨by decide, rfl⟩ 3 (by decide) cw_234 (fun _ h9 => h9) dX1_onlyParent_9 (fun hv => ?_)
    obtain ⟨xr6, hxr6, hmxr6, hkxr6⟩ : ∃ a : Nat, tw_fv E a0 3 = .ref a ∧ a ∈ L ∧ kp a = 141 := hv
    rw [hxr6]
    refine lv_iload_n hx hb dX1_onlyParent_12 rfl (lv_at hl 1 rfl) ?_
    refine tw_iald (k := 141) (t0 := 0) (n := 12) (lo := (-1)) (hi := 11) hx hb hK TH hmxr6 hkxr6 (by decide) rfl rfl (i := x1) (vp_in_iff.mpr ⟨by  omega, by  omega⟩) dX1_onlyParent_13 (fun hxe7a hxe7b => ?_)
    generalize tw_iv E xr6 (Int32.toNatClampNeg x1) = xe7 at hxe7a hxe7b ⊢
    refine lv_iconst (v := (-1)) hx hb dX1_onlyParent_14 (by decide) ?_
    refine lv_icmp_ne (tgt := 27) hx hb dX1_onlyParent_15 (by decide) (fun hc8 => ?_) (fun hc8 => ?_)
    · have hf9 : ¬ (xe7.toInt = (-1)) := fun q => hc8 ((fa_eq _ _).mpr (by have : (((-1) : Int32).toInt) = (-1) := (by decide); omega))
      refine lv_iconst (v := (-1)) hx hb dX1_onlyParent_27 (by decide) ?_
      exact tw_iret hx hb hr hlocks TH hS hex ⟨⟨_, rfl, (show (-1) ≤ Int32.toInt (-1) from by have : (((-1) : Int32).toInt) = (-1) := (by decide); omega), (show Int32.toInt (-1) ≤ 11 from by have : (((-1) : Int32).toInt) = (-1) := (by decide); omega)⟩, rfl, rfl, rfl⟩ (Nat.le_of_ble_eq_true rfl) (Nat.le_of_ble_eq_true rfl) dX1_onlyParent_28
    · have hf10 : xe7.toInt = (-1) := by have z := (fa_eq _ _).mp hc8; have : (((-1) : Int32).toInt) = (-1) := (by decide); omega
      refine lv_aload_n hx hb dX1_onlyParent_18 rfl (lv_at hl 0 rfl) ?_
      refine tw_get (ci := 1) (C := RX1) (T := TX1) (N := 5) hx hb hB cx_inX1 hown hK TH hm0 hk0 rfl ⟨by decide, rfl⟩ 2 (by decide) cw_232 (fun _ h9 => h9) dX1_onlyParent_19 (fun hv => ?_)
      obtain ⟨xr11, hxr11, hmxr11, hkxr11⟩ : ∃ a : Nat, tw_fv E a0 2 = .ref a ∧ a ∈ L ∧ kp a = 141 := hv
      rw [hxr11]
      refine lv_iload_n hx hb dX1_onlyParent_22 rfl (lv_at hl 1 rfl) ?_
      refine tw_iald (k := 141) (t0 := 0) (n := 12) (lo := (-1)) (hi := 11) hx hb hK TH hmxr11 hkxr11 (by decide) rfl rfl (i := x1) (vp_in_iff.mpr ⟨by  omega, by  omega⟩) dX1_onlyParent_23 (fun hxe12a hxe12b => ?_)
      generalize tw_iv E xr11 (Int32.toNatClampNeg x1) = xe12 at hxe12a hxe12b ⊢
      refine lv_goto (tgt := 28) hx hb dX1_onlyParent_24 (by decide) ?_
      exact tw_iret hx hb hr hlocks TH hS hex ⟨⟨_, rfl, (show (-1) ≤ Int32.toInt xe12 from by  omega), (show Int32.toInt xe12 ≤ 11 from by  omega)⟩, rfl, rfl, rfl⟩ (Nat.le_of_ble_eq_true rfl) (Nat.le_of_ble_eq_true rfl) dX1_onlyParent_28
set_option maxHeartbeats 4000000 in
set_option maxRecDepth 100000 in
theorem tX4_pairNothing (l : Launch) (D : va_G) (cs : Nat → ClassId) {kp : Nat → Nat} {L : List Nat} {E : Nat → va_E} (a0 : Nat) (hm0 : a0 ∈ L) (hk0 : kp a0 = 4) (sz : Nat) : Met l yX4_pairNothing (.code yX4_pairNothing cX4_pairNothing 2 none :: cx_big) { frames := 0, cells := 0, slots := 0, locals := 0 } (tw_P D cs kp L E [.ref a0] sz) (tw_Q D cs kp L (fun v kq Lq Eq => v = none ∧ kp = kq ∧ L = Lq ∧ ∀ b j : Nat, tw_fv Eq b j = tw_fv E b j) (va_A (va_pl L E) sz)) 0 0 (va_A (va_pl L E) sz) := by
  refine tw_ofW (by decide) (Nat.le_of_ble_eq_true rfl) ?_
  intro p e s m below meth c A ls hx hb hr hml hB hown hlocks hK hN hA TH hS hl
  have hown : s.vm.findClass "TreeMerge$Matcher" = some m.cls := hown
  have hl : lv_has ls 2 [(0, .ref a0)] := hl
  obtain ⟨kp0, ekp⟩ : ∃ z, z = kp := ⟨_, rfl⟩
  obtain ⟨L0, eL⟩ : ∃ z, z = L := ⟨_, rfl⟩
  rw [show tw_Q D cs kp L = tw_Q D cs kp0 L0 by rw [ekp, eL]]
  have hex : ∀ a : Nat, a ∈ L0 → a ∈ L ∧ kp a = kp0 a := fun a h => ⟨by rw [← eL]; exact h, by rw [ekp]⟩
  have hkf : ∀ b j : Nat, tw_fv E b j = tw_fv E b j := fun _ _ => rfl
  refine lv_iconst (v := 0) hx hb dX4_pairNothing_0 (by decide) ?_
  refine lv_istore_n (lv' := [(1, .int 0), (0, .ref a0)]) hx hb dX4_pairNothing_1 rfl hl (by decide) rfl (fun ls hl => ?_)
  have hJ2 : ∀ (n : Nat) (y2_1 : Int32) (Eg2 : Nat → va_E) (H : Heap) (locs : List Loc) (ls : Array Slot), 0 ≤ y2_1.toInt → y2_1.toInt ≤ 40 → 40 - y2_1.toInt ≤ (n : Int) → (∀ b j : Nat, tw_fv Eg2 b j = tw_fv E b j) → tw_H D cs kp L Eg2 A H → va_S A s.heap H locs → lv_has ls 2 [(1, .int y2_1), (0, .ref a0)] → W p l e { frames := 0, cells := 0, slots := 0, locals := 0 } s m [.ref a0].toArray below meth c H locs 0 0 (MQ below (tw_Q D cs kp0 L0 (fun v kq Lq Eq => v = none ∧ kp = kq ∧ L = Lq ∧ ∀ b j : Nat, tw_fv Eq b j = tw_fv E b j) A) [.ref a0].toArray s 0 0 A) (F0 m 2 ls []) := by
    intro n2
    induction n2 with
    | zero =>
      intro y2_1 Eg2 H locs ls hy2_1a hy2_1b hmeas hkf TH hS hl
      refine lv_iload_n hx hb dX4_pairNothing_2 rfl (lv_at hl 0 rfl) ?_
      refine lv_bipush (v := 40) hx hb dX4_pairNothing_3 (by decide) ?_
      refine lv_icmp_ge (tgt := 28) hx hb dX4_pairNothing_5 (by decide) (fun hc1 => ?_) (fun hc1 => ?_)
      · have hf2 : 40 ≤ y2_1.toInt := by have z := (fa_le _ _).mp hc1; have : ((40 : Int32).toInt) = 40 := (by decide); omega
        exact tw_vret hx hb hr hlocks TH hS hex ⟨rfl, rfl, rfl, hkf⟩ (Nat.le_of_ble_eq_true rfl) (Nat.le_of_ble_eq_true rfl) dX4_pairNothing_28
      · have hf3 : ¬ (40 ≤ y2_1.toInt) := fun q => hc1 ((fa_le _ _).mpr (by have : ((40 : Int32).toInt) = 40 := (by decide); omega))
        refine lv_aload_n hx hb dX4_pairNothing_8 rfl (lv_at hl 1 rfl) ?_
        refine tw_get (ci := 4) (C := RX4) (T := TX4) (N := 7) hx hb hB cx_inX4 hown hK TH hm0 hk0 rfl ⟨by decide, rfl⟩ 2 (by decide) cw_199 (fun _ h9 => h9) dX4_pairNothing_9 (fun hv => ?_)
        obtain ⟨xr4, hxr4, hmxr4, hkxr4⟩ : ∃ a : Nat, tw_fv Eg2 a0 2 = .ref a ∧ a ∈ L ∧ kp a = 150 := hv
        rw [hxr4]
        refine lv_iload_n hx hb dX4_pairNothing_12 rfl (lv_at hl 0 rfl) ?_
        refine lv_iconst (v := (-1)) hx hb dX4_pairNothing_13 (by decide) ?_
        refine tw_iast (k := 150) (n := 40) (lo := (-1)) (hi := 39) hx hb hK TH hS hmxr4 hkxr4 (by decide) rfl (i := y2_1) (x := (-1)) (vp_in_iff.mpr ⟨by  omega, by  omega⟩) (by have : (((-1) : Int32).toInt) = (-1) := (by decide); omega) (by have : (((-1) : Int32).toInt) = (-1) := (by decide); omega) dX4_pairNothing_14 (fun H locs E5 TH hS hp2 hp3 hp4 => ?_)
        have hm6 : tw_fv E5 a0 2 = .ref xr4 := (hp2 a0 2).trans hxr4
        have hkf : ∀ b j : Nat, tw_fv E5 b j = tw_fv E b j := fun b j => (hp2 b j).trans (hkf b j)
        refine lv_aload_n hx hb dX4_pairNothing_15 rfl (lv_at hl 1 rfl) ?_
        refine tw_get (ci := 4) (C := RX4) (T := TX4) (N := 7) hx hb hB cx_inX4 hown hK TH hm0 hk0 rfl ⟨by decide, rfl⟩ 3 (by decide) cw_200 (fun _ h9 => h9) dX4_pairNothing_16 (fun hv => ?_)
        obtain ⟨xr7, hxr7, hmxr7, hkxr7⟩ : ∃ a : Nat, tw_fv E5 a0 3 = .ref a ∧ a ∈ L ∧ kp a = 150 := hv
        rw [hxr7]
        refine lv_iload_n hx hb dX4_pairNothing_19 rfl (lv_at hl 0 rfl) ?_
        refine lv_iconst (v := (-1)) hx hb dX4_pairNothing_20 (by decide) ?_
        refine tw_iast (k := 150) (n := 40) (lo := (-1)) (hi := 39) hx hb hK TH hS hmxr7 hkxr7 (by decide) rfl (i := y2_1) (x := (-1)) (vp_in_iff.mpr ⟨by  omega, by  omega⟩) (by have : (((-1) : Int32).toInt) = (-1) := (by decide); omega) (by have : (((-1) : Int32).toInt) = (-1) := (by decide); omega) dX4_pairNothing_21 (fun H locs E8 TH hS hp2 hp3 hp4 => ?_)
        have hm9 : tw_fv E8 a0 2 = .ref xr4 := (hp2 a0 2).trans hm6
        have hm10 : tw_fv E8 a0 3 = .ref xr7 := (hp2 a0 3).trans hxr7
        have hkf : ∀ b j : Nat, tw_fv E8 b j = tw_fv E b j := fun b j => (hp2 b j).trans (hkf b j)
        obtain ⟨zi11, ezi11⟩ : ∃ z : Int32, z = y2_1 + Int32.ofInt 1 := ⟨_, rfl⟩
        have hzi11 : zi11.toInt = y2_1.toInt + 1 := by rw [ezi11]; have : ((Int32.ofInt 1).toInt) = 1 := (by decide);  exact (ia_add (by omega) (by omega)).trans (by omega)
        refine lv_iinc (v := zi11) (lv' := [(1, .int zi11), (0, .ref a0)]) hx hb dX4_pairNothing_22 hl (k := 0) rfl ezi11.symm (by decide) rfl (fun ls hl => ?_)
        refine lv_goto (tgt := 2) hx hb dX4_pairNothing_25 (by decide) ?_
        exfalso; omega
    | succ n2 ih2 =>
      intro y2_1 Eg2 H locs ls hy2_1a hy2_1b hmeas hkf TH hS hl
      refine lv_iload_n hx hb dX4_pairNothing_2 rfl (lv_at hl 0 rfl) ?_
      refine lv_bipush (v := 40) hx hb dX4_pairNothing_3 (by decide) ?_
      refine lv_icmp_ge (tgt := 28) hx hb dX4_pairNothing_5 (by decide) (fun hc12 => ?_) (fun hc12 => ?_)
      · have hf13 : 40 ≤ y2_1.toInt := by have z := (fa_le _ _).mp hc12; have : ((40 : Int32).toInt) = 40 := (by decide); omega
        exact tw_vret hx hb hr hlocks TH hS hex ⟨rfl, rfl, rfl, hkf⟩ (Nat.le_of_ble_eq_true rfl) (Nat.le_of_ble_eq_true rfl) dX4_pairNothing_28
      · have hf14 : ¬ (40 ≤ y2_1.toInt) := fun q => hc12 ((fa_le _ _).mpr (by have : ((40 : Int32).toInt) = 40 := (by decide); omega))
        refine lv_aload_n hx hb dX4_pairNothing_8 rfl (lv_at hl 1 rfl) ?_
        refine tw_get (ci := 4) (C := RX4) (T := TX4) (N := 7) hx hb hB cx_inX4 hown hK TH hm0 hk0 rfl ⟨by decide, rfl⟩ 2 (by decide) cw_199 (fun _ h9 => h9) dX4_pairNothing_9 (fun hv => ?_)
        obtain ⟨xr15, hxr15, hmxr15, hkxr15⟩ : ∃ a : Nat, tw_fv Eg2 a0 2 = .ref a ∧ a ∈ L ∧ kp a = 150 := hv
        rw [hxr15]
        refine lv_iload_n hx hb dX4_pairNothing_12 rfl (lv_at hl 0 rfl) ?_
        refine lv_iconst (v := (-1)) hx hb dX4_pairNothing_13 (by decide) ?_
        refine tw_iast (k := 150) (n := 40) (lo := (-1)) (hi := 39) hx hb hK TH hS hmxr15 hkxr15 (by decide) rfl (i := y2_1) (x := (-1)) (vp_in_iff.mpr ⟨by  omega, by  omega⟩) (by have : (((-1) : Int32).toInt) = (-1) := (by decide); omega) (by have : (((-1) : Int32).toInt) = (-1) := (by decide); omega) dX4_pairNothing_14 (fun H locs E16 TH hS hp2 hp3 hp4 => ?_)
        have hm17 : tw_fv E16 a0 2 = .ref xr15 := (hp2 a0 2).trans hxr15
        have hkf : ∀ b j : Nat, tw_fv E16 b j = tw_fv E b j := fun b j => (hp2 b j).trans (hkf b j)
        refine lv_aload_n hx hb dX4_pairNothing_15 rfl (lv_at hl 1 rfl) ?_
        refine tw_get (ci := 4) (C := RX4) (T := TX4) (N := 7) hx hb hB cx_inX4 hown hK TH hm0 hk0 rfl ⟨by decide, rfl⟩ 3 (by decide) cw_200 (fun _ h9 => h9) dX4_pairNothing_16 (fun hv => ?_)
        obtain ⟨xr18, hxr18, hmxr18, hkxr18⟩ : ∃ a : Nat, tw_fv E16 a0 3 = .ref a ∧ a ∈ L ∧ kp a = 150 := hv
        rw [hxr18]
        refine lv_iload_n hx hb dX4_pairNothing_19 rfl (lv_at hl 0 rfl) ?_
        refine lv_iconst (v := (-1)) hx hb dX4_pairNothing_20 (by decide) ?_
        refine tw_iast (k := 150) (n := 40) (lo := (-1)) (hi := 39) hx hb hK TH hS hmxr18 hkxr18 (by decide) rfl (i := y2_1) (x := (-1)) (vp_in_iff.mpr ⟨by  omega, by  omega⟩) (by have : (((-1) : Int32).toInt) = (-1) := (by decide); omega) (by have : (((-1) : Int32).toInt) = (-1) := (by decide); omega) dX4_pairNothing_21 (fun H locs E19 TH hS hp2 hp3 hp4 => ?_)
        have hm20 : tw_fv E19 a0 2 = .ref xr15 := (hp2 a0 2).trans hm17
        have hm21 : tw_fv E19 a0 3 = .ref xr18 := (hp2 a0 3).trans hxr18
        have hkf : ∀ b j : Nat, tw_fv E19 b j = tw_fv E b j := fun b j => (hp2 b j).trans (hkf b j)
        obtain ⟨zi22, ezi22⟩ : ∃ z : Int32, z = y2_1 + Int32.ofInt 1 := ⟨_, rfl⟩
        have hzi22 : zi22.toInt = y2_1.toInt + 1 := by rw [ezi22]; have : ((Int32.ofInt 1).toInt) = 1 := (by decide);  exact (ia_add (by omega) (by omega)).trans (by omega)
        refine lv_iinc (v := zi22) (lv' := [(1, .int zi22), (0, .ref a0)]) hx hb dX4_pairNothing_22 hl (k := 0) rfl ezi22.symm (by decide) rfl (fun ls hl => ?_)
        refine lv_goto (tgt := 2) hx hb dX4_pairNothing_25 (by decide) ?_
        exact ih2 zi22 _ _ _ ls (by  omega) (by  omega) (by  omega)  hkf TH hS (lv_sub hl [0, 1] rfl)
  exact hJ2 41 0 _ _ _ ls (by have : ((0 : Int32).toInt) = 0 := (by decide); omega) (by have : ((0 : Int32).toInt) = 0 := (by decide); omega) (by have : ((0 : Int32).toInt) = 0 := (by decide); omega)  hkf TH hS (lv_sub hl [0, 1] rfl)
set_option maxHeartbeats 4000000 in
set_option maxRecDepth 100000 in
theorem tX4_link (l : Launch) (D : va_G) (cs : Nat → ClassId) {kp : Nat → Nat} {L : List Nat} {E : Nat → va_E} (a0 : Nat) (x1 : Int32) (x2 : Int32) (hm0 : a0 ∈ L) (hk0 : kp a0 = 4) (hp1a : 0 ≤ x1.toInt) (hp1b : x1.toInt ≤ 39) (hp2a : 0 ≤ x2.toInt) (hp2b : x2.toInt ≤ 39) (sz : Nat) : Met l yX4_link (.code yX4_link cX4_link 3 none :: cx_big) { frames := 0, cells := 0, slots := 0, locals := 0 } (tw_P D cs kp L E [.ref a0, .int x1, .int x2] sz) (tw_Q D cs kp L (fun v kq Lq Eq => v = none ∧ kp = kq ∧ L = Lq ∧ ∀ b j : Nat, tw_fv Eq b j = tw_fv E b j) (va_A (va_pl L E) sz)) 0 0 (va_A (va_pl L E) sz) := by
  refine tw_ofW (by decide) (Nat.le_of_ble_eq_true rfl) ?_
  intro p e s m below meth c A ls hx hb hr hml hB hown hlocks hK hN hA TH hS hl
  have hown : s.vm.findClass "TreeMerge$Matcher" = some m.cls := hown
  have hl : lv_has ls 3 [(0, .ref a0), (1, .int x1), (2, .int x2)] := hl
  obtain ⟨kp0, ekp⟩ : ∃ z, z = kp := ⟨_, rfl⟩
  obtain ⟨L0, eL⟩ : ∃ z, z = L := ⟨_, rfl⟩
  rw [show tw_Q D cs kp L = tw_Q D cs kp0 L0 by rw [ekp, eL]]
  have hex : ∀ a : Nat, a ∈ L0 → a ∈ L ∧ kp a = kp0 a := fun a h => ⟨by rw [← eL]; exact h, by rw [ekp]⟩
  have hkf : ∀ b j : Nat, tw_fv E b j = tw_fv E b j := fun _ _ => rfl
  refine lv_aload_n hx hb dX4_link_0 rfl (lv_at hl 0 rfl) ?_
  refine tw_get (ci := 4) (C := RX4) (T := TX4) (N := 7) hx hb hB cx_inX4 hown hK TH hm0 hk0 rfl ⟨by decide, rfl⟩ 2 (by decide) cw_199 (fun _ h9 => h9) dX4_link_1 (fun hv => ?_)
  obtain ⟨xr1, hxr1, hmxr1, hkxr1⟩ : ∃ a : Nat, tw_fv E a0 2 = .ref a ∧ a ∈ L ∧ kp a = 150 := hv
  rw [hxr1]
  refine lv_iload_n hx hb dX4_link_4 rfl (lv_at hl 1 rfl) ?_
  refine lv_iload_n hx hb dX4_link_5 rfl (lv_at hl 2 rfl) ?_
  refine tw_iast (k := 150) (n := 40) (lo := (-1)) (hi := 39) hx hb hK TH hS hmxr1 hkxr1 (by decide) rfl (i := x1) (x := x2) (vp_in_iff.mpr ⟨by  omega, by  omega⟩) (by  omega) (by  omega) dX4_link_6 (fun H locs E2 TH hS hp2 hp3 hp4 => ?_)
  have hm3 : tw_fv E2 a0 2 = .ref xr1 := (hp2 a0 2).trans hxr1
  have hkf : ∀ b j : Nat, tw_fv E2 b j = tw_fv E b j := fun b j => (hp2 b j).trans (hkf b j)
  refine lv_aload_n hx hb dX4_link_7 rfl (lv_at hl 0 rfl) ?_
  refine tw_get (ci := 4) (C := RX4) (T := TX4) (N := 7) hx hb hB cx_inX4 hown hK TH hm0 hk0 rfl ⟨by decide, rfl⟩ 3 (by decide) cw_200 (fun _ h9 => h9) dX4_link_8 (fun hv => ?_)
  obtain ⟨xr4, hxr4, hmxr4, hkxr4⟩ : ∃ a : Nat, tw_fv E2 a0 3 = .ref a ∧ a ∈ L ∧ kp a = 150 := hv
  rw [hxr4]
  refine lv_iload_n hx hb dX4_link_11 rfl (lv_at hl 2 rfl) ?_
  refine lv_iload_n hx hb dX4_link_12 rfl (lv_at hl 1 rfl) ?_
  refine tw_iast (k := 150) (n := 40) (lo := (-1)) (hi := 39) hx hb hK TH hS hmxr4 hkxr4 (by decide) rfl (i := x2) (x := x1) (vp_in_iff.mpr ⟨by  omega, by  omega⟩) (by  omega) (by  omega) dX4_link_13 (fun H locs E5 TH hS hp2 hp3 hp4 => ?_)
  have hm6 : tw_fv E5 a0 2 = .ref xr1 := (hp2 a0 2).trans hm3
  have hm7 : tw_fv E5 a0 3 = .ref xr4 := (hp2 a0 3).trans hxr4
  have hkf : ∀ b j : Nat, tw_fv E5 b j = tw_fv E b j := fun b j => (hp2 b j).trans (hkf b j)
  exact tw_vret hx hb hr hlocks TH hS hex ⟨rfl, rfl, rfl, hkf⟩ (Nat.le_of_ble_eq_true rfl) (Nat.le_of_ble_eq_true rfl) dX4_link_14
set_option maxHeartbeats 4000000 in
set_option maxRecDepth 100000 in
theorem tX4_pairs (l : Launch) (D : va_G) (cs : Nat → ClassId) {kp : Nat → Nat} {L : List Nat} {E : Nat → va_E} (a0 : Nat) (hm0 : a0 ∈ L) (hk0 : kp a0 = 4) (sz : Nat) : Met l yX4_pairs (.code yX4_pairs cX4_pairs 3 (some .int) :: cx_big) { frames := 0, cells := 0, slots := 0, locals := 0 } (tw_P D cs kp L E [.ref a0] sz) (tw_Q D cs kp L (fun v kq Lq Eq => (∃ x : Int32, v = some (.int x)) ∧ kp = kq ∧ L = Lq ∧ E = Eq) (va_A (va_pl L E) sz)) 0 0 (va_A (va_pl L E) sz) := by
  refine tw_ofW (by decide) (Nat.le_of_ble_eq_true rfl) ?_
  intro p e s m below meth c A ls hx hb hr hml hB hown hlocks hK hN hA TH hS hl
  have hown : s.vm.findClass "TreeMerge$Matcher" = some m.cls := hown
  have hl : lv_has ls 3 [(0, .ref a0)] := hl
  obtain ⟨kp0, ekp⟩ : ∃ z, z = kp := ⟨_, rfl⟩
  obtain ⟨L0, eL⟩ : ∃ z, z = L := ⟨_, rfl⟩
  rw [show tw_Q D cs kp L = tw_Q D cs kp0 L0 by rw [ekp, eL]]
  have hex : ∀ a : Nat, a ∈ L0 → a ∈ L ∧ kp a = kp0 a := fun a h => ⟨by rw [← eL]; exact h, by rw [ekp]⟩
  refine lv_iconst (v := 0) hx hb dX4_pairs_0 (by decide) ?_
  refine lv_istore_n (lv' := [(1, .int 0), (0, .ref a0)]) hx hb dX4_pairs_1 rfl hl (by decide) rfl (fun ls hl => ?_)
  refine lv_iconst (v := 0) hx hb dX4_pairs_2 (by decide) ?_
  refine lv_istore_n (lv' := [(2, .int 0), (1, .int 0), (0, .ref a0)]) hx hb dX4_pairs_3 rfl hl (by decide) rfl (fun ls hl => ?_)
  have hJ4 : ∀ (n : Nat) (y4_2 : Int32) (y4_1 : Int32) (H : Heap) (locs : List Loc) (ls : Array Slot), 0 ≤ y4_2.toInt → y4_2.toInt ≤ 40 → 40 - y4_2.toInt ≤ (n : Int) → tw_H D cs kp L E A H → va_S A s.heap H locs → lv_has ls 3 [(2, .int y4_2), (1, .int y4_1), (0, .ref a0)] → W p l e { frames := 0, cells := 0, slots := 0, locals := 0 } s m [.ref a0].toArray below meth c H locs 0 0 (MQ below (tw_Q D cs kp0 L0 (fun v kq Lq Eq => (∃ x : Int32, v = some (.int x)) ∧ kp = kq ∧ L = Lq ∧ E = Eq) A) [.ref a0].toArray s 0 0 A) (F0 m 4 ls []) := by
    intro n4
    induction n4 with
    | zero =>
      intro y4_2 y4_1 H locs ls hy4_2a hy4_2b hmeas TH hS hl
      refine lv_iload_n hx hb dX4_pairs_4 rfl (lv_at hl 0 rfl) ?_
      refine lv_bipush (v := 40) hx hb dX4_pairs_5 (by decide) ?_
      refine lv_icmp_ge (tgt := 29) hx hb dX4_pairs_7 (by decide) (fun hc1 => ?_) (fun hc1 => ?_)
      · have hf2 : 40 ≤ y4_2.toInt := by have z := (fa_le _ _).mp hc1; have : ((40 : Int32).toInt) = 40 := (by decide); omega
        refine lv_iload_n hx hb dX4_pairs_29 rfl (lv_at hl 1 rfl) ?_
        exact tw_iret hx hb hr hlocks TH hS hex ⟨⟨_, rfl⟩, rfl, rfl, rfl⟩ (Nat.le_of_ble_eq_true rfl) (Nat.le_of_ble_eq_true rfl) dX4_pairs_30
      · have hf3 : ¬ (40 ≤ y4_2.toInt) := fun q => hc1 ((fa_le _ _).mpr (by have : ((40 : Int32).toInt) = 40 := (by decide); omega))
        refine lv_aload_n hx hb dX4_pairs_10 rfl (lv_at hl 2 rfl) ?_
        refine tw_get (ci := 4) (C := RX4) (T := TX4) (N := 7) hx hb hB cx_inX4 hown hK TH hm0 hk0 rfl ⟨by decide, rfl⟩ 3 (by decide) cw_200 (fun _ h9 => h9) dX4_pairs_11 (fun hv => ?_)
        obtain ⟨xr4, hxr4, hmxr4, hkxr4⟩ : ∃ a : Nat, tw_fv E a0 3 = .ref a ∧ a ∈ L ∧ kp a = 150 := hv
        rw [hxr4]
        refine lv_iload_n hx hb dX4_pairs_14 rfl (lv_at hl 0 rfl) ?_
        refine tw_iald (k := 150) (t0 := 0) (n := 40) (lo := (-1)) (hi := 39) hx hb hK TH hmxr4 hkxr4 (by decide) rfl rfl (i := y4_2) (vp_in_iff.mpr ⟨by  omega, by  omega⟩) dX4_pairs_15 (fun hxe5a hxe5b => ?_)
        generalize tw_iv E xr4 (Int32.toNatClampNeg y4_2) = xe5 at hxe5a hxe5b ⊢
        refine lv_iconst (v := (-1)) hx hb dX4_pairs_16 (by decide) ?_
        have hJ23 : ∀ (y23_1 : Int32) (H : Heap) (locs : List Loc) (ls : Array Slot), tw_H D cs kp L E A H → va_S A s.heap H locs → lv_has ls 3 [(2, .int y4_2), (1, .int y23_1), (0, .ref a0)] → W p l e { frames := 0, cells := 0, slots := 0, locals := 0 } s m [.ref a0].toArray below meth c H locs 0 0 (MQ below (tw_Q D cs kp0 L0 (fun v kq Lq Eq => (∃ x : Int32, v = some (.int x)) ∧ kp = kq ∧ L = Lq ∧ E = Eq) A) [.ref a0].toArray s 0 0 A) (F0 m 23 ls []) := by
          intro y23_1 H locs ls TH hS hl
          obtain ⟨zi6, ezi6⟩ : ∃ z : Int32, z = y4_2 + Int32.ofInt 1 := ⟨_, rfl⟩
          have hzi6 : zi6.toInt = y4_2.toInt + 1 := by rw [ezi6]; have : ((Int32.ofInt 1).toInt) = 1 := (by decide);  exact (ia_add (by omega) (by omega)).trans (by omega)
          refine lv_iinc (v := zi6) (lv' := [(2, .int zi6), (1, .int y23_1), (0, .ref a0)]) hx hb dX4_pairs_23 hl (k := 0) rfl ezi6.symm (by decide) rfl (fun ls hl => ?_)
          refine lv_goto (tgt := 4) hx hb dX4_pairs_26 (by decide) ?_
          exfalso; omega
        refine lv_icmp_eq (tgt := 23) hx hb dX4_pairs_17 (by decide) (fun hc7 => ?_) (fun hc7 => ?_)
        · have hf8 : xe5.toInt = (-1) := by have z := (fa_eq _ _).mp hc7; have : (((-1) : Int32).toInt) = (-1) := (by decide); omega
          exact hJ23 y4_1 _ _ ls   TH hS (lv_sub hl [0, 1, 2] rfl)
        · have hf9 : ¬ (xe5.toInt = (-1)) := fun q => hc7 ((fa_eq _ _).mpr (by have : (((-1) : Int32).toInt) = (-1) := (by decide); omega))
          obtain ⟨zi10, ezi10⟩ : ∃ z : Int32, z = y4_1 + Int32.ofInt 1 := ⟨_, rfl⟩
          refine lv_iinc (v := zi10) (lv' := [(1, .int zi10), (2, .int y4_2), (0, .ref a0)]) hx hb dX4_pairs_20 hl (k := 1) rfl ezi10.symm (by decide) rfl (fun ls hl => ?_)
          exact hJ23 zi10 _ _ ls   TH hS (lv_sub hl [1, 0, 2] rfl)
    | succ n4 ih4 =>
      intro y4_2 y4_1 H locs ls hy4_2a hy4_2b hmeas TH hS hl
      refine lv_iload_n hx hb dX4_pairs_4 rfl (lv_at hl 0 rfl) ?_
      refine lv_bipush (v := 40) hx hb dX4_pairs_5 (by decide) ?_
      refine lv_icmp_ge (tgt := 29) hx hb dX4_pairs_7 (by decide) (fun hc11 => ?_) (fun hc11 => ?_)
      · have hf12 : 40 ≤ y4_2.toInt := by have z := (fa_le _ _).mp hc11; have : ((40 : Int32).toInt) = 40 := (by decide); omega
        refine lv_iload_n hx hb dX4_pairs_29 rfl (lv_at hl 1 rfl) ?_
        exact tw_iret hx hb hr hlocks TH hS hex ⟨⟨_, rfl⟩, rfl, rfl, rfl⟩ (Nat.le_of_ble_eq_true rfl) (Nat.le_of_ble_eq_true rfl) dX4_pairs_30
      · have hf13 : ¬ (40 ≤ y4_2.toInt) := fun q => hc11 ((fa_le _ _).mpr (by have : ((40 : Int32).toInt) = 40 := (by decide); omega))
        refine lv_aload_n hx hb dX4_pairs_10 rfl (lv_at hl 2 rfl) ?_
        refine tw_get (ci := 4) (C := RX4) (T := TX4) (N := 7) hx hb hB cx_inX4 hown hK TH hm0 hk0 rfl ⟨by decide, rfl⟩ 3 (by decide) cw_200 (fun _ h9 => h9) dX4_pairs_11 (fun hv => ?_)
        obtain ⟨xr14, hxr14, hmxr14, hkxr14⟩ : ∃ a : Nat, tw_fv E a0 3 = .ref a ∧ a ∈ L ∧ kp a = 150 := hv
        rw [hxr14]
        refine lv_iload_n hx hb dX4_pairs_14 rfl (lv_at hl 0 rfl) ?_
        refine tw_iald (k := 150) (t0 := 0) (n := 40) (lo := (-1)) (hi := 39) hx hb hK TH hmxr14 hkxr14 (by decide) rfl rfl (i := y4_2) (vp_in_iff.mpr ⟨by  omega, by  omega⟩) dX4_pairs_15 (fun hxe15a hxe15b => ?_)
        generalize tw_iv E xr14 (Int32.toNatClampNeg y4_2) = xe15 at hxe15a hxe15b ⊢
        refine lv_iconst (v := (-1)) hx hb dX4_pairs_16 (by decide) ?_
        have hJ23 : ∀ (y23_1 : Int32) (H : Heap) (locs : List Loc) (ls : Array Slot), tw_H D cs kp L E A H → va_S A s.heap H locs → lv_has ls 3 [(2, .int y4_2), (1, .int y23_1), (0, .ref a0)] → W p l e { frames := 0, cells := 0, slots := 0, locals := 0 } s m [.ref a0].toArray below meth c H locs 0 0 (MQ below (tw_Q D cs kp0 L0 (fun v kq Lq Eq => (∃ x : Int32, v = some (.int x)) ∧ kp = kq ∧ L = Lq ∧ E = Eq) A) [.ref a0].toArray s 0 0 A) (F0 m 23 ls []) := by
          intro y23_1 H locs ls TH hS hl
          obtain ⟨zi16, ezi16⟩ : ∃ z : Int32, z = y4_2 + Int32.ofInt 1 := ⟨_, rfl⟩
          have hzi16 : zi16.toInt = y4_2.toInt + 1 := by rw [ezi16]; have : ((Int32.ofInt 1).toInt) = 1 := (by decide);  exact (ia_add (by omega) (by omega)).trans (by omega)
          refine lv_iinc (v := zi16) (lv' := [(2, .int zi16), (1, .int y23_1), (0, .ref a0)]) hx hb dX4_pairs_23 hl (k := 0) rfl ezi16.symm (by decide) rfl (fun ls hl => ?_)
          refine lv_goto (tgt := 4) hx hb dX4_pairs_26 (by decide) ?_
          exact ih4 zi16 y23_1 _ _ ls (by  omega) (by  omega) (by  omega)  TH hS (lv_sub hl [0, 1, 2] rfl)
        refine lv_icmp_eq (tgt := 23) hx hb dX4_pairs_17 (by decide) (fun hc17 => ?_) (fun hc17 => ?_)
        · have hf18 : xe15.toInt = (-1) := by have z := (fa_eq _ _).mp hc17; have : (((-1) : Int32).toInt) = (-1) := (by decide); omega
          exact hJ23 y4_1 _ _ ls   TH hS (lv_sub hl [0, 1, 2] rfl)
        · have hf19 : ¬ (xe15.toInt = (-1)) := fun q => hc17 ((fa_eq _ _).mpr (by have : (((-1) : Int32).toInt) = (-1) := (by decide); omega))
          obtain ⟨zi20, ezi20⟩ : ∃ z : Int32, z = y4_1 + Int32.ofInt 1 := ⟨_, rfl⟩
          refine lv_iinc (v := zi20) (lv' := [(1, .int zi20), (2, .int y4_2), (0, .ref a0)]) hx hb dX4_pairs_20 hl (k := 1) rfl ezi20.symm (by decide) rfl (fun ls hl => ?_)
          exact hJ23 zi20 _ _ ls   TH hS (lv_sub hl [1, 0, 2] rfl)
  exact hJ4 41 0 0 _ _ ls (by have : ((0 : Int32).toInt) = 0 := (by decide); omega) (by have : ((0 : Int32).toInt) = 0 := (by decide); omega) (by have : ((0 : Int32).toInt) = 0 := (by decide); have : ((0 : Int32).toInt) = 0 := (by decide); omega)  TH hS (lv_sub hl [0, 1, 2] rfl)
