set_option maxHeartbeats 4000000 in
set_option maxRecDepth 100000 in
theorem tX9_hasRoom (l : Launch) (D : va_G) (cs : Nat → ClassId) {kp : Nat → Nat} {L : List Nat} {E : Nat → va_E} (a0 : Nat) (x1 : Int32) (hm0 : a0 ∈ L) (hk0 : kp a0 = 9) (hp1a : 0 ≤ x1.toInt) (hp1b : x1.toInt ≤ 1000) (sz : Nat) : Met l yX9_hasRoom (.code yX9_hasRoom cX9_hasRoom 2 (some .boolean) :: cx_big) { frames := 0, cells := 0, slots := 0, locals := 0 } (tw_P D cs kp L E [.ref a0, .int x1] sz) (tw_Q D cs kp L (fun v _ _ _ => ∃ x : Int32, v = some (.int x) ∧ 0 ≤ x.toInt ∧ x.toInt ≤ 1) (va_A (va_pl L E) sz)) 0 0 (va_A (va_pl L E) sz) := by
  refine tw_ofW (by decide) (Nat.le_of_ble_eq_true rfl) ?_
  intro p e s m below meth c A ls hx hb hr hml hB hown hlocks hK hN hA TH hS hl
  have hown : s.vm.findClass "TreeMerge$Text" = some m.cls := hown
  have hl : lv_has ls 2 [(0, .ref a0), (1, .int x1)] := hl
  obtain ⟨kp0, ekp⟩ : ∃ z, z = kp := ⟨_, rfl⟩
  obtain ⟨L0, eL⟩ : ∃ z, z = L := ⟨_, rfl⟩
  rw [show tw_Q D cs kp L = tw_Q D cs kp0 L0 by rw [ekp, eL]]
  have hex : ∀ a : Nat, a ∈ L0 → a ∈ L ∧ kp a = kp0 a := fun a h => ⟨by rw [← eL]; exact h, by rw [ekp]⟩
  refine lv_aload_n hx hb dX9_hasRoom_0 rfl (lv_at hl 0 rfl) ?_
  refine tw_get (ci := 9) (C := RX9) (T := TX9) (N := 5) hx hb hB cx_inX9 hown hK TH hm0 hk0 rfl ⟨by decide, rfl⟩ 1 (by decide) cw_36 (fun _ h9 => h9) dX9_hasRoom_1 (fun hv => ?_)
  obtain ⟨xi1, hxi1, hxi1a, hxi1b⟩ : ∃ x : Int32, tw_fv E a0 1 = .int x ∧ 0 ≤ x.toInt ∧ x.toInt ≤ 500 := hv
  rw [hxi1]
  refine lv_iload_n hx hb dX9_hasRoom_4 rfl (lv_at hl 1 rfl) ?_
  refine lv_iadd hx hb dX9_hasRoom_5 ?_
  refine lv_topi (fun zi2 ezi2 => ?_)
  have hzi2 : zi2.toInt = xi1.toInt + x1.toInt := by rw [ezi2];  exact (ia_add (by omega) (by omega)).trans (by omega)
  refine lv_sipush (v := 500) hx hb dX9_hasRoom_6 (by decide) ?_
  refine lv_icmp_gt (tgt := 16) hx hb dX9_hasRoom_9 (by decide) (fun hc3 => ?_) (fun hc3 => ?_)
  · have hf4 : 500 < zi2.toInt := by have z := (fa_lt _ _).mp hc3; have : ((500 : Int32).toInt) = 500 := (by decide); omega
    refine lv_iconst (v := 0) hx hb dX9_hasRoom_16 (by decide) ?_
    exact tw_zret hx hb hr hlocks (by decide) TH hS hex ⟨_, rfl, by have : ((0 : Int32).toInt) = 0 := (by decide); omega, by have : ((0 : Int32).toInt) = 0 := (by decide); omega⟩ (Nat.le_of_ble_eq_true rfl) (Nat.le_of_ble_eq_true rfl) dX9_hasRoom_17
  · have hf5 : ¬ (500 < zi2.toInt) := fun q => hc3 ((fa_lt _ _).mpr (by have : ((500 : Int32).toInt) = 500 := (by decide); omega))
    refine lv_iconst (v := 1) hx hb dX9_hasRoom_12 (by decide) ?_
    refine lv_goto (tgt := 17) hx hb dX9_hasRoom_13 (by decide) ?_
    exact tw_zret hx hb hr hlocks (by decide) TH hS hex ⟨_, rfl, by have : ((1 : Int32).toInt) = 1 := (by decide); omega, by have : ((1 : Int32).toInt) = 1 := (by decide); omega⟩ (Nat.le_of_ble_eq_true rfl) (Nat.le_of_ble_eq_true rfl) dX9_hasRoom_17
set_option maxHeartbeats 4000000 in
set_option maxRecDepth 100000 in
theorem tX9_rewind (l : Launch) (D : va_G) (cs : Nat → ClassId) {kp : Nat → Nat} {L : List Nat} {E : Nat → va_E} (a0 : Nat) (hm0 : a0 ∈ L) (hk0 : kp a0 = 9) (sz : Nat) : Met l yX9_rewind (.code yX9_rewind cX9_rewind 1 none :: cx_big) { frames := 0, cells := 0, slots := 0, locals := 0 } (tw_P D cs kp L E [.ref a0] sz) (tw_Q D cs kp L (fun v _ _ _ => v = none) (va_A (va_pl L E) sz)) 0 0 (va_A (va_pl L E) sz) := by
  refine tw_ofW (by decide) (Nat.le_of_ble_eq_true rfl) ?_
  intro p e s m below meth c A ls hx hb hr hml hB hown hlocks hK hN hA TH hS hl
  have hown : s.vm.findClass "TreeMerge$Text" = some m.cls := hown
  have hl : lv_has ls 1 [(0, .ref a0)] := hl
  obtain ⟨kp0, ekp⟩ : ∃ z, z = kp := ⟨_, rfl⟩
  obtain ⟨L0, eL⟩ : ∃ z, z = L := ⟨_, rfl⟩
  rw [show tw_Q D cs kp L = tw_Q D cs kp0 L0 by rw [ekp, eL]]
  have hex : ∀ a : Nat, a ∈ L0 → a ∈ L ∧ kp a = kp0 a := fun a h => ⟨by rw [← eL]; exact h, by rw [ekp]⟩
  refine lv_aload_n hx hb dX9_rewind_0 rfl (lv_at hl 0 rfl) ?_
  refine lv_iconst (v := 0) hx hb dX9_rewind_1 (by decide) ?_
  refine tw_put (ci := 9) (v := .int 0) (ty := .int) (C := RX9) (T := TX9) (N := 5) hx hb hB cx_inX9 tyX9 tyX9_ok nmX9 hown hK TH hS hm0 hk0 rfl ⟨by decide, rfl⟩ 4 (by decide) cw_46 (fun _ h9 => h9) rfl (by decide +kernel) rfl rfl ⟨_, rfl, (show 0 ≤ Int32.toInt 0 from by have : ((0 : Int32).toInt) = 0 := (by decide); omega), (show Int32.toInt 0 ≤ 500 from by have : ((0 : Int32).toInt) = 0 := (by decide); omega)⟩ dX9_rewind_2 (fun H locs E1 TH hS hp1 hp2 hp3 => ?_)
  have hm2 := hp1
  exact tw_vret hx hb hr hlocks TH hS hex rfl (Nat.le_of_ble_eq_true rfl) (Nat.le_of_ble_eq_true rfl) dX9_rewind_5
set_option maxHeartbeats 4000000 in
set_option maxRecDepth 100000 in
theorem tX9_append_L3 {p : Program} {l : Launch} {e : Env} {s : State} {m : MethodId} {below : List Frame} {meth : Method} {c : Code} {D : va_G} {cs : Nat → ClassId} {A : Nat → Prop} {args : Array Value} {kp0 : Nat → Nat} {L0 : List Nat} (a0 : Nat) (x1 : Int32) (hx : p.tables.exec = Jvm.exec) (hb : c.code = cX9_append) (hr : meth.sig.returnType = none) (hml : c.maxLocals = 3) (hB : ∀ w ∈ cx_big, w.before args s = true) (hown : s.vm.findClass "TreeMerge$Text" = some m.cls) (hlocks : meth.locks = false) (hK : va_K D vwCl (cx_TY cs) s) (hN : cx_NW s) (hA : ∀ q : Nat, s.heap.size ≤ q → A q) :
    ∀ (n : Nat) (y2 : Int32), (-8) ≤ y2.toInt → y2.toInt ≤ 24 → y2.toInt + 8 ≤ (n : Int) → ∀ (kp : Nat → Nat) (L : List Nat) (E : Nat → va_E) (H : Heap) (locs : List Loc), (∀ a : Nat, a ∈ L0 → a ∈ L ∧ kp a = kp0 a) → tw_H D cs kp L E A H → va_S A s.heap H locs → a0 ∈ L → kp a0 = 9 → ∀ (ls : Array Slot), lv_has ls 3 [(2, .int y2), (1, .int x1), (0, .ref a0)] → W p l e { frames := 0, cells := 0, slots := 0, locals := 0 } s m args below meth c H locs 0 0 (MQ below (tw_Q D cs kp0 L0 (fun v _ _ _ => v = none) A) args s 0 0 A) (F0 m 3 ls []) := by
  intro n
  induction n with
  | zero =>
    intro y2 hy2a hy2b hmeas kp L E H locs hex TH hS hm0 hk0 ls hl
    refine lv_iload_n hx hb dX9_append_3 rfl (lv_at hl 0 rfl) ?_
    refine lv_if_lt (tgt := 49) hx hb dX9_append_4 (by decide) (fun hc1 => ?_) (fun hc1 => ?_)
    · have hf2 : y2.toInt < 0 := by have z := (fa_lt _ _).mp hc1; have : ((0 : Int32).toInt) = 0 := (by decide); omega
      exact tw_vret hx hb hr hlocks TH hS hex rfl (Nat.le_of_ble_eq_true rfl) (Nat.le_of_ble_eq_true rfl) dX9_append_49
    · have hf3 : ¬ (y2.toInt < 0) := fun q => hc1 ((fa_lt _ _).mpr (by have : ((0 : Int32).toInt) = 0 := (by decide); omega))
      refine lv_aload_n hx hb dX9_append_7 rfl (lv_at hl 2 rfl) ?_
      refine tw_get (ci := 9) (C := RX9) (T := TX9) (N := 5) hx hb hB cx_inX9 hown hK TH hm0 hk0 rfl ⟨by decide, rfl⟩ 1 (by decide) cw_36 (fun _ h9 => h9) dX9_append_8 (fun hv => ?_)
      obtain ⟨xi4, hxi4, hxi4a, hxi4b⟩ : ∃ x : Int32, tw_fv E a0 1 = .int x ∧ 0 ≤ x.toInt ∧ x.toInt ≤ 500 := hv
      rw [hxi4]
      refine lv_sipush (v := 500) hx hb dX9_append_11 (by decide) ?_
      refine lv_icmp_ge (tgt := 43) hx hb dX9_append_14 (by decide) (fun hc5 => ?_) (fun hc5 => ?_)
      · have hf6 : 500 ≤ xi4.toInt := by have z := (fa_le _ _).mp hc5; have : ((500 : Int32).toInt) = 500 := (by decide); omega
        obtain ⟨zi7, ezi7⟩ : ∃ z : Int32, z = y2 + Int32.ofInt (-8) := ⟨_, rfl⟩
        have hzi7 : zi7.toInt = y2.toInt + (-8) := by rw [ezi7]; have : ((Int32.ofInt (-8)).toInt) = (-8) := (by decide);  exact (ia_add (by omega) (by omega)).trans (by omega)
        refine lv_iinc (v := zi7) (lv' := [(2, .int zi7), (1, .int x1), (0, .ref a0)]) hx hb dX9_append_43 hl (k := 0) rfl ezi7.symm (by decide) rfl (fun ls hl => ?_)
        refine lv_goto (tgt := 3) hx hb dX9_append_46 (by decide) ?_
        exfalso; omega
      · have hf8 : ¬ (500 ≤ xi4.toInt) := fun q => hc5 ((fa_le _ _).mpr (by have : ((500 : Int32).toInt) = 500 := (by decide); omega))
        refine lv_aload_n hx hb dX9_append_17 rfl (lv_at hl 2 rfl) ?_
        refine tw_get (ci := 9) (C := RX9) (T := TX9) (N := 5) hx hb hB cx_inX9 hown hK TH hm0 hk0 rfl ⟨by decide, rfl⟩ 0 (by decide) cw_34 (fun _ h9 => h9) dX9_append_18 (fun hv => ?_)
        obtain ⟨xr9, hxr9, hmxr9, hkxr9⟩ : ∃ a : Nat, tw_fv E a0 0 = .ref a ∧ a ∈ L ∧ kp a = 100 := hv
        rw [hxr9]
        refine lv_aload_n hx hb dX9_append_21 rfl (lv_at hl 2 rfl) ?_
        refine tw_get (ci := 9) (C := RX9) (T := TX9) (N := 5) hx hb hB cx_inX9 hown hK TH hm0 hk0 rfl ⟨by decide, rfl⟩ 1 (by decide) cw_36 (fun _ h9 => h9) dX9_append_22 (fun hv => ?_)
        rw [hxi4]
        refine lv_iload_n hx hb dX9_append_25 rfl (lv_at hl 1 rfl) ?_
        refine lv_iload_n hx hb dX9_append_26 rfl (lv_at hl 0 rfl) ?_
        refine lv_iushr (v := ((x1 : Int32).toUInt32 >>> ((y2 : Int32).toUInt32 &&& Int32.toUInt32 31)).toInt32) hx hb dX9_append_27 rfl ?_
        refine lv_topi (fun zi10 ezi10 => ?_)
        refine lv_sipush (v := 255) hx hb dX9_append_28 (by decide) ?_
        refine lv_iand hx hb dX9_append_31 ?_
        refine lv_topi (fun zi11 ezi11 => ?_)
        have hzi11 : 0 ≤ zi11.toInt ∧ zi11.toInt ≤ 255 := by rw [ezi11]; exact ia_and255 _
        refine tw_iast (k := 100) (n := 500) (lo := 0) (hi := 255) hx hb hK TH hS hmxr9 hkxr9 (by decide) rfl (i := xi4) (x := zi11) (vp_in_iff.mpr ⟨by  omega, by  omega⟩) (by  omega) (by  omega) dX9_append_32 (fun H locs E12 TH hS hp2 hp3 hp4 => ?_)
        have hm13 : tw_fv E12 a0 1 = .int xi4 := (hp2 a0 1).trans hxi4
        have hm14 : tw_fv E12 a0 0 = .ref xr9 := (hp2 a0 0).trans hxr9
        refine lv_aload_n hx hb dX9_append_33 rfl (lv_at hl 2 rfl) ?_
        refine lv_dup hx hb dX9_append_34 rfl ?_
        refine tw_get (ci := 9) (C := RX9) (T := TX9) (N := 5) hx hb hB cx_inX9 hown hK TH hm0 hk0 rfl ⟨by decide, rfl⟩ 1 (by decide) cw_36 (fun _ h9 => h9) dX9_append_35 (fun hv => ?_)
        rw [hm13]
        refine lv_iconst (v := 1) hx hb dX9_append_38 (by decide) ?_
        refine lv_iadd hx hb dX9_append_39 ?_
        refine lv_topi (fun zi15 ezi15 => ?_)
        have hzi15 : zi15.toInt = xi4.toInt + 1 := by rw [ezi15]; have : ((1 : Int32).toInt) = 1 := (by decide); exact (ia_add (by omega) (by omega)).trans (by omega)
        refine tw_put (ci := 9) (v := .int zi15) (ty := .int) (C := RX9) (T := TX9) (N := 5) hx hb hB cx_inX9 tyX9 tyX9_ok nmX9 hown hK TH hS hm0 hk0 rfl ⟨by decide, rfl⟩ 1 (by decide) cw_36 (fun _ h9 => h9) rfl (by decide +kernel) rfl rfl ⟨_, rfl, (show 0 ≤ Int32.toInt zi15 from by  omega), (show Int32.toInt zi15 ≤ 500 from by  omega)⟩ dX9_append_40 (fun H locs E16 TH hS hp1 hp2 hp3 => ?_)
        have hm17 : tw_fv E16 a0 0 = .ref xr9 := (hp2 a0 0 (Or.inr (by decide))).trans hm14
        have hm18 := hp1
        obtain ⟨zi19, ezi19⟩ : ∃ z : Int32, z = y2 + Int32.ofInt (-8) := ⟨_, rfl⟩
        have hzi19 : zi19.toInt = y2.toInt + (-8) := by rw [ezi19]; have : ((Int32.ofInt (-8)).toInt) = (-8) := (by decide);  exact (ia_add (by omega) (by omega)).trans (by omega)
        refine lv_iinc (v := zi19) (lv' := [(2, .int zi19), (1, .int x1), (0, .ref a0)]) hx hb dX9_append_43 hl (k := 0) rfl ezi19.symm (by decide) rfl (fun ls hl => ?_)
        refine lv_goto (tgt := 3) hx hb dX9_append_46 (by decide) ?_
        exfalso; omega
  | succ n ih =>
    intro y2 hy2a hy2b hmeas kp L E H locs hex TH hS hm0 hk0 ls hl
    refine lv_iload_n hx hb dX9_append_3 rfl (lv_at hl 0 rfl) ?_
    refine lv_if_lt (tgt := 49) hx hb dX9_append_4 (by decide) (fun hc1 => ?_) (fun hc1 => ?_)
    · have hf2 : y2.toInt < 0 := by have z := (fa_lt _ _).mp hc1; have : ((0 : Int32).toInt) = 0 := (by decide); omega
      exact tw_vret hx hb hr hlocks TH hS hex rfl (Nat.le_of_ble_eq_true rfl) (Nat.le_of_ble_eq_true rfl) dX9_append_49
    · have hf3 : ¬ (y2.toInt < 0) := fun q => hc1 ((fa_lt _ _).mpr (by have : ((0 : Int32).toInt) = 0 := (by decide); omega))
      refine lv_aload_n hx hb dX9_append_7 rfl (lv_at hl 2 rfl) ?_
      refine tw_get (ci := 9) (C := RX9) (T := TX9) (N := 5) hx hb hB cx_inX9 hown hK TH hm0 hk0 rfl ⟨by decide, rfl⟩ 1 (by decide) cw_36 (fun _ h9 => h9) dX9_append_8 (fun hv => ?_)
      obtain ⟨xi4, hxi4, hxi4a, hxi4b⟩ : ∃ x : Int32, tw_fv E a0 1 = .int x ∧ 0 ≤ x.toInt ∧ x.toInt ≤ 500 := hv
      rw [hxi4]
      refine lv_sipush (v := 500) hx hb dX9_append_11 (by decide) ?_
      refine lv_icmp_ge (tgt := 43) hx hb dX9_append_14 (by decide) (fun hc5 => ?_) (fun hc5 => ?_)
      · have hf6 : 500 ≤ xi4.toInt := by have z := (fa_le _ _).mp hc5; have : ((500 : Int32).toInt) = 500 := (by decide); omega
        obtain ⟨zi7, ezi7⟩ : ∃ z : Int32, z = y2 + Int32.ofInt (-8) := ⟨_, rfl⟩
        have hzi7 : zi7.toInt = y2.toInt + (-8) := by rw [ezi7]; have : ((Int32.ofInt (-8)).toInt) = (-8) := (by decide);  exact (ia_add (by omega) (by omega)).trans (by omega)
        refine lv_iinc (v := zi7) (lv' := [(2, .int zi7), (1, .int x1), (0, .ref a0)]) hx hb dX9_append_43 hl (k := 0) rfl ezi7.symm (by decide) rfl (fun ls hl => ?_)
        refine lv_goto (tgt := 3) hx hb dX9_append_46 (by decide) ?_
        exact ih zi7 (by  omega) (by  omega) (by  omega) _ _ _ _ _ hex TH hS hm0 hk0 ls (lv_sub hl [0, 1, 2] rfl)
      · have hf8 : ¬ (500 ≤ xi4.toInt) := fun q => hc5 ((fa_le _ _).mpr (by have : ((500 : Int32).toInt) = 500 := (by decide); omega))
        refine lv_aload_n hx hb dX9_append_17 rfl (lv_at hl 2 rfl) ?_
        refine tw_get (ci := 9) (C := RX9) (T := TX9) (N := 5) hx hb hB cx_inX9 hown hK TH hm0 hk0 rfl ⟨by decide, rfl⟩ 0 (by decide) cw_34 (fun _ h9 => h9) dX9_append_18 (fun hv => ?_)
        obtain ⟨xr9, hxr9, hmxr9, hkxr9⟩ : ∃ a : Nat, tw_fv E a0 0 = .ref a ∧ a ∈ L ∧ kp a = 100 := hv
        rw [hxr9]
        refine lv_aload_n hx hb dX9_append_21 rfl (lv_at hl 2 rfl) ?_
        refine tw_get (ci := 9) (C := RX9) (T := TX9) (N := 5) hx hb hB cx_inX9 hown hK TH hm0 hk0 rfl ⟨by decide, rfl⟩ 1 (by decide) cw_36 (fun _ h9 => h9) dX9_append_22 (fun hv => ?_)
        rw [hxi4]
        refine lv_iload_n hx hb dX9_append_25 rfl (lv_at hl 1 rfl) ?_
        refine lv_iload_n hx hb dX9_append_26 rfl (lv_at hl 0 rfl) ?_
        refine lv_iushr (v := ((x1 : Int32).toUInt32 >>> ((y2 : Int32).toUInt32 &&& Int32.toUInt32 31)).toInt32) hx hb dX9_append_27 rfl ?_
        refine lv_topi (fun zi10 ezi10 => ?_)
        refine lv_sipush (v := 255) hx hb dX9_append_28 (by decide) ?_
        refine lv_iand hx hb dX9_append_31 ?_
        refine lv_topi (fun zi11 ezi11 => ?_)
        have hzi11 : 0 ≤ zi11.toInt ∧ zi11.toInt ≤ 255 := by rw [ezi11]; exact ia_and255 _
        refine tw_iast (k := 100) (n := 500) (lo := 0) (hi := 255) hx hb hK TH hS hmxr9 hkxr9 (by decide) rfl (i := xi4) (x := zi11) (vp_in_iff.mpr ⟨by  omega, by  omega⟩) (by  omega) (by  omega) dX9_append_32 (fun H locs E12 TH hS hp2 hp3 hp4 => ?_)
        have hm13 : tw_fv E12 a0 1 = .int xi4 := (hp2 a0 1).trans hxi4
        have hm14 : tw_fv E12 a0 0 = .ref xr9 := (hp2 a0 0).trans hxr9
        refine lv_aload_n hx hb dX9_append_33 rfl (lv_at hl 2 rfl) ?_
        refine lv_dup hx hb dX9_append_34 rfl ?_
        refine tw_get (ci := 9) (C := RX9) (T := TX9) (N := 5) hx hb hB cx_inX9 hown hK TH hm0 hk0 rfl ⟨by decide, rfl⟩ 1 (by decide) cw_36 (fun _ h9 => h9) dX9_append_35 (fun hv => ?_)
        rw [hm13]
        refine lv_iconst (v := 1) hx hb dX9_append_38 (by decide) ?_
        refine lv_iadd hx hb dX9_append_39 ?_
        refine lv_topi (fun zi15 ezi15 => ?_)
        have hzi15 : zi15.toInt = xi4.toInt + 1 := by rw [ezi15]; have : ((1 : Int32).toInt) = 1 := (by decide); exact (ia_add (by omega) (by omega)).trans (by omega)
        refine tw_put (ci := 9) (v := .int zi15) (ty := .int) (C := RX9) (T := TX9) (N := 5) hx hb hB cx_inX9 tyX9 tyX9_ok nmX9 hown hK TH hS hm0 hk0 rfl ⟨by decide, rfl⟩ 1 (by decide) cw_36 (fun _ h9 => h9) rfl (by decide +kernel) rfl rfl ⟨_, rfl, (show 0 ≤ Int32.toInt zi15 from by  omega), (show Int32.toInt zi15 ≤ 500 from by  omega)⟩ dX9_append_40 (fun H locs E16 TH hS hp1 hp2 hp3 => ?_)
        have hm17 : tw_fv E16 a0 0 = .ref xr9 := (hp2 a0 0 (Or.inr (by decide))).trans hm14
        have hm18 := hp1
        obtain ⟨zi19, ezi19⟩ : ∃ z : Int32, z = y2 + Int32.ofInt (-8) := ⟨_, rfl⟩
        have hzi19 : zi19.toInt = y2.toInt + (-8) := by rw [ezi19]; have : ((Int32.ofInt (-8)).toInt) = (-8) := (by decide);  exact (ia_add (by omega) (by omega)).trans (by omega)
        refine lv_iinc (v := zi19) (lv' := [(2, .int zi19), (1, .int x1), (0, .ref a0)]) hx hb dX9_append_43 hl (k := 0) rfl ezi19.symm (by decide) rfl (fun ls hl => ?_)
        refine lv_goto (tgt := 3) hx hb dX9_append_46 (by decide) ?_
        exact ih zi19 (by  omega) (by  omega) (by  omega) _ _ _ _ _ hex TH hS hm0 hk0 ls (lv_sub hl [0, 1, 2] rfl)
set_option maxHeartbeats 4000000 in
set_option maxRecDepth 100000 in
theorem tX9_append (l : Launch) (D : va_G) (cs : Nat → ClassId) {kp : Nat → Nat} {L : List Nat} {E : Nat → va_E} (a0 : Nat) (x1 : Int32) (hm0 : a0 ∈ L) (hk0 : kp a0 = 9) (sz : Nat) : Met l yX9_append (.code yX9_append cX9_append 3 none :: cx_big) { frames := 0, cells := 0, slots := 0, locals := 0 } (tw_P D cs kp L E [.ref a0, .int x1] sz) (tw_Q D cs kp L (fun v _ _ _ => v = none) (va_A (va_pl L E) sz)) 0 0 (va_A (va_pl L E) sz) := by
  refine tw_ofW (by decide) (Nat.le_of_ble_eq_true rfl) ?_
  intro p e s m below meth c A ls hx hb hr hml hB hown hlocks hK hN hA TH hS hl
  have hown : s.vm.findClass "TreeMerge$Text" = some m.cls := hown
  have hl : lv_has ls 3 [(0, .ref a0), (1, .int x1)] := hl
  obtain ⟨kp0, ekp⟩ : ∃ z, z = kp := ⟨_, rfl⟩
  obtain ⟨L0, eL⟩ : ∃ z, z = L := ⟨_, rfl⟩
  rw [show tw_Q D cs kp L = tw_Q D cs kp0 L0 by rw [ekp, eL]]
  have hex : ∀ a : Nat, a ∈ L0 → a ∈ L ∧ kp a = kp0 a := fun a h => ⟨by rw [← eL]; exact h, by rw [ekp]⟩
  refine lv_bipush (v := 24) hx hb dX9_append_0 (by decide) ?_
  refine lv_istore_n (lv' := [(2, .int 24), (0, .ref a0), (1, .int x1)]) hx hb dX9_append_2 rfl hl (by decide) rfl (fun ls hl => ?_)
  exact tX9_append_L3 a0 x1 hx hb hr hml hB hown hlocks hK hN hA 32 24 (by have : ((24 : Int32).toInt) = 24 := (by decide); omega) (by have : ((24 : Int32).toInt) = 24 := (by decide); omega) (by have : ((24 : Int32).toInt) = 24 := (by decide); omega) _ _ _ _ _ hex TH hS hm0 hk0 ls (lv_sub hl [0, 2, 1] rfl)
