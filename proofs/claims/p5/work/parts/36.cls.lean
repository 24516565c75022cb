set_option maxHeartbeats 4000000 in
set_option maxRecDepth 100000 in
theorem tX8_isTouched (l : Launch) (D : va_G) (cs : Nat → ClassId) {kp : Nat → Nat} {L : List Nat} {E : Nat → va_E} (a0 : Nat) (x1 : Int32) (hm0 : a0 ∈ L) (hk0 : kp a0 = 8) (sz : Nat) : Met l yX8_isTouched (.code yX8_isTouched cX8_isTouched 3 (some .boolean) :: cx_big) { frames := 1, cells := 0, slots := 0, locals := 21 } (tw_P D cs kp L E [.ref a0, .int x1] sz) (tw_Q D cs kp L (fun v kq Lq Eq => (∃ x : Int32, v = some (.int x) ∧ 0 ≤ x.toInt ∧ x.toInt ≤ 1) ∧ kp = kq ∧ L = Lq ∧ E = Eq) (va_A (va_pl L E) sz)) 0 0 (va_A (va_pl L E) sz) := by
  refine tw_ofW (by decide) (Nat.le_of_ble_eq_true rfl) ?_
  intro p e s m below meth c A ls hx hb hr hml hB hown hlocks hK hN hA TH hS hl
  have hown : s.vm.findClass "TreeMerge$Side" = some m.cls := hown
  have hl : lv_has ls 3 [(0, .ref a0), (1, .int x1)] := hl
  obtain ⟨kp0, ekp⟩ : ∃ z, z = kp := ⟨_, rfl⟩
  obtain ⟨L0, eL⟩ : ∃ z, z = L := ⟨_, rfl⟩
  rw [show tw_Q D cs kp L = tw_Q D cs kp0 L0 by rw [ekp, eL]]
  have hex : ∀ a : Nat, a ∈ L0 → a ∈ L ∧ kp a = kp0 a := fun a h => ⟨by rw [← eL]; exact h, by rw [ekp]⟩
  refine lv_aload_n hx hb dX8_isTouched_0 rfl (lv_at hl 0 rfl) ?_
  refine lv_iload_n hx hb dX8_isTouched_1 rfl (lv_at hl 1 rfl) ?_
  refine tw_Vc (o := a0) (ci := 8) (n := 1) (post := (fun v kq Lq Eq => (∃ x : Int32, v = some (.int x) ∧ (-1) ≤ x.toInt ∧ x.toInt ≤ 39) ∧ kp = kq ∧ L = Lq ∧ E = Eq)) (As := [.int x1]) (rest := []) ⟨hx, hb, hml, hown, hB⟩ (fun sz => tX8_placeOf l D cs a0 x1 hm0 hk0 sz) cg_8_35_X8_placeOf rfl rfl (by decide +kernel) ⟨Nat.le_of_ble_eq_true rfl, Nat.le_of_ble_eq_true rfl⟩ hK hN TH hS hA rfl hm0 hk0 (by decide) rfl hl.1 rfl (Nat.le_of_ble_eq_true rfl) dX8_isTouched_2 ⟨Nat.le_of_ble_eq_true rfl, Nat.le_of_ble_eq_true rfl⟩ (fun v1 kp1 L1 E1 H locs hq1 hx1 TH hS => ?_)
  obtain ⟨⟨xc2, rfl, hxc2a, hxc2b⟩, rfl, rfl, rfl⟩ := hq1
  refine W.eq (g2 := F0 m 5 ls [.int xc2]) rfl ?_
  refine lv_istore_n (lv' := [(2, .int xc2), (0, .ref a0), (1, .int x1)]) hx hb dX8_isTouched_5 rfl hl (by decide) rfl (fun ls hl => ?_)
  refine lv_iload_n hx hb dX8_isTouched_6 rfl (lv_at hl 0 rfl) ?_
  refine lv_iconst (v := (-1)) hx hb dX8_isTouched_7 (by decide) ?_
  refine lv_icmp_eq (tgt := 25) hx hb dX8_isTouched_8 (by decide) (fun hc3 => ?_) (fun hc3 => ?_)
  · have hf4 : xc2.toInt = (-1) := by have z := (fa_eq _ _).mp hc3; have : (((-1) : Int32).toInt) = (-1) := (by decide); omega
    refine lv_iconst (v := 0) hx hb dX8_isTouched_25 (by decide) ?_
    exact tw_zret hx hb hr hlocks (by decide) TH hS hex ⟨⟨_, rfl, (show 0 ≤ Int32.toInt 0 from by have : ((0 : Int32).toInt) = 0 := (by decide); omega), (show Int32.toInt 0 ≤ 1 from by have : ((0 : Int32).toInt) = 0 := (by decide); omega)⟩, rfl, rfl, rfl⟩ (Nat.le_of_ble_eq_true rfl) (Nat.le_of_ble_eq_true rfl) dX8_isTouched_26
  · have hf5 : ¬ (xc2.toInt = (-1)) := fun q => hc3 ((fa_eq _ _).mpr (by have : (((-1) : Int32).toInt) = (-1) := (by decide); omega))
    refine lv_aload_n hx hb dX8_isTouched_11 rfl (lv_at hl 1 rfl) ?_
    refine tw_get (ci := 8) (C := RX8) (T := TX8) (N := 4) hx hb hB cx_inX8 hown hK TH hm0 hk0 rfl ⟨by decide, rfl⟩ 3 (by decide) cw_303 (fun _ h9 => h9) dX8_isTouched_12 (fun hv => ?_)
    obtain ⟨xr6, hxr6, hmxr6, hkxr6⟩ : ∃ a : Nat, tw_fv E a0 3 = .ref a ∧ a ∈ L ∧ kp a = 171 := hv
    rw [hxr6]
    refine lv_iload_n hx hb dX8_isTouched_15 rfl (lv_at hl 0 rfl) ?_
    refine tw_iald (k := 171) (t0 := 0) (n := 40) (lo := 0) (hi := 1) hx hb hK TH hmxr6 hkxr6 (by decide) rfl rfl (i := xc2) (vp_in_iff.mpr ⟨by  omega, by  omega⟩) dX8_isTouched_16 (fun hxe7a hxe7b => ?_)
    obtain ⟨xe7, exe7⟩ : ∃ z : Int32, tw_iv E xr6 (Int32.toNatClampNeg xc2) = z := ⟨_, rfl⟩
    rw [exe7] at hxe7a hxe7b ⊢
    refine lv_iconst (v := 1) hx hb dX8_isTouched_17 (by decide) ?_
    refine lv_icmp_ne (tgt := 25) hx hb dX8_isTouched_18 (by decide) (fun hc8 => ?_) (fun hc8 => ?_)
    · have hf9 : ¬ (xe7.toInt = 1) := fun q => hc8 ((fa_eq _ _).mpr (by have : ((1 : Int32).toInt) = 1 := (by decide); omega))
      refine lv_iconst (v := 0) hx hb dX8_isTouched_25 (by decide) ?_
      exact tw_zret hx hb hr hlocks (by decide) TH hS hex ⟨⟨_, rfl, (show 0 ≤ Int32.toInt 0 from by have : ((0 : Int32).toInt) = 0 := (by decide); omega), (show Int32.toInt 0 ≤ 1 from by have : ((0 : Int32).toInt) = 0 := (by decide); omega)⟩, rfl, rfl, rfl⟩ (Nat.le_of_ble_eq_true rfl) (Nat.le_of_ble_eq_true rfl) dX8_isTouched_26
    · have hf10 : xe7.toInt = 1 := by have z := (fa_eq _ _).mp hc8; have : ((1 : Int32).toInt) = 1 := (by decide); omega
      refine lv_iconst (v := 1) hx hb dX8_isTouched_21 (by decide) ?_
      refine lv_goto (tgt := 26) hx hb dX8_isTouched_22 (by decide) ?_
      exact tw_zret hx hb hr hlocks (by decide) TH hS hex ⟨⟨_, rfl, (show 0 ≤ Int32.toInt 1 from by have : ((1 : Int32).toInt) = 1 := (by decide); omega), (show Int32.toInt 1 ≤ 1 from by have : ((1 : Int32).toInt) = 1 := (by decide); omega)⟩, rfl, rfl, rfl⟩ (Nat.le_of_ble_eq_true rfl) (Nat.le_of_ble_eq_true rfl) dX8_isTouched_26
set_option maxHeartbeats 4000000 in
set_option maxRecDepth 100000 in
theorem tX8_ordering (l : Launch) (D : va_G) (cs : Nat → ClassId) {kp : Nat → Nat} {L : List Nat} {E : Nat → va_E} (a0 : Nat) (x1 : Int32) (x2 : Int32) (x3 : Int32) (hm0 : a0 ∈ L) (hk0 : kp a0 = 8) (sz : Nat) : Met l yX8_ordering (.code yX8_ordering cX8_ordering 7 (some .int) :: cx_big) { frames := 0, cells := 0, slots := 0, locals := 0 } (tw_P D cs kp L E [.ref a0, .int x1, .int x2, .int x3] sz) (tw_Q D cs kp L (fun v kq Lq Eq => (∃ x : Int32, v = some (.int x) ∧ (-1) ≤ x.toInt ∧ x.toInt ≤ 1) ∧ kp = kq ∧ L = Lq ∧ E = Eq) (va_A (va_pl L E) sz)) 0 0 (va_A (va_pl L E) sz) := by
  refine tw_ofW (by decide) (Nat.le_of_ble_eq_true rfl) ?_
  intro p e s m below meth c A ls hx hb hr hml hB hown hlocks hK hN hA TH hS hl
  have hown : s.vm.findClass "TreeMerge$Side" = some m.cls := hown
  have hl : lv_has ls 7 [(0, .ref a0), (1, .int x1), (2, .int x2), (3, .int x3)] := hl
  obtain ⟨kp0, ekp⟩ : ∃ z, z = kp := ⟨_, rfl⟩
  obtain ⟨L0, eL⟩ : ∃ z, z = L := ⟨_, rfl⟩
  rw [show tw_Q D cs kp L = tw_Q D cs kp0 L0 by rw [ekp, eL]]
  have hex : ∀ a : Nat, a ∈ L0 → a ∈ L ∧ kp a = kp0 a := fun a h => ⟨by rw [← eL]; exact h, by rw [ekp]⟩
  refine lv_iload_n hx hb dX8_ordering_0 rfl (lv_at hl 2 rfl) ?_
  refine lv_if_lt (tgt := 26) hx hb dX8_ordering_1 (by decide) (fun hc1 => ?_) (fun hc1 => ?_)
  · have hf2 : x2.toInt < 0 := by have z := (fa_lt _ _).mp hc1; have : ((0 : Int32).toInt) = 0 := (by decide); omega
    refine lv_iconst (v := 0) hx hb dX8_ordering_26 (by decide) ?_
    refine lv_istore (lv' := [(4, .int 0), (0, .ref a0), (1, .int x1), (2, .int x2), (3, .int x3)]) hx hb dX8_ordering_27 hl (by decide) rfl (fun ls hl => ?_)
    refine lv_iload hx hb dX8_ordering_29 (lv_at hl 0 rfl) ?_
    refine lv_if_eq (tgt := 43) hx hb dX8_ordering_31 (by decide) (fun hc3 => ?_) (fun hc3 => ?_)
    · have hf4 : 0 = 0 := by have z := (fa_eq _ _).mp hc3; have : ((0 : Int32).toInt) = 0 := (by decide); omega
      refine lv_iconst (v := (-1)) hx hb dX8_ordering_43 (by decide) ?_
      refine lv_istore (lv' := [(5, .int (-1)), (4, .int 0), (0, .ref a0), (1, .int x1), (2, .int x2), (3, .int x3)]) hx hb dX8_ordering_44 hl (by decide) rfl (fun ls hl => ?_)
      refine lv_iload hx hb dX8_ordering_46 (lv_at hl 1 rfl) ?_
      refine lv_if_eq (tgt := 60) hx hb dX8_ordering_48 (by decide) (fun hc5 => ?_) (fun hc5 => ?_)
      · have hf6 : 0 = 0 := by have z := (fa_eq _ _).mp hc5; have : ((0 : Int32).toInt) = 0 := (by decide); omega
        refine lv_iconst (v := (-1)) hx hb dX8_ordering_60 (by decide) ?_
        refine lv_istore (lv' := [(6, .int (-1)), (5, .int (-1)), (4, .int 0), (0, .ref a0), (1, .int x1), (2, .int x2), (3, .int x3)]) hx hb dX8_ordering_61 hl (by decide) rfl (fun ls hl => ?_)
        refine lv_iload hx hb dX8_ordering_63 (lv_at hl 1 rfl) ?_
        refine lv_iconst (v := (-1)) hx hb dX8_ordering_65 (by decide) ?_
        refine lv_icmp_eq (tgt := 103) hx hb dX8_ordering_66 (by decide) (fun hc7 => ?_) (fun hc7 => ?_)
        · have hf8 : (-1) = (-1) := by have z := (fa_eq _ _).mp hc7; have : (((-1) : Int32).toInt) = (-1) := (by decide); omega
          refine lv_iconst (v := 0) hx hb dX8_ordering_103 (by decide) ?_
          exact tw_iret hx hb hr hlocks TH hS hex ⟨⟨_, rfl, (show (-1) ≤ Int32.toInt 0 from by have : ((0 : Int32).toInt) = 0 := (by decide); omega), (show Int32.toInt 0 ≤ 1 from by have : ((0 : Int32).toInt) = 0 := (by decide); omega)⟩, rfl, rfl, rfl⟩ (Nat.le_of_ble_eq_true rfl) (Nat.le_of_ble_eq_true rfl) dX8_ordering_104
        · have hf9 : ¬ ((-1) = (-1)) := fun q => hc7 ((fa_eq _ _).mpr (by have : (((-1) : Int32).toInt) = (-1) := (by decide); omega))
          exfalso; omega
      · have hf10 : ¬ (0 = 0) := fun q => hc5 ((fa_eq _ _).mpr (by have : ((0 : Int32).toInt) = 0 := (by decide); omega))
        exfalso; omega
    · have hf11 : ¬ (0 = 0) := fun q => hc3 ((fa_eq _ _).mpr (by have : ((0 : Int32).toInt) = 0 := (by decide); omega))
      exfalso; omega
  · have hf12 : ¬ (x2.toInt < 0) := fun q => hc1 ((fa_lt _ _).mpr (by have : ((0 : Int32).toInt) = 0 := (by decide); omega))
    refine lv_iload_n hx hb dX8_ordering_4 rfl (lv_at hl 2 rfl) ?_
    refine lv_sipush (v := 150) hx hb dX8_ordering_5 (by decide) ?_
    refine lv_icmp_ge (tgt := 26) hx hb dX8_ordering_8 (by decide) (fun hc13 => ?_) (fun hc13 => ?_)
    · have hf14 : 150 ≤ x2.toInt := by have z := (fa_le _ _).mp hc13; have : ((150 : Int32).toInt) = 150 := (by decide); omega
      refine lv_iconst (v := 0) hx hb dX8_ordering_26 (by decide) ?_
      refine lv_istore (lv' := [(4, .int 0), (0, .ref a0), (1, .int x1), (2, .int x2), (3, .int x3)]) hx hb dX8_ordering_27 hl (by decide) rfl (fun ls hl => ?_)
      refine lv_iload hx hb dX8_ordering_29 (lv_at hl 0 rfl) ?_
      refine lv_if_eq (tgt := 43) hx hb dX8_ordering_31 (by decide) (fun hc15 => ?_) (fun hc15 => ?_)
      · have hf16 : 0 = 0 := by have z := (fa_eq _ _).mp hc15; have : ((0 : Int32).toInt) = 0 := (by decide); omega
        refine lv_iconst (v := (-1)) hx hb dX8_ordering_43 (by decide) ?_
        refine lv_istore (lv' := [(5, .int (-1)), (4, .int 0), (0, .ref a0), (1, .int x1), (2, .int x2), (3, .int x3)]) hx hb dX8_ordering_44 hl (by decide) rfl (fun ls hl => ?_)
        refine lv_iload hx hb dX8_ordering_46 (lv_at hl 1 rfl) ?_
        refine lv_if_eq (tgt := 60) hx hb dX8_ordering_48 (by decide) (fun hc17 => ?_) (fun hc17 => ?_)
        · have hf18 : 0 = 0 := by have z := (fa_eq _ _).mp hc17; have : ((0 : Int32).toInt) = 0 := (by decide); omega
          refine lv_iconst (v := (-1)) hx hb dX8_ordering_60 (by decide) ?_
          refine lv_istore (lv' := [(6, .int (-1)), (5, .int (-1)), (4, .int 0), (0, .ref a0), (1, .int x1), (2, .int x2), (3, .int x3)]) hx hb dX8_ordering_61 hl (by decide) rfl (fun ls hl => ?_)
          refine lv_iload hx hb dX8_ordering_63 (lv_at hl 1 rfl) ?_
          refine lv_iconst (v := (-1)) hx hb dX8_ordering_65 (by decide) ?_
          refine lv_icmp_eq (tgt := 103) hx hb dX8_ordering_66 (by decide) (fun hc19 => ?_) (fun hc19 => ?_)
          · have hf20 : (-1) = (-1) := by have z := (fa_eq _ _).mp hc19; have : (((-1) : Int32).toInt) = (-1) := (by decide); omega
            refine lv_iconst (v := 0) hx hb dX8_ordering_103 (by decide) ?_
            exact tw_iret hx hb hr hlocks TH hS hex ⟨⟨_, rfl, (show (-1) ≤ Int32.toInt 0 from by have : ((0 : Int32).toInt) = 0 := (by decide); omega), (show Int32.toInt 0 ≤ 1 from by have : ((0 : Int32).toInt) = 0 := (by decide); omega)⟩, rfl, rfl, rfl⟩ (Nat.le_of_ble_eq_true rfl) (Nat.le_of_ble_eq_true rfl) dX8_ordering_104
          · have hf21 : ¬ ((-1) = (-1)) := fun q => hc19 ((fa_eq _ _).mpr (by have : (((-1) : Int32).toInt) = (-1) := (by decide); omega))
            exfalso; omega
        · have hf22 : ¬ (0 = 0) := fun q => hc17 ((fa_eq _ _).mpr (by have : ((0 : Int32).toInt) = 0 := (by decide); omega))
          exfalso; omega
      · have hf23 : ¬ (0 = 0) := fun q => hc15 ((fa_eq _ _).mpr (by have : ((0 : Int32).toInt) = 0 := (by decide); omega))
        exfalso; omega
    · have hf24 : ¬ (150 ≤ x2.toInt) := fun q => hc13 ((fa_le _ _).mpr (by have : ((150 : Int32).toInt) = 150 := (by decide); omega))
      refine lv_iload_n hx hb dX8_ordering_11 rfl (lv_at hl 3 rfl) ?_
      refine lv_if_lt (tgt := 26) hx hb dX8_ordering_12 (by decide) (fun hc25 => ?_) (fun hc25 => ?_)
      · have hf26 : x3.toInt < 0 := by have z := (fa_lt _ _).mp hc25; have : ((0 : Int32).toInt) = 0 := (by decide); omega
        refine lv_iconst (v := 0) hx hb dX8_ordering_26 (by decide) ?_
        refine lv_istore (lv' := [(4, .int 0), (0, .ref a0), (1, .int x1), (2, .int x2), (3, .int x3)]) hx hb dX8_ordering_27 hl (by decide) rfl (fun ls hl => ?_)
        refine lv_iload hx hb dX8_ordering_29 (lv_at hl 0 rfl) ?_
        refine lv_if_eq (tgt := 43) hx hb dX8_ordering_31 (by decide) (fun hc27 => ?_) (fun hc27 => ?_)
        · have hf28 : 0 = 0 := by have z := (fa_eq _ _).mp hc27; have : ((0 : Int32).toInt) = 0 := (by decide); omega
          refine lv_iconst (v := (-1)) hx hb dX8_ordering_43 (by decide) ?_
          refine lv_istore (lv' := [(5, .int (-1)), (4, .int 0), (0, .ref a0), (1, .int x1), (2, .int x2), (3, .int x3)]) hx hb dX8_ordering_44 hl (by decide) rfl (fun ls hl => ?_)
          refine lv_iload hx hb dX8_ordering_46 (lv_at hl 1 rfl) ?_
          refine lv_if_eq (tgt := 60) hx hb dX8_ordering_48 (by decide) (fun hc29 => ?_) (fun hc29 => ?_)
          · have hf30 : 0 = 0 := by have z := (fa_eq _ _).mp hc29; have : ((0 : Int32).toInt) = 0 := (by decide); omega
            refine lv_iconst (v := (-1)) hx hb dX8_ordering_60 (by decide) ?_
            refine lv_istore (lv' := [(6, .int (-1)), (5, .int (-1)), (4, .int 0), (0, .ref a0), (1, .int x1), (2, .int x2), (3, .int x3)]) hx hb dX8_ordering_61 hl (by decide) rfl (fun ls hl => ?_)
            refine lv_iload hx hb dX8_ordering_63 (lv_at hl 1 rfl) ?_
            refine lv_iconst (v := (-1)) hx hb dX8_ordering_65 (by decide) ?_
            refine lv_icmp_eq (tgt := 103) hx hb dX8_ordering_66 (by decide) (fun hc31 => ?_) (fun hc31 => ?_)
            · have hf32 : (-1) = (-1) := by have z := (fa_eq _ _).mp hc31; have : (((-1) : Int32).toInt) = (-1) := (by decide); omega
              refine lv_iconst (v := 0) hx hb dX8_ordering_103 (by decide) ?_
              exact tw_iret hx hb hr hlocks TH hS hex ⟨⟨_, rfl, (show (-1) ≤ Int32.toInt 0 from by have : ((0 : Int32).toInt) = 0 := (by decide); omega), (show Int32.toInt 0 ≤ 1 from by have : ((0 : Int32).toInt) = 0 := (by decide); omega)⟩, rfl, rfl, rfl⟩ (Nat.le_of_ble_eq_true rfl) (Nat.le_of_ble_eq_true rfl) dX8_ordering_104
            · have hf33 : ¬ ((-1) = (-1)) := fun q => hc31 ((fa_eq _ _).mpr (by have : (((-1) : Int32).toInt) = (-1) := (by decide); omega))
              exfalso; omega
          · have hf34 : ¬ (0 = 0) := fun q => hc29 ((fa_eq _ _).mpr (by have : ((0 : Int32).toInt) = 0 := (by decide); omega))
            exfalso; omega
        · have hf35 : ¬ (0 = 0) := fun q => hc27 ((fa_eq _ _).mpr (by have : ((0 : Int32).toInt) = 0 := (by decide); omega))
          exfalso; omega
      · have hf36 : ¬ (x3.toInt < 0) := fun q => hc25 ((fa_lt _ _).mpr (by have : ((0 : Int32).toInt) = 0 := (by decide); omega))
        refine lv_iload_n hx hb dX8_ordering_15 rfl (lv_at hl 3 rfl) ?_
        refine lv_sipush (v := 150) hx hb dX8_ordering_16 (by decide) ?_
        refine lv_icmp_ge (tgt := 26) hx hb dX8_ordering_19 (by decide) (fun hc37 => ?_) (fun hc37 => ?_)
        · have hf38 : 150 ≤ x3.toInt := by have z := (fa_le _ _).mp hc37; have : ((150 : Int32).toInt) = 150 := (by decide); omega
          refine lv_iconst (v := 0) hx hb dX8_ordering_26 (by decide) ?_
          refine lv_istore (lv' := [(4, .int 0), (0, .ref a0), (1, .int x1), (2, .int x2), (3, .int x3)]) hx hb dX8_ordering_27 hl (by decide) rfl (fun ls hl => ?_)
          refine lv_iload hx hb dX8_ordering_29 (lv_at hl 0 rfl) ?_
          refine lv_if_eq (tgt := 43) hx hb dX8_ordering_31 (by decide) (fun hc39 => ?_) (fun hc39 => ?_)
          · have hf40 : 0 = 0 := by have z := (fa_eq _ _).mp hc39; have : ((0 : Int32).toInt) = 0 := (by decide); omega
            refine lv_iconst (v := (-1)) hx hb dX8_ordering_43 (by decide) ?_
            refine lv_istore (lv' := [(5, .int (-1)), (4, .int 0), (0, .ref a0), (1, .int x1), (2, .int x2), (3, .int x3)]) hx hb dX8_ordering_44 hl (by decide) rfl (fun ls hl => ?_)
            refine lv_iload hx hb dX8_ordering_46 (lv_at hl 1 rfl) ?_
            refine lv_if_eq (tgt := 60) hx hb dX8_ordering_48 (by decide) (fun hc41 => ?_) (fun hc41 => ?_)
            · have hf42 : 0 = 0 := by have z := (fa_eq _ _).mp hc41; have : ((0 : Int32).toInt) = 0 := (by decide); omega
              refine lv_iconst (v := (-1)) hx hb dX8_ordering_60 (by decide) ?_
              refine lv_istore (lv' := [(6, .int (-1)), (5, .int (-1)), (4, .int 0), (0, .ref a0), (1, .int x1), (2, .int x2), (3, .int x3)]) hx hb dX8_ordering_61 hl (by decide) rfl (fun ls hl => ?_)
              refine lv_iload hx hb dX8_ordering_63 (lv_at hl 1 rfl) ?_
              refine lv_iconst (v := (-1)) hx hb dX8_ordering_65 (by decide) ?_
              refine lv_icmp_eq (tgt := 103) hx hb dX8_ordering_66 (by decide) (fun hc43 => ?_) (fun hc43 => ?_)
              · have hf44 : (-1) = (-1) := by have z := (fa_eq _ _).mp hc43; have : (((-1) : Int32).toInt) = (-1) := (by decide); omega
                refine lv_iconst (v := 0) hx hb dX8_ordering_103 (by decide) ?_
                exact tw_iret hx hb hr hlocks TH hS hex ⟨⟨_, rfl, (show (-1) ≤ Int32.toInt 0 from by have : ((0 : Int32).toInt) = 0 := (by decide); omega), (show Int32.toInt 0 ≤ 1 from by have : ((0 : Int32).toInt) = 0 := (by decide); omega)⟩, rfl, rfl, rfl⟩ (Nat.le_of_ble_eq_true rfl) (Nat.le_of_ble_eq_true rfl) dX8_ordering_104
              · have hf45 : ¬ ((-1) = (-1)) := fun q => hc43 ((fa_eq _ _).mpr (by have : (((-1) : Int32).toInt) = (-1) := (by decide); omega))
                exfalso; omega
            · have hf46 : ¬ (0 = 0) := fun q => hc41 ((fa_eq _ _).mpr (by have : ((0 : Int32).toInt) = 0 := (by decide); omega))
              exfalso; omega
          · have hf47 : ¬ (0 = 0) := fun q => hc39 ((fa_eq _ _).mpr (by have : ((0 : Int32).toInt) = 0 := (by decide); omega))
            exfalso; omega
        · have hf48 : ¬ (150 ≤ x3.toInt) := fun q => hc37 ((fa_le _ _).mpr (by have : ((150 : Int32).toInt) = 150 := (by decide); omega))
          refine lv_iconst (v := 1) hx hb dX8_ordering_22 (by decide) ?_
          refine lv_goto (tgt := 27) hx hb dX8_ordering_23 (by decide) ?_
          refine lv_istore (lv' := [(4, .int 1), (0, .ref a0), (1, .int x1), (2, .int x2), (3, .int x3)]) hx hb dX8_ordering_27 hl (by decide) rfl (fun ls hl => ?_)
          refine lv_iload hx hb dX8_ordering_29 (lv_at hl 0 rfl) ?_
          refine lv_if_eq (tgt := 43) hx hb dX8_ordering_31 (by decide) (fun hc49 => ?_) (fun hc49 => ?_)
          · have hf50 : 1 = 0 := by have z := (fa_eq _ _).mp hc49; have : ((0 : Int32).toInt) = 0 := (by decide); have : ((1 : Int32).toInt) = 1 := (by decide); omega
            exfalso; omega
          · have hf51 : ¬ (1 = 0) := fun q => hc49 ((fa_eq _ _).mpr (by have : ((0 : Int32).toInt) = 0 := (by decide); have : ((1 : Int32).toInt) = 1 := (by decide); omega))
            refine lv_aload_n hx hb dX8_ordering_34 rfl (lv_at hl 1 rfl) ?_
            refine tw_get (ci := 8) (C := RX8) (T := TX8) (N := 4) hx hb hB cx_inX8 hown hK TH hm0 hk0 rfl ⟨by decide, rfl⟩ 2 (by decide) cw_302 (fun _ h9 => h9) dX8_ordering_35 (fun hv => ?_)
            obtain ⟨xr52, hxr52, hmxr52, hkxr52⟩ : ∃ a : Nat, tw_fv E a0 2 = .ref a ∧ a ∈ L ∧ kp a = 170 := hv
            rw [hxr52]
            refine lv_iload_n hx hb dX8_ordering_38 rfl (lv_at hl 3 rfl) ?_
            refine tw_iald (k := 170) (t0 := 0) (n := 150) (lo := (-1)) (hi := 39) hx hb hK TH hmxr52 hkxr52 (by decide) rfl rfl (i := x2) (vp_in_iff.mpr ⟨by  omega, by  omega⟩) dX8_ordering_39 (fun hxe53a hxe53b => ?_)
            obtain ⟨xe53, exe53⟩ : ∃ z : Int32, tw_iv E xr52 (Int32.toNatClampNeg x2) = z := ⟨_, rfl⟩
            rw [exe53] at hxe53a hxe53b ⊢
            refine lv_goto (tgt := 44) hx hb dX8_ordering_40 (by decide) ?_
            refine lv_istore (lv' := [(5, .int xe53), (4, .int 1), (0, .ref a0), (1, .int x1), (2, .int x2), (3, .int x3)]) hx hb dX8_ordering_44 hl (by decide) rfl (fun ls hl => ?_)
            refine lv_iload hx hb dX8_ordering_46 (lv_at hl 1 rfl) ?_
            refine lv_if_eq (tgt := 60) hx hb dX8_ordering_48 (by decide) (fun hc54 => ?_) (fun hc54 => ?_)
            · have hf55 : 1 = 0 := by have z := (fa_eq _ _).mp hc54; have : ((0 : Int32).toInt) = 0 := (by decide); have : ((1 : Int32).toInt) = 1 := (by decide); omega
              exfalso; omega
            · have hf56 : ¬ (1 = 0) := fun q => hc54 ((fa_eq _ _).mpr (by have : ((0 : Int32).toInt) = 0 := (by decide); have : ((1 : Int32).toInt) = 1 := (by decide); omega))
              refine lv_aload_n hx hb dX8_ordering_51 rfl (lv_at hl 2 rfl) ?_
              refine tw_get (ci := 8) (C := RX8) (T := TX8) (N := 4) hx hb hB cx_inX8 hown hK TH hm0 hk0 rfl ⟨by decide, rfl⟩ 2 (by decide) cw_302 (fun _ h9 => h9) dX8_ordering_52 (fun hv => ?_)
              rw [hxr52]
              refine lv_iload_n hx hb dX8_ordering_55 rfl (lv_at hl 5 rfl) ?_
              refine tw_iald (k := 170) (t0 := 0) (n := 150) (lo := (-1)) (hi := 39) hx hb hK TH hmxr52 hkxr52 (by decide) rfl rfl (i := x3) (vp_in_iff.mpr ⟨by  omega, by  omega⟩) dX8_ordering_56 (fun hxe57a hxe57b => ?_)
              obtain ⟨xe57, exe57⟩ : ∃ z : Int32, tw_iv E xr52 (Int32.toNatClampNeg x3) = z := ⟨_, rfl⟩
              rw [exe57] at hxe57a hxe57b ⊢
              refine lv_goto (tgt := 61) hx hb dX8_ordering_57 (by decide) ?_
              refine lv_istore (lv' := [(6, .int xe57), (5, .int xe53), (4, .int 1), (0, .ref a0), (1, .int x1), (2, .int x2), (3, .int x3)]) hx hb dX8_ordering_61 hl (by decide) rfl (fun ls hl => ?_)
              refine lv_iload hx hb dX8_ordering_63 (lv_at hl 1 rfl) ?_
              refine lv_iconst (v := (-1)) hx hb dX8_ordering_65 (by decide) ?_
              refine lv_icmp_eq (tgt := 103) hx hb dX8_ordering_66 (by decide) (fun hc58 => ?_) (fun hc58 => ?_)
              · have hf59 : xe53.toInt = (-1) := by have z := (fa_eq _ _).mp hc58; have : (((-1) : Int32).toInt) = (-1) := (by decide); omega
                refine lv_iconst (v := 0) hx hb dX8_ordering_103 (by decide) ?_
                exact tw_iret hx hb hr hlocks TH hS hex ⟨⟨_, rfl, (show (-1) ≤ Int32.toInt 0 from by have : ((0 : Int32).toInt) = 0 := (by decide); omega), (show Int32.toInt 0 ≤ 1 from by have : ((0 : Int32).toInt) = 0 := (by decide); omega)⟩, rfl, rfl, rfl⟩ (Nat.le_of_ble_eq_true rfl) (Nat.le_of_ble_eq_true rfl) dX8_ordering_104
              · have hf60 : ¬ (xe53.toInt = (-1)) := fun q => hc58 ((fa_eq _ _).mpr (by have : (((-1) : Int32).toInt) = (-1) := (by decide); omega))
                refine lv_iload hx hb dX8_ordering_69 (lv_at hl 0 rfl) ?_
                refine lv_iconst (v := (-1)) hx hb dX8_ordering_71 (by decide) ?_
                refine lv_icmp_eq (tgt := 103) hx hb dX8_ordering_72 (by decide) (fun hc61 => ?_) (fun hc61 => ?_)
                · have hf62 : xe57.toInt = (-1) := by have z := (fa_eq _ _).mp hc61; have : (((-1) : Int32).toInt) = (-1) := (by decide); omega
                  refine lv_iconst (v := 0) hx hb dX8_ordering_103 (by decide) ?_
                  exact tw_iret hx hb hr hlocks TH hS hex ⟨⟨_, rfl, (show (-1) ≤ Int32.toInt 0 from by have : ((0 : Int32).toInt) = 0 := (by decide); omega), (show Int32.toInt 0 ≤ 1 from by have : ((0 : Int32).toInt) = 0 := (by decide); omega)⟩, rfl, rfl, rfl⟩ (Nat.le_of_ble_eq_true rfl) (Nat.le_of_ble_eq_true rfl) dX8_ordering_104
                · have hf63 : ¬ (xe57.toInt = (-1)) := fun q => hc61 ((fa_eq _ _).mpr (by have : (((-1) : Int32).toInt) = (-1) := (by decide); omega))
                  refine lv_aload_n hx hb dX8_ordering_75 rfl (lv_at hl 3 rfl) ?_
                  refine tw_get (ci := 8) (C := RX8) (T := TX8) (N := 4) hx hb hB cx_inX8 hown hK TH hm0 hk0 rfl ⟨by decide, rfl⟩ 0 (by decide) cw_299 (fun _ h9 => h9) dX8_ordering_76 (fun hv => ?_)
                  obtain ⟨xr64, hxr64, hmxr64, hkxr64⟩ : ∃ a : Nat, tw_fv E a0 0 = .ref a ∧ a ∈ L ∧ kp a = 10 := hv
                  rw [hxr64]
                  refine tw_get (ci := 10) (C := RX10) (T := TX10) (N := 8) hx hb hB cx_inX10 hown hK TH hmxr64 hkxr64 rfl ⟨by decide, rfl⟩ 2 (by decide) cw_128 (fun _ h9 => h9) dX8_ordering_79 (fun hv => ?_)
                  obtain ⟨xr65, hxr65, hmxr65, hkxr65⟩ : ∃ a : Nat, tw_fv E xr64 2 = .ref a ∧ a ∈ L ∧ kp a = 111 := hv
                  rw [hxr65]
                  refine lv_iload hx hb dX8_ordering_82 (lv_at hl 1 rfl) ?_
                  refine tw_iald (k := 111) (t0 := 0) (n := 40) (lo := (-1)) (hi := 149) hx hb hK TH hmxr65 hkxr65 (by decide) rfl rfl (i := xe53) (vp_in_iff.mpr ⟨by  omega, by  omega⟩) dX8_ordering_84 (fun hxe66a hxe66b => ?_)
                  obtain ⟨xe66, exe66⟩ : ∃ z : Int32, tw_iv E xr65 (Int32.toNatClampNeg xe53) = z := ⟨_, rfl⟩
                  rw [exe66] at hxe66a hxe66b ⊢
                  refine lv_iload_n hx hb dX8_ordering_85 rfl (lv_at hl 4 rfl) ?_
                  refine lv_icmp_ne (tgt := 103) hx hb dX8_ordering_86 (by decide) (fun hc67 => ?_) (fun hc67 => ?_)
                  · have hf68 : ¬ (xe66.toInt = x1.toInt) := fun q => hc67 ((fa_eq _ _).mpr (by  omega))
                    refine lv_iconst (v := 0) hx hb dX8_ordering_103 (by decide) ?_
                    exact tw_iret hx hb hr hlocks TH hS hex ⟨⟨_, rfl, (show (-1) ≤ Int32.toInt 0 from by have : ((0 : Int32).toInt) = 0 := (by decide); omega), (show Int32.toInt 0 ≤ 1 from by have : ((0 : Int32).toInt) = 0 := (by decide); omega)⟩, rfl, rfl, rfl⟩ (Nat.le_of_ble_eq_true rfl) (Nat.le_of_ble_eq_true rfl) dX8_ordering_104
                  · have hf69 : xe66.toInt = x1.toInt := by have z := (fa_eq _ _).mp hc67;  omega
                    refine lv_aload_n hx hb dX8_ordering_89 rfl (lv_at hl 3 rfl) ?_
                    refine tw_get (ci := 8) (C := RX8) (T := TX8) (N := 4) hx hb hB cx_inX8 hown hK TH hm0 hk0 rfl ⟨by decide, rfl⟩ 0 (by decide) cw_299 (fun _ h9 => h9) dX8_ordering_90 (fun hv => ?_)
                    rw [hxr64]
                    refine tw_get (ci := 10) (C := RX10) (T := TX10) (N := 8) hx hb hB cx_inX10 hown hK TH hmxr64 hkxr64 rfl ⟨by decide, rfl⟩ 2 (by decide) cw_128 (fun _ h9 => h9) dX8_ordering_93 (fun hv => ?_)
                    rw [hxr65]
                    refine lv_iload hx hb dX8_ordering_96 (lv_at hl 0 rfl) ?_
                    refine tw_iald (k := 111) (t0 := 0) (n := 40) (lo := (-1)) (hi := 149) hx hb hK TH hmxr65 hkxr65 (by decide) rfl rfl (i := xe57) (vp_in_iff.mpr ⟨by  omega, by  omega⟩) dX8_ordering_98 (fun hxe70a hxe70b => ?_)
                    obtain ⟨xe70, exe70⟩ : ∃ z : Int32, tw_iv E xr65 (Int32.toNatClampNeg xe57) = z := ⟨_, rfl⟩
                    rw [exe70] at hxe70a hxe70b ⊢
                    refine lv_iload_n hx hb dX8_ordering_99 rfl (lv_at hl 4 rfl) ?_
                    refine lv_icmp_eq (tgt := 105) hx hb dX8_ordering_100 (by decide) (fun hc71 => ?_) (fun hc71 => ?_)
                    · have hf72 : xe70.toInt = x1.toInt := by have z := (fa_eq _ _).mp hc71;  omega
                      refine lv_iload hx hb dX8_ordering_105 (lv_at hl 1 rfl) ?_
                      refine lv_iload hx hb dX8_ordering_107 (lv_at hl 0 rfl) ?_
                      refine lv_icmp_ge (tgt := 116) hx hb dX8_ordering_109 (by decide) (fun hc73 => ?_) (fun hc73 => ?_)
                      · have hf74 : xe57.toInt ≤ xe53.toInt := by have z := (fa_le _ _).mp hc73;  omega
                        refine lv_iconst (v := (-1)) hx hb dX8_ordering_116 (by decide) ?_
                        exact tw_iret hx hb hr hlocks TH hS hex ⟨⟨_, rfl, (show (-1) ≤ Int32.toInt (-1) from by have : (((-1) : Int32).toInt) = (-1) := (by decide); omega), (show Int32.toInt (-1) ≤ 1 from by have : (((-1) : Int32).toInt) = (-1) := (by decide); omega)⟩, rfl, rfl, rfl⟩ (Nat.le_of_ble_eq_true rfl) (Nat.le_of_ble_eq_true rfl) dX8_ordering_117
                      · have hf75 : ¬ (xe57.toInt ≤ xe53.toInt) := fun q => hc73 ((fa_le _ _).mpr (by  omega))
                        refine lv_iconst (v := 1) hx hb dX8_ordering_112 (by decide) ?_
                        refine lv_goto (tgt := 117) hx hb dX8_ordering_113 (by decide) ?_
                        exact tw_iret hx hb hr hlocks TH hS hex ⟨⟨_, rfl, (show (-1) ≤ Int32.toInt 1 from by have : ((1 : Int32).toInt) = 1 := (by decide); omega), (show Int32.toInt 1 ≤ 1 from by have : ((1 : Int32).toInt) = 1 := (by decide); omega)⟩, rfl, rfl, rfl⟩ (Nat.le_of_ble_eq_true rfl) (Nat.le_of_ble_eq_true rfl) dX8_ordering_117
                    · have hf76 : ¬ (xe70.toInt = x1.toInt) := fun q => hc71 ((fa_eq _ _).mpr (by  omega))
                      refine lv_iconst (v := 0) hx hb dX8_ordering_103 (by decide) ?_
                      exact tw_iret hx hb hr hlocks TH hS hex ⟨⟨_, rfl, (show (-1) ≤ Int32.toInt 0 from by have : ((0 : Int32).toInt) = 0 := (by decide); omega), (show Int32.toInt 0 ≤ 1 from by have : ((0 : Int32).toInt) = 0 := (by decide); omega)⟩, rfl, rfl, rfl⟩ (Nat.le_of_ble_eq_true rfl) (Nat.le_of_ble_eq_true rfl) dX8_ordering_104
set_option maxHeartbeats 4000000 in
set_option maxRecDepth 100000 in
theorem tX5_mark (l : Launch) (D : va_G) (cs : Nat → ClassId) {kp : Nat → Nat} {L : List Nat} {E : Nat → va_E} (a0 : Nat) (x1 : Int32) (x2 : Int32) (hm0 : a0 ∈ L) (hk0 : kp a0 = 5) (sz : Nat) : Met l yX5_mark (.code yX5_mark cX5_mark 3 none :: cx_big) { frames := 0, cells := 0, slots := 0, locals := 0 } (tw_P D cs kp L E [.ref a0, .int x1, .int x2] sz) (tw_Q D cs kp L (fun v kq Lq Eq => v = none ∧ kp = kq ∧ L = Lq ∧ tw_fr kp L [(5, 10)] [160] E Eq) (va_A (va_pl L E) sz)) 0 0 (va_A (va_pl L E) sz) := by
  refine tw_ofW (by decide) (Nat.le_of_ble_eq_true rfl) ?_
  intro p e s m below meth c A ls hx hb hr hml hB hown hlocks hK hN hA TH hS hl
  have hown : s.vm.findClass "TreeMerge$Merging" = some m.cls := hown
  have hl : lv_has ls 3 [(0, .ref a0), (1, .int x1), (2, .int x2)] := hl
  obtain ⟨kp0, ekp⟩ : ∃ z, z = kp := ⟨_, rfl⟩
  obtain ⟨L0, eL⟩ : ∃ z, z = L := ⟨_, rfl⟩
  rw [show tw_Q D cs kp L = tw_Q D cs kp0 L0 by rw [ekp, eL]]
  have hex : ∀ a : Nat, a ∈ L0 → a ∈ L ∧ kp a = kp0 a := fun a h => ⟨by rw [← eL]; exact h, by rw [ekp]⟩
  have hF : tw_fr kp L [(5, 10)] [160] E E := tw_fr.rf
  refine lv_iload_n hx hb dX5_mark_0 rfl (lv_at hl 1 rfl) ?_
  refine lv_if_lt (tgt := 28) hx hb dX5_mark_1 (by decide) (fun hc1 => ?_) (fun hc1 => ?_)
  · have hf2 : x1.toInt < 0 := by have z := (fa_lt _ _).mp hc1; have : ((0 : Int32).toInt) = 0 := (by decide); omega
    exact tw_vret hx hb hr hlocks TH hS hex ⟨rfl, rfl, rfl, hF⟩ (Nat.le_of_ble_eq_true rfl) (Nat.le_of_ble_eq_true rfl) dX5_mark_28
  · have hf3 : ¬ (x1.toInt < 0) := fun q => hc1 ((fa_lt _ _).mpr (by have : ((0 : Int32).toInt) = 0 := (by decide); omega))
    refine lv_iload_n hx hb dX5_mark_4 rfl (lv_at hl 1 rfl) ?_
    refine lv_sipush (v := 150) hx hb dX5_mark_5 (by decide) ?_
    refine lv_icmp_ge (tgt := 28) hx hb dX5_mark_8 (by decide) (fun hc4 => ?_) (fun hc4 => ?_)
    · have hf5 : 150 ≤ x1.toInt := by have z := (fa_le _ _).mp hc4; have : ((150 : Int32).toInt) = 150 := (by decide); omega
      exact tw_vret hx hb hr hlocks TH hS hex ⟨rfl, rfl, rfl, hF⟩ (Nat.le_of_ble_eq_true rfl) (Nat.le_of_ble_eq_true rfl) dX5_mark_28
    · have hf6 : ¬ (150 ≤ x1.toInt) := fun q => hc4 ((fa_le _ _).mpr (by have : ((150 : Int32).toInt) = 150 := (by decide); omega))
      refine lv_aload_n hx hb dX5_mark_11 rfl (lv_at hl 0 rfl) ?_
      refine tw_get (ci := 5) (C := RX5) (T := TX5) (N := 15) hx hb hB cx_inX5 hown hK TH hm0 hk0 rfl ⟨by decide, rfl⟩ 5 (by decide) cw_324 (fun _ h9 => h9) dX5_mark_12 (fun hv => ?_)
      obtain ⟨xr7, hxr7, hmxr7, hkxr7⟩ : ∃ a : Nat, tw_fv E a0 5 = .ref a ∧ a ∈ L ∧ kp a = 160 := hv
      rw [hxr7]
      refine lv_iload_n hx hb dX5_mark_15 rfl (lv_at hl 1 rfl) ?_
      refine lv_dup2_11 hx hb dX5_mark_16 rfl rfl ?_
      refine tw_iald (k := 160) (t0 := 0) (n := 150) (lo := (-2147483648)) (hi := 2147483647) hx hb hK TH hmxr7 hkxr7 (by decide) rfl rfl (i := x1) (vp_in_iff.mpr ⟨by  omega, by  omega⟩) dX5_mark_17 (fun hxe8a hxe8b => ?_)
      obtain ⟨xe8, exe8⟩ : ∃ z : Int32, tw_iv E xr7 (Int32.toNatClampNeg x1) = z := ⟨_, rfl⟩
      rw [exe8] at hxe8a hxe8b ⊢
      refine lv_iconst (v := 1) hx hb dX5_mark_18 (by decide) ?_
      refine lv_iload_n hx hb dX5_mark_19 rfl (lv_at hl 2 rfl) ?_
      refine lv_ishl hx hb dX5_mark_20 ?_
      refine lv_topi (fun zi9 ezi9 => ?_)
      refine lv_ior hx hb dX5_mark_21 ?_
      refine lv_topi (fun zi10 ezi10 => ?_)
      refine tw_iast (k := 160) (n := 150) (lo := (-2147483648)) (hi := 2147483647) hx hb hK TH hS hmxr7 hkxr7 (by decide) rfl (i := x1) (x := zi10) (vp_in_iff.mpr ⟨by  omega, by  omega⟩) (ia_lo _) (ia_hi _) dX5_mark_22 (fun H locs E11 TH hS hp12 hp13 hp14 => ?_)
      have hst15 : tw_fr kp L [] [160] E E11 := tw_fr.ast tw_fr.rf (fun _ => hkxr7) hp12 hp13 (by decide)
      have hF := hF.tr hst15 (fun _ h => ⟨h, rfl⟩) (by decide) (by decide)
      have hmf16 : tw_fv E11 a0 5 = .ref xr7 := (hst15.1 a0 5 hm0 (by rw [hk0]; decide)).trans hxr7
      refine lv_aload_n hx hb dX5_mark_23 rfl (lv_at hl 0 rfl) ?_
      refine lv_iconst (v := 1) hx hb dX5_mark_24 (by decide) ?_
      refine tw_put (ci := 5) (v := .int 1) (ty := .boolean) (C := RX5) (T := TX5) (N := 15) hx hb hB cx_inX5 tyX5 tyX5_ok nmX5 hown hK TH hS hm0 hk0 rfl ⟨by decide, rfl⟩ 10 (by decide) cw_329 (fun _ h9 => h9) rfl (by decide +kernel) (by decide) (by decide) ⟨_, rfl, (show 0 ≤ Int32.toInt 1 from by have : ((1 : Int32).toInt) = 1 := (by decide); omega), (show Int32.toInt 1 ≤ 1 from by have : ((1 : Int32).toInt) = 1 := (by decide); omega)⟩ dX5_mark_25 (fun H locs E17 TH hS hmf21 hp18 hp19 => ?_)
      have hst20 : tw_fr kp L [(5, 10)] [] E11 E17 := tw_fr.put tw_fr.rf (fun _ => hk0) (by decide) hp18 hp19 (by decide)
      have hF := hF.tr hst20 (fun _ h => ⟨h, rfl⟩) (by decide) (by decide)
      have hmf22 : tw_fv E17 a0 5 = .ref xr7 := (hst20.1 a0 5 hm0 (by rw [hk0]; decide)).trans hmf16
      exact tw_vret hx hb hr hlocks TH hS hex ⟨rfl, rfl, rfl, hF⟩ (Nat.le_of_ble_eq_true rfl) (Nat.le_of_ble_eq_true rfl) dX5_mark_28
set_option maxHeartbeats 4000000 in
set_option maxRecDepth 100000 in
theorem tX5_tellInto (l : Launch) (D : va_G) (cs : Nat → ClassId) {kp : Nat → Nat} {L : List Nat} {E : Nat → va_E} (a0 : Nat) (a1 : Nat) (hm0 : a0 ∈ L) (hk0 : kp a0 = 5) (hm1 : a1 ∈ L) (hk1 : kp a1 = 181) (sz : Nat) : Met l yX5_tellInto (.code yX5_tellInto cX5_tellInto 5 (some .int) :: cx_big) { frames := 0, cells := 0, slots := 0, locals := 0 } (tw_P D cs kp L E [.ref a0, .ref a1] sz) (tw_Q D cs kp L (fun v kq Lq Eq => (∃ x : Int32, v = some (.int x) ∧ 0 ≤ x.toInt ∧ x.toInt ≤ 450) ∧ kp = kq ∧ L = Lq ∧ tw_fr kp L [] [181] E Eq) (va_A (va_pl L E) sz)) 0 0 (va_A (va_pl L E) sz) := by
  refine tw_ofW (by decide) (Nat.le_of_ble_eq_true rfl) ?_
  intro p e s m below meth c A ls hx hb hr hml hB hown hlocks hK hN hA TH hS hl
  have hown : s.vm.findClass "TreeMerge$Merging" = some m.cls := hown
  have hl : lv_has ls 5 [(0, .ref a0), (1, .ref a1)] := hl
  obtain ⟨kp0, ekp⟩ : ∃ z, z = kp := ⟨_, rfl⟩
  obtain ⟨L0, eL⟩ : ∃ z, z = L := ⟨_, rfl⟩
  rw [show tw_Q D cs kp L = tw_Q D cs kp0 L0 by rw [ekp, eL]]
  have hex : ∀ a : Nat, a ∈ L0 → a ∈ L ∧ kp a = kp0 a := fun a h => ⟨by rw [← eL]; exact h, by rw [ekp]⟩
  have hF : tw_fr kp L [] [181] E E := tw_fr.rf
  refine lv_iconst (v := 0) hx hb dX5_tellInto_0 (by decide) ?_
  refine lv_istore_n (lv' := [(2, .int 0), (0, .ref a0), (1, .ref a1)]) hx hb dX5_tellInto_1 rfl hl (by decide) rfl (fun ls hl => ?_)
  refine lv_iconst (v := 1) hx hb dX5_tellInto_2 (by decide) ?_
  refine lv_istore_n (lv' := [(3, .int 1), (2, .int 0), (0, .ref a0), (1, .ref a1)]) hx hb dX5_tellInto_3 rfl hl (by decide) rfl (fun ls hl => ?_)
  have hJ4 : ∀ (n4 : Nat) (y4_3 : Int32) (y4_2 : Int32) (Eg4 : Nat → va_E) (H : Heap) (locs : List Loc) (ls : Array Slot), 1 ≤ y4_3.toInt → y4_3.toInt ≤ 9 → 0 ≤ y4_2.toInt → y4_2.toInt ≤ 450 → 9 - y4_3.toInt ≤ (n4 : Int) → tw_fr kp L [] [181] E Eg4 → tw_H D cs kp L Eg4 A H → va_S A s.heap H locs → lv_has ls 5 [(3, .int y4_3), (2, .int y4_2), (0, .ref a0), (1, .ref a1)] → W p l e { frames := 0, cells := 0, slots := 0, locals := 0 } s m [.ref a0, .ref a1].toArray below meth c H locs 0 0 (MQ below (tw_Q D cs kp0 L0 (fun v kq Lq Eq => (∃ x : Int32, v = some (.int x) ∧ 0 ≤ x.toInt ∧ x.toInt ≤ 450) ∧ kp = kq ∧ L = Lq ∧ tw_fr kp L [] [181] E Eq) A) [.ref a0, .ref a1].toArray s 0 0 A) (F0 m 4 ls []) := by
    intro n4
    induction n4 using Nat.strongRecOn with
    | _ n4 ih4 =>
      intro y4_3 y4_2 Eg4 H locs ls hy4_3a hy4_3b hy4_2a hy4_2b hmeas4 hG4 TH hS hl
      have hF := hF.tr hG4 (fun _ h => ⟨h, rfl⟩) (by decide) (by decide)
      refine lv_iload_n hx hb dX5_tellInto_4 rfl (lv_at hl 0 rfl) ?_
      refine lv_bipush (v := 8) hx hb dX5_tellInto_5 (by decide) ?_
      refine lv_icmp_gt (tgt := 74) hx hb dX5_tellInto_7 (by decide) (fun hc1 => ?_) (fun hc1 => ?_)
      · have hf2 : 8 < y4_3.toInt := by have z := (fa_lt _ _).mp hc1; have : ((8 : Int32).toInt) = 8 := (by decide); omega
        refine lv_iload_n hx hb dX5_tellInto_74 rfl (lv_at hl 1 rfl) ?_
        exact tw_iret hx hb hr hlocks TH hS hex ⟨⟨_, rfl, (show 0 ≤ Int32.toInt y4_2 from by  omega), (show Int32.toInt y4_2 ≤ 450 from by  omega)⟩, rfl, rfl, hF⟩ (Nat.le_of_ble_eq_true rfl) (Nat.le_of_ble_eq_true rfl) dX5_tellInto_75
      · have hf3 : ¬ (8 < y4_3.toInt) := fun q => hc1 ((fa_lt _ _).mpr (by have : ((8 : Int32).toInt) = 8 := (by decide); omega))
        refine lv_aload_n hx hb dX5_tellInto_10 rfl (lv_at hl 2 rfl) ?_
        refine tw_get (ci := 5) (C := RX5) (T := TX5) (N := 15) hx hb hB cx_inX5 hown hK TH hm0 hk0 rfl ⟨by decide, rfl⟩ 10 (by decide) cw_329 (fun _ h9 => h9) dX5_tellInto_11 (fun hv => ?_)
        obtain ⟨xi4, hxi4, hxi4a, hxi4b⟩ : ∃ x : Int32, tw_fv Eg4 a0 10 = .int x ∧ 0 ≤ x.toInt ∧ x.toInt ≤ 1 := hv
        rw [hxi4]
        refine lv_if_eq (tgt := 74) hx hb dX5_tellInto_14 (by decide) (fun hc5 => ?_) (fun hc5 => ?_)
        · have hf6 : xi4.toInt = 0 := by have z := (fa_eq _ _).mp hc5; have : ((0 : Int32).toInt) = 0 := (by decide); omega
          refine lv_iload_n hx hb dX5_tellInto_74 rfl (lv_at hl 1 rfl) ?_
          exact tw_iret hx hb hr hlocks TH hS hex ⟨⟨_, rfl, (show 0 ≤ Int32.toInt y4_2 from by  omega), (show Int32.toInt y4_2 ≤ 450 from by  omega)⟩, rfl, rfl, hF⟩ (Nat.le_of_ble_eq_true rfl) (Nat.le_of_ble_eq_true rfl) dX5_tellInto_75
        · have hf7 : ¬ (xi4.toInt = 0) := fun q => hc5 ((fa_eq _ _).mpr (by have : ((0 : Int32).toInt) = 0 := (by decide); omega))
          refine lv_iconst (v := 0) hx hb dX5_tellInto_17 (by decide) ?_
          refine lv_istore (lv' := [(4, .int 0), (3, .int y4_3), (2, .int y4_2), (0, .ref a0), (1, .ref a1)]) hx hb dX5_tellInto_18 hl (by decide) rfl (fun ls hl => ?_)
          have hJ20 : ∀ (n20 : Nat) (y20_4 : Int32) (y20_2 : Int32) (Eg20 : Nat → va_E) (H : Heap) (locs : List Loc) (ls : Array Slot), 0 ≤ y20_4.toInt → y20_4.toInt ≤ 150 → 0 ≤ y20_2.toInt → y20_2.toInt ≤ 450 → 150 - y20_4.toInt ≤ (n20 : Int) → tw_fr kp L [] [181] Eg4 Eg20 → tw_H D cs kp L Eg20 A H → va_S A s.heap H locs → lv_has ls 5 [(4, .int y20_4), (3, .int y4_3), (2, .int y20_2), (0, .ref a0), (1, .ref a1)] → W p l e { frames := 0, cells := 0, slots := 0, locals := 0 } s m [.ref a0, .ref a1].toArray below meth c H locs 0 0 (MQ below (tw_Q D cs kp0 L0 (fun v kq Lq Eq => (∃ x : Int32, v = some (.int x) ∧ 0 ≤ x.toInt ∧ x.toInt ≤ 450) ∧ kp = kq ∧ L = Lq ∧ tw_fr kp L [] [181] E Eq) A) [.ref a0, .ref a1].toArray s 0 0 A) (F0 m 20 ls []) := by
            intro n20
            induction n20 using Nat.strongRecOn with
            | _ n20 ih20 =>
              intro y20_4 y20_2 Eg20 H locs ls hy20_4a hy20_4b hy20_2a hy20_2b hmeas20 hG20 TH hS hl
              have hF := hF.tr hG20 (fun _ h => ⟨h, rfl⟩) (by decide) (by decide)
              have hG4 := hG4.tr hG20 (fun _ h => ⟨h, rfl⟩) (by decide) (by decide)
              have hmf8 : tw_fv Eg20 a0 10 = .int xi4 := (hG20.1 a0 10 hm0 (by rw [hk0]; decide)).trans hxi4
              refine lv_iload hx hb dX5_tellInto_20 (lv_at hl 0 rfl) ?_
              refine lv_sipush (v := 150) hx hb dX5_tellInto_22 (by decide) ?_
              refine lv_icmp_ge (tgt := 68) hx hb dX5_tellInto_25 (by decide) (fun hc9 => ?_) (fun hc9 => ?_)
              · have hf10 : 150 ≤ y20_4.toInt := by have z := (fa_le _ _).mp hc9; have : ((150 : Int32).toInt) = 150 := (by decide); omega
                obtain ⟨zi11, ezi11⟩ : ∃ z : Int32, z = y4_3 + Int32.ofInt 1 := ⟨_, rfl⟩
                have hzi11 : zi11.toInt = y4_3.toInt + 1 := by rw [ezi11]; have : ((Int32.ofInt 1).toInt) = 1 := (by decide);  exact (ia_add (by omega) (by omega)).trans (by omega)
                refine lv_iinc (v := zi11) (lv' := [(3, .int zi11), (4, .int y20_4), (2, .int y20_2), (0, .ref a0), (1, .ref a1)]) hx hb dX5_tellInto_68 hl (k := 1) rfl ezi11.symm (by decide) rfl (fun ls hl => ?_)
                refine lv_goto (tgt := 4) hx hb dX5_tellInto_71 (by decide) ?_
                exact ih4 (n4 - 1) (by   omega) zi11 y20_2 _ _ _ ls (by omega) (by omega) (by omega) (by omega) (by   omega) hG4 TH hS (lv_sub hl [0, 2, 3, 4] rfl)
              · have hf12 : ¬ (150 ≤ y20_4.toInt) := fun q => hc9 ((fa_le _ _).mpr (by have : ((150 : Int32).toInt) = 150 := (by decide); omega))
                refine lv_aload_n hx hb dX5_tellInto_28 rfl (lv_at hl 3 rfl) ?_
                refine tw_get (ci := 5) (C := RX5) (T := TX5) (N := 15) hx hb hB cx_inX5 hown hK TH hm0 hk0 rfl ⟨by decide, rfl⟩ 5 (by decide) cw_324 (fun _ h9 => h9) dX5_tellInto_29 (fun hv => ?_)
                obtain ⟨xr13, hxr13, hmxr13, hkxr13⟩ : ∃ a : Nat, tw_fv Eg20 a0 5 = .ref a ∧ a ∈ L ∧ kp a = 160 := hv
                rw [hxr13]
                refine lv_iload hx hb dX5_tellInto_32 (lv_at hl 0 rfl) ?_
                refine tw_iald (k := 160) (t0 := 0) (n := 150) (lo := (-2147483648)) (hi := 2147483647) hx hb hK TH hmxr13 hkxr13 (by decide) rfl rfl (i := y20_4) (vp_in_iff.mpr ⟨by  omega, by  omega⟩) dX5_tellInto_34 (fun hxe14a hxe14b => ?_)
                obtain ⟨xe14, exe14⟩ : ∃ z : Int32, tw_iv Eg20 xr13 (Int32.toNatClampNeg y20_4) = z := ⟨_, rfl⟩
                rw [exe14] at hxe14a hxe14b ⊢
                refine lv_iconst (v := 1) hx hb dX5_tellInto_35 (by decide) ?_
                refine lv_iload_n hx hb dX5_tellInto_36 rfl (lv_at hl 1 rfl) ?_
                refine lv_ishl hx hb dX5_tellInto_37 ?_
                refine lv_topi (fun zi15 ezi15 => ?_)
                refine lv_iand hx hb dX5_tellInto_38 ?_
                refine lv_topi (fun zi16 ezi16 => ?_)
                have hJ62 : ∀ (y62_2 : Int32) (Eg62 : Nat → va_E) (H : Heap) (locs : List Loc) (ls : Array Slot), 0 ≤ y62_2.toInt → y62_2.toInt ≤ 450 → tw_fr kp L [] [181] Eg20 Eg62 → tw_H D cs kp L Eg62 A H → va_S A s.heap H locs → lv_has ls 5 [(4, .int y20_4), (3, .int y4_3), (2, .int y62_2), (0, .ref a0), (1, .ref a1)] → W p l e { frames := 0, cells := 0, slots := 0, locals := 0 } s m [.ref a0, .ref a1].toArray below meth c H locs 0 0 (MQ below (tw_Q D cs kp0 L0 (fun v kq Lq Eq => (∃ x : Int32, v = some (.int x) ∧ 0 ≤ x.toInt ∧ x.toInt ≤ 450) ∧ kp = kq ∧ L = Lq ∧ tw_fr kp L [] [181] E Eq) A) [.ref a0, .ref a1].toArray s 0 0 A) (F0 m 62 ls []) := by
                  intro y62_2 Eg62 H locs ls hy62_2a hy62_2b hG62 TH hS hl
                  have hF := hF.tr hG62 (fun _ h => ⟨h, rfl⟩) (by decide) (by decide)
                  have hG4 := hG4.tr hG62 (fun _ h => ⟨h, rfl⟩) (by decide) (by decide)
                  have hG20 := hG20.tr hG62 (fun _ h => ⟨h, rfl⟩) (by decide) (by decide)
                  have hmf17 : tw_fv Eg62 a0 10 = .int xi4 := (hG62.1 a0 10 hm0 (by rw [hk0]; decide)).trans hmf8
                  have hmf18 : tw_fv Eg62 a0 5 = .ref xr13 := (hG62.1 a0 5 hm0 (by rw [hk0]; decide)).trans hxr13
                  obtain ⟨zi19, ezi19⟩ : ∃ z : Int32, z = y20_4 + Int32.ofInt 1 := ⟨_, rfl⟩
                  have hzi19 : zi19.toInt = y20_4.toInt + 1 := by rw [ezi19]; have : ((Int32.ofInt 1).toInt) = 1 := (by decide);  exact (ia_add (by omega) (by omega)).trans (by omega)
                  refine lv_iinc (v := zi19) (lv' := [(4, .int zi19), (3, .int y4_3), (2, .int y62_2), (0, .ref a0), (1, .ref a1)]) hx hb dX5_tellInto_62 hl (k := 0) rfl ezi19.symm (by decide) rfl (fun ls hl => ?_)
                  refine lv_goto (tgt := 20) hx hb dX5_tellInto_65 (by decide) ?_
                  exact ih20 (n20 - 1) (by   omega) zi19 y62_2 _ _ _ ls (by omega) (by omega) (by omega) (by omega) (by   omega) hG20 TH hS (lv_sub hl [0, 1, 2, 3, 4] rfl)
                have hG62 : tw_fr kp L [] [181] Eg20 Eg20 := tw_fr.rf
                refine lv_if_eq (tgt := 62) hx hb dX5_tellInto_39 (by decide) (fun hc20 => ?_) (fun hc20 => ?_)
                · have hf21 : zi16.toInt = 0 := by have z := (fa_eq _ _).mp hc20; have : ((0 : Int32).toInt) = 0 := (by decide); omega
                  exact hJ62 y20_2 _ _ _ ls (by omega) (by omega) hG62 TH hS (lv_sub hl [0, 1, 2, 3, 4] rfl)
                · have hf22 : ¬ (zi16.toInt = 0) := fun q => hc20 ((fa_eq _ _).mpr (by have : ((0 : Int32).toInt) = 0 := (by decide); omega))
                  refine lv_iload_n hx hb dX5_tellInto_42 rfl (lv_at hl 2 rfl) ?_
                  refine lv_aload_n hx hb dX5_tellInto_43 rfl (lv_at hl 4 rfl) ?_
                  refine tw_alen (v := 450) (ty := .int) hx hb hK TH hm1 hk1 (by decide) rfl rfl dX5_tellInto_44 ?_
                  refine lv_icmp_ge (tgt := 62) hx hb dX5_tellInto_45 (by decide) (fun hc23 => ?_) (fun hc23 => ?_)
                  · have hf24 : 450 ≤ y20_2.toInt := by have z := (fa_le _ _).mp hc23; have : ((450 : Int32).toInt) = 450 := (by decide); omega
                    exact hJ62 y20_2 _ _ _ ls (by omega) (by omega) hG62 TH hS (lv_sub hl [0, 1, 2, 3, 4] rfl)
                  · have hf25 : ¬ (450 ≤ y20_2.toInt) := fun q => hc23 ((fa_le _ _).mpr (by have : ((450 : Int32).toInt) = 450 := (by decide); omega))
                    refine lv_aload_n hx hb dX5_tellInto_48 rfl (lv_at hl 4 rfl) ?_
                    refine lv_iload_n hx hb dX5_tellInto_49 rfl (lv_at hl 2 rfl) ?_
                    refine lv_iload_n hx hb dX5_tellInto_50 rfl (lv_at hl 1 rfl) ?_
                    refine lv_sipush (v := 1000) hx hb dX5_tellInto_51 (by decide) ?_
                    refine lv_imul hx hb dX5_tellInto_54 ?_
                    refine lv_topi (fun zi26 ezi26 => ?_)
                    have hzi26 : zi26.toInt = y4_3.toInt * 1000 := by rw [ezi26]; exact (ia_mul (by have hc : ((1000 : Int32).toInt) = 1000 := (by decide); rw [hc]; omega) (by have hc : ((1000 : Int32).toInt) = 1000 := (by decide); rw [hc]; omega)).trans (by have hc : ((1000 : Int32).toInt) = 1000 := (by decide); rw [hc])
                    refine lv_iload hx hb dX5_tellInto_55 (lv_at hl 0 rfl) ?_
                    refine lv_iadd hx hb dX5_tellInto_57 ?_
                    refine lv_topi (fun zi27 ezi27 => ?_)
                    have hzi27 : zi27.toInt = zi26.toInt + y20_4.toInt := by rw [ezi27];  have := ia_lo zi26; have := ia_hi zi26; have := ia_lo y20_4; have := ia_hi y20_4; exact (ia_add (by omega) (by omega)).trans (by omega)
                    refine tw_iast (k := 181) (n := 450) (lo := (-2147483648)) (hi := 2147483647) hx hb hK TH hS hm1 hk1 (by decide) rfl (i := y20_2) (x := zi27) (vp_in_iff.mpr ⟨by  omega, by  omega⟩) (ia_lo _) (ia_hi _) dX5_tellInto_58 (fun H locs E28 TH hS hp29 hp30 hp31 => ?_)
                    have hst32 : tw_fr kp L [] [181] Eg20 E28 := tw_fr.ast tw_fr.rf (fun _ => hk1) hp29 hp30 (by decide)
                    have hF := hF.tr hst32 (fun _ h => ⟨h, rfl⟩) (by decide) (by decide)
                    have hG4 := hG4.tr hst32 (fun _ h => ⟨h, rfl⟩) (by decide) (by decide)
                    have hG20 := hG20.tr hst32 (fun _ h => ⟨h, rfl⟩) (by decide) (by decide)
                    have hG62 := hG62.tr hst32 (fun _ h => ⟨h, rfl⟩) (by decide) (by decide)
                    have hmf33 : tw_fv E28 a0 10 = .int xi4 := (hst32.1 a0 10 hm0 (by rw [hk0]; decide)).trans hmf8
                    have hmf34 : tw_fv E28 a0 5 = .ref xr13 := (hst32.1 a0 5 hm0 (by rw [hk0]; decide)).trans hxr13
                    obtain ⟨zi35, ezi35⟩ : ∃ z : Int32, z = y20_2 + Int32.ofInt 1 := ⟨_, rfl⟩
                    have hzi35 : zi35.toInt = y20_2.toInt + 1 := by rw [ezi35]; have : ((Int32.ofInt 1).toInt) = 1 := (by decide);  exact (ia_add (by omega) (by omega)).trans (by omega)
                    refine lv_iinc (v := zi35) (lv' := [(2, .int zi35), (4, .int y20_4), (3, .int y4_3), (0, .ref a0), (1, .ref a1)]) hx hb dX5_tellInto_59 hl (k := 2) rfl ezi35.symm (by decide) rfl (fun ls hl => ?_)
                    exact hJ62 zi35 _ _ _ ls (by omega) (by omega) hG62 TH hS (lv_sub hl [1, 2, 0, 3, 4] rfl)
          exact hJ20 151 (0 : Int32) y4_2 _ _ _ ls (by have : ((0 : Int32).toInt) = 0 := (by decide); omega) (by have : ((0 : Int32).toInt) = 0 := (by decide); omega) (by omega) (by omega) (by have : ((0 : Int32).toInt) = 0 := (by decide);  omega) tw_fr.rf TH hS (lv_sub hl [0, 1, 2, 3, 4] rfl)
  exact hJ4 10 (1 : Int32) (0 : Int32) _ _ _ ls (by have : ((1 : Int32).toInt) = 1 := (by decide); omega) (by have : ((1 : Int32).toInt) = 1 := (by decide); omega) (by have : ((0 : Int32).toInt) = 0 := (by decide); omega) (by have : ((0 : Int32).toInt) = 0 := (by decide); omega) (by have : ((0 : Int32).toInt) = 0 := (by decide); have : ((1 : Int32).toInt) = 1 := (by decide);  omega) tw_fr.rf TH hS (lv_sub hl [0, 1, 2, 3] rfl)
set_option maxHeartbeats 4000000 in
set_option maxRecDepth 100000 in
theorem tX5_choose (l : Launch) (D : va_G) (cs : Nat → ClassId) {kp : Nat → Nat} {L : List Nat} {E : Nat → va_E} (a0 : Nat) (x1 : Int32) (x2 : Int32) (x3 : Int32) (x4 : Int64) (x5 : Int64) (x6 : Int64) (hm0 : a0 ∈ L) (hk0 : kp a0 = 5) (sz : Nat) : Met l yX5_choose (.code yX5_choose cX5_choose 11 (some .long) :: cx_big) { frames := 1, cells := 0, slots := 0, locals := 22 } (tw_P D cs kp L E [.ref a0, .int x1, .int x2, .int x3, .long x4, .long x5, .long x6] sz) (tw_Q D cs kp L (fun v kq Lq Eq => (∃ x : Int64, v = some (.long x)) ∧ kp = kq ∧ L = Lq ∧ tw_fr kp L [(5, 10)] [160] E Eq) (va_A (va_pl L E) sz)) 0 0 (va_A (va_pl L E) sz) := by
  refine tw_ofW (by decide) (Nat.le_of_ble_eq_true rfl) ?_
  intro p e s m below meth c A ls hx hb hr hml hB hown hlocks hK hN hA TH hS hl
  have hown : s.vm.findClass "TreeMerge$Merging" = some m.cls := hown
  have hl : lv_has ls 11 [(0, .ref a0), (1, .int x1), (2, .int x2), (3, .int x3), (4, .long x4), (6, .long x5), (8, .long x6)] := hl
  obtain ⟨kp0, ekp⟩ : ∃ z, z = kp := ⟨_, rfl⟩
  obtain ⟨L0, eL⟩ : ∃ z, z = L := ⟨_, rfl⟩
  rw [show tw_Q D cs kp L = tw_Q D cs kp0 L0 by rw [ekp, eL]]
  have hex : ∀ a : Nat, a ∈ L0 → a ∈ L ∧ kp a = kp0 a := fun a h => ⟨by rw [← eL]; exact h, by rw [ekp]⟩
  have hF : tw_fr kp L [(5, 10)] [160] E E := tw_fr.rf
  refine lv_aload_n hx hb dX5_choose_0 rfl (lv_at hl 0 rfl) ?_
  refine tw_get (ci := 5) (C := RX5) (T := TX5) (N := 15) hx hb hB cx_inX5 hown hK TH hm0 hk0 rfl ⟨by decide, rfl⟩ 2 (by decide) cw_319 (fun _ h9 => h9) dX5_choose_1 (fun hv => ?_)
  obtain ⟨xr1, hxr1, hmxr1, hkxr1⟩ : ∃ a : Nat, tw_fv E a0 2 = .ref a ∧ a ∈ L ∧ kp a = 8 := hv
  rw [hxr1]
  refine lv_iload_n hx hb dX5_choose_4 rfl (lv_at hl 1 rfl) ?_
  refine tw_Vc (o := xr1) (ci := 8) (n := 1) (post := (fun v kq Lq Eq => (∃ x : Int32, v = some (.int x) ∧ 0 ≤ x.toInt ∧ x.toInt ≤ 1) ∧ kp = kq ∧ L = Lq ∧ E = Eq)) (As := [.int x1]) (rest := []) ⟨hx, hb, hml, hown, hB⟩ (fun sz => tX8_has l D cs xr1 x1 hmxr1 hkxr1 sz) cg_5_92_X8_has rfl rfl (by decide +kernel) ⟨Nat.le_of_ble_eq_true rfl, Nat.le_of_ble_eq_true rfl⟩ hK hN TH hS hA rfl hmxr1 hkxr1 (by decide) rfl hl.1 rfl (Nat.le_of_ble_eq_true rfl) dX5_choose_5 ⟨Nat.le_of_ble_eq_true rfl, Nat.le_of_ble_eq_true rfl⟩ (fun v2 kp2 L2 E2 H locs hq2 hx2 TH hS => ?_)
  obtain ⟨⟨xc3, rfl, hxc3a, hxc3b⟩, rfl, rfl, rfl⟩ := hq2
  refine W.eq (g2 := F0 m 8 ls [.int xc3]) rfl ?_
  refine lv_istore (lv' := [(10, .int xc3), (0, .ref a0), (1, .int x1), (2, .int x2), (3, .int x3), (4, .long x4), (6, .long x5), (8, .long x6)]) hx hb dX5_choose_8 hl (by decide) rfl (fun ls hl => ?_)
  refine lv_lload hx hb dX5_choose_10 (lv_at hl 5 rfl) ?_
  refine lv_lload hx hb dX5_choose_12 (lv_at hl 6 rfl) ?_
  refine W.lcmp hx hb dX5_choose_14 ?_
  have hzi4 := ia_lcmp x4 x5
  generalize lg_cmp x4 x5 = zi4 at hzi4 ⊢
  refine lv_if_eq (tgt := 31) hx hb dX5_choose_15 (by decide) (fun hc5 => ?_) (fun hc5 => ?_)
  · have hf6 : zi4.toInt = 0 := by have z := (fa_eq _ _).mp hc5; have : ((0 : Int32).toInt) = 0 := (by decide); omega
    refine lv_lload hx hb dX5_choose_31 (lv_at hl 5 rfl) ?_
    exact tw_lret hx hb hr hlocks TH hS hex ⟨⟨_, rfl⟩, rfl, rfl, hF⟩ (Nat.le_of_ble_eq_true rfl) (Nat.le_of_ble_eq_true rfl) dX5_choose_33
  · have hf7 : ¬ (zi4.toInt = 0) := fun q => hc5 ((fa_eq _ _).mpr (by have : ((0 : Int32).toInt) = 0 := (by decide); omega))
    refine lv_iload hx hb dX5_choose_18 (lv_at hl 0 rfl) ?_
    have hJ34 : ∀  (H : Heap) (locs : List Loc) (ls : Array Slot), tw_H D cs kp L E A H → va_S A s.heap H locs → lv_has ls 11 [(10, .int xc3), (0, .ref a0), (1, .int x1), (2, .int x2), (3, .int x3), (4, .long x4), (6, .long x5), (8, .long x6)] → W p l e { frames := 1, cells := 0, slots := 0, locals := 22 } s m [.ref a0, .int x1, .int x2, .int x3, .long x4, .long x5, .long x6].toArray below meth c H locs 0 0 (MQ below (tw_Q D cs kp0 L0 (fun v kq Lq Eq => (∃ x : Int64, v = some (.long x)) ∧ kp = kq ∧ L = Lq ∧ tw_fr kp L [(5, 10)] [160] E Eq) A) [.ref a0, .int x1, .int x2, .int x3, .long x4, .long x5, .long x6].toArray s 0 0 A) (F0 m 34 ls []) := by
      intro H locs ls TH hS hl
      refine lv_iload hx hb dX5_choose_34 (lv_at hl 0 rfl) ?_
      have hJ50 : ∀  (H : Heap) (locs : List Loc) (ls : Array Slot), tw_H D cs kp L E A H → va_S A s.heap H locs → lv_has ls 11 [(0, .ref a0), (1, .int x1), (2, .int x2), (3, .int x3), (4, .long x4), (6, .long x5)] → W p l e { frames := 1, cells := 0, slots := 0, locals := 22 } s m [.ref a0, .int x1, .int x2, .int x3, .long x4, .long x5, .long x6].toArray below meth c H locs 0 0 (MQ below (tw_Q D cs kp0 L0 (fun v kq Lq Eq => (∃ x : Int64, v = some (.long x)) ∧ kp = kq ∧ L = Lq ∧ tw_fr kp L [(5, 10)] [160] E Eq) A) [.ref a0, .int x1, .int x2, .int x3, .long x4, .long x5, .long x6].toArray s 0 0 A) (F0 m 50 ls []) := by
        intro H locs ls TH hS hl
        refine lv_iload_n hx hb dX5_choose_50 rfl (lv_at hl 3 rfl) ?_
        refine lv_aload_n hx hb dX5_choose_51 rfl (lv_at hl 0 rfl) ?_
        refine tw_get (ci := 5) (C := RX5) (T := TX5) (N := 15) hx hb hB cx_inX5 hown hK TH hm0 hk0 rfl ⟨by decide, rfl⟩ 0 (by decide) cw_315 (fun _ h9 => h9) dX5_choose_52 (fun hv => ?_)
        obtain ⟨xr8, hxr8, hmxr8, hkxr8⟩ : ∃ a : Nat, tw_fv E a0 0 = .ref a ∧ a ∈ L ∧ kp a = 8 := hv
        rw [hxr8]
        refine tw_get (ci := 8) (C := RX8) (T := TX8) (N := 4) hx hb hB cx_inX8 hown hK TH hmxr8 hkxr8 rfl ⟨by decide, rfl⟩ 1 (by decide) cw_301 (fun _ h9 => h9) dX5_choose_55 (fun hv => ?_)
        obtain ⟨xi9, hxi9, hxi9a, hxi9b⟩ : ∃ x : Int32, tw_fv E xr8 1 = .int x ∧ (-1) ≤ x.toInt ∧ x.toInt ≤ 11 := hv
        rw [hxi9]
        refine lv_icmp_eq (tgt := 78) hx hb dX5_choose_58 (by decide) (fun hc10 => ?_) (fun hc10 => ?_)
        · have hf11 : x3.toInt = xi9.toInt := by have z := (fa_eq _ _).mp hc10;  omega
          refine lv_iload_n hx hb dX5_choose_78 rfl (lv_at hl 3 rfl) ?_
          refine lv_aload_n hx hb dX5_choose_79 rfl (lv_at hl 0 rfl) ?_
          refine tw_get (ci := 5) (C := RX5) (T := TX5) (N := 15) hx hb hB cx_inX5 hown hK TH hm0 hk0 rfl ⟨by decide, rfl⟩ 1 (by decide) cw_317 (fun _ h9 => h9) dX5_choose_80 (fun hv => ?_)
          obtain ⟨xr12, hxr12, hmxr12, hkxr12⟩ : ∃ a : Nat, tw_fv E a0 1 = .ref a ∧ a ∈ L ∧ kp a = 8 := hv
          rw [hxr12]
          refine tw_get (ci := 8) (C := RX8) (T := TX8) (N := 4) hx hb hB cx_inX8 hown hK TH hmxr12 hkxr12 rfl ⟨by decide, rfl⟩ 1 (by decide) cw_301 (fun _ h9 => h9) dX5_choose_83 (fun hv => ?_)
          obtain ⟨xi13, hxi13, hxi13a, hxi13b⟩ : ∃ x : Int32, tw_fv E xr12 1 = .int x ∧ (-1) ≤ x.toInt ∧ x.toInt ≤ 11 := hv
          rw [hxi13]
          refine lv_icmp_ne (tgt := 94) hx hb dX5_choose_86 (by decide) (fun hc14 => ?_) (fun hc14 => ?_)
          · have hf15 : ¬ (x3.toInt = xi13.toInt) := fun q => hc14 ((fa_eq _ _).mpr (by  omega))
            refine lv_lload hx hb dX5_choose_94 (lv_at hl 4 rfl) ?_
            exact tw_lret hx hb hr hlocks TH hS hex ⟨⟨_, rfl⟩, rfl, rfl, hF⟩ (Nat.le_of_ble_eq_true rfl) (Nat.le_of_ble_eq_true rfl) dX5_choose_96
          · have hf16 : x3.toInt = xi13.toInt := by have z := (fa_eq _ _).mp hc14;  omega
            refine lv_lload hx hb dX5_choose_89 (lv_at hl 5 rfl) ?_
            refine lv_goto (tgt := 96) hx hb dX5_choose_91 (by decide) ?_
            exact tw_lret hx hb hr hlocks TH hS hex ⟨⟨_, rfl⟩, rfl, rfl, hF⟩ (Nat.le_of_ble_eq_true rfl) (Nat.le_of_ble_eq_true rfl) dX5_choose_96
        · have hf17 : ¬ (x3.toInt = xi9.toInt) := fun q => hc10 ((fa_eq _ _).mpr (by  omega))
          refine lv_iload_n hx hb dX5_choose_61 rfl (lv_at hl 3 rfl) ?_
          refine lv_aload_n hx hb dX5_choose_62 rfl (lv_at hl 0 rfl) ?_
          refine tw_get (ci := 5) (C := RX5) (T := TX5) (N := 15) hx hb hB cx_inX5 hown hK TH hm0 hk0 rfl ⟨by decide, rfl⟩ 1 (by decide) cw_317 (fun _ h9 => h9) dX5_choose_63 (fun hv => ?_)
          obtain ⟨xr18, hxr18, hmxr18, hkxr18⟩ : ∃ a : Nat, tw_fv E a0 1 = .ref a ∧ a ∈ L ∧ kp a = 8 := hv
          rw [hxr18]
          refine tw_get (ci := 8) (C := RX8) (T := TX8) (N := 4) hx hb hB cx_inX8 hown hK TH hmxr18 hkxr18 rfl ⟨by decide, rfl⟩ 1 (by decide) cw_301 (fun _ h9 => h9) dX5_choose_66 (fun hv => ?_)
          obtain ⟨xi19, hxi19, hxi19a, hxi19b⟩ : ∃ x : Int32, tw_fv E xr18 1 = .int x ∧ (-1) ≤ x.toInt ∧ x.toInt ≤ 11 := hv
          rw [hxi19]
          refine lv_icmp_eq (tgt := 78) hx hb dX5_choose_69 (by decide) (fun hc20 => ?_) (fun hc20 => ?_)
          · have hf21 : x3.toInt = xi19.toInt := by have z := (fa_eq _ _).mp hc20;  omega
            refine lv_iload_n hx hb dX5_choose_78 rfl (lv_at hl 3 rfl) ?_
            refine lv_aload_n hx hb dX5_choose_79 rfl (lv_at hl 0 rfl) ?_
            refine tw_get (ci := 5) (C := RX5) (T := TX5) (N := 15) hx hb hB cx_inX5 hown hK TH hm0 hk0 rfl ⟨by decide, rfl⟩ 1 (by decide) cw_317 (fun _ h9 => h9) dX5_choose_80 (fun hv => ?_)
            rw [hxr18]
            refine tw_get (ci := 8) (C := RX8) (T := TX8) (N := 4) hx hb hB cx_inX8 hown hK TH hmxr18 hkxr18 rfl ⟨by decide, rfl⟩ 1 (by decide) cw_301 (fun _ h9 => h9) dX5_choose_83 (fun hv => ?_)
            rw [hxi19]
            refine lv_icmp_ne (tgt := 94) hx hb dX5_choose_86 (by decide) (fun hc22 => ?_) (fun hc22 => ?_)
            · have hf23 : ¬ (x3.toInt = xi19.toInt) := fun q => hc22 ((fa_eq _ _).mpr (by  omega))
              refine lv_lload hx hb dX5_choose_94 (lv_at hl 4 rfl) ?_
              exact tw_lret hx hb hr hlocks TH hS hex ⟨⟨_, rfl⟩, rfl, rfl, hF⟩ (Nat.le_of_ble_eq_true rfl) (Nat.le_of_ble_eq_true rfl) dX5_choose_96
            · have hf24 : x3.toInt = xi19.toInt := by have z := (fa_eq _ _).mp hc22;  omega
              refine lv_lload hx hb dX5_choose_89 (lv_at hl 5 rfl) ?_
              refine lv_goto (tgt := 96) hx hb dX5_choose_91 (by decide) ?_
              exact tw_lret hx hb hr hlocks TH hS hex ⟨⟨_, rfl⟩, rfl, rfl, hF⟩ (Nat.le_of_ble_eq_true rfl) (Nat.le_of_ble_eq_true rfl) dX5_choose_96
          · have hf25 : ¬ (x3.toInt = xi19.toInt) := fun q => hc20 ((fa_eq _ _).mpr (by  omega))
            refine lv_aload_n hx hb dX5_choose_72 rfl (lv_at hl 0 rfl) ?_
            refine lv_iload_n hx hb dX5_choose_73 rfl (lv_at hl 1 rfl) ?_
            refine lv_iload_n hx hb dX5_choose_74 rfl (lv_at hl 2 rfl) ?_
            refine tw_Vc (o := a0) (ci := 5) (n := 2) (post := (fun v kq Lq Eq => v = none ∧ kp = kq ∧ L = Lq ∧ tw_fr kp L [(5, 10)] [160] E Eq)) (As := [.int x1, .int x2]) (rest := []) ⟨hx, hb, hml, hown, hB⟩ (fun sz => tX5_mark l D cs a0 x1 x2 hm0 hk0 sz) cg_5_116_X5_mark rfl rfl (by decide +kernel) ⟨Nat.le_of_ble_eq_true rfl, Nat.le_of_ble_eq_true rfl⟩ hK hN TH hS hA rfl hm0 hk0 (by decide) rfl hl.1 rfl (Nat.le_of_ble_eq_true rfl) dX5_choose_75 ⟨Nat.le_of_ble_eq_true rfl, Nat.le_of_ble_eq_true rfl⟩ (fun v26 kp26 L26 E26 H locs hq26 hx26 TH hS => ?_)
            obtain ⟨rfl, rfl, rfl, hst26⟩ := hq26
            have hF := hF.tr hst26 (fun _ h => ⟨h, rfl⟩) (by decide) (by decide)
            have hmf28 : tw_fv E26 a0 2 = .ref xr1 := (hst26.1 a0 2 hm0 (by rw [hk0]; decide)).trans hxr1
            have hmf29 : tw_fv E26 a0 0 = .ref xr8 := (hst26.1 a0 0 hm0 (by rw [hk0]; decide)).trans hxr8
            have hmf30 : tw_fv E26 xr8 1 = .int xi9 := (hst26.1 xr8 1 hmxr8 (by rw [hkxr8]; decide)).trans hxi9
            have hmf31 : tw_fv E26 a0 1 = .ref xr18 := (hst26.1 a0 1 hm0 (by rw [hk0]; decide)).trans hxr18
            have hmf32 : tw_fv E26 xr18 1 = .int xi19 := (hst26.1 xr18 1 hmxr18 (by rw [hkxr18]; decide)).trans hxi19
            refine W.eq (g2 := F0 m 78 ls []) rfl ?_
            refine lv_iload_n hx hb dX5_choose_78 rfl (lv_at hl 3 rfl) ?_
            refine lv_aload_n hx hb dX5_choose_79 rfl (lv_at hl 0 rfl) ?_
            refine tw_get (ci := 5) (C := RX5) (T := TX5) (N := 15) hx hb hB cx_inX5 hown hK TH hm0 hk0 rfl ⟨by decide, rfl⟩ 1 (by decide) cw_317 (fun _ h9 => h9) dX5_choose_80 (fun hv => ?_)
            rw [hmf31]
            refine tw_get (ci := 8) (C := RX8) (T := TX8) (N := 4) hx hb hB cx_inX8 hown hK TH hmxr18 hkxr18 rfl ⟨by decide, rfl⟩ 1 (by decide) cw_301 (fun _ h9 => h9) dX5_choose_83 (fun hv => ?_)
            rw [hmf32]
            refine lv_icmp_ne (tgt := 94) hx hb dX5_choose_86 (by decide) (fun hc33 => ?_) (fun hc33 => ?_)
            · have hf34 : ¬ (x3.toInt = xi19.toInt) := fun q => hc33 ((fa_eq _ _).mpr (by  omega))
              refine lv_lload hx hb dX5_choose_94 (lv_at hl 4 rfl) ?_
              exact tw_lret hx hb hr hlocks TH hS hex ⟨⟨_, rfl⟩, rfl, rfl, hF⟩ (Nat.le_of_ble_eq_true rfl) (Nat.le_of_ble_eq_true rfl) dX5_choose_96
            · have hf35 : x3.toInt = xi19.toInt := by have z := (fa_eq _ _).mp hc33;  omega
              refine lv_lload hx hb dX5_choose_89 (lv_at hl 5 rfl) ?_
              refine lv_goto (tgt := 96) hx hb dX5_choose_91 (by decide) ?_
              exact tw_lret hx hb hr hlocks TH hS hex ⟨⟨_, rfl⟩, rfl, rfl, hF⟩ (Nat.le_of_ble_eq_true rfl) (Nat.le_of_ble_eq_true rfl) dX5_choose_96
      refine lv_if_eq (tgt := 50) hx hb dX5_choose_36 (by decide) (fun hc36 => ?_) (fun hc36 => ?_)
      · have hf37 : xc3.toInt = 0 := by have z := (fa_eq _ _).mp hc36; have : ((0 : Int32).toInt) = 0 := (by decide); omega
        exact hJ50  _ _ ls  TH hS (lv_sub hl [1, 2, 3, 4, 5, 6] rfl)
      · have hf38 : ¬ (xc3.toInt = 0) := fun q => hc36 ((fa_eq _ _).mpr (by have : ((0 : Int32).toInt) = 0 := (by decide); omega))
        refine lv_lload hx hb dX5_choose_39 (lv_at hl 5 rfl) ?_
        refine lv_lload hx hb dX5_choose_41 (lv_at hl 7 rfl) ?_
        refine W.lcmp hx hb dX5_choose_43 ?_
        have hzi39 := ia_lcmp x4 x6
        generalize lg_cmp x4 x6 = zi39 at hzi39 ⊢
        refine lv_if_ne (tgt := 50) hx hb dX5_choose_44 (by decide) (fun hc40 => ?_) (fun hc40 => ?_)
        · have hf41 : ¬ (zi39.toInt = 0) := fun q => hc40 ((fa_eq _ _).mpr (by have : ((0 : Int32).toInt) = 0 := (by decide); omega))
          exact hJ50  _ _ ls  TH hS (lv_sub hl [1, 2, 3, 4, 5, 6] rfl)
        · have hf42 : zi39.toInt = 0 := by have z := (fa_eq _ _).mp hc40; have : ((0 : Int32).toInt) = 0 := (by decide); omega
          refine lv_lload hx hb dX5_choose_47 (lv_at hl 6 rfl) ?_
          exact tw_lret hx hb hr hlocks TH hS hex ⟨⟨_, rfl⟩, rfl, rfl, hF⟩ (Nat.le_of_ble_eq_true rfl) (Nat.le_of_ble_eq_true rfl) dX5_choose_49
    refine lv_if_eq (tgt := 34) hx hb dX5_choose_20 (by decide) (fun hc43 => ?_) (fun hc43 => ?_)
    · have hf44 : xc3.toInt = 0 := by have z := (fa_eq _ _).mp hc43; have : ((0 : Int32).toInt) = 0 := (by decide); omega
      exact hJ34  _ _ ls  TH hS (lv_sub hl [0, 1, 2, 3, 4, 5, 6, 7] rfl)
    · have hf45 : ¬ (xc3.toInt = 0) := fun q => hc43 ((fa_eq _ _).mpr (by have : ((0 : Int32).toInt) = 0 := (by decide); omega))
      refine lv_lload hx hb dX5_choose_23 (lv_at hl 6 rfl) ?_
      refine lv_lload hx hb dX5_choose_25 (lv_at hl 7 rfl) ?_
      refine W.lcmp hx hb dX5_choose_27 ?_
      have hzi46 := ia_lcmp x5 x6
      generalize lg_cmp x5 x6 = zi46 at hzi46 ⊢
      refine lv_if_ne (tgt := 34) hx hb dX5_choose_28 (by decide) (fun hc47 => ?_) (fun hc47 => ?_)
      · have hf48 : ¬ (zi46.toInt = 0) := fun q => hc47 ((fa_eq _ _).mpr (by have : ((0 : Int32).toInt) = 0 := (by decide); omega))
        exact hJ34  _ _ ls  TH hS (lv_sub hl [0, 1, 2, 3, 4, 5, 6, 7] rfl)
      · have hf49 : zi46.toInt = 0 := by have z := (fa_eq _ _).mp hc47; have : ((0 : Int32).toInt) = 0 := (by decide); omega
        refine lv_lload hx hb dX5_choose_31 (lv_at hl 5 rfl) ?_
        exact tw_lret hx hb hr hlocks TH hS hex ⟨⟨_, rfl⟩, rfl, rfl, hF⟩ (Nat.le_of_ble_eq_true rfl) (Nat.le_of_ble_eq_true rfl) dX5_choose_33
set_option maxHeartbeats 4000000 in
set_option maxRecDepth 100000 in
theorem tX5_stand (l : Launch) (D : va_G) (cs : Nat → ClassId) {kp : Nat → Nat} {L : List Nat} {E : Nat → va_E} (a0 : Nat) (x1 : Int32) (x2 : Int32) (x3 : Int64) (x4 : Int32) (hm0 : a0 ∈ L) (hk0 : kp a0 = 5) (hp1a : 0 ≤ x1.toInt) (hp1b : x1.toInt ≤ 149) (hp2a : (-1) ≤ x2.toInt) (hp2b : x2.toInt ≤ 9) (sz : Nat) : Met l yX5_stand (.code yX5_stand cX5_stand 6 none :: cx_big) { frames := 0, cells := 0, slots := 0, locals := 0 } (tw_P D cs kp L E [.ref a0, .int x1, .int x2, .long x3, .int x4] sz) (tw_Q D cs kp L (fun v kq Lq Eq => v = none ∧ kp = kq ∧ L = Lq ∧ tw_fr kp L [] [161, 162, 163, 164] E Eq) (va_A (va_pl L E) sz)) 0 0 (va_A (va_pl L E) sz) := by
  refine tw_ofW (by decide) (Nat.le_of_ble_eq_true rfl) ?_
  intro p e s m below meth c A ls hx hb hr hml hB hown hlocks hK hN hA TH hS hl
  have hown : s.vm.findClass "TreeMerge$Merging" = some m.cls := hown
  have hl : lv_has ls 6 [(0, .ref a0), (1, .int x1), (2, .int x2), (3, .long x3), (5, .int x4)] := hl
  obtain ⟨kp0, ekp⟩ : ∃ z, z = kp := ⟨_, rfl⟩
  obtain ⟨L0, eL⟩ : ∃ z, z = L := ⟨_, rfl⟩
  rw [show tw_Q D cs kp L = tw_Q D cs kp0 L0 by rw [ekp, eL]]
  have hex : ∀ a : Nat, a ∈ L0 → a ∈ L ∧ kp a = kp0 a := fun a h => ⟨by rw [← eL]; exact h, by rw [ekp]⟩
  have hF : tw_fr kp L [] [161, 162, 163, 164] E E := tw_fr.rf
  refine lv_aload_n hx hb dX5_stand_0 rfl (lv_at hl 0 rfl) ?_
  refine tw_get (ci := 5) (C := RX5) (T := TX5) (N := 15) hx hb hB cx_inX5 hown hK TH hm0 hk0 rfl ⟨by decide, rfl⟩ 6 (by decide) cw_325 (fun _ h9 => h9) dX5_stand_1 (fun hv => ?_)
  obtain ⟨xr1, hxr1, hmxr1, hkxr1⟩ : ∃ a : Nat, tw_fv E a0 6 = .ref a ∧ a ∈ L ∧ kp a = 161 := hv
  rw [hxr1]
  refine lv_iload_n hx hb dX5_stand_4 rfl (lv_at hl 1 rfl) ?_
  refine lv_iconst (v := 1) hx hb dX5_stand_5 (by decide) ?_
  refine tw_iast (k := 161) (n := 150) (lo := 0) (hi := 1) hx hb hK TH hS hmxr1 hkxr1 (by decide) rfl (i := x1) (x := 1) (vp_in_iff.mpr ⟨by  omega, by  omega⟩) (by have : ((1 : Int32).toInt) = 1 := (by decide); omega) (by have : ((1 : Int32).toInt) = 1 := (by decide); omega) dX5_stand_6 (fun H locs E2 TH hS hp3 hp4 hp5 => ?_)
  have hst6 : tw_fr kp L [] [161] E E2 := tw_fr.ast tw_fr.rf (fun _ => hkxr1) hp3 hp4 (by decide)
  have hF := hF.tr hst6 (fun _ h => ⟨h, rfl⟩) (by decide) (by decide)
  have hmf7 : tw_fv E2 a0 6 = .ref xr1 := (hst6.1 a0 6 hm0 (by rw [hk0]; decide)).trans hxr1
  refine lv_aload_n hx hb dX5_stand_7 rfl (lv_at hl 0 rfl) ?_
  refine tw_get (ci := 5) (C := RX5) (T := TX5) (N := 15) hx hb hB cx_inX5 hown hK TH hm0 hk0 rfl ⟨by decide, rfl⟩ 7 (by decide) cw_326 (fun _ h9 => h9) dX5_stand_8 (fun hv => ?_)
  obtain ⟨xr8, hxr8, hmxr8, hkxr8⟩ : ∃ a : Nat, tw_fv E2 a0 7 = .ref a ∧ a ∈ L ∧ kp a = 162 := hv
  rw [hxr8]
  refine lv_iload_n hx hb dX5_stand_11 rfl (lv_at hl 1 rfl) ?_
  refine lv_iload_n hx hb dX5_stand_12 rfl (lv_at hl 2 rfl) ?_
  refine tw_iast (k := 162) (n := 150) (lo := (-1)) (hi := 9) hx hb hK TH hS hmxr8 hkxr8 (by decide) rfl (i := x1) (x := x2) (vp_in_iff.mpr ⟨by  omega, by  omega⟩) (by omega) (by omega) dX5_stand_13 (fun H locs E9 TH hS hp10 hp11 hp12 => ?_)
  have hst13 : tw_fr kp L [] [162] E2 E9 := tw_fr.ast tw_fr.rf (fun _ => hkxr8) hp10 hp11 (by decide)
  have hF := hF.tr hst13 (fun _ h => ⟨h, rfl⟩) (by decide) (by decide)
  have hmf14 : tw_fv E9 a0 6 = .ref xr1 := (hst13.1 a0 6 hm0 (by rw [hk0]; decide)).trans hmf7
  have hmf15 : tw_fv E9 a0 7 = .ref xr8 := (hst13.1 a0 7 hm0 (by rw [hk0]; decide)).trans hxr8
  refine lv_aload_n hx hb dX5_stand_14 rfl (lv_at hl 0 rfl) ?_
  refine tw_get (ci := 5) (C := RX5) (T := TX5) (N := 15) hx hb hB cx_inX5 hown hK TH hm0 hk0 rfl ⟨by decide, rfl⟩ 9 (by decide) cw_328 (fun _ h9 => h9) dX5_stand_15 (fun hv => ?_)
  obtain ⟨xr16, hxr16, hmxr16, hkxr16⟩ : ∃ a : Nat, tw_fv E9 a0 9 = .ref a ∧ a ∈ L ∧ kp a = 164 := hv
  rw [hxr16]
  refine lv_iload_n hx hb dX5_stand_18 rfl (lv_at hl 1 rfl) ?_
  refine lv_lload_n hx hb dX5_stand_19 rfl (lv_at hl 3 rfl) ?_
  refine tw_last (k := 164) (n := 150) (lo := 0) (hi := 0) hx hb hK TH hS hmxr16 hkxr16 (by decide) rfl (i := x1) (x := x3) (vp_in_iff.mpr ⟨by  omega, by  omega⟩) dX5_stand_20 (fun H locs E17 TH hS hp18 hp19  => ?_)
  have hst20 : tw_fr kp L [] [164] E9 E17 := tw_fr.ast tw_fr.rf (fun _ => hkxr16) hp18 hp19 (by decide)
  have hF := hF.tr hst20 (fun _ h => ⟨h, rfl⟩) (by decide) (by decide)
  have hmf21 : tw_fv E17 a0 6 = .ref xr1 := (hst20.1 a0 6 hm0 (by rw [hk0]; decide)).trans hmf14
  have hmf22 : tw_fv E17 a0 7 = .ref xr8 := (hst20.1 a0 7 hm0 (by rw [hk0]; decide)).trans hmf15
  have hmf23 : tw_fv E17 a0 9 = .ref xr16 := (hst20.1 a0 9 hm0 (by rw [hk0]; decide)).trans hxr16
  refine lv_aload_n hx hb dX5_stand_21 rfl (lv_at hl 0 rfl) ?_
  refine tw_get (ci := 5) (C := RX5) (T := TX5) (N := 15) hx hb hB cx_inX5 hown hK TH hm0 hk0 rfl ⟨by decide, rfl⟩ 8 (by decide) cw_327 (fun _ h9 => h9) dX5_stand_22 (fun hv => ?_)
  obtain ⟨xr24, hxr24, hmxr24, hkxr24⟩ : ∃ a : Nat, tw_fv E17 a0 8 = .ref a ∧ a ∈ L ∧ kp a = 163 := hv
  rw [hxr24]
  refine lv_iload_n hx hb dX5_stand_25 rfl (lv_at hl 1 rfl) ?_
  refine lv_iload hx hb dX5_stand_26 (lv_at hl 4 rfl) ?_
  refine tw_iast (k := 163) (n := 150) (lo := (-2147483648)) (hi := 2147483647) hx hb hK TH hS hmxr24 hkxr24 (by decide) rfl (i := x1) (x := x4) (vp_in_iff.mpr ⟨by  omega, by  omega⟩) (ia_lo _) (ia_hi _) dX5_stand_28 (fun H locs E25 TH hS hp26 hp27 hp28 => ?_)
  have hst29 : tw_fr kp L [] [163] E17 E25 := tw_fr.ast tw_fr.rf (fun _ => hkxr24) hp26 hp27 (by decide)
  have hF := hF.tr hst29 (fun _ h => ⟨h, rfl⟩) (by decide) (by decide)
  have hmf30 : tw_fv E25 a0 6 = .ref xr1 := (hst29.1 a0 6 hm0 (by rw [hk0]; decide)).trans hmf21
  have hmf31 : tw_fv E25 a0 7 = .ref xr8 := (hst29.1 a0 7 hm0 (by rw [hk0]; decide)).trans hmf22
  have hmf32 : tw_fv E25 a0 9 = .ref xr16 := (hst29.1 a0 9 hm0 (by rw [hk0]; decide)).trans hmf23
  have hmf33 : tw_fv E25 a0 8 = .ref xr24 := (hst29.1 a0 8 hm0 (by rw [hk0]; decide)).trans hxr24
  exact tw_vret hx hb hr hlocks TH hS hex ⟨rfl, rfl, rfl, hF⟩ (Nat.le_of_ble_eq_true rfl) (Nat.le_of_ble_eq_true rfl) dX5_stand_29
set_option maxHeartbeats 4000000 in
set_option maxRecDepth 100000 in
theorem tX5_isStanding (l : Launch) (D : va_G) (cs : Nat → ClassId) {kp : Nat → Nat} {L : List Nat} {E : Nat → va_E} (a0 : Nat) (x1 : Int32) (hm0 : a0 ∈ L) (hk0 : kp a0 = 5) (sz : Nat) : Met l yX5_isStanding (.code yX5_isStanding cX5_isStanding 2 (some .boolean) :: cx_big) { frames := 0, cells := 0, slots := 0, locals := 0 } (tw_P D cs kp L E [.ref a0, .int x1] sz) (tw_Q D cs kp L (fun v kq Lq Eq => (∃ x : Int32, v = some (.int x) ∧ 0 ≤ x.toInt ∧ x.toInt ≤ 1 ∧ (x.toInt ≠ 0 → 0 ≤ x1.toInt ∧ x1.toInt ≤ 149)) ∧ kp = kq ∧ L = Lq ∧ E = Eq) (va_A (va_pl L E) sz)) 0 0 (va_A (va_pl L E) sz) := by
  refine tw_ofW (by decide) (Nat.le_of_ble_eq_true rfl) ?_
  intro p e s m below meth c A ls hx hb hr hml hB hown hlocks hK hN hA TH hS hl
  have hown : s.vm.findClass "TreeMerge$Merging" = some m.cls := hown
  have hl : lv_has ls 2 [(0, .ref a0), (1, .int x1)] := hl
  obtain ⟨kp0, ekp⟩ : ∃ z, z = kp := ⟨_, rfl⟩
  obtain ⟨L0, eL⟩ : ∃ z, z = L := ⟨_, rfl⟩
  rw [show tw_Q D cs kp L = tw_Q D cs kp0 L0 by rw [ekp, eL]]
  have hex : ∀ a : Nat, a ∈ L0 → a ∈ L ∧ kp a = kp0 a := fun a h => ⟨by rw [← eL]; exact h, by rw [ekp]⟩
  refine lv_iload_n hx hb dX5_isStanding_0 rfl (lv_at hl 1 rfl) ?_
  refine lv_if_lt (tgt := 25) hx hb dX5_isStanding_1 (by decide) (fun hc1 => ?_) (fun hc1 => ?_)
  · have hf2 : x1.toInt < 0 := by have z := (fa_lt _ _).mp hc1; have : ((0 : Int32).toInt) = 0 := (by decide); omega
    refine lv_iconst (v := 0) hx hb dX5_isStanding_25 (by decide) ?_
    exact tw_zret hx hb hr hlocks (by decide) TH hS hex ⟨⟨_, rfl, (show 0 ≤ Int32.toInt 0 from by have : ((0 : Int32).toInt) = 0 := (by decide); omega), (show Int32.toInt 0 ≤ 1 from by have : ((0 : Int32).toInt) = 0 := (by decide); omega), (by have : ((0 : Int32).toInt) = 0 := (by decide); omega)⟩, rfl, rfl, rfl⟩ (Nat.le_of_ble_eq_true rfl) (Nat.le_of_ble_eq_true rfl) dX5_isStanding_26
  · have hf3 : ¬ (x1.toInt < 0) := fun q => hc1 ((fa_lt _ _).mpr (by have : ((0 : Int32).toInt) = 0 := (by decide); omega))
    refine lv_iload_n hx hb dX5_isStanding_4 rfl (lv_at hl 1 rfl) ?_
    refine lv_sipush (v := 150) hx hb dX5_isStanding_5 (by decide) ?_
    refine lv_icmp_ge (tgt := 25) hx hb dX5_isStanding_8 (by decide) (fun hc4 => ?_) (fun hc4 => ?_)
    · have hf5 : 150 ≤ x1.toInt := by have z := (fa_le _ _).mp hc4; have : ((150 : Int32).toInt) = 150 := (by decide); omega
      refine lv_iconst (v := 0) hx hb dX5_isStanding_25 (by decide) ?_
      exact tw_zret hx hb hr hlocks (by decide) TH hS hex ⟨⟨_, rfl, (show 0 ≤ Int32.toInt 0 from by have : ((0 : Int32).toInt) = 0 := (by decide); omega), (show Int32.toInt 0 ≤ 1 from by have : ((0 : Int32).toInt) = 0 := (by decide); omega), (by have : ((0 : Int32).toInt) = 0 := (by decide); omega)⟩, rfl, rfl, rfl⟩ (Nat.le_of_ble_eq_true rfl) (Nat.le_of_ble_eq_true rfl) dX5_isStanding_26
    · have hf6 : ¬ (150 ≤ x1.toInt) := fun q => hc4 ((fa_le _ _).mpr (by have : ((150 : Int32).toInt) = 150 := (by decide); omega))
      refine lv_aload_n hx hb dX5_isStanding_11 rfl (lv_at hl 0 rfl) ?_
      refine tw_get (ci := 5) (C := RX5) (T := TX5) (N := 15) hx hb hB cx_inX5 hown hK TH hm0 hk0 rfl ⟨by decide, rfl⟩ 6 (by decide) cw_325 (fun _ h9 => h9) dX5_isStanding_12 (fun hv => ?_)
      obtain ⟨xr7, hxr7, hmxr7, hkxr7⟩ : ∃ a : Nat, tw_fv E a0 6 = .ref a ∧ a ∈ L ∧ kp a = 161 := hv
      rw [hxr7]
      refine lv_iload_n hx hb dX5_isStanding_15 rfl (lv_at hl 1 rfl) ?_
      refine tw_iald (k := 161) (t0 := 0) (n := 150) (lo := 0) (hi := 1) hx hb hK TH hmxr7 hkxr7 (by decide) rfl rfl (i := x1) (vp_in_iff.mpr ⟨by  omega, by  omega⟩) dX5_isStanding_16 (fun hxe8a hxe8b => ?_)
      obtain ⟨xe8, exe8⟩ : ∃ z : Int32, tw_iv E xr7 (Int32.toNatClampNeg x1) = z := ⟨_, rfl⟩
      rw [exe8] at hxe8a hxe8b ⊢
      refine lv_iconst (v := 1) hx hb dX5_isStanding_17 (by decide) ?_
      refine lv_icmp_ne (tgt := 25) hx hb dX5_isStanding_18 (by decide) (fun hc9 => ?_) (fun hc9 => ?_)
      · have hf10 : ¬ (xe8.toInt = 1) := fun q => hc9 ((fa_eq _ _).mpr (by have : ((1 : Int32).toInt) = 1 := (by decide); omega))
        refine lv_iconst (v := 0) hx hb dX5_isStanding_25 (by decide) ?_
        exact tw_zret hx hb hr hlocks (by decide) TH hS hex ⟨⟨_, rfl, (show 0 ≤ Int32.toInt 0 from by have : ((0 : Int32).toInt) = 0 := (by decide); omega), (show Int32.toInt 0 ≤ 1 from by have : ((0 : Int32).toInt) = 0 := (by decide); omega), (by have : ((0 : Int32).toInt) = 0 := (by decide); omega)⟩, rfl, rfl, rfl⟩ (Nat.le_of_ble_eq_true rfl) (Nat.le_of_ble_eq_true rfl) dX5_isStanding_26
      · have hf11 : xe8.toInt = 1 := by have z := (fa_eq _ _).mp hc9; have : ((1 : Int32).toInt) = 1 := (by decide); omega
        refine lv_iconst (v := 1) hx hb dX5_isStanding_21 (by decide) ?_
        refine lv_goto (tgt := 26) hx hb dX5_isStanding_22 (by decide) ?_
        exact tw_zret hx hb hr hlocks (by decide) TH hS hex ⟨⟨_, rfl, (show 0 ≤ Int32.toInt 1 from by have : ((1 : Int32).toInt) = 1 := (by decide); omega), (show Int32.toInt 1 ≤ 1 from by have : ((1 : Int32).toInt) = 1 := (by decide); omega), (by have : ((1 : Int32).toInt) = 1 := (by decide); omega)⟩, rfl, rfl, rfl⟩ (Nat.le_of_ble_eq_true rfl) (Nat.le_of_ble_eq_true rfl) dX5_isStanding_26
set_option maxHeartbeats 4000000 in
set_option maxRecDepth 100000 in
theorem tX5_decideLone (l : Launch) (D : va_G) (cs : Nat → ClassId) {kp : Nat → Nat} {L : List Nat} {E : Nat → va_E} (a0 : Nat) (x1 : Int32) (a2 : Nat) (a3 : Nat) (a4 : Nat) (hm0 : a0 ∈ L) (hk0 : kp a0 = 5) (hp1a : 0 ≤ x1.toInt) (hp1b : x1.toInt ≤ 149) (hm2 : a2 ∈ L) (hk2 : kp a2 = 8) (hm3 : a3 ∈ L) (hk3 : kp a3 = 8) (hm4 : a4 ∈ L) (hk4 : kp a4 = 7) (sz : Nat) : Met l yX5_decideLone (.code yX5_decideLone cX5_decideLone 6 none :: cx_big) { frames := 2, cells := 0, slots := 0, locals := 45 } (tw_P D cs kp L E [.ref a0, .int x1, .ref a2, .ref a3, .ref a4] sz) (tw_Q D cs kp L (fun v kq Lq Eq => v = none ∧ kp = kq ∧ L = Lq ∧ tw_fr kp L [(5, 10)] [160, 161, 162, 163, 164] E Eq) (va_A (va_pl L E) sz)) 0 0 (va_A (va_pl L E) sz) := by
  refine tw_ofW (by decide) (Nat.le_of_ble_eq_true rfl) ?_
  intro p e s m below meth c A ls hx hb hr hml hB hown hlocks hK hN hA TH hS hl
  have hown : s.vm.findClass "TreeMerge$Merging" = some m.cls := hown
  have hl : lv_has ls 6 [(0, .ref a0), (1, .int x1), (2, .ref a2), (3, .ref a3), (4, .ref a4)] := hl
  obtain ⟨kp0, ekp⟩ : ∃ z, z = kp := ⟨_, rfl⟩
  obtain ⟨L0, eL⟩ : ∃ z, z = L := ⟨_, rfl⟩
  rw [show tw_Q D cs kp L = tw_Q D cs kp0 L0 by rw [ekp, eL]]
  have hex : ∀ a : Nat, a ∈ L0 → a ∈ L ∧ kp a = kp0 a := fun a h => ⟨by rw [← eL]; exact h, by rw [ekp]⟩
  have hF : tw_fr kp L [(5, 10)] [160, 161, 162, 163, 164] E E := tw_fr.rf
  refine lv_aload_n hx hb dX5_decideLone_0 rfl (lv_at hl 0 rfl) ?_
  refine tw_get (ci := 5) (C := RX5) (T := TX5) (N := 15) hx hb hB cx_inX5 hown hK TH hm0 hk0 rfl ⟨by decide, rfl⟩ 2 (by decide) cw_319 (fun _ h9 => h9) dX5_decideLone_1 (fun hv => ?_)
  obtain ⟨xr1, hxr1, hmxr1, hkxr1⟩ : ∃ a : Nat, tw_fv E a0 2 = .ref a ∧ a ∈ L ∧ kp a = 8 := hv
  rw [hxr1]
  refine lv_iload_n hx hb dX5_decideLone_4 rfl (lv_at hl 1 rfl) ?_
  refine tw_Vc (o := xr1) (ci := 8) (n := 1) (post := (fun v kq Lq Eq => (∃ x : Int32, v = some (.int x) ∧ 0 ≤ x.toInt ∧ x.toInt ≤ 1) ∧ kp = kq ∧ L = Lq ∧ E = Eq)) (As := [.int x1]) (rest := []) ⟨hx, hb, hml, hown, hB⟩ (fun sz => tX8_has l D cs xr1 x1 hmxr1 hkxr1 sz) cg_5_92_X8_has rfl rfl (by decide +kernel) ⟨Nat.le_of_ble_eq_true rfl, Nat.le_of_ble_eq_true rfl⟩ hK hN TH hS hA rfl hmxr1 hkxr1 (by decide) rfl hl.1 rfl (Nat.le_of_ble_eq_true rfl) dX5_decideLone_5 ⟨Nat.le_of_ble_eq_true rfl, Nat.le_of_ble_eq_true rfl⟩ (fun v2 kp2 L2 E2 H locs hq2 hx2 TH hS => ?_)
  obtain ⟨⟨xc3, rfl, hxc3a, hxc3b⟩, rfl, rfl, rfl⟩ := hq2
  refine W.eq (g2 := F0 m 8 ls [.int xc3]) rfl ?_
  have hJ54 : ∀  (H : Heap) (locs : List Loc) (ls : Array Slot), tw_H D cs kp L E A H → va_S A s.heap H locs → lv_has ls 6 [(0, .ref a0), (1, .int x1), (2, .ref a2)] → W p l e { frames := 2, cells := 0, slots := 0, locals := 45 } s m [.ref a0, .int x1, .ref a2, .ref a3, .ref a4].toArray below meth c H locs 0 0 (MQ below (tw_Q D cs kp0 L0 (fun v kq Lq Eq => v = none ∧ kp = kq ∧ L = Lq ∧ tw_fr kp L [(5, 10)] [160, 161, 162, 163, 164] E Eq) A) [.ref a0, .int x1, .ref a2, .ref a3, .ref a4].toArray s 0 0 A) (F0 m 54 ls []) := by
    intro H locs ls TH hS hl
    refine lv_aload_n hx hb dX5_decideLone_54 rfl (lv_at hl 0 rfl) ?_
    refine lv_iload_n hx hb dX5_decideLone_55 rfl (lv_at hl 1 rfl) ?_
    refine lv_aload_n hx hb dX5_decideLone_56 rfl (lv_at hl 2 rfl) ?_
    refine lv_iload_n hx hb dX5_decideLone_57 rfl (lv_at hl 1 rfl) ?_
    refine tw_Vc (o := a2) (ci := 8) (n := 1) (post := (fun v kq Lq Eq => (∃ x : Int32, v = some (.int x) ∧ (-1) ≤ x.toInt ∧ x.toInt ≤ 9) ∧ kp = kq ∧ L = Lq ∧ E = Eq)) (As := [.int x1]) (rest := [.int x1, .ref a0]) ⟨hx, hb, hml, hown, hB⟩ (fun sz => tX8_kindOf l D cs a2 x1 hm2 hk2 sz) cg_5_120_X8_kindOf rfl rfl (by decide +kernel) ⟨Nat.le_of_ble_eq_true rfl, Nat.le_of_ble_eq_true rfl⟩ hK hN TH hS hA rfl hm2 hk2 (by decide) rfl hl.1 rfl (Nat.le_of_ble_eq_true rfl) dX5_decideLone_58 ⟨Nat.le_of_ble_eq_true rfl, Nat.le_of_ble_eq_true rfl⟩ (fun v4 kp4 L4 E4 H locs hq4 hx4 TH hS => ?_)
    obtain ⟨⟨xc5, rfl, hxc5a, hxc5b⟩, rfl, rfl, rfl⟩ := hq4
    refine W.eq (g2 := F0 m 61 ls [.int xc5, .int x1, .ref a0]) rfl ?_
    refine lv_aload_n hx hb dX5_decideLone_61 rfl (lv_at hl 2 rfl) ?_
    refine lv_iload_n hx hb dX5_decideLone_62 rfl (lv_at hl 1 rfl) ?_
    refine tw_Vc (o := a2) (ci := 8) (n := 1) (post := (fun v kq Lq Eq => (∃ x : Int64, v = some (.long x)) ∧ kp = kq ∧ L = Lq ∧ E = Eq)) (As := [.int x1]) (rest := [.int xc5, .int x1, .ref a0]) ⟨hx, hb, hml, hown, hB⟩ (fun sz => tX8_wordOf l D cs a2 x1 hm2 hk2 sz) cg_5_124_X8_wordOf rfl rfl (by decide +kernel) ⟨Nat.le_of_ble_eq_true rfl, Nat.le_of_ble_eq_true rfl⟩ hK hN TH hS hA rfl hm2 hk2 (by decide) rfl hl.1 rfl (Nat.le_of_ble_eq_true rfl) dX5_decideLone_63 ⟨Nat.le_of_ble_eq_true rfl, Nat.le_of_ble_eq_true rfl⟩ (fun v6 kp6 L6 E6 H locs hq6 hx6 TH hS => ?_)
    obtain ⟨⟨xc7, rfl⟩, rfl, rfl, rfl⟩ := hq6
    refine W.eq (g2 := F0 m 66 ls [.long xc7, .int xc5, .int x1, .ref a0]) rfl ?_
    refine lv_aload_n hx hb dX5_decideLone_66 rfl (lv_at hl 2 rfl) ?_
    refine lv_iload_n hx hb dX5_decideLone_67 rfl (lv_at hl 1 rfl) ?_
    refine tw_Vc (o := a2) (ci := 8) (n := 1) (post := (fun v kq Lq Eq => (∃ x : Int32, v = some (.int x) ∧ (-1) ≤ x.toInt ∧ x.toInt ≤ 149) ∧ kp = kq ∧ L = Lq ∧ E = Eq)) (As := [.int x1]) (rest := [.long xc7, .int xc5, .int x1, .ref a0]) ⟨hx, hb, hml, hown, hB⟩ (fun sz => tX8_upOf l D cs a2 x1 hm2 hk2 sz) cg_5_128_X8_upOf rfl rfl (by decide +kernel) ⟨Nat.le_of_ble_eq_true rfl, Nat.le_of_ble_eq_true rfl⟩ hK hN TH hS hA rfl hm2 hk2 (by decide) rfl hl.1 rfl (Nat.le_of_ble_eq_true rfl) dX5_decideLone_68 ⟨Nat.le_of_ble_eq_true rfl, Nat.le_of_ble_eq_true rfl⟩ (fun v8 kp8 L8 E8 H locs hq8 hx8 TH hS => ?_)
    obtain ⟨⟨xc9, rfl, hxc9a, hxc9b⟩, rfl, rfl, rfl⟩ := hq8
    refine W.eq (g2 := F0 m 71 ls [.int xc9, .long xc7, .int xc5, .int x1, .ref a0]) rfl ?_
    refine tw_Vc (o := a0) (ci := 5) (n := 4) (post := (fun v kq Lq Eq => v = none ∧ kp = kq ∧ L = Lq ∧ tw_fr kp L [] [161, 162, 163, 164] E Eq)) (As := [.int x1, .int xc5, .long xc7, .int xc9]) (rest := []) ⟨hx, hb, hml, hown, hB⟩ (fun sz => tX5_stand l D cs a0 x1 xc5 xc7 xc9 hm0 hk0 (by omega) (by omega) (by omega) (by omega) sz) cg_5_131_X5_stand rfl rfl (by decide +kernel) ⟨Nat.le_of_ble_eq_true rfl, Nat.le_of_ble_eq_true rfl⟩ hK hN TH hS hA rfl hm0 hk0 (by decide) rfl hl.1 rfl (Nat.le_of_ble_eq_true rfl) dX5_decideLone_71 ⟨Nat.le_of_ble_eq_true rfl, Nat.le_of_ble_eq_true rfl⟩ (fun v10 kp10 L10 E10 H locs hq10 hx10 TH hS => ?_)
    obtain ⟨rfl, rfl, rfl, hst10⟩ := hq10
    have hF := hF.tr hst10 (fun _ h => ⟨h, rfl⟩) (by decide) (by decide)
    have hmf12 : tw_fv E10 a0 2 = .ref xr1 := (hst10.1 a0 2 hm0 (by rw [hk0]; decide)).trans hxr1
    refine W.eq (g2 := F0 m 74 ls []) rfl ?_
    exact tw_vret hx hb hr hlocks TH hS hex ⟨rfl, rfl, rfl, hF⟩ (Nat.le_of_ble_eq_true rfl) (Nat.le_of_ble_eq_true rfl) dX5_decideLone_74
  refine lv_if_eq (tgt := 54) hx hb dX5_decideLone_8 (by decide) (fun hc13 => ?_) (fun hc13 => ?_)
  · have hf14 : xc3.toInt = 0 := by have z := (fa_eq _ _).mp hc13; have : ((0 : Int32).toInt) = 0 := (by decide); omega
    exact hJ54  _ _ ls  TH hS (lv_sub hl [0, 1, 2] rfl)
  · have hf15 : ¬ (xc3.toInt = 0) := fun q => hc13 ((fa_eq _ _).mpr (by have : ((0 : Int32).toInt) = 0 := (by decide); omega))
    refine lv_aload hx hb dX5_decideLone_11 (lv_at hl 4 rfl) ?_
    refine lv_iload_n hx hb dX5_decideLone_13 rfl (lv_at hl 1 rfl) ?_
    refine lv_iconst (v := 1) hx hb dX5_decideLone_14 (by decide) ?_
    refine tw_Vc (o := a4) (ci := 7) (n := 2) (post := (fun v kq Lq Eq => (∃ x : Int32, v = some (.int x) ∧ (-1) ≤ x.toInt ∧ x.toInt ≤ 11) ∧ kp = kq ∧ L = Lq ∧ E = Eq)) (As := [.int x1, .int 1]) (rest := []) ⟨hx, hb, hml, hown, hB⟩ (fun sz => tX7_editionFor l D cs a4 x1 (1 : Int32) hm4 hk4 sz) cg_5_103_X7_editionFor rfl rfl (by decide +kernel) ⟨Nat.le_of_ble_eq_true rfl, Nat.le_of_ble_eq_true rfl⟩ hK hN TH hS hA rfl hm4 hk4 (by decide) rfl hl.1 rfl (Nat.le_of_ble_eq_true rfl) dX5_decideLone_15 ⟨Nat.le_of_ble_eq_true rfl, Nat.le_of_ble_eq_true rfl⟩ (fun v16 kp16 L16 E16 H locs hq16 hx16 TH hS => ?_)
    obtain ⟨⟨xc17, rfl, hxc17a, hxc17b⟩, rfl, rfl, rfl⟩ := hq16
    refine W.eq (g2 := F0 m 18 ls [.int xc17]) rfl ?_
    refine lv_istore (lv' := [(5, .int xc17), (0, .ref a0), (1, .int x1), (2, .ref a2), (3, .ref a3), (4, .ref a4)]) hx hb dX5_decideLone_18 hl (by decide) rfl (fun ls hl => ?_)
    refine lv_aload_n hx hb dX5_decideLone_20 rfl (lv_at hl 3 rfl) ?_
    refine lv_iload_n hx hb dX5_decideLone_21 rfl (lv_at hl 2 rfl) ?_
    refine tw_Vc (o := a2) (ci := 8) (n := 1) (post := (fun v kq Lq Eq => (∃ x : Int32, v = some (.int x) ∧ 0 ≤ x.toInt ∧ x.toInt ≤ 1) ∧ kp = kq ∧ L = Lq ∧ E = Eq)) (As := [.int x1]) (rest := []) ⟨hx, hb, hml, hown, hB⟩ (fun sz => tX8_isTouched l D cs a2 x1 hm2 hk2 sz) cg_5_109_X8_isTouched rfl rfl (by decide +kernel) ⟨Nat.le_of_ble_eq_true rfl, Nat.le_of_ble_eq_true rfl⟩ hK hN TH hS hA rfl hm2 hk2 (by decide) rfl hl.1 rfl (Nat.le_of_ble_eq_true rfl) dX5_decideLone_22 ⟨Nat.le_of_ble_eq_true rfl, Nat.le_of_ble_eq_true rfl⟩ (fun v18 kp18 L18 E18 H locs hq18 hx18 TH hS => ?_)
    obtain ⟨⟨xc19, rfl, hxc19a, hxc19b⟩, rfl, rfl, rfl⟩ := hq18
    refine W.eq (g2 := F0 m 25 ls [.int xc19]) rfl ?_
    refine lv_if_eq (tgt := 37) hx hb dX5_decideLone_25 (by decide) (fun hc20 => ?_) (fun hc20 => ?_)
    · have hf21 : xc19.toInt = 0 := by have z := (fa_eq _ _).mp hc20; have : ((0 : Int32).toInt) = 0 := (by decide); omega
      exact tw_vret hx hb hr hlocks TH hS hex ⟨rfl, rfl, rfl, hF⟩ (Nat.le_of_ble_eq_true rfl) (Nat.le_of_ble_eq_true rfl) dX5_decideLone_37
    · have hf22 : ¬ (xc19.toInt = 0) := fun q => hc20 ((fa_eq _ _).mpr (by have : ((0 : Int32).toInt) = 0 := (by decide); omega))
      refine lv_iload hx hb dX5_decideLone_28 (lv_at hl 0 rfl) ?_
      refine lv_aload_n hx hb dX5_decideLone_30 rfl (lv_at hl 4 rfl) ?_
      refine tw_get (ci := 8) (C := RX8) (T := TX8) (N := 4) hx hb hB cx_inX8 hown hK TH hm3 hk3 rfl ⟨by decide, rfl⟩ 1 (by decide) cw_301 (fun _ h9 => h9) dX5_decideLone_31 (fun hv => ?_)
      obtain ⟨xi23, hxi23, hxi23a, hxi23b⟩ : ∃ x : Int32, tw_fv E a3 1 = .int x ∧ (-1) ≤ x.toInt ∧ x.toInt ≤ 11 := hv
      rw [hxi23]
      refine lv_icmp_ne (tgt := 38) hx hb dX5_decideLone_34 (by decide) (fun hc24 => ?_) (fun hc24 => ?_)
      · have hf25 : ¬ (xc17.toInt = xi23.toInt) := fun q => hc24 ((fa_eq _ _).mpr (by  omega))
        refine lv_iload hx hb dX5_decideLone_38 (lv_at hl 0 rfl) ?_
        refine lv_aload_n hx hb dX5_decideLone_40 rfl (lv_at hl 3 rfl) ?_
        refine tw_get (ci := 8) (C := RX8) (T := TX8) (N := 4) hx hb hB cx_inX8 hown hK TH hm2 hk2 rfl ⟨by decide, rfl⟩ 1 (by decide) cw_301 (fun _ h9 => h9) dX5_decideLone_41 (fun hv => ?_)
        obtain ⟨xi26, hxi26, hxi26a, hxi26b⟩ : ∃ x : Int32, tw_fv E a2 1 = .int x ∧ (-1) ≤ x.toInt ∧ x.toInt ≤ 11 := hv
        rw [hxi26]
        refine lv_icmp_eq (tgt := 54) hx hb dX5_decideLone_44 (by decide) (fun hc27 => ?_) (fun hc27 => ?_)
        · have hf28 : xc17.toInt = xi26.toInt := by have z := (fa_eq _ _).mp hc27;  omega
          exact hJ54  _ _ ls  TH hS (lv_sub hl [1, 2, 3] rfl)
        · have hf29 : ¬ (xc17.toInt = xi26.toInt) := fun q => hc27 ((fa_eq _ _).mpr (by  omega))
          refine lv_aload_n hx hb dX5_decideLone_47 rfl (lv_at hl 1 rfl) ?_
          refine lv_iload_n hx hb dX5_decideLone_48 rfl (lv_at hl 2 rfl) ?_
          refine lv_iconst (v := 1) hx hb dX5_decideLone_49 (by decide) ?_
          refine tw_Vc (o := a0) (ci := 5) (n := 2) (post := (fun v kq Lq Eq => v = none ∧ kp = kq ∧ L = Lq ∧ tw_fr kp L [(5, 10)] [160] E Eq)) (As := [.int x1, .int 1]) (rest := []) ⟨hx, hb, hml, hown, hB⟩ (fun sz => tX5_mark l D cs a0 x1 (1 : Int32) hm0 hk0 sz) cg_5_116_X5_mark rfl rfl (by decide +kernel) ⟨Nat.le_of_ble_eq_true rfl, Nat.le_of_ble_eq_true rfl⟩ hK hN TH hS hA rfl hm0 hk0 (by decide) rfl hl.1 rfl (Nat.le_of_ble_eq_true rfl) dX5_decideLone_50 ⟨Nat.le_of_ble_eq_true rfl, Nat.le_of_ble_eq_true rfl⟩ (fun v30 kp30 L30 E30 H locs hq30 hx30 TH hS => ?_)
          obtain ⟨rfl, rfl, rfl, hst30⟩ := hq30
          have hF := hF.tr hst30 (fun _ h => ⟨h, rfl⟩) (by decide) (by decide)
          have hmf32 : tw_fv E30 a0 2 = .ref xr1 := (hst30.1 a0 2 hm0 (by rw [hk0]; decide)).trans hxr1
          have hmf33 : tw_fv E30 a3 1 = .int xi23 := (hst30.1 a3 1 hm3 (by rw [hk3]; decide)).trans hxi23
          have hmf34 : tw_fv E30 a2 1 = .int xi26 := (hst30.1 a2 1 hm2 (by rw [hk2]; decide)).trans hxi26
          refine W.eq (g2 := F0 m 53 ls []) rfl ?_
          exact tw_vret hx hb hr hlocks TH hS hex ⟨rfl, rfl, rfl, hF⟩ (Nat.le_of_ble_eq_true rfl) (Nat.le_of_ble_eq_true rfl) dX5_decideLone_53
      · have hf35 : xc17.toInt = xi23.toInt := by have z := (fa_eq _ _).mp hc24;  omega
        exact tw_vret hx hb hr hlocks TH hS hex ⟨rfl, rfl, rfl, hF⟩ (Nat.le_of_ble_eq_true rfl) (Nat.le_of_ble_eq_true rfl) dX5_decideLone_37
set_option maxHeartbeats 4000000 in
set_option maxRecDepth 100000 in
theorem tX5_decideShared (l : Launch) (D : va_G) (cs : Nat → ClassId) {kp : Nat → Nat} {L : List Nat} {E : Nat → va_E} (a0 : Nat) (x1 : Int32) (a2 : Nat) (hm0 : a0 ∈ L) (hk0 : kp a0 = 5) (hp1a : 0 ≤ x1.toInt) (hp1b : x1.toInt ≤ 149) (hm2 : a2 ∈ L) (hk2 : kp a2 = 7) (sz : Nat) : Met l yX5_decideShared (.code yX5_decideShared cX5_decideShared 9 none :: cx_big) { frames := 2, cells := 0, slots := 0, locals := 52 } (tw_P D cs kp L E [.ref a0, .int x1, .ref a2] sz) (tw_Q D cs kp L (fun v kq Lq Eq => v = none ∧ kp = kq ∧ L = Lq ∧ tw_fr kp L [(5, 10)] [160, 161, 162, 163, 164] E Eq) (va_A (va_pl L E) sz)) 0 0 (va_A (va_pl L E) sz) := by
  refine tw_ofW (by decide) (Nat.le_of_ble_eq_true rfl) ?_
  intro p e s m below meth c A ls hx hb hr hml hB hown hlocks hK hN hA TH hS hl
  have hown : s.vm.findClass "TreeMerge$Merging" = some m.cls := hown
  have hl : lv_has ls 9 [(0, .ref a0), (1, .int x1), (2, .ref a2)] := hl
  obtain ⟨kp0, ekp⟩ : ∃ z, z = kp := ⟨_, rfl⟩
  obtain ⟨L0, eL⟩ : ∃ z, z = L := ⟨_, rfl⟩
  rw [show tw_Q D cs kp L = tw_Q D cs kp0 L0 by rw [ekp, eL]]
  have hex : ∀ a : Nat, a ∈ L0 → a ∈ L ∧ kp a = kp0 a := fun a h => ⟨by rw [← eL]; exact h, by rw [ekp]⟩
  have hF : tw_fr kp L [(5, 10)] [160, 161, 162, 163, 164] E E := tw_fr.rf
  refine lv_aload_n hx hb dX5_decideShared_0 rfl (lv_at hl 2 rfl) ?_
  refine lv_iload_n hx hb dX5_decideShared_1 rfl (lv_at hl 1 rfl) ?_
  refine lv_iconst (v := 2) hx hb dX5_decideShared_2 (by decide) ?_
  refine tw_Vc (o := a2) (ci := 7) (n := 2) (post := (fun v kq Lq Eq => (∃ x : Int32, v = some (.int x) ∧ (-1) ≤ x.toInt ∧ x.toInt ≤ 11) ∧ kp = kq ∧ L = Lq ∧ E = Eq)) (As := [.int x1, .int 2]) (rest := []) ⟨hx, hb, hml, hown, hB⟩ (fun sz => tX7_editionFor l D cs a2 x1 (2 : Int32) hm2 hk2 sz) cg_5_103_X7_editionFor rfl rfl (by decide +kernel) ⟨Nat.le_of_ble_eq_true rfl, Nat.le_of_ble_eq_true rfl⟩ hK hN TH hS hA rfl hm2 hk2 (by decide) rfl hl.1 rfl (Nat.le_of_ble_eq_true rfl) dX5_decideShared_3 ⟨Nat.le_of_ble_eq_true rfl, Nat.le_of_ble_eq_true rfl⟩ (fun v1 kp1 L1 E1 H locs hq1 hx1 TH hS => ?_)
  obtain ⟨⟨xc2, rfl, hxc2a, hxc2b⟩, rfl, rfl, rfl⟩ := hq1
  refine W.eq (g2 := F0 m 6 ls [.int xc2]) rfl ?_
  refine lv_istore_n (lv' := [(3, .int xc2), (0, .ref a0), (1, .int x1), (2, .ref a2)]) hx hb dX5_decideShared_6 rfl hl (by decide) rfl (fun ls hl => ?_)
  refine lv_aload_n hx hb dX5_decideShared_7 rfl (lv_at hl 3 rfl) ?_
  refine lv_iload_n hx hb dX5_decideShared_8 rfl (lv_at hl 2 rfl) ?_
  refine lv_iconst (v := 3) hx hb dX5_decideShared_9 (by decide) ?_
  refine tw_Vc (o := a2) (ci := 7) (n := 2) (post := (fun v kq Lq Eq => (∃ x : Int32, v = some (.int x) ∧ (-1) ≤ x.toInt ∧ x.toInt ≤ 11) ∧ kp = kq ∧ L = Lq ∧ E = Eq)) (As := [.int x1, .int 3]) (rest := []) ⟨hx, hb, hml, hown, hB⟩ (fun sz => tX7_editionFor l D cs a2 x1 (3 : Int32) hm2 hk2 sz) cg_5_103_X7_editionFor rfl rfl (by decide +kernel) ⟨Nat.le_of_ble_eq_true rfl, Nat.le_of_ble_eq_true rfl⟩ hK hN TH hS hA rfl hm2 hk2 (by decide) rfl hl.1 rfl (Nat.le_of_ble_eq_true rfl) dX5_decideShared_10 ⟨Nat.le_of_ble_eq_true rfl, Nat.le_of_ble_eq_true rfl⟩ (fun v3 kp3 L3 E3 H locs hq3 hx3 TH hS => ?_)
  obtain ⟨⟨xc4, rfl, hxc4a, hxc4b⟩, rfl, rfl, rfl⟩ := hq3
  refine W.eq (g2 := F0 m 13 ls [.int xc4]) rfl ?_
  refine lv_istore (lv' := [(4, .int xc4), (3, .int xc2), (0, .ref a0), (1, .int x1), (2, .ref a2)]) hx hb dX5_decideShared_13 hl (by decide) rfl (fun ls hl => ?_)
  refine lv_aload_n hx hb dX5_decideShared_15 rfl (lv_at hl 2 rfl) ?_
  refine lv_iload_n hx hb dX5_decideShared_16 rfl (lv_at hl 3 rfl) ?_
  refine lv_iconst (v := 2) hx hb dX5_decideShared_17 (by decide) ?_
  refine lv_iload_n hx hb dX5_decideShared_18 rfl (lv_at hl 1 rfl) ?_
  refine lv_aload_n hx hb dX5_decideShared_19 rfl (lv_at hl 2 rfl) ?_
  refine tw_get (ci := 5) (C := RX5) (T := TX5) (N := 15) hx hb hB cx_inX5 hown hK TH hm0 hk0 rfl ⟨by decide, rfl⟩ 0 (by decide) cw_315 (fun _ h9 => h9) dX5_decideShared_20 (fun hv => ?_)
  obtain ⟨xr5, hxr5, hmxr5, hkxr5⟩ : ∃ a : Nat, tw_fv E a0 0 = .ref a ∧ a ∈ L ∧ kp a = 8 := hv
  rw [hxr5]
  refine lv_iload_n hx hb dX5_decideShared_23 rfl (lv_at hl 3 rfl) ?_
  refine tw_Vc (o := xr5) (ci := 8) (n := 1) (post := (fun v kq Lq Eq => (∃ x : Int64, v = some (.long x)) ∧ kp = kq ∧ L = Lq ∧ E = Eq)) (As := [.int x1]) (rest := [.int xc2, .int 2, .int x1, .ref a0]) ⟨hx, hb, hml, hown, hB⟩ (fun sz => tX8_wordOf l D cs xr5 x1 hmxr5 hkxr5 sz) cg_5_124_X8_wordOf rfl rfl (by decide +kernel) ⟨Nat.le_of_ble_eq_true rfl, Nat.le_of_ble_eq_true rfl⟩ hK hN TH hS hA rfl hmxr5 hkxr5 (by decide) rfl hl.1 rfl (Nat.le_of_ble_eq_true rfl) dX5_decideShared_24 ⟨Nat.le_of_ble_eq_true rfl, Nat.le_of_ble_eq_true rfl⟩ (fun v6 kp6 L6 E6 H locs hq6 hx6 TH hS => ?_)
  obtain ⟨⟨xc7, rfl⟩, rfl, rfl, rfl⟩ := hq6
  refine W.eq (g2 := F0 m 27 ls [.long xc7, .int xc2, .int 2, .int x1, .ref a0]) rfl ?_
  refine lv_aload_n hx hb dX5_decideShared_27 rfl (lv_at hl 2 rfl) ?_
  refine tw_get (ci := 5) (C := RX5) (T := TX5) (N := 15) hx hb hB cx_inX5 hown hK TH hm0 hk0 rfl ⟨by decide, rfl⟩ 1 (by decide) cw_317 (fun _ h9 => h9) dX5_decideShared_28 (fun hv => ?_)
  obtain ⟨xr8, hxr8, hmxr8, hkxr8⟩ : ∃ a : Nat, tw_fv E a0 1 = .ref a ∧ a ∈ L ∧ kp a = 8 := hv
  rw [hxr8]
  refine lv_iload_n hx hb dX5_decideShared_31 rfl (lv_at hl 3 rfl) ?_
  refine tw_Vc (o := xr8) (ci := 8) (n := 1) (post := (fun v kq Lq Eq => (∃ x : Int64, v = some (.long x)) ∧ kp = kq ∧ L = Lq ∧ E = Eq)) (As := [.int x1]) (rest := [.long xc7, .int xc2, .int 2, .int x1, .ref a0]) ⟨hx, hb, hml, hown, hB⟩ (fun sz => tX8_wordOf l D cs xr8 x1 hmxr8 hkxr8 sz) cg_5_124_X8_wordOf rfl rfl (by decide +kernel) ⟨Nat.le_of_ble_eq_true rfl, Nat.le_of_ble_eq_true rfl⟩ hK hN TH hS hA rfl hmxr8 hkxr8 (by decide) rfl hl.1 rfl (Nat.le_of_ble_eq_true rfl) dX5_decideShared_32 ⟨Nat.le_of_ble_eq_true rfl, Nat.le_of_ble_eq_true rfl⟩ (fun v9 kp9 L9 E9 H locs hq9 hx9 TH hS => ?_)
  obtain ⟨⟨xc10, rfl⟩, rfl, rfl, rfl⟩ := hq9
  refine W.eq (g2 := F0 m 35 ls [.long xc10, .long xc7, .int xc2, .int 2, .int x1, .ref a0]) rfl ?_
  refine lv_aload_n hx hb dX5_decideShared_35 rfl (lv_at hl 2 rfl) ?_
  refine tw_get (ci := 5) (C := RX5) (T := TX5) (N := 15) hx hb hB cx_inX5 hown hK TH hm0 hk0 rfl ⟨by decide, rfl⟩ 2 (by decide) cw_319 (fun _ h9 => h9) dX5_decideShared_36 (fun hv => ?_)
  obtain ⟨xr11, hxr11, hmxr11, hkxr11⟩ : ∃ a : Nat, tw_fv E a0 2 = .ref a ∧ a ∈ L ∧ kp a = 8 := hv
  rw [hxr11]
  refine lv_iload_n hx hb dX5_decideShared_39 rfl (lv_at hl 3 rfl) ?_
  refine tw_Vc (o := xr11) (ci := 8) (n := 1) (post := (fun v kq Lq Eq => (∃ x : Int64, v = some (.long x)) ∧ kp = kq ∧ L = Lq ∧ E = Eq)) (As := [.int x1]) (rest := [.long xc10, .long xc7, .int xc2, .int 2, .int x1, .ref a0]) ⟨hx, hb, hml, hown, hB⟩ (fun sz => tX8_wordOf l D cs xr11 x1 hmxr11 hkxr11 sz) cg_5_124_X8_wordOf rfl rfl (by decide +kernel) ⟨Nat.le_of_ble_eq_true rfl, Nat.le_of_ble_eq_true rfl⟩ hK hN TH hS hA rfl hmxr11 hkxr11 (by decide) rfl hl.1 rfl (Nat.le_of_ble_eq_true rfl) dX5_decideShared_40 ⟨Nat.le_of_ble_eq_true rfl, Nat.le_of_ble_eq_true rfl⟩ (fun v12 kp12 L12 E12 H locs hq12 hx12 TH hS => ?_)
  obtain ⟨⟨xc13, rfl⟩, rfl, rfl, rfl⟩ := hq12
  refine W.eq (g2 := F0 m 43 ls [.long xc13, .long xc10, .long xc7, .int xc2, .int 2, .int x1, .ref a0]) rfl ?_
  refine tw_Vc (o := a0) (ci := 5) (n := 6) (post := (fun v kq Lq Eq => (∃ x : Int64, v = some (.long x)) ∧ kp = kq ∧ L = Lq ∧ tw_fr kp L [(5, 10)] [160] E Eq)) (As := [.int x1, .int 2, .int xc2, .long xc7, .long xc10, .long xc13]) (rest := []) ⟨hx, hb, hml, hown, hB⟩ (fun sz => tX5_choose l D cs a0 x1 (2 : Int32) xc2 xc7 xc10 xc13 hm0 hk0 sz) cg_5_135_X5_choose rfl rfl (by decide +kernel) ⟨Nat.le_of_ble_eq_true rfl, Nat.le_of_ble_eq_true rfl⟩ hK hN TH hS hA rfl hm0 hk0 (by decide) rfl hl.1 rfl (Nat.le_of_ble_eq_true rfl) dX5_decideShared_43 ⟨Nat.le_of_ble_eq_true rfl, Nat.le_of_ble_eq_true rfl⟩ (fun v14 kp14 L14 E14 H locs hq14 hx14 TH hS => ?_)
  obtain ⟨⟨xc15, rfl⟩, rfl, rfl, hst14⟩ := hq14
  have hF := hF.tr hst14 (fun _ h => ⟨h, rfl⟩) (by decide) (by decide)
  have hmf16 : tw_fv E14 a0 0 = .ref xr5 := (hst14.1 a0 0 hm0 (by rw [hk0]; decide)).trans hxr5
  have hmf17 : tw_fv E14 a0 1 = .ref xr8 := (hst14.1 a0 1 hm0 (by rw [hk0]; decide)).trans hxr8
  have hmf18 : tw_fv E14 a0 2 = .ref xr11 := (hst14.1 a0 2 hm0 (by rw [hk0]; decide)).trans hxr11
  refine W.eq (g2 := F0 m 46 ls [.long xc15]) rfl ?_
  refine lv_lstore (lv' := [(5, .long xc15), (4, .int xc4), (3, .int xc2), (0, .ref a0), (1, .int x1), (2, .ref a2)]) hx hb dX5_decideShared_46 hl (by decide) rfl (fun ls hl => ?_)
  refine lv_aload_n hx hb dX5_decideShared_48 rfl (lv_at hl 3 rfl) ?_
  refine lv_iload_n hx hb dX5_decideShared_49 rfl (lv_at hl 4 rfl) ?_
  refine lv_iconst (v := 3) hx hb dX5_decideShared_50 (by decide) ?_
  refine lv_iload hx hb dX5_decideShared_51 (lv_at hl 1 rfl) ?_
  refine lv_aload_n hx hb dX5_decideShared_53 rfl (lv_at hl 3 rfl) ?_
  refine tw_get (ci := 5) (C := RX5) (T := TX5) (N := 15) hx hb hB cx_inX5 hown hK TH hm0 hk0 rfl ⟨by decide, rfl⟩ 0 (by decide) cw_315 (fun _ h9 => h9) dX5_decideShared_54 (fun hv => ?_)
  rw [hmf16]
  refine lv_iload_n hx hb dX5_decideShared_57 rfl (lv_at hl 4 rfl) ?_
  refine tw_Vc (o := xr5) (ci := 8) (n := 1) (post := (fun v kq Lq Eq => (∃ x : Int32, v = some (.int x) ∧ (-1) ≤ x.toInt ∧ x.toInt ≤ 149) ∧ kp = kq ∧ L = Lq ∧ E14 = Eq)) (As := [.int x1]) (rest := [.int xc4, .int 3, .int x1, .ref a0]) ⟨hx, hb, hml, hown, hB⟩ (fun sz => tX8_upOf l D cs xr5 x1 hmxr5 hkxr5 sz) cg_5_128_X8_upOf rfl rfl (by decide +kernel) ⟨Nat.le_of_ble_eq_true rfl, Nat.le_of_ble_eq_true rfl⟩ hK hN TH hS hA rfl hmxr5 hkxr5 (by decide) rfl hl.1 rfl (Nat.le_of_ble_eq_true rfl) dX5_decideShared_58 ⟨Nat.le_of_ble_eq_true rfl, Nat.le_of_ble_eq_true rfl⟩ (fun v19 kp19 L19 E19 H locs hq19 hx19 TH hS => ?_)
  obtain ⟨⟨xc20, rfl, hxc20a, hxc20b⟩, rfl, rfl, rfl⟩ := hq19
  refine W.eq (g2 := F0 m 61 ls [.int xc20, .int xc4, .int 3, .int x1, .ref a0]) rfl ?_
  refine lv_i2l (v := (xc20).toInt64) hx hb dX5_decideShared_61 rfl ?_
  refine tw_topl (fun zl21 ezl21 => ?_)
  refine lv_aload_n hx hb dX5_decideShared_62 rfl (lv_at hl 3 rfl) ?_
  refine tw_get (ci := 5) (C := RX5) (T := TX5) (N := 15) hx hb hB cx_inX5 hown hK TH hm0 hk0 rfl ⟨by decide, rfl⟩ 1 (by decide) cw_317 (fun _ h9 => h9) dX5_decideShared_63 (fun hv => ?_)
  rw [hmf17]
  refine lv_iload_n hx hb dX5_decideShared_66 rfl (lv_at hl 4 rfl) ?_
  refine tw_Vc (o := xr8) (ci := 8) (n := 1) (post := (fun v kq Lq Eq => (∃ x : Int32, v = some (.int x) ∧ (-1) ≤ x.toInt ∧ x.toInt ≤ 149) ∧ kp = kq ∧ L = Lq ∧ E14 = Eq)) (As := [.int x1]) (rest := [.long zl21, .int xc4, .int 3, .int x1, .ref a0]) ⟨hx, hb, hml, hown, hB⟩ (fun sz => tX8_upOf l D cs xr8 x1 hmxr8 hkxr8 sz) cg_5_128_X8_upOf rfl rfl (by decide +kernel) ⟨Nat.le_of_ble_eq_true rfl, Nat.le_of_ble_eq_true rfl⟩ hK hN TH hS hA rfl hmxr8 hkxr8 (by decide) rfl hl.1 rfl (Nat.le_of_ble_eq_true rfl) dX5_decideShared_67 ⟨Nat.le_of_ble_eq_true rfl, Nat.le_of_ble_eq_true rfl⟩ (fun v22 kp22 L22 E22 H locs hq22 hx22 TH hS => ?_)
  obtain ⟨⟨xc23, rfl, hxc23a, hxc23b⟩, rfl, rfl, rfl⟩ := hq22
  refine W.eq (g2 := F0 m 70 ls [.int xc23, .long zl21, .int xc4, .int 3, .int x1, .ref a0]) rfl ?_
  refine lv_i2l (v := (xc23).toInt64) hx hb dX5_decideShared_70 rfl ?_
  refine tw_topl (fun zl24 ezl24 => ?_)
  refine lv_aload_n hx hb dX5_decideShared_71 rfl (lv_at hl 3 rfl) ?_
  refine tw_get (ci := 5) (C := RX5) (T := TX5) (N := 15) hx hb hB cx_inX5 hown hK TH hm0 hk0 rfl ⟨by decide, rfl⟩ 2 (by decide) cw_319 (fun _ h9 => h9) dX5_decideShared_72 (fun hv => ?_)
  rw [hmf18]
  refine lv_iload_n hx hb dX5_decideShared_75 rfl (lv_at hl 4 rfl) ?_
  refine tw_Vc (o := xr11) (ci := 8) (n := 1) (post := (fun v kq Lq Eq => (∃ x : Int32, v = some (.int x) ∧ (-1) ≤ x.toInt ∧ x.toInt ≤ 149) ∧ kp = kq ∧ L = Lq ∧ E14 = Eq)) (As := [.int x1]) (rest := [.long zl24, .long zl21, .int xc4, .int 3, .int x1, .ref a0]) ⟨hx, hb, hml, hown, hB⟩ (fun sz => tX8_upOf l D cs xr11 x1 hmxr11 hkxr11 sz) cg_5_128_X8_upOf rfl rfl (by decide +kernel) ⟨Nat.le_of_ble_eq_true rfl, Nat.le_of_ble_eq_true rfl⟩ hK hN TH hS hA rfl hmxr11 hkxr11 (by decide) rfl hl.1 rfl (Nat.le_of_ble_eq_true rfl) dX5_decideShared_76 ⟨Nat.le_of_ble_eq_true rfl, Nat.le_of_ble_eq_true rfl⟩ (fun v25 kp25 L25 E25 H locs hq25 hx25 TH hS => ?_)
  obtain ⟨⟨xc26, rfl, hxc26a, hxc26b⟩, rfl, rfl, rfl⟩ := hq25
  refine W.eq (g2 := F0 m 79 ls [.int xc26, .long zl24, .long zl21, .int xc4, .int 3, .int x1, .ref a0]) rfl ?_
  refine lv_i2l (v := (xc26).toInt64) hx hb dX5_decideShared_79 rfl ?_
  refine tw_topl (fun zl27 ezl27 => ?_)
  refine tw_Vc (o := a0) (ci := 5) (n := 6) (post := (fun v kq Lq Eq => (∃ x : Int64, v = some (.long x)) ∧ kp = kq ∧ L = Lq ∧ tw_fr kp L [(5, 10)] [160] E14 Eq)) (As := [.int x1, .int 3, .int xc4, .long zl21, .long zl24, .long zl27]) (rest := []) ⟨hx, hb, hml, hown, hB⟩ (fun sz => tX5_choose l D cs a0 x1 (3 : Int32) xc4 zl21 zl24 zl27 hm0 hk0 sz) cg_5_135_X5_choose rfl rfl (by decide +kernel) ⟨Nat.le_of_ble_eq_true rfl, Nat.le_of_ble_eq_true rfl⟩ hK hN TH hS hA rfl hm0 hk0 (by decide) rfl hl.1 rfl (Nat.le_of_ble_eq_true rfl) dX5_decideShared_80 ⟨Nat.le_of_ble_eq_true rfl, Nat.le_of_ble_eq_true rfl⟩ (fun v28 kp28 L28 E28 H locs hq28 hx28 TH hS => ?_)
  obtain ⟨⟨xc29, rfl⟩, rfl, rfl, hst28⟩ := hq28
  have hF := hF.tr hst28 (fun _ h => ⟨h, rfl⟩) (by decide) (by decide)
  have hmf30 : tw_fv E28 a0 0 = .ref xr5 := (hst28.1 a0 0 hm0 (by rw [hk0]; decide)).trans hmf16
  have hmf31 : tw_fv E28 a0 1 = .ref xr8 := (hst28.1 a0 1 hm0 (by rw [hk0]; decide)).trans hmf17
  have hmf32 : tw_fv E28 a0 2 = .ref xr11 := (hst28.1 a0 2 hm0 (by rw [hk0]; decide)).trans hmf18
  refine W.eq (g2 := F0 m 83 ls [.long xc29]) rfl ?_
  refine lv_lstore (lv' := [(7, .long xc29), (5, .long xc15), (4, .int xc4), (3, .int xc2), (0, .ref a0), (1, .int x1), (2, .ref a2)]) hx hb dX5_decideShared_83 hl (by decide) rfl (fun ls hl => ?_)
  refine lv_aload_n hx hb dX5_decideShared_85 rfl (lv_at hl 4 rfl) ?_
  refine lv_iload_n hx hb dX5_decideShared_86 rfl (lv_at hl 5 rfl) ?_
  refine lv_aload_n hx hb dX5_decideShared_87 rfl (lv_at hl 4 rfl) ?_
  refine tw_get (ci := 5) (C := RX5) (T := TX5) (N := 15) hx hb hB cx_inX5 hown hK TH hm0 hk0 rfl ⟨by decide, rfl⟩ 0 (by decide) cw_315 (fun _ h9 => h9) dX5_decideShared_88 (fun hv => ?_)
  rw [hmf30]
  refine lv_iload_n hx hb dX5_decideShared_91 rfl (lv_at hl 5 rfl) ?_
  refine tw_Vc (o := xr5) (ci := 8) (n := 1) (post := (fun v kq Lq Eq => (∃ x : Int32, v = some (.int x) ∧ (-1) ≤ x.toInt ∧ x.toInt ≤ 9) ∧ kp = kq ∧ L = Lq ∧ E28 = Eq)) (As := [.int x1]) (rest := [.int x1, .ref a0]) ⟨hx, hb, hml, hown, hB⟩ (fun sz => tX8_kindOf l D cs xr5 x1 hmxr5 hkxr5 sz) cg_5_120_X8_kindOf rfl rfl (by decide +kernel) ⟨Nat.le_of_ble_eq_true rfl, Nat.le_of_ble_eq_true rfl⟩ hK hN TH hS hA rfl hmxr5 hkxr5 (by decide) rfl hl.1 rfl (Nat.le_of_ble_eq_true rfl) dX5_decideShared_92 ⟨Nat.le_of_ble_eq_true rfl, Nat.le_of_ble_eq_true rfl⟩ (fun v33 kp33 L33 E33 H locs hq33 hx33 TH hS => ?_)
  obtain ⟨⟨xc34, rfl, hxc34a, hxc34b⟩, rfl, rfl, rfl⟩ := hq33
  refine W.eq (g2 := F0 m 95 ls [.int xc34, .int x1, .ref a0]) rfl ?_
  refine lv_lload hx hb dX5_decideShared_95 (lv_at hl 1 rfl) ?_
  refine lv_lload hx hb dX5_decideShared_97 (lv_at hl 0 rfl) ?_
  refine lv_l2i (v := (xc29).toInt32) hx hb dX5_decideShared_99 rfl ?_
  refine lv_topi (fun zi35 ezi35 => ?_)
  refine tw_Vc (o := a0) (ci := 5) (n := 4) (post := (fun v kq Lq Eq => v = none ∧ kp = kq ∧ L = Lq ∧ tw_fr kp L [] [161, 162, 163, 164] E28 Eq)) (As := [.int x1, .int xc34, .long xc15, .int zi35]) (rest := []) ⟨hx, hb, hml, hown, hB⟩ (fun sz => tX5_stand l D cs a0 x1 xc34 xc15 zi35 hm0 hk0 (by omega) (by omega) (by omega) (by omega) sz) cg_5_131_X5_stand rfl rfl (by decide +kernel) ⟨Nat.le_of_ble_eq_true rfl, Nat.le_of_ble_eq_true rfl⟩ hK hN TH hS hA rfl hm0 hk0 (by decide) rfl hl.1 rfl (Nat.le_of_ble_eq_true rfl) dX5_decideShared_100 ⟨Nat.le_of_ble_eq_true rfl, Nat.le_of_ble_eq_true rfl⟩ (fun v36 kp36 L36 E36 H locs hq36 hx36 TH hS => ?_)
  obtain ⟨rfl, rfl, rfl, hst36⟩ := hq36
  have hF := hF.tr hst36 (fun _ h => ⟨h, rfl⟩) (by decide) (by decide)
  have hmf38 : tw_fv E36 a0 0 = .ref xr5 := (hst36.1 a0 0 hm0 (by rw [hk0]; decide)).trans hmf30
  have hmf39 : tw_fv E36 a0 1 = .ref xr8 := (hst36.1 a0 1 hm0 (by rw [hk0]; decide)).trans hmf31
  have hmf40 : tw_fv E36 a0 2 = .ref xr11 := (hst36.1 a0 2 hm0 (by rw [hk0]; decide)).trans hmf32
  refine W.eq (g2 := F0 m 103 ls []) rfl ?_
  exact tw_vret hx hb hr hlocks TH hS hex ⟨rfl, rfl, rfl, hF⟩ (Nat.le_of_ble_eq_true rfl) (Nat.le_of_ble_eq_true rfl) dX5_decideShared_103
set_option maxHeartbeats 4000000 in
set_option maxRecDepth 100000 in
theorem tX5_decide (l : Launch) (D : va_G) (cs : Nat → ClassId) {kp : Nat → Nat} {L : List Nat} {E : Nat → va_E} (a0 : Nat) (x1 : Int32) (a2 : Nat) (hm0 : a0 ∈ L) (hk0 : kp a0 = 5) (hp1a : 0 ≤ x1.toInt) (hp1b : x1.toInt ≤ 149) (hm2 : a2 ∈ L) (hk2 : kp a2 = 7) (sz : Nat) : Met l yX5_decide (.code yX5_decide cX5_decide 3 none :: cx_big) { frames := 3, cells := 0, slots := 0, locals := 80 } (tw_P D cs kp L E [.ref a0, .int x1, .ref a2] sz) (tw_Q D cs kp L (fun v kq Lq Eq => v = none ∧ kp = kq ∧ L = Lq ∧ tw_fr kp L [(5, 10)] [160, 161, 162, 163, 164] E Eq) (va_A (va_pl L E) sz)) 0 0 (va_A (va_pl L E) sz) := by
  refine tw_ofW (by decide) (Nat.le_of_ble_eq_true rfl) ?_
  intro p e s m below meth c A ls hx hb hr hml hB hown hlocks hK hN hA TH hS hl
  have hown : s.vm.findClass "TreeMerge$Merging" = some m.cls := hown
  have hl : lv_has ls 3 [(0, .ref a0), (1, .int x1), (2, .ref a2)] := hl
  obtain ⟨kp0, ekp⟩ : ∃ z, z = kp := ⟨_, rfl⟩
  obtain ⟨L0, eL⟩ : ∃ z, z = L := ⟨_, rfl⟩
  rw [show tw_Q D cs kp L = tw_Q D cs kp0 L0 by rw [ekp, eL]]
  have hex : ∀ a : Nat, a ∈ L0 → a ∈ L ∧ kp a = kp0 a := fun a h => ⟨by rw [← eL]; exact h, by rw [ekp]⟩
  have hF : tw_fr kp L [(5, 10)] [160, 161, 162, 163, 164] E E := tw_fr.rf
  refine lv_aload_n hx hb dX5_decide_0 rfl (lv_at hl 0 rfl) ?_
  refine tw_get (ci := 5) (C := RX5) (T := TX5) (N := 15) hx hb hB cx_inX5 hown hK TH hm0 hk0 rfl ⟨by decide, rfl⟩ 0 (by decide) cw_315 (fun _ h9 => h9) dX5_decide_1 (fun hv => ?_)
  obtain ⟨xr1, hxr1, hmxr1, hkxr1⟩ : ∃ a : Nat, tw_fv E a0 0 = .ref a ∧ a ∈ L ∧ kp a = 8 := hv
  rw [hxr1]
  refine lv_iload_n hx hb dX5_decide_4 rfl (lv_at hl 1 rfl) ?_
  refine tw_Vc (o := xr1) (ci := 8) (n := 1) (post := (fun v kq Lq Eq => (∃ x : Int32, v = some (.int x) ∧ 0 ≤ x.toInt ∧ x.toInt ≤ 1) ∧ kp = kq ∧ L = Lq ∧ E = Eq)) (As := [.int x1]) (rest := []) ⟨hx, hb, hml, hown, hB⟩ (fun sz => tX8_has l D cs xr1 x1 hmxr1 hkxr1 sz) cg_5_92_X8_has rfl rfl (by decide +kernel) ⟨Nat.le_of_ble_eq_true rfl, Nat.le_of_ble_eq_true rfl⟩ hK hN TH hS hA rfl hmxr1 hkxr1 (by decide) rfl hl.1 rfl (Nat.le_of_ble_eq_true rfl) dX5_decide_5 ⟨Nat.le_of_ble_eq_true rfl, Nat.le_of_ble_eq_true rfl⟩ (fun v2 kp2 L2 E2 H locs hq2 hx2 TH hS => ?_)
  obtain ⟨⟨xc3, rfl, hxc3a, hxc3b⟩, rfl, rfl, rfl⟩ := hq2
  refine W.eq (g2 := F0 m 8 ls [.int xc3]) rfl ?_
  have hJ31 : ∀  (H : Heap) (locs : List Loc) (ls : Array Slot), tw_H D cs kp L E A H → va_S A s.heap H locs → lv_has ls 3 [(0, .ref a0), (1, .int x1), (2, .ref a2)] → W p l e { frames := 3, cells := 0, slots := 0, locals := 80 } s m [.ref a0, .int x1, .ref a2].toArray below meth c H locs 0 0 (MQ below (tw_Q D cs kp0 L0 (fun v kq Lq Eq => v = none ∧ kp = kq ∧ L = Lq ∧ tw_fr kp L [(5, 10)] [160, 161, 162, 163, 164] E Eq) A) [.ref a0, .int x1, .ref a2].toArray s 0 0 A) (F0 m 31 ls []) := by
    intro H locs ls TH hS hl
    refine lv_aload_n hx hb dX5_decide_31 rfl (lv_at hl 0 rfl) ?_
    refine tw_get (ci := 5) (C := RX5) (T := TX5) (N := 15) hx hb hB cx_inX5 hown hK TH hm0 hk0 rfl ⟨by decide, rfl⟩ 0 (by decide) cw_315 (fun _ h9 => h9) dX5_decide_32 (fun hv => ?_)
    rw [hxr1]
    refine lv_iload_n hx hb dX5_decide_35 rfl (lv_at hl 1 rfl) ?_
    refine tw_Vc (o := xr1) (ci := 8) (n := 1) (post := (fun v kq Lq Eq => (∃ x : Int32, v = some (.int x) ∧ 0 ≤ x.toInt ∧ x.toInt ≤ 1) ∧ kp = kq ∧ L = Lq ∧ E = Eq)) (As := [.int x1]) (rest := []) ⟨hx, hb, hml, hown, hB⟩ (fun sz => tX8_has l D cs xr1 x1 hmxr1 hkxr1 sz) cg_5_92_X8_has rfl rfl (by decide +kernel) ⟨Nat.le_of_ble_eq_true rfl, Nat.le_of_ble_eq_true rfl⟩ hK hN TH hS hA rfl hmxr1 hkxr1 (by decide) rfl hl.1 rfl (Nat.le_of_ble_eq_true rfl) dX5_decide_36 ⟨Nat.le_of_ble_eq_true rfl, Nat.le_of_ble_eq_true rfl⟩ (fun v4 kp4 L4 E4 H locs hq4 hx4 TH hS => ?_)
    obtain ⟨⟨xc5, rfl, hxc5a, hxc5b⟩, rfl, rfl, rfl⟩ := hq4
    refine W.eq (g2 := F0 m 39 ls [.int xc5]) rfl ?_
    refine lv_if_eq (tgt := 59) hx hb dX5_decide_39 (by decide) (fun hc6 => ?_) (fun hc6 => ?_)
    · have hf7 : xc5.toInt = 0 := by have z := (fa_eq _ _).mp hc6; have : ((0 : Int32).toInt) = 0 := (by decide); omega
      refine lv_aload_n hx hb dX5_decide_59 rfl (lv_at hl 0 rfl) ?_
      refine tw_get (ci := 5) (C := RX5) (T := TX5) (N := 15) hx hb hB cx_inX5 hown hK TH hm0 hk0 rfl ⟨by decide, rfl⟩ 1 (by decide) cw_317 (fun _ h9 => h9) dX5_decide_60 (fun hv => ?_)
      obtain ⟨xr8, hxr8, hmxr8, hkxr8⟩ : ∃ a : Nat, tw_fv E a0 1 = .ref a ∧ a ∈ L ∧ kp a = 8 := hv
      rw [hxr8]
      refine lv_iload_n hx hb dX5_decide_63 rfl (lv_at hl 1 rfl) ?_
      refine tw_Vc (o := xr8) (ci := 8) (n := 1) (post := (fun v kq Lq Eq => (∃ x : Int32, v = some (.int x) ∧ 0 ≤ x.toInt ∧ x.toInt ≤ 1) ∧ kp = kq ∧ L = Lq ∧ E = Eq)) (As := [.int x1]) (rest := []) ⟨hx, hb, hml, hown, hB⟩ (fun sz => tX8_has l D cs xr8 x1 hmxr8 hkxr8 sz) cg_5_92_X8_has rfl rfl (by decide +kernel) ⟨Nat.le_of_ble_eq_true rfl, Nat.le_of_ble_eq_true rfl⟩ hK hN TH hS hA rfl hmxr8 hkxr8 (by decide) rfl hl.1 rfl (Nat.le_of_ble_eq_true rfl) dX5_decide_64 ⟨Nat.le_of_ble_eq_true rfl, Nat.le_of_ble_eq_true rfl⟩ (fun v9 kp9 L9 E9 H locs hq9 hx9 TH hS => ?_)
      obtain ⟨⟨xc10, rfl, hxc10a, hxc10b⟩, rfl, rfl, rfl⟩ := hq9
      refine W.eq (g2 := F0 m 67 ls [.int xc10]) rfl ?_
      refine lv_if_eq (tgt := 84) hx hb dX5_decide_67 (by decide) (fun hc11 => ?_) (fun hc11 => ?_)
      · have hf12 : xc10.toInt = 0 := by have z := (fa_eq _ _).mp hc11; have : ((0 : Int32).toInt) = 0 := (by decide); omega
        exact tw_vret hx hb hr hlocks TH hS hex ⟨rfl, rfl, rfl, hF⟩ (Nat.le_of_ble_eq_true rfl) (Nat.le_of_ble_eq_true rfl) dX5_decide_84
      · have hf13 : ¬ (xc10.toInt = 0) := fun q => hc11 ((fa_eq _ _).mpr (by have : ((0 : Int32).toInt) = 0 := (by decide); omega))
        refine lv_aload_n hx hb dX5_decide_70 rfl (lv_at hl 0 rfl) ?_
        refine lv_iload_n hx hb dX5_decide_71 rfl (lv_at hl 1 rfl) ?_
        refine lv_aload_n hx hb dX5_decide_72 rfl (lv_at hl 0 rfl) ?_
        refine tw_get (ci := 5) (C := RX5) (T := TX5) (N := 15) hx hb hB cx_inX5 hown hK TH hm0 hk0 rfl ⟨by decide, rfl⟩ 1 (by decide) cw_317 (fun _ h9 => h9) dX5_decide_73 (fun hv => ?_)
        rw [hxr8]
        refine lv_aload_n hx hb dX5_decide_76 rfl (lv_at hl 0 rfl) ?_
        refine tw_get (ci := 5) (C := RX5) (T := TX5) (N := 15) hx hb hB cx_inX5 hown hK TH hm0 hk0 rfl ⟨by decide, rfl⟩ 0 (by decide) cw_315 (fun _ h9 => h9) dX5_decide_77 (fun hv => ?_)
        rw [hxr1]
        refine lv_aload_n hx hb dX5_decide_80 rfl (lv_at hl 2 rfl) ?_
        refine tw_Vc (o := a0) (ci := 5) (n := 4) (post := (fun v kq Lq Eq => v = none ∧ kp = kq ∧ L = Lq ∧ tw_fr kp L [(5, 10)] [160, 161, 162, 163, 164] E Eq)) (As := [.int x1, .ref xr8, .ref xr1, .ref a2]) (rest := []) ⟨hx, hb, hml, hown, hB⟩ (fun sz => tX5_decideLone l D cs a0 x1 xr8 xr1 a2 hm0 hk0 (by omega) (by omega) hmxr8 hkxr8 hmxr1 hkxr1 hm2 hk2 sz) cg_5_99_X5_decideLone rfl rfl (by decide +kernel) ⟨Nat.le_of_ble_eq_true rfl, Nat.le_of_ble_eq_true rfl⟩ hK hN TH hS hA rfl hm0 hk0 (by decide) rfl hl.1 rfl (Nat.le_of_ble_eq_true rfl) dX5_decide_81 ⟨Nat.le_of_ble_eq_true rfl, Nat.le_of_ble_eq_true rfl⟩ (fun v14 kp14 L14 E14 H locs hq14 hx14 TH hS => ?_)
        obtain ⟨rfl, rfl, rfl, hst14⟩ := hq14
        have hF := hF.tr hst14 (fun _ h => ⟨h, rfl⟩) (by decide) (by decide)
        have hmf16 : tw_fv E14 a0 0 = .ref xr1 := (hst14.1 a0 0 hm0 (by rw [hk0]; decide)).trans hxr1
        have hmf17 : tw_fv E14 a0 1 = .ref xr8 := (hst14.1 a0 1 hm0 (by rw [hk0]; decide)).trans hxr8
        refine W.eq (g2 := F0 m 84 ls []) rfl ?_
        exact tw_vret hx hb hr hlocks TH hS hex ⟨rfl, rfl, rfl, hF⟩ (Nat.le_of_ble_eq_true rfl) (Nat.le_of_ble_eq_true rfl) dX5_decide_84
    · have hf18 : ¬ (xc5.toInt = 0) := fun q => hc6 ((fa_eq _ _).mpr (by have : ((0 : Int32).toInt) = 0 := (by decide); omega))
      refine lv_aload_n hx hb dX5_decide_42 rfl (lv_at hl 0 rfl) ?_
      refine lv_iload_n hx hb dX5_decide_43 rfl (lv_at hl 1 rfl) ?_
      refine lv_aload_n hx hb dX5_decide_44 rfl (lv_at hl 0 rfl) ?_
      refine tw_get (ci := 5) (C := RX5) (T := TX5) (N := 15) hx hb hB cx_inX5 hown hK TH hm0 hk0 rfl ⟨by decide, rfl⟩ 0 (by decide) cw_315 (fun _ h9 => h9) dX5_decide_45 (fun hv => ?_)
      rw [hxr1]
      refine lv_aload_n hx hb dX5_decide_48 rfl (lv_at hl 0 rfl) ?_
      refine tw_get (ci := 5) (C := RX5) (T := TX5) (N := 15) hx hb hB cx_inX5 hown hK TH hm0 hk0 rfl ⟨by decide, rfl⟩ 1 (by decide) cw_317 (fun _ h9 => h9) dX5_decide_49 (fun hv => ?_)
      obtain ⟨xr19, hxr19, hmxr19, hkxr19⟩ : ∃ a : Nat, tw_fv E a0 1 = .ref a ∧ a ∈ L ∧ kp a = 8 := hv
      rw [hxr19]
      refine lv_aload_n hx hb dX5_decide_52 rfl (lv_at hl 2 rfl) ?_
      refine tw_Vc (o := a0) (ci := 5) (n := 4) (post := (fun v kq Lq Eq => v = none ∧ kp = kq ∧ L = Lq ∧ tw_fr kp L [(5, 10)] [160, 161, 162, 163, 164] E Eq)) (As := [.int x1, .ref xr1, .ref xr19, .ref a2]) (rest := []) ⟨hx, hb, hml, hown, hB⟩ (fun sz => tX5_decideLone l D cs a0 x1 xr1 xr19 a2 hm0 hk0 (by omega) (by omega) hmxr1 hkxr1 hmxr19 hkxr19 hm2 hk2 sz) cg_5_99_X5_decideLone rfl rfl (by decide +kernel) ⟨Nat.le_of_ble_eq_true rfl, Nat.le_of_ble_eq_true rfl⟩ hK hN TH hS hA rfl hm0 hk0 (by decide) rfl hl.1 rfl (Nat.le_of_ble_eq_true rfl) dX5_decide_53 ⟨Nat.le_of_ble_eq_true rfl, Nat.le_of_ble_eq_true rfl⟩ (fun v20 kp20 L20 E20 H locs hq20 hx20 TH hS => ?_)
      obtain ⟨rfl, rfl, rfl, hst20⟩ := hq20
      have hF := hF.tr hst20 (fun _ h => ⟨h, rfl⟩) (by decide) (by decide)
      have hmf22 : tw_fv E20 a0 0 = .ref xr1 := (hst20.1 a0 0 hm0 (by rw [hk0]; decide)).trans hxr1
      have hmf23 : tw_fv E20 a0 1 = .ref xr19 := (hst20.1 a0 1 hm0 (by rw [hk0]; decide)).trans hxr19
      refine W.eq (g2 := F0 m 56 ls []) rfl ?_
      refine lv_goto (tgt := 84) hx hb dX5_decide_56 (by decide) ?_
      exact tw_vret hx hb hr hlocks TH hS hex ⟨rfl, rfl, rfl, hF⟩ (Nat.le_of_ble_eq_true rfl) (Nat.le_of_ble_eq_true rfl) dX5_decide_84
  refine lv_if_eq (tgt := 31) hx hb dX5_decide_8 (by decide) (fun hc24 => ?_) (fun hc24 => ?_)
  · have hf25 : xc3.toInt = 0 := by have z := (fa_eq _ _).mp hc24; have : ((0 : Int32).toInt) = 0 := (by decide); omega
    exact hJ31  _ _ ls  TH hS (lv_sub hl [0, 1, 2] rfl)
  · have hf26 : ¬ (xc3.toInt = 0) := fun q => hc24 ((fa_eq _ _).mpr (by have : ((0 : Int32).toInt) = 0 := (by decide); omega))
    refine lv_aload_n hx hb dX5_decide_11 rfl (lv_at hl 0 rfl) ?_
    refine tw_get (ci := 5) (C := RX5) (T := TX5) (N := 15) hx hb hB cx_inX5 hown hK TH hm0 hk0 rfl ⟨by decide, rfl⟩ 1 (by decide) cw_317 (fun _ h9 => h9) dX5_decide_12 (fun hv => ?_)
    obtain ⟨xr27, hxr27, hmxr27, hkxr27⟩ : ∃ a : Nat, tw_fv E a0 1 = .ref a ∧ a ∈ L ∧ kp a = 8 := hv
    rw [hxr27]
    refine lv_iload_n hx hb dX5_decide_15 rfl (lv_at hl 1 rfl) ?_
    refine tw_Vc (o := xr27) (ci := 8) (n := 1) (post := (fun v kq Lq Eq => (∃ x : Int32, v = some (.int x) ∧ 0 ≤ x.toInt ∧ x.toInt ≤ 1) ∧ kp = kq ∧ L = Lq ∧ E = Eq)) (As := [.int x1]) (rest := []) ⟨hx, hb, hml, hown, hB⟩ (fun sz => tX8_has l D cs xr27 x1 hmxr27 hkxr27 sz) cg_5_92_X8_has rfl rfl (by decide +kernel) ⟨Nat.le_of_ble_eq_true rfl, Nat.le_of_ble_eq_true rfl⟩ hK hN TH hS hA rfl hmxr27 hkxr27 (by decide) rfl hl.1 rfl (Nat.le_of_ble_eq_true rfl) dX5_decide_16 ⟨Nat.le_of_ble_eq_true rfl, Nat.le_of_ble_eq_true rfl⟩ (fun v28 kp28 L28 E28 H locs hq28 hx28 TH hS => ?_)
    obtain ⟨⟨xc29, rfl, hxc29a, hxc29b⟩, rfl, rfl, rfl⟩ := hq28
    refine W.eq (g2 := F0 m 19 ls [.int xc29]) rfl ?_
    refine lv_if_eq (tgt := 31) hx hb dX5_decide_19 (by decide) (fun hc30 => ?_) (fun hc30 => ?_)
    · have hf31 : xc29.toInt = 0 := by have z := (fa_eq _ _).mp hc30; have : ((0 : Int32).toInt) = 0 := (by decide); omega
      exact hJ31  _ _ ls  TH hS (lv_sub hl [0, 1, 2] rfl)
    · have hf32 : ¬ (xc29.toInt = 0) := fun q => hc30 ((fa_eq _ _).mpr (by have : ((0 : Int32).toInt) = 0 := (by decide); omega))
      refine lv_aload_n hx hb dX5_decide_22 rfl (lv_at hl 0 rfl) ?_
      refine lv_iload_n hx hb dX5_decide_23 rfl (lv_at hl 1 rfl) ?_
      refine lv_aload_n hx hb dX5_decide_24 rfl (lv_at hl 2 rfl) ?_
      refine tw_Vc (o := a0) (ci := 5) (n := 2) (post := (fun v kq Lq Eq => v = none ∧ kp = kq ∧ L = Lq ∧ tw_fr kp L [(5, 10)] [160, 161, 162, 163, 164] E Eq)) (As := [.int x1, .ref a2]) (rest := []) ⟨hx, hb, hml, hown, hB⟩ (fun sz => tX5_decideShared l D cs a0 x1 a2 hm0 hk0 (by omega) (by omega) hm2 hk2 sz) cg_5_96_X5_decideShared rfl rfl (by decide +kernel) ⟨Nat.le_of_ble_eq_true rfl, Nat.le_of_ble_eq_true rfl⟩ hK hN TH hS hA rfl hm0 hk0 (by decide) rfl hl.1 rfl (Nat.le_of_ble_eq_true rfl) dX5_decide_25 ⟨Nat.le_of_ble_eq_true rfl, Nat.le_of_ble_eq_true rfl⟩ (fun v33 kp33 L33 E33 H locs hq33 hx33 TH hS => ?_)
      obtain ⟨rfl, rfl, rfl, hst33⟩ := hq33
      have hF := hF.tr hst33 (fun _ h => ⟨h, rfl⟩) (by decide) (by decide)
      have hmf35 : tw_fv E33 a0 0 = .ref xr1 := (hst33.1 a0 0 hm0 (by rw [hk0]; decide)).trans hxr1
      have hmf36 : tw_fv E33 a0 1 = .ref xr27 := (hst33.1 a0 1 hm0 (by rw [hk0]; decide)).trans hxr27
      refine W.eq (g2 := F0 m 28 ls []) rfl ?_
      refine lv_goto (tgt := 84) hx hb dX5_decide_28 (by decide) ?_
      exact tw_vret hx hb hr hlocks TH hS hex ⟨rfl, rfl, rfl, hF⟩ (Nat.le_of_ble_eq_true rfl) (Nat.le_of_ble_eq_true rfl) dX5_decide_84
set_option maxHeartbeats 4000000 in
set_option maxRecDepth 100000 in
theorem tX5_dropTheLed (l : Launch) (D : va_G) (cs : Nat → ClassId) {kp : Nat → Nat} {L : List Nat} {E : Nat → va_E} (a0 : Nat) (hm0 : a0 ∈ L) (hk0 : kp a0 = 5) (sz : Nat) : Met l yX5_dropTheLed (.code yX5_dropTheLed cX5_dropTheLed 4 none :: cx_big) { frames := 1, cells := 0, slots := 0, locals := 21 } (tw_P D cs kp L E [.ref a0] sz) (tw_Q D cs kp L (fun v kq Lq Eq => v = none ∧ kp = kq ∧ L = Lq ∧ tw_fr kp L [] [161] E Eq) (va_A (va_pl L E) sz)) 0 0 (va_A (va_pl L E) sz) := by
  refine tw_ofW (by decide) (Nat.le_of_ble_eq_true rfl) ?_
  intro p e s m below meth c A ls hx hb hr hml hB hown hlocks hK hN hA TH hS hl
  have hown : s.vm.findClass "TreeMerge$Merging" = some m.cls := hown
  have hl : lv_has ls 4 [(0, .ref a0)] := hl
  obtain ⟨kp0, ekp⟩ : ∃ z, z = kp := ⟨_, rfl⟩
  obtain ⟨L0, eL⟩ : ∃ z, z = L := ⟨_, rfl⟩
  rw [show tw_Q D cs kp L = tw_Q D cs kp0 L0 by rw [ekp, eL]]
  have hex : ∀ a : Nat, a ∈ L0 → a ∈ L ∧ kp a = kp0 a := fun a h => ⟨by rw [← eL]; exact h, by rw [ekp]⟩
  have hF : tw_fr kp L [] [161] E E := tw_fr.rf
  refine lv_iconst (v := 1) hx hb dX5_dropTheLed_0 (by decide) ?_
  refine lv_istore_n (lv' := [(1, .int 1), (0, .ref a0)]) hx hb dX5_dropTheLed_1 rfl hl (by decide) rfl (fun ls hl => ?_)
  refine lv_iconst (v := 0) hx hb dX5_dropTheLed_2 (by decide) ?_
  refine lv_istore_n (lv' := [(2, .int 0), (1, .int 1), (0, .ref a0)]) hx hb dX5_dropTheLed_3 rfl hl (by decide) rfl (fun ls hl => ?_)
  have hJ4 : ∀ (n4 : Nat) (y4_2 : Int32) (y4_1 : Int32) (Eg4 : Nat → va_E) (H : Heap) (locs : List Loc) (ls : Array Slot), 0 ≤ y4_2.toInt → y4_2.toInt ≤ 150 → 0 ≤ y4_1.toInt → y4_1.toInt ≤ 1 → 150 - y4_2.toInt ≤ (n4 : Int) → tw_fr kp L [] [161] E Eg4 → tw_H D cs kp L Eg4 A H → va_S A s.heap H locs → lv_has ls 4 [(2, .int y4_2), (1, .int y4_1), (0, .ref a0)] → W p l e { frames := 1, cells := 0, slots := 0, locals := 21 } s m [.ref a0].toArray below meth c H locs 0 0 (MQ below (tw_Q D cs kp0 L0 (fun v kq Lq Eq => v = none ∧ kp = kq ∧ L = Lq ∧ tw_fr kp L [] [161] E Eq) A) [.ref a0].toArray s 0 0 A) (F0 m 4 ls []) := by
    intro n4
    induction n4 using Nat.strongRecOn with
    | _ n4 ih4 =>
      intro y4_2 y4_1 Eg4 H locs ls hy4_2a hy4_2b hy4_1a hy4_1b hmeas4 hG4 TH hS hl
      have hF := hF.tr hG4 (fun _ h => ⟨h, rfl⟩) (by decide) (by decide)
      refine lv_iload_n hx hb dX5_dropTheLed_4 rfl (lv_at hl 0 rfl) ?_
      refine lv_sipush (v := 150) hx hb dX5_dropTheLed_5 (by decide) ?_
      refine lv_icmp_ge (tgt := 80) hx hb dX5_dropTheLed_8 (by decide) (fun hc1 => ?_) (fun hc1 => ?_)
      · have hf2 : 150 ≤ y4_2.toInt := by have z := (fa_le _ _).mp hc1; have : ((150 : Int32).toInt) = 150 := (by decide); omega
        exact tw_vret hx hb hr hlocks TH hS hex ⟨rfl, rfl, rfl, hF⟩ (Nat.le_of_ble_eq_true rfl) (Nat.le_of_ble_eq_true rfl) dX5_dropTheLed_80
      · have hf3 : ¬ (150 ≤ y4_2.toInt) := fun q => hc1 ((fa_le _ _).mpr (by have : ((150 : Int32).toInt) = 150 := (by decide); omega))
        refine lv_iload_n hx hb dX5_dropTheLed_11 rfl (lv_at hl 1 rfl) ?_
        refine lv_if_eq (tgt := 80) hx hb dX5_dropTheLed_12 (by decide) (fun hc4 => ?_) (fun hc4 => ?_)
        · have hf5 : y4_1.toInt = 0 := by have z := (fa_eq _ _).mp hc4; have : ((0 : Int32).toInt) = 0 := (by decide); omega
          exact tw_vret hx hb hr hlocks TH hS hex ⟨rfl, rfl, rfl, hF⟩ (Nat.le_of_ble_eq_true rfl) (Nat.le_of_ble_eq_true rfl) dX5_dropTheLed_80
        · have hf6 : ¬ (y4_1.toInt = 0) := fun q => hc4 ((fa_eq _ _).mpr (by have : ((0 : Int32).toInt) = 0 := (by decide); omega))
          refine lv_iconst (v := 0) hx hb dX5_dropTheLed_15 (by decide) ?_
          refine lv_istore_n (lv' := [(1, .int 0), (2, .int y4_2), (0, .ref a0)]) hx hb dX5_dropTheLed_16 rfl hl (by decide) rfl (fun ls hl => ?_)
          refine lv_iconst (v := 0) hx hb dX5_dropTheLed_17 (by decide) ?_
          refine lv_istore_n (lv' := [(3, .int 0), (1, .int 0), (2, .int y4_2), (0, .ref a0)]) hx hb dX5_dropTheLed_18 rfl hl (by decide) rfl (fun ls hl => ?_)
          have hJ19 : ∀ (n19 : Nat) (y19_3 : Int32) (y19_1 : Int32) (Eg19 : Nat → va_E) (H : Heap) (locs : List Loc) (ls : Array Slot), 0 ≤ y19_3.toInt → y19_3.toInt ≤ 150 → 0 ≤ y19_1.toInt → y19_1.toInt ≤ 1 → 150 - y19_3.toInt ≤ (n19 : Int) → tw_fr kp L [] [161] Eg4 Eg19 → tw_H D cs kp L Eg19 A H → va_S A s.heap H locs → lv_has ls 4 [(3, .int y19_3), (1, .int y19_1), (2, .int y4_2), (0, .ref a0)] → W p l e { frames := 1, cells := 0, slots := 0, locals := 21 } s m [.ref a0].toArray below meth c H locs 0 0 (MQ below (tw_Q D cs kp0 L0 (fun v kq Lq Eq => v = none ∧ kp = kq ∧ L = Lq ∧ tw_fr kp L [] [161] E Eq) A) [.ref a0].toArray s 0 0 A) (F0 m 19 ls []) := by
            intro n19
            induction n19 using Nat.strongRecOn with
            | _ n19 ih19 =>
              intro y19_3 y19_1 Eg19 H locs ls hy19_3a hy19_3b hy19_1a hy19_1b hmeas19 hG19 TH hS hl
              have hF := hF.tr hG19 (fun _ h => ⟨h, rfl⟩) (by decide) (by decide)
              have hG4 := hG4.tr hG19 (fun _ h => ⟨h, rfl⟩) (by decide) (by decide)
              refine lv_iload_n hx hb dX5_dropTheLed_19 rfl (lv_at hl 0 rfl) ?_
              refine lv_sipush (v := 150) hx hb dX5_dropTheLed_20 (by decide) ?_
              refine lv_icmp_ge (tgt := 74) hx hb dX5_dropTheLed_23 (by decide) (fun hc7 => ?_) (fun hc7 => ?_)
              · have hf8 : 150 ≤ y19_3.toInt := by have z := (fa_le _ _).mp hc7; have : ((150 : Int32).toInt) = 150 := (by decide); omega
                obtain ⟨zi9, ezi9⟩ : ∃ z : Int32, z = y4_2 + Int32.ofInt 1 := ⟨_, rfl⟩
                have hzi9 : zi9.toInt = y4_2.toInt + 1 := by rw [ezi9]; have : ((Int32.ofInt 1).toInt) = 1 := (by decide);  exact (ia_add (by omega) (by omega)).trans (by omega)
                refine lv_iinc (v := zi9) (lv' := [(2, .int zi9), (3, .int y19_3), (1, .int y19_1), (0, .ref a0)]) hx hb dX5_dropTheLed_74 hl (k := 2) rfl ezi9.symm (by decide) rfl (fun ls hl => ?_)
                refine lv_goto (tgt := 4) hx hb dX5_dropTheLed_77 (by decide) ?_
                exact ih4 (n4 - 1) (by   omega) zi9 y19_1 _ _ _ ls (by omega) (by omega) (by omega) (by omega) (by   omega) hG4 TH hS (lv_sub hl [0, 2, 3] rfl)
              · have hf10 : ¬ (150 ≤ y19_3.toInt) := fun q => hc7 ((fa_le _ _).mpr (by have : ((150 : Int32).toInt) = 150 := (by decide); omega))
                refine lv_aload_n hx hb dX5_dropTheLed_26 rfl (lv_at hl 3 rfl) ?_
                refine tw_get (ci := 5) (C := RX5) (T := TX5) (N := 15) hx hb hB cx_inX5 hown hK TH hm0 hk0 rfl ⟨by decide, rfl⟩ 6 (by decide) cw_325 (fun _ h9 => h9) dX5_dropTheLed_27 (fun hv => ?_)
                obtain ⟨xr11, hxr11, hmxr11, hkxr11⟩ : ∃ a : Nat, tw_fv Eg19 a0 6 = .ref a ∧ a ∈ L ∧ kp a = 161 := hv
                rw [hxr11]
                refine lv_iload_n hx hb dX5_dropTheLed_30 rfl (lv_at hl 0 rfl) ?_
                refine tw_iald (k := 161) (t0 := 0) (n := 150) (lo := 0) (hi := 1) hx hb hK TH hmxr11 hkxr11 (by decide) rfl rfl (i := y19_3) (vp_in_iff.mpr ⟨by  omega, by  omega⟩) dX5_dropTheLed_31 (fun hxe12a hxe12b => ?_)
                obtain ⟨xe12, exe12⟩ : ∃ z : Int32, tw_iv Eg19 xr11 (Int32.toNatClampNeg y19_3) = z := ⟨_, rfl⟩
                rw [exe12] at hxe12a hxe12b ⊢
                refine lv_iconst (v := 1) hx hb dX5_dropTheLed_32 (by decide) ?_
                have hJ68 : ∀ (y68_1 : Int32) (Eg68 : Nat → va_E) (H : Heap) (locs : List Loc) (ls : Array Slot), 0 ≤ y68_1.toInt → y68_1.toInt ≤ 1 → tw_fr kp L [] [161] Eg19 Eg68 → tw_H D cs kp L Eg68 A H → va_S A s.heap H locs → lv_has ls 4 [(3, .int y19_3), (1, .int y68_1), (2, .int y4_2), (0, .ref a0)] → W p l e { frames := 1, cells := 0, slots := 0, locals := 21 } s m [.ref a0].toArray below meth c H locs 0 0 (MQ below (tw_Q D cs kp0 L0 (fun v kq Lq Eq => v = none ∧ kp = kq ∧ L = Lq ∧ tw_fr kp L [] [161] E Eq) A) [.ref a0].toArray s 0 0 A) (F0 m 68 ls []) := by
                  intro y68_1 Eg68 H locs ls hy68_1a hy68_1b hG68 TH hS hl
                  have hF := hF.tr hG68 (fun _ h => ⟨h, rfl⟩) (by decide) (by decide)
                  have hG4 := hG4.tr hG68 (fun _ h => ⟨h, rfl⟩) (by decide) (by decide)
                  have hG19 := hG19.tr hG68 (fun _ h => ⟨h, rfl⟩) (by decide) (by decide)
                  have hmf13 : tw_fv Eg68 a0 6 = .ref xr11 := (hG68.1 a0 6 hm0 (by rw [hk0]; decide)).trans hxr11
                  obtain ⟨zi14, ezi14⟩ : ∃ z : Int32, z = y19_3 + Int32.ofInt 1 := ⟨_, rfl⟩
                  have hzi14 : zi14.toInt = y19_3.toInt + 1 := by rw [ezi14]; have : ((Int32.ofInt 1).toInt) = 1 := (by decide);  exact (ia_add (by omega) (by omega)).trans (by omega)
                  refine lv_iinc (v := zi14) (lv' := [(3, .int zi14), (1, .int y68_1), (2, .int y4_2), (0, .ref a0)]) hx hb dX5_dropTheLed_68 hl (k := 0) rfl ezi14.symm (by decide) rfl (fun ls hl => ?_)
                  refine lv_goto (tgt := 19) hx hb dX5_dropTheLed_71 (by decide) ?_
                  exact ih19 (n19 - 1) (by   omega) zi14 y68_1 _ _ _ ls (by omega) (by omega) (by omega) (by omega) (by   omega) hG19 TH hS (lv_sub hl [0, 1, 2, 3] rfl)
                have hG68 : tw_fr kp L [] [161] Eg19 Eg19 := tw_fr.rf
                refine lv_icmp_ne (tgt := 68) hx hb dX5_dropTheLed_33 (by decide) (fun hc15 => ?_) (fun hc15 => ?_)
                · have hf16 : ¬ (xe12.toInt = 1) := fun q => hc15 ((fa_eq _ _).mpr (by have : ((1 : Int32).toInt) = 1 := (by decide); omega))
                  exact hJ68 y19_1 _ _ _ ls (by omega) (by omega) hG68 TH hS (lv_sub hl [0, 1, 2, 3] rfl)
                · have hf17 : xe12.toInt = 1 := by have z := (fa_eq _ _).mp hc15; have : ((1 : Int32).toInt) = 1 := (by decide); omega
                  refine lv_aload_n hx hb dX5_dropTheLed_36 rfl (lv_at hl 3 rfl) ?_
                  refine tw_get (ci := 5) (C := RX5) (T := TX5) (N := 15) hx hb hB cx_inX5 hown hK TH hm0 hk0 rfl ⟨by decide, rfl⟩ 8 (by decide) cw_327 (fun _ h9 => h9) dX5_dropTheLed_37 (fun hv => ?_)
                  obtain ⟨xr18, hxr18, hmxr18, hkxr18⟩ : ∃ a : Nat, tw_fv Eg19 a0 8 = .ref a ∧ a ∈ L ∧ kp a = 163 := hv
                  rw [hxr18]
                  refine lv_iload_n hx hb dX5_dropTheLed_40 rfl (lv_at hl 0 rfl) ?_
                  refine tw_iald (k := 163) (t0 := 0) (n := 150) (lo := (-2147483648)) (hi := 2147483647) hx hb hK TH hmxr18 hkxr18 (by decide) rfl rfl (i := y19_3) (vp_in_iff.mpr ⟨by  omega, by  omega⟩) dX5_dropTheLed_41 (fun hxe19a hxe19b => ?_)
                  obtain ⟨xe19, exe19⟩ : ∃ z : Int32, tw_iv Eg19 xr18 (Int32.toNatClampNeg y19_3) = z := ⟨_, rfl⟩
                  rw [exe19] at hxe19a hxe19b ⊢
                  refine lv_iconst (v := (-1)) hx hb dX5_dropTheLed_42 (by decide) ?_
                  refine lv_icmp_eq (tgt := 68) hx hb dX5_dropTheLed_43 (by decide) (fun hc20 => ?_) (fun hc20 => ?_)
                  · have hf21 : xe19.toInt = (-1) := by have z := (fa_eq _ _).mp hc20; have : (((-1) : Int32).toInt) = (-1) := (by decide); omega
                    exact hJ68 y19_1 _ _ _ ls (by omega) (by omega) hG68 TH hS (lv_sub hl [0, 1, 2, 3] rfl)
                  · have hf22 : ¬ (xe19.toInt = (-1)) := fun q => hc20 ((fa_eq _ _).mpr (by have : (((-1) : Int32).toInt) = (-1) := (by decide); omega))
                    refine lv_aload_n hx hb dX5_dropTheLed_46 rfl (lv_at hl 3 rfl) ?_
                    refine lv_aload_n hx hb dX5_dropTheLed_47 rfl (lv_at hl 3 rfl) ?_
                    refine tw_get (ci := 5) (C := RX5) (T := TX5) (N := 15) hx hb hB cx_inX5 hown hK TH hm0 hk0 rfl ⟨by decide, rfl⟩ 8 (by decide) cw_327 (fun _ h9 => h9) dX5_dropTheLed_48 (fun hv => ?_)
                    rw [hxr18]
                    refine lv_iload_n hx hb dX5_dropTheLed_51 rfl (lv_at hl 0 rfl) ?_
                    refine tw_iald (k := 163) (t0 := 0) (n := 150) (lo := (-2147483648)) (hi := 2147483647) hx hb hK TH hmxr18 hkxr18 (by decide) rfl rfl (i := y19_3) (vp_in_iff.mpr ⟨by  omega, by  omega⟩) dX5_dropTheLed_52 (fun hxe23a hxe23b => ?_)
                    rw [exe19]
                    refine tw_Vc (o := a0) (ci := 5) (n := 1) (post := (fun v kq Lq Eq => (∃ x : Int32, v = some (.int x) ∧ 0 ≤ x.toInt ∧ x.toInt ≤ 1 ∧ (x.toInt ≠ 0 → 0 ≤ xe19.toInt ∧ xe19.toInt ≤ 149)) ∧ kp = kq ∧ L = Lq ∧ Eg19 = Eq)) (As := [.int xe19]) (rest := []) ⟨hx, hb, hml, hown, hB⟩ (fun sz => tX5_isStanding l D cs a0 xe19 hm0 hk0 sz) cg_5_139_X5_isStanding rfl rfl (by decide +kernel) ⟨Nat.le_of_ble_eq_true rfl, Nat.le_of_ble_eq_true rfl⟩ hK hN TH hS hA rfl hm0 hk0 (by decide) rfl hl.1 rfl (Nat.le_of_ble_eq_true rfl) dX5_dropTheLed_53 ⟨Nat.le_of_ble_eq_true rfl, Nat.le_of_ble_eq_true rfl⟩ (fun v24 kp24 L24 E24 H locs hq24 hx24 TH hS => ?_)
                    obtain ⟨⟨xc25, rfl, hxc25a, hxc25b, hpoxc25_0⟩, rfl, rfl, rfl⟩ := hq24
                    refine W.eq (g2 := F0 m 56 ls [.int xc25]) rfl ?_
                    refine lv_if_ne (tgt := 68) hx hb dX5_dropTheLed_56 (by decide) (fun hc26 => ?_) (fun hc26 => ?_)
                    · have hf27 : ¬ (xc25.toInt = 0) := fun q => hc26 ((fa_eq _ _).mpr (by have : ((0 : Int32).toInt) = 0 := (by decide); omega))
                      exact hJ68 y19_1 _ _ _ ls (by omega) (by omega) hG68 TH hS (lv_sub hl [0, 1, 2, 3] rfl)
                    · have hf28 : xc25.toInt = 0 := by have z := (fa_eq _ _).mp hc26; have : ((0 : Int32).toInt) = 0 := (by decide); omega
                      refine lv_aload_n hx hb dX5_dropTheLed_59 rfl (lv_at hl 3 rfl) ?_
                      refine tw_get (ci := 5) (C := RX5) (T := TX5) (N := 15) hx hb hB cx_inX5 hown hK TH hm0 hk0 rfl ⟨by decide, rfl⟩ 6 (by decide) cw_325 (fun _ h9 => h9) dX5_dropTheLed_60 (fun hv => ?_)
                      rw [hxr11]
                      refine lv_iload_n hx hb dX5_dropTheLed_63 rfl (lv_at hl 0 rfl) ?_
                      refine lv_iconst (v := 0) hx hb dX5_dropTheLed_64 (by decide) ?_
                      refine tw_iast (k := 161) (n := 150) (lo := 0) (hi := 1) hx hb hK TH hS hmxr11 hkxr11 (by decide) rfl (i := y19_3) (x := 0) (vp_in_iff.mpr ⟨by  omega, by  omega⟩) (by have : ((0 : Int32).toInt) = 0 := (by decide); omega) (by have : ((0 : Int32).toInt) = 0 := (by decide); omega) dX5_dropTheLed_65 (fun H locs E29 TH hS hp30 hp31 hp32 => ?_)
                      have hst33 : tw_fr kp L [] [161] Eg19 E29 := tw_fr.ast tw_fr.rf (fun _ => hkxr11) hp30 hp31 (by decide)
                      have hF := hF.tr hst33 (fun _ h => ⟨h, rfl⟩) (by decide) (by decide)
                      have hG4 := hG4.tr hst33 (fun _ h => ⟨h, rfl⟩) (by decide) (by decide)
                      have hG19 := hG19.tr hst33 (fun _ h => ⟨h, rfl⟩) (by decide) (by decide)
                      have hG68 := hG68.tr hst33 (fun _ h => ⟨h, rfl⟩) (by decide) (by decide)
                      have hmf34 : tw_fv E29 a0 6 = .ref xr11 := (hst33.1 a0 6 hm0 (by rw [hk0]; decide)).trans hxr11
                      have hmf35 : tw_fv E29 a0 8 = .ref xr18 := (hst33.1 a0 8 hm0 (by rw [hk0]; decide)).trans hxr18
                      refine lv_iconst (v := 1) hx hb dX5_dropTheLed_66 (by decide) ?_
                      refine lv_istore_n (lv' := [(1, .int 1), (3, .int y19_3), (2, .int y4_2), (0, .ref a0)]) hx hb dX5_dropTheLed_67 rfl hl (by decide) rfl (fun ls hl => ?_)
                      exact hJ68 (1 : Int32) _ _ _ ls (by have : ((1 : Int32).toInt) = 1 := (by decide); omega) (by have : ((1 : Int32).toInt) = 1 := (by decide); omega) hG68 TH hS (lv_sub hl [1, 0, 2, 3] rfl)
          exact hJ19 151 (0 : Int32) (0 : Int32) _ _ _ ls (by have : ((0 : Int32).toInt) = 0 := (by decide); omega) (by have : ((0 : Int32).toInt) = 0 := (by decide); omega) (by have : ((0 : Int32).toInt) = 0 := (by decide); omega) (by have : ((0 : Int32).toInt) = 0 := (by decide); omega) (by have : ((0 : Int32).toInt) = 0 := (by decide);  omega) tw_fr.rf TH hS (lv_sub hl [0, 1, 2, 3] rfl)
  exact hJ4 151 (0 : Int32) (1 : Int32) _ _ _ ls (by have : ((0 : Int32).toInt) = 0 := (by decide); omega) (by have : ((0 : Int32).toInt) = 0 := (by decide); omega) (by have : ((1 : Int32).toInt) = 1 := (by decide); omega) (by have : ((1 : Int32).toInt) = 1 := (by decide); omega) (by have : ((0 : Int32).toInt) = 0 := (by decide); have : ((1 : Int32).toInt) = 1 := (by decide);  omega) tw_fr.rf TH hS (lv_sub hl [0, 1, 2] rfl)
set_option maxHeartbeats 4000000 in
set_option maxRecDepth 100000 in
theorem tX5_isLeastOfRing (l : Launch) (D : va_G) (cs : Nat → ClassId) {kp : Nat → Nat} {L : List Nat} {E : Nat → va_E} (a0 : Nat) (x1 : Int32) (hm0 : a0 ∈ L) (hk0 : kp a0 = 5) (hp1a : 0 ≤ x1.toInt) (hp1b : x1.toInt ≤ 149) (sz : Nat) : Met l yX5_isLeastOfRing (.code yX5_isLeastOfRing cX5_isLeastOfRing 4 (some .boolean) :: cx_big) { frames := 0, cells := 0, slots := 0, locals := 0 } (tw_P D cs kp L E [.ref a0, .int x1] sz) (tw_Q D cs kp L (fun v kq Lq Eq => (∃ x : Int32, v = some (.int x) ∧ 0 ≤ x.toInt ∧ x.toInt ≤ 1) ∧ kp = kq ∧ L = Lq ∧ E = Eq) (va_A (va_pl L E) sz)) 0 0 (va_A (va_pl L E) sz) := by
  refine tw_ofW (by decide) (Nat.le_of_ble_eq_true rfl) ?_
  intro p e s m below meth c A ls hx hb hr hml hB hown hlocks hK hN hA TH hS hl
  have hown : s.vm.findClass "TreeMerge$Merging" = some m.cls := hown
  have hl : lv_has ls 4 [(0, .ref a0), (1, .int x1)] := hl
  obtain ⟨kp0, ekp⟩ : ∃ z, z = kp := ⟨_, rfl⟩
  obtain ⟨L0, eL⟩ : ∃ z, z = L := ⟨_, rfl⟩
  rw [show tw_Q D cs kp L = tw_Q D cs kp0 L0 by rw [ekp, eL]]
  have hex : ∀ a : Nat, a ∈ L0 → a ∈ L ∧ kp a = kp0 a := fun a h => ⟨by rw [← eL]; exact h, by rw [ekp]⟩
  refine lv_aload_n hx hb dX5_isLeastOfRing_0 rfl (lv_at hl 0 rfl) ?_
  refine tw_get (ci := 5) (C := RX5) (T := TX5) (N := 15) hx hb hB cx_inX5 hown hK TH hm0 hk0 rfl ⟨by decide, rfl⟩ 8 (by decide) cw_327 (fun _ h9 => h9) dX5_isLeastOfRing_1 (fun hv => ?_)
  obtain ⟨xr1, hxr1, hmxr1, hkxr1⟩ : ∃ a : Nat, tw_fv E a0 8 = .ref a ∧ a ∈ L ∧ kp a = 163 := hv
  rw [hxr1]
  refine lv_iload_n hx hb dX5_isLeastOfRing_4 rfl (lv_at hl 1 rfl) ?_
  refine tw_iald (k := 163) (t0 := 0) (n := 150) (lo := (-2147483648)) (hi := 2147483647) hx hb hK TH hmxr1 hkxr1 (by decide) rfl rfl (i := x1) (vp_in_iff.mpr ⟨by  omega, by  omega⟩) dX5_isLeastOfRing_5 (fun hxe2a hxe2b => ?_)
  obtain ⟨xe2, exe2⟩ : ∃ z : Int32, tw_iv E xr1 (Int32.toNatClampNeg x1) = z := ⟨_, rfl⟩
  rw [exe2] at hxe2a hxe2b ⊢
  refine lv_istore_n (lv' := [(2, .int xe2), (0, .ref a0), (1, .int x1)]) hx hb dX5_isLeastOfRing_6 rfl hl (by decide) rfl (fun ls hl => ?_)
  refine lv_iconst (v := 0) hx hb dX5_isLeastOfRing_7 (by decide) ?_
  refine lv_istore_n (lv' := [(3, .int 0), (2, .int xe2), (0, .ref a0), (1, .int x1)]) hx hb dX5_isLeastOfRing_8 rfl hl (by decide) rfl (fun ls hl => ?_)
  have hJ9 : ∀ (n9 : Nat) (y9_3 : Int32) (y9_2 : Int32) (H : Heap) (locs : List Loc) (ls : Array Slot), 0 ≤ y9_3.toInt → y9_3.toInt ≤ 150 → 150 - y9_3.toInt ≤ (n9 : Int) → tw_H D cs kp L E A H → va_S A s.heap H locs → lv_has ls 4 [(3, .int y9_3), (2, .int y9_2), (0, .ref a0), (1, .int x1)] → W p l e { frames := 0, cells := 0, slots := 0, locals := 0 } s m [.ref a0, .int x1].toArray below meth c H locs 0 0 (MQ below (tw_Q D cs kp0 L0 (fun v kq Lq Eq => (∃ x : Int32, v = some (.int x) ∧ 0 ≤ x.toInt ∧ x.toInt ≤ 1) ∧ kp = kq ∧ L = Lq ∧ E = Eq) A) [.ref a0, .int x1].toArray s 0 0 A) (F0 m 9 ls []) := by
    intro n9
    induction n9 using Nat.strongRecOn with
    | _ n9 ih9 =>
      intro y9_3 y9_2 H locs ls hy9_3a hy9_3b hmeas9 TH hS hl
      refine lv_iload_n hx hb dX5_isLeastOfRing_9 rfl (lv_at hl 0 rfl) ?_
      refine lv_sipush (v := 150) hx hb dX5_isLeastOfRing_10 (by decide) ?_
      refine lv_icmp_ge (tgt := 41) hx hb dX5_isLeastOfRing_13 (by decide) (fun hc3 => ?_) (fun hc3 => ?_)
      · have hf4 : 150 ≤ y9_3.toInt := by have z := (fa_le _ _).mp hc3; have : ((150 : Int32).toInt) = 150 := (by decide); omega
        refine lv_iload_n hx hb dX5_isLeastOfRing_41 rfl (lv_at hl 1 rfl) ?_
        refine lv_iload_n hx hb dX5_isLeastOfRing_42 rfl (lv_at hl 3 rfl) ?_
        refine lv_icmp_ne (tgt := 50) hx hb dX5_isLeastOfRing_43 (by decide) (fun hc5 => ?_) (fun hc5 => ?_)
        · have hf6 : ¬ (y9_2.toInt = x1.toInt) := fun q => hc5 ((fa_eq _ _).mpr (by  omega))
          refine lv_iconst (v := 0) hx hb dX5_isLeastOfRing_50 (by decide) ?_
          exact tw_zret hx hb hr hlocks (by decide) TH hS hex ⟨⟨_, rfl, (show 0 ≤ Int32.toInt 0 from by have : ((0 : Int32).toInt) = 0 := (by decide); omega), (show Int32.toInt 0 ≤ 1 from by have : ((0 : Int32).toInt) = 0 := (by decide); omega)⟩, rfl, rfl, rfl⟩ (Nat.le_of_ble_eq_true rfl) (Nat.le_of_ble_eq_true rfl) dX5_isLeastOfRing_51
        · have hf7 : y9_2.toInt = x1.toInt := by have z := (fa_eq _ _).mp hc5;  omega
          refine lv_iconst (v := 1) hx hb dX5_isLeastOfRing_46 (by decide) ?_
          refine lv_goto (tgt := 51) hx hb dX5_isLeastOfRing_47 (by decide) ?_
          exact tw_zret hx hb hr hlocks (by decide) TH hS hex ⟨⟨_, rfl, (show 0 ≤ Int32.toInt 1 from by have : ((1 : Int32).toInt) = 1 := (by decide); omega), (show Int32.toInt 1 ≤ 1 from by have : ((1 : Int32).toInt) = 1 := (by decide); omega)⟩, rfl, rfl, rfl⟩ (Nat.le_of_ble_eq_true rfl) (Nat.le_of_ble_eq_true rfl) dX5_isLeastOfRing_51
      · have hf8 : ¬ (150 ≤ y9_3.toInt) := fun q => hc3 ((fa_le _ _).mpr (by have : ((150 : Int32).toInt) = 150 := (by decide); omega))
        refine lv_iload_n hx hb dX5_isLeastOfRing_16 rfl (lv_at hl 1 rfl) ?_
        refine lv_iload_n hx hb dX5_isLeastOfRing_17 rfl (lv_at hl 3 rfl) ?_
        refine lv_icmp_le (tgt := 41) hx hb dX5_isLeastOfRing_18 (by decide) (fun hc9 => ?_) (fun hc9 => ?_)
        · have hf10 : y9_2.toInt ≤ x1.toInt := by have z := (fa_le _ _).mp hc9;  omega
          refine lv_iload_n hx hb dX5_isLeastOfRing_41 rfl (lv_at hl 1 rfl) ?_
          refine lv_iload_n hx hb dX5_isLeastOfRing_42 rfl (lv_at hl 3 rfl) ?_
          refine lv_icmp_ne (tgt := 50) hx hb dX5_isLeastOfRing_43 (by decide) (fun hc11 => ?_) (fun hc11 => ?_)
          · have hf12 : ¬ (y9_2.toInt = x1.toInt) := fun q => hc11 ((fa_eq _ _).mpr (by  omega))
            refine lv_iconst (v := 0) hx hb dX5_isLeastOfRing_50 (by decide) ?_
            exact tw_zret hx hb hr hlocks (by decide) TH hS hex ⟨⟨_, rfl, (show 0 ≤ Int32.toInt 0 from by have : ((0 : Int32).toInt) = 0 := (by decide); omega), (show Int32.toInt 0 ≤ 1 from by have : ((0 : Int32).toInt) = 0 := (by decide); omega)⟩, rfl, rfl, rfl⟩ (Nat.le_of_ble_eq_true rfl) (Nat.le_of_ble_eq_true rfl) dX5_isLeastOfRing_51
          · have hf13 : y9_2.toInt = x1.toInt := by have z := (fa_eq _ _).mp hc11;  omega
            refine lv_iconst (v := 1) hx hb dX5_isLeastOfRing_46 (by decide) ?_
            refine lv_goto (tgt := 51) hx hb dX5_isLeastOfRing_47 (by decide) ?_
            exact tw_zret hx hb hr hlocks (by decide) TH hS hex ⟨⟨_, rfl, (show 0 ≤ Int32.toInt 1 from by have : ((1 : Int32).toInt) = 1 := (by decide); omega), (show Int32.toInt 1 ≤ 1 from by have : ((1 : Int32).toInt) = 1 := (by decide); omega)⟩, rfl, rfl, rfl⟩ (Nat.le_of_ble_eq_true rfl) (Nat.le_of_ble_eq_true rfl) dX5_isLeastOfRing_51
        · have hf14 : ¬ (y9_2.toInt ≤ x1.toInt) := fun q => hc9 ((fa_le _ _).mpr (by  omega))
          refine lv_iload_n hx hb dX5_isLeastOfRing_21 rfl (lv_at hl 1 rfl) ?_
          refine lv_sipush (v := 150) hx hb dX5_isLeastOfRing_22 (by decide) ?_
          refine lv_icmp_ge (tgt := 41) hx hb dX5_isLeastOfRing_25 (by decide) (fun hc15 => ?_) (fun hc15 => ?_)
          · have hf16 : 150 ≤ y9_2.toInt := by have z := (fa_le _ _).mp hc15; have : ((150 : Int32).toInt) = 150 := (by decide); omega
            refine lv_iload_n hx hb dX5_isLeastOfRing_41 rfl (lv_at hl 1 rfl) ?_
            refine lv_iload_n hx hb dX5_isLeastOfRing_42 rfl (lv_at hl 3 rfl) ?_
            refine lv_icmp_ne (tgt := 50) hx hb dX5_isLeastOfRing_43 (by decide) (fun hc17 => ?_) (fun hc17 => ?_)
            · have hf18 : ¬ (y9_2.toInt = x1.toInt) := fun q => hc17 ((fa_eq _ _).mpr (by  omega))
              refine lv_iconst (v := 0) hx hb dX5_isLeastOfRing_50 (by decide) ?_
              exact tw_zret hx hb hr hlocks (by decide) TH hS hex ⟨⟨_, rfl, (show 0 ≤ Int32.toInt 0 from by have : ((0 : Int32).toInt) = 0 := (by decide); omega), (show Int32.toInt 0 ≤ 1 from by have : ((0 : Int32).toInt) = 0 := (by decide); omega)⟩, rfl, rfl, rfl⟩ (Nat.le_of_ble_eq_true rfl) (Nat.le_of_ble_eq_true rfl) dX5_isLeastOfRing_51
            · have hf19 : y9_2.toInt = x1.toInt := by have z := (fa_eq _ _).mp hc17;  omega
              exfalso; omega
          · have hf20 : ¬ (150 ≤ y9_2.toInt) := fun q => hc15 ((fa_le _ _).mpr (by have : ((150 : Int32).toInt) = 150 := (by decide); omega))
            refine lv_aload_n hx hb dX5_isLeastOfRing_28 rfl (lv_at hl 2 rfl) ?_
            refine tw_get (ci := 5) (C := RX5) (T := TX5) (N := 15) hx hb hB cx_inX5 hown hK TH hm0 hk0 rfl ⟨by decide, rfl⟩ 8 (by decide) cw_327 (fun _ h9 => h9) dX5_isLeastOfRing_29 (fun hv => ?_)
            rw [hxr1]
            refine lv_iload_n hx hb dX5_isLeastOfRing_32 rfl (lv_at hl 1 rfl) ?_
            refine tw_iald (k := 163) (t0 := 0) (n := 150) (lo := (-2147483648)) (hi := 2147483647) hx hb hK TH hmxr1 hkxr1 (by decide) rfl rfl (i := y9_2) (vp_in_iff.mpr ⟨by  omega, by  omega⟩) dX5_isLeastOfRing_33 (fun hxe21a hxe21b => ?_)
            obtain ⟨xe21, exe21⟩ : ∃ z : Int32, tw_iv E xr1 (Int32.toNatClampNeg y9_2) = z := ⟨_, rfl⟩
            rw [exe21] at hxe21a hxe21b ⊢
            refine lv_istore_n (lv' := [(2, .int xe21), (3, .int y9_3), (0, .ref a0), (1, .int x1)]) hx hb dX5_isLeastOfRing_34 rfl hl (by decide) rfl (fun ls hl => ?_)
            obtain ⟨zi22, ezi22⟩ : ∃ z : Int32, z = y9_3 + Int32.ofInt 1 := ⟨_, rfl⟩
            have hzi22 : zi22.toInt = y9_3.toInt + 1 := by rw [ezi22]; have : ((Int32.ofInt 1).toInt) = 1 := (by decide);  exact (ia_add (by omega) (by omega)).trans (by omega)
            refine lv_iinc (v := zi22) (lv' := [(3, .int zi22), (2, .int xe21), (0, .ref a0), (1, .int x1)]) hx hb dX5_isLeastOfRing_35 hl (k := 1) rfl ezi22.symm (by decide) rfl (fun ls hl => ?_)
            refine lv_goto (tgt := 9) hx hb dX5_isLeastOfRing_38 (by decide) ?_
            exact ih9 (n9 - 1) (by   omega) zi22 xe21 _ _ ls (by omega) (by omega) (by   omega) TH hS (lv_sub hl [0, 1, 2, 3] rfl)
  exact hJ9 151 (0 : Int32) xe2 _ _ ls (by have : ((0 : Int32).toInt) = 0 := (by decide); omega) (by have : ((0 : Int32).toInt) = 0 := (by decide); omega) (by have : ((0 : Int32).toInt) = 0 := (by decide);  omega) TH hS (lv_sub hl [0, 1, 2, 3] rfl)
set_option maxHeartbeats 4000000 in
set_option maxRecDepth 100000 in
theorem tX5_findRings (l : Launch) (D : va_G) (cs : Nat → ClassId) {kp : Nat → Nat} {L : List Nat} {E : Nat → va_E} (a0 : Nat) (hm0 : a0 ∈ L) (hk0 : kp a0 = 5) (sz : Nat) : Met l yX5_findRings (.code yX5_findRings cX5_findRings 2 none :: cx_big) { frames := 1, cells := 0, slots := 0, locals := 23 } (tw_P D cs kp L E [.ref a0] sz) (tw_Q D cs kp L (fun v kq Lq Eq => v = none ∧ kp = kq ∧ L = Lq ∧ tw_fr kp L [(5, 10)] [160] E Eq) (va_A (va_pl L E) sz)) 0 0 (va_A (va_pl L E) sz) := by
  refine tw_ofW (by decide) (Nat.le_of_ble_eq_true rfl) ?_
  intro p e s m below meth c A ls hx hb hr hml hB hown hlocks hK hN hA TH hS hl
  have hown : s.vm.findClass "TreeMerge$Merging" = some m.cls := hown
  have hl : lv_has ls 2 [(0, .ref a0)] := hl
  obtain ⟨kp0, ekp⟩ : ∃ z, z = kp := ⟨_, rfl⟩
  obtain ⟨L0, eL⟩ : ∃ z, z = L := ⟨_, rfl⟩
  rw [show tw_Q D cs kp L = tw_Q D cs kp0 L0 by rw [ekp, eL]]
  have hex : ∀ a : Nat, a ∈ L0 → a ∈ L ∧ kp a = kp0 a := fun a h => ⟨by rw [← eL]; exact h, by rw [ekp]⟩
  have hF : tw_fr kp L [(5, 10)] [160] E E := tw_fr.rf
  refine lv_iconst (v := 0) hx hb dX5_findRings_0 (by decide) ?_
  refine lv_istore_n (lv' := [(1, .int 0), (0, .ref a0)]) hx hb dX5_findRings_1 rfl hl (by decide) rfl (fun ls hl => ?_)
  have hJ2 : ∀ (n2 : Nat) (y2_1 : Int32) (Eg2 : Nat → va_E) (H : Heap) (locs : List Loc) (ls : Array Slot), 0 ≤ y2_1.toInt → y2_1.toInt ≤ 150 → 150 - y2_1.toInt ≤ (n2 : Int) → tw_fr kp L [(5, 10)] [160] E Eg2 → tw_H D cs kp L Eg2 A H → va_S A s.heap H locs → lv_has ls 2 [(1, .int y2_1), (0, .ref a0)] → W p l e { frames := 1, cells := 0, slots := 0, locals := 23 } s m [.ref a0].toArray below meth c H locs 0 0 (MQ below (tw_Q D cs kp0 L0 (fun v kq Lq Eq => v = none ∧ kp = kq ∧ L = Lq ∧ tw_fr kp L [(5, 10)] [160] E Eq) A) [.ref a0].toArray s 0 0 A) (F0 m 2 ls []) := by
    intro n2
    induction n2 using Nat.strongRecOn with
    | _ n2 ih2 =>
      intro y2_1 Eg2 H locs ls hy2_1a hy2_1b hmeas2 hG2 TH hS hl
      have hF := hF.tr hG2 (fun _ h => ⟨h, rfl⟩) (by decide) (by decide)
      refine lv_iload_n hx hb dX5_findRings_2 rfl (lv_at hl 0 rfl) ?_
      refine lv_sipush (v := 150) hx hb dX5_findRings_3 (by decide) ?_
      refine lv_icmp_ge (tgt := 39) hx hb dX5_findRings_6 (by decide) (fun hc1 => ?_) (fun hc1 => ?_)
      · have hf2 : 150 ≤ y2_1.toInt := by have z := (fa_le _ _).mp hc1; have : ((150 : Int32).toInt) = 150 := (by decide); omega
        exact tw_vret hx hb hr hlocks TH hS hex ⟨rfl, rfl, rfl, hF⟩ (Nat.le_of_ble_eq_true rfl) (Nat.le_of_ble_eq_true rfl) dX5_findRings_39
      · have hf3 : ¬ (150 ≤ y2_1.toInt) := fun q => hc1 ((fa_le _ _).mpr (by have : ((150 : Int32).toInt) = 150 := (by decide); omega))
        refine lv_aload_n hx hb dX5_findRings_9 rfl (lv_at hl 1 rfl) ?_
        refine tw_get (ci := 5) (C := RX5) (T := TX5) (N := 15) hx hb hB cx_inX5 hown hK TH hm0 hk0 rfl ⟨by decide, rfl⟩ 6 (by decide) cw_325 (fun _ h9 => h9) dX5_findRings_10 (fun hv => ?_)
        obtain ⟨xr4, hxr4, hmxr4, hkxr4⟩ : ∃ a : Nat, tw_fv Eg2 a0 6 = .ref a ∧ a ∈ L ∧ kp a = 161 := hv
        rw [hxr4]
        refine lv_iload_n hx hb dX5_findRings_13 rfl (lv_at hl 0 rfl) ?_
        refine tw_iald (k := 161) (t0 := 0) (n := 150) (lo := 0) (hi := 1) hx hb hK TH hmxr4 hkxr4 (by decide) rfl rfl (i := y2_1) (vp_in_iff.mpr ⟨by  omega, by  omega⟩) dX5_findRings_14 (fun hxe5a hxe5b => ?_)
        obtain ⟨xe5, exe5⟩ : ∃ z : Int32, tw_iv Eg2 xr4 (Int32.toNatClampNeg y2_1) = z := ⟨_, rfl⟩
        rw [exe5] at hxe5a hxe5b ⊢
        refine lv_iconst (v := 1) hx hb dX5_findRings_15 (by decide) ?_
        have hJ33 : ∀  (Eg33 : Nat → va_E) (H : Heap) (locs : List Loc) (ls : Array Slot), tw_fr kp L [(5, 10)] [160] Eg2 Eg33 → tw_H D cs kp L Eg33 A H → va_S A s.heap H locs → lv_has ls 2 [(1, .int y2_1), (0, .ref a0)] → W p l e { frames := 1, cells := 0, slots := 0, locals := 23 } s m [.ref a0].toArray below meth c H locs 0 0 (MQ below (tw_Q D cs kp0 L0 (fun v kq Lq Eq => v = none ∧ kp = kq ∧ L = Lq ∧ tw_fr kp L [(5, 10)] [160] E Eq) A) [.ref a0].toArray s 0 0 A) (F0 m 33 ls []) := by
          intro Eg33 H locs ls hG33 TH hS hl
          have hF := hF.tr hG33 (fun _ h => ⟨h, rfl⟩) (by decide) (by decide)
          have hG2 := hG2.tr hG33 (fun _ h => ⟨h, rfl⟩) (by decide) (by decide)
          have hmf6 : tw_fv Eg33 a0 6 = .ref xr4 := (hG33.1 a0 6 hm0 (by rw [hk0]; decide)).trans hxr4
          obtain ⟨zi7, ezi7⟩ : ∃ z : Int32, z = y2_1 + Int32.ofInt 1 := ⟨_, rfl⟩
          have hzi7 : zi7.toInt = y2_1.toInt + 1 := by rw [ezi7]; have : ((Int32.ofInt 1).toInt) = 1 := (by decide);  exact (ia_add (by omega) (by omega)).trans (by omega)
          refine lv_iinc (v := zi7) (lv' := [(1, .int zi7), (0, .ref a0)]) hx hb dX5_findRings_33 hl (k := 0) rfl ezi7.symm (by decide) rfl (fun ls hl => ?_)
          refine lv_goto (tgt := 2) hx hb dX5_findRings_36 (by decide) ?_
          exact ih2 (n2 - 1) (by   omega) zi7 _ _ _ ls (by omega) (by omega) (by   omega) hG2 TH hS (lv_sub hl [0, 1] rfl)
        have hG33 : tw_fr kp L [(5, 10)] [160] Eg2 Eg2 := tw_fr.rf
        refine lv_icmp_ne (tgt := 33) hx hb dX5_findRings_16 (by decide) (fun hc8 => ?_) (fun hc8 => ?_)
        · have hf9 : ¬ (xe5.toInt = 1) := fun q => hc8 ((fa_eq _ _).mpr (by have : ((1 : Int32).toInt) = 1 := (by decide); omega))
          exact hJ33  _ _ _ ls hG33 TH hS (lv_sub hl [0, 1] rfl)
        · have hf10 : xe5.toInt = 1 := by have z := (fa_eq _ _).mp hc8; have : ((1 : Int32).toInt) = 1 := (by decide); omega
          refine lv_aload_n hx hb dX5_findRings_19 rfl (lv_at hl 1 rfl) ?_
          refine lv_iload_n hx hb dX5_findRings_20 rfl (lv_at hl 0 rfl) ?_
          refine tw_Vc (o := a0) (ci := 5) (n := 1) (post := (fun v kq Lq Eq => (∃ x : Int32, v = some (.int x) ∧ 0 ≤ x.toInt ∧ x.toInt ≤ 1) ∧ kp = kq ∧ L = Lq ∧ Eg2 = Eq)) (As := [.int y2_1]) (rest := []) ⟨hx, hb, hml, hown, hB⟩ (fun sz => tX5_isLeastOfRing l D cs a0 y2_1 hm0 hk0 (by omega) (by omega) sz) cg_5_142_X5_isLeastOfRing rfl rfl (by decide +kernel) ⟨Nat.le_of_ble_eq_true rfl, Nat.le_of_ble_eq_true rfl⟩ hK hN TH hS hA rfl hm0 hk0 (by decide) rfl hl.1 rfl (Nat.le_of_ble_eq_true rfl) dX5_findRings_21 ⟨Nat.le_of_ble_eq_true rfl, Nat.le_of_ble_eq_true rfl⟩ (fun v11 kp11 L11 E11 H locs hq11 hx11 TH hS => ?_)
          obtain ⟨⟨xc12, rfl, hxc12a, hxc12b⟩, rfl, rfl, rfl⟩ := hq11
          refine W.eq (g2 := F0 m 24 ls [.int xc12]) rfl ?_
          refine lv_if_eq (tgt := 33) hx hb dX5_findRings_24 (by decide) (fun hc13 => ?_) (fun hc13 => ?_)
          · have hf14 : xc12.toInt = 0 := by have z := (fa_eq _ _).mp hc13; have : ((0 : Int32).toInt) = 0 := (by decide); omega
            exact hJ33  _ _ _ ls hG33 TH hS (lv_sub hl [0, 1] rfl)
          · have hf15 : ¬ (xc12.toInt = 0) := fun q => hc13 ((fa_eq _ _).mpr (by have : ((0 : Int32).toInt) = 0 := (by decide); omega))
            refine lv_aload_n hx hb dX5_findRings_27 rfl (lv_at hl 1 rfl) ?_
            refine lv_iload_n hx hb dX5_findRings_28 rfl (lv_at hl 0 rfl) ?_
            refine lv_iconst (v := 4) hx hb dX5_findRings_29 (by decide) ?_
            refine tw_Vc (o := a0) (ci := 5) (n := 2) (post := (fun v kq Lq Eq => v = none ∧ kp = kq ∧ L = Lq ∧ tw_fr kp L [(5, 10)] [160] Eg2 Eq)) (As := [.int y2_1, .int 4]) (rest := []) ⟨hx, hb, hml, hown, hB⟩ (fun sz => tX5_mark l D cs a0 y2_1 (4 : Int32) hm0 hk0 sz) cg_5_116_X5_mark rfl rfl (by decide +kernel) ⟨Nat.le_of_ble_eq_true rfl, Nat.le_of_ble_eq_true rfl⟩ hK hN TH hS hA rfl hm0 hk0 (by decide) rfl hl.1 rfl (Nat.le_of_ble_eq_true rfl) dX5_findRings_30 ⟨Nat.le_of_ble_eq_true rfl, Nat.le_of_ble_eq_true rfl⟩ (fun v16 kp16 L16 E16 H locs hq16 hx16 TH hS => ?_)
            obtain ⟨rfl, rfl, rfl, hst16⟩ := hq16
            have hF := hF.tr hst16 (fun _ h => ⟨h, rfl⟩) (by decide) (by decide)
            have hG2 := hG2.tr hst16 (fun _ h => ⟨h, rfl⟩) (by decide) (by decide)
            have hG33 := hG33.tr hst16 (fun _ h => ⟨h, rfl⟩) (by decide) (by decide)
            have hmf18 : tw_fv E16 a0 6 = .ref xr4 := (hst16.1 a0 6 hm0 (by rw [hk0]; decide)).trans hxr4
            refine W.eq (g2 := F0 m 33 ls []) rfl ?_
            exact hJ33  _ _ _ ls hG33 TH hS (lv_sub hl [0, 1] rfl)
  exact hJ2 151 (0 : Int32) _ _ _ ls (by have : ((0 : Int32).toInt) = 0 := (by decide); omega) (by have : ((0 : Int32).toInt) = 0 := (by decide); omega) (by have : ((0 : Int32).toInt) = 0 := (by decide);  omega) tw_fr.rf TH hS (lv_sub hl [0, 1] rfl)
