set_option maxHeartbeats 4000000 in
set_option maxRecDepth 100000 in
theorem tX12_bound (l : Launch) (D : va_G) (cs : Nat → ClassId) {kp : Nat → Nat} {L : List Nat} {E : Nat → va_E} (a0 : Nat) (hm0 : a0 ∈ L) (hk0 : kp a0 = 12) (sz : Nat) : Met l yX12_bound (.code yX12_bound cX12_bound 5 (some .int) :: cx_big) { frames := 0, cells := 0, slots := 0, locals := 0 } (tw_P D cs kp L E [.ref a0] sz) (tw_Q D cs kp L (fun v kq Lq Eq => (∃ x : Int32, v = some (.int x)) ∧ kp = kq ∧ L = Lq ∧ E = Eq) (va_A (va_pl L E) sz)) 0 0 (va_A (va_pl L E) sz) := by
  refine tw_ofW (by decide) (Nat.le_of_ble_eq_true rfl) ?_
  intro p e s m below meth c A ls hx hb hr hml hB hown hlocks hK hN hA TH hS hl
  have hown : s.vm.findClass "TreeMergeModel" = some m.cls := hown
  have hl : lv_has ls 5 [(0, .ref a0)] := hl
  obtain ⟨kp0, ekp⟩ : ∃ z, z = kp := ⟨_, rfl⟩
  obtain ⟨L0, eL⟩ : ∃ z, z = L := ⟨_, rfl⟩
  rw [show tw_Q D cs kp L = tw_Q D cs kp0 L0 by rw [ekp, eL]]
  have hex : ∀ a : Nat, a ∈ L0 → a ∈ L ∧ kp a = kp0 a := fun a h => ⟨by rw [← eL]; exact h, by rw [ekp]⟩
  refine lv_iconst (v := 0) hx hb dX12_bound_0 (by decide) ?_
  refine lv_istore_n (lv' := [(1, .int 0), (0, .ref a0)]) hx hb dX12_bound_1 rfl hl (by decide) rfl (fun ls hl => ?_)
  refine lv_iconst (v := 0) hx hb dX12_bound_2 (by decide) ?_
  refine lv_istore_n (lv' := [(2, .int 0), (1, .int 0), (0, .ref a0)]) hx hb dX12_bound_3 rfl hl (by decide) rfl (fun ls hl => ?_)
  have hJ4 : ∀ (n4 : Nat) (y4_2 : Int32) (y4_1 : Int32) (H : Heap) (locs : List Loc) (ls : Array Slot), 0 ≤ y4_2.toInt → y4_2.toInt ≤ 10 → 10 - y4_2.toInt ≤ (n4 : Int) → tw_H D cs kp L E A H → va_S A s.heap H locs → lv_has ls 5 [(2, .int y4_2), (1, .int y4_1), (0, .ref a0)] → W p l e { frames := 0, cells := 0, slots := 0, locals := 0 } s m [.ref a0].toArray below meth c H locs 0 0 (MQ below (tw_Q D cs kp0 L0 (fun v kq Lq Eq => (∃ x : Int32, v = some (.int x)) ∧ kp = kq ∧ L = Lq ∧ E = Eq) A) [.ref a0].toArray s 0 0 A) (F0 m 4 ls []) := by
    intro n4
    induction n4 using Nat.strongRecOn with
    | _ n4 ih4 =>
      intro y4_2 y4_1 H locs ls hy4_2a hy4_2b hmeas4 TH hS hl
      refine lv_iload_n hx hb dX12_bound_4 rfl (lv_at hl 0 rfl) ?_
      refine lv_aload_n hx hb dX12_bound_5 rfl (lv_at hl 2 rfl) ?_
      refine tw_get (ci := 12) (C := RX12) (T := TX12) (N := 64) hx hb hB cx_inX12 hown hK TH hm0 hk0 rfl ⟨by decide, rfl⟩ 14 (by decide) cw_1207 (fun _ h9 => h9) dX12_bound_6 (fun hv => ?_)
      obtain ⟨xi1, hxi1, hxi1a, hxi1b⟩ : ∃ x : Int32, tw_fv E a0 14 = .int x ∧ 0 ≤ x.toInt ∧ x.toInt ≤ 10 := hv
      rw [hxi1]
      refine lv_icmp_ge (tgt := 112) hx hb dX12_bound_9 (by decide) (fun hc2 => ?_) (fun hc2 => ?_)
      · have hf3 : xi1.toInt ≤ y4_2.toInt := by have z := (fa_le _ _).mp hc2;  omega
        refine lv_iconst (v := 2) hx hb dX12_bound_112 (by decide) ?_
        refine lv_iload_n hx hb dX12_bound_113 rfl (lv_at hl 1 rfl) ?_
        refine lv_imul hx hb dX12_bound_114 ?_
        refine lv_topi (fun zi4 ezi4 => ?_)
        exact tw_iret hx hb hr hlocks TH hS hex ⟨⟨_, rfl⟩, rfl, rfl, rfl⟩ (Nat.le_of_ble_eq_true rfl) (Nat.le_of_ble_eq_true rfl) dX12_bound_115
      · have hf5 : ¬ (xi1.toInt ≤ y4_2.toInt) := fun q => hc2 ((fa_le _ _).mpr (by  omega))
        refine lv_iconst (v := 0) hx hb dX12_bound_12 (by decide) ?_
        refine lv_istore_n (lv' := [(3, .int 0), (2, .int y4_2), (1, .int y4_1), (0, .ref a0)]) hx hb dX12_bound_13 rfl hl (by decide) rfl (fun ls hl => ?_)
        refine lv_iconst (v := 0) hx hb dX12_bound_14 (by decide) ?_
        refine lv_istore (lv' := [(4, .int 0), (3, .int 0), (2, .int y4_2), (1, .int y4_1), (0, .ref a0)]) hx hb dX12_bound_15 hl (by decide) rfl (fun ls hl => ?_)
        have hJ17 : ∀ (n17 : Nat) (y17_4 : Int32) (y17_3 : Int32) (H : Heap) (locs : List Loc) (ls : Array Slot), 0 ≤ y17_4.toInt → y17_4.toInt ≤ 40 → 40 - y17_4.toInt ≤ (n17 : Int) → tw_H D cs kp L E A H → va_S A s.heap H locs → lv_has ls 5 [(4, .int y17_4), (3, .int y17_3), (2, .int y4_2), (1, .int y4_1), (0, .ref a0)] → W p l e { frames := 0, cells := 0, slots := 0, locals := 0 } s m [.ref a0].toArray below meth c H locs 0 0 (MQ below (tw_Q D cs kp0 L0 (fun v kq Lq Eq => (∃ x : Int32, v = some (.int x)) ∧ kp = kq ∧ L = Lq ∧ E = Eq) A) [.ref a0].toArray s 0 0 A) (F0 m 17 ls []) := by
          intro n17
          induction n17 using Nat.strongRecOn with
          | _ n17 ih17 =>
            intro y17_4 y17_3 H locs ls hy17_4a hy17_4b hmeas17 TH hS hl
            refine lv_iload hx hb dX12_bound_17 (lv_at hl 0 rfl) ?_
            refine lv_aload_n hx hb dX12_bound_19 rfl (lv_at hl 4 rfl) ?_
            refine tw_get (ci := 12) (C := RX12) (T := TX12) (N := 64) hx hb hB cx_inX12 hown hK TH hm0 hk0 rfl ⟨by decide, rfl⟩ 50 (by decide) cw_1243 (fun _ h9 => h9) dX12_bound_20 (fun hv => ?_)
            obtain ⟨xi6, hxi6, hxi6a, hxi6b⟩ : ∃ x : Int32, tw_fv E a0 50 = .int x ∧ 0 ≤ x.toInt ∧ x.toInt ≤ 40 := hv
            rw [hxi6]
            refine lv_icmp_ge (tgt := 56) hx hb dX12_bound_23 (by decide) (fun hc7 => ?_) (fun hc7 => ?_)
            · have hf8 : xi6.toInt ≤ y17_4.toInt := by have z := (fa_le _ _).mp hc7;  omega
              refine lv_iconst (v := 0) hx hb dX12_bound_56 (by decide) ?_
              refine lv_istore (lv' := [(4, .int 0), (3, .int y17_3), (2, .int y4_2), (1, .int y4_1), (0, .ref a0)]) hx hb dX12_bound_57 hl (by decide) rfl (fun ls hl => ?_)
              have hJ59 : ∀ (n59 : Nat) (y59_4 : Int32) (y59_3 : Int32) (H : Heap) (locs : List Loc) (ls : Array Slot), 0 ≤ y59_4.toInt → y59_4.toInt ≤ 24 → 24 - y59_4.toInt ≤ (n59 : Int) → tw_H D cs kp L E A H → va_S A s.heap H locs → lv_has ls 5 [(4, .int y59_4), (3, .int y59_3), (2, .int y4_2), (1, .int y4_1), (0, .ref a0)] → W p l e { frames := 0, cells := 0, slots := 0, locals := 0 } s m [.ref a0].toArray below meth c H locs 0 0 (MQ below (tw_Q D cs kp0 L0 (fun v kq Lq Eq => (∃ x : Int32, v = some (.int x)) ∧ kp = kq ∧ L = Lq ∧ E = Eq) A) [.ref a0].toArray s 0 0 A) (F0 m 59 ls []) := by
                intro n59
                induction n59 using Nat.strongRecOn with
                | _ n59 ih59 =>
                  intro y59_4 y59_3 H locs ls hy59_4a hy59_4b hmeas59 TH hS hl
                  refine lv_iload hx hb dX12_bound_59 (lv_at hl 0 rfl) ?_
                  refine lv_aload_n hx hb dX12_bound_61 rfl (lv_at hl 4 rfl) ?_
                  refine tw_get (ci := 12) (C := RX12) (T := TX12) (N := 64) hx hb hB cx_inX12 hown hK TH hm0 hk0 rfl ⟨by decide, rfl⟩ 28 (by decide) cw_1221 (fun _ h9 => h9) dX12_bound_62 (fun hv => ?_)
                  obtain ⟨xi9, hxi9, hxi9a, hxi9b⟩ : ∃ x : Int32, tw_fv E a0 28 = .int x ∧ 0 ≤ x.toInt ∧ x.toInt ≤ 24 := hv
                  rw [hxi9]
                  refine lv_icmp_ge (tgt := 93) hx hb dX12_bound_65 (by decide) (fun hc10 => ?_) (fun hc10 => ?_)
                  · have hf11 : xi9.toInt ≤ y59_4.toInt := by have z := (fa_le _ _).mp hc10;  omega
                    refine lv_iload_n hx hb dX12_bound_93 rfl (lv_at hl 3 rfl) ?_
                    refine lv_iload_n hx hb dX12_bound_94 rfl (lv_at hl 1 rfl) ?_
                    have hJ104 : ∀ (z104_0 : Int32) (H : Heap) (locs : List Loc) (ls : Array Slot), tw_H D cs kp L E A H → va_S A s.heap H locs → lv_has ls 5 [(2, .int y4_2), (0, .ref a0)] → W p l e { frames := 0, cells := 0, slots := 0, locals := 0 } s m [.ref a0].toArray below meth c H locs 0 0 (MQ below (tw_Q D cs kp0 L0 (fun v kq Lq Eq => (∃ x : Int32, v = some (.int x)) ∧ kp = kq ∧ L = Lq ∧ E = Eq) A) [.ref a0].toArray s 0 0 A) (F0 m 104 ls [.int z104_0, .int y4_1]) := by
                      intro z104_0 H locs ls TH hS hl
                      refine lv_iadd hx hb dX12_bound_104 ?_
                      refine lv_topi (fun zi12 ezi12 => ?_)
                      refine lv_istore_n (lv' := [(1, .int zi12), (2, .int y4_2), (0, .ref a0)]) hx hb dX12_bound_105 rfl hl (by decide) rfl (fun ls hl => ?_)
                      obtain ⟨zi13, ezi13⟩ : ∃ z : Int32, z = y4_2 + Int32.ofInt 1 := ⟨_, rfl⟩
                      have hzi13 : zi13.toInt = y4_2.toInt + 1 := by rw [ezi13]; have : ((Int32.ofInt 1).toInt) = 1 := (by decide);  exact (ia_add (by omega) (by omega)).trans (by omega)
                      refine lv_iinc (v := zi13) (lv' := [(2, .int zi13), (1, .int zi12), (0, .ref a0)]) hx hb dX12_bound_106 hl (k := 1) rfl ezi13.symm (by decide) rfl (fun ls hl => ?_)
                      refine lv_goto (tgt := 4) hx hb dX12_bound_109 (by decide) ?_
                      exact ih4 (n4 - 1) (by   omega) zi13 zi12 _ _ ls (by omega) (by omega) (by   omega) TH hS (lv_sub hl [0, 1, 2] rfl)
                    refine lv_if_ge (tgt := 103) hx hb dX12_bound_95 (by decide) (fun hc14 => ?_) (fun hc14 => ?_)
                    · have hf15 : 0 ≤ y59_3.toInt := by have z := (fa_le _ _).mp hc14; have : ((0 : Int32).toInt) = 0 := (by decide); omega
                      refine lv_iload_n hx hb dX12_bound_103 rfl (lv_at hl 1 rfl) ?_
                      exact hJ104 y59_3 _ _ ls  TH hS (lv_sub hl [2, 4] rfl)
                    · have hf16 : ¬ (0 ≤ y59_3.toInt) := fun q => hc14 ((fa_le _ _).mpr (by have : ((0 : Int32).toInt) = 0 := (by decide); omega))
                      refine lv_iload_n hx hb dX12_bound_98 rfl (lv_at hl 1 rfl) ?_
                      refine lv_ineg hx hb dX12_bound_99 ?_
                      refine lv_topi (fun zi17 ezi17 => ?_)
                      refine lv_goto (tgt := 104) hx hb dX12_bound_100 (by decide) ?_
                      exact hJ104 zi17 _ _ ls  TH hS (lv_sub hl [2, 4] rfl)
                  · have hf18 : ¬ (xi9.toInt ≤ y59_4.toInt) := fun q => hc10 ((fa_le _ _).mpr (by  omega))
                    refine lv_iload_n hx hb dX12_bound_68 rfl (lv_at hl 1 rfl) ?_
                    refine lv_aload_n hx hb dX12_bound_69 rfl (lv_at hl 4 rfl) ?_
                    refine tw_get (ci := 12) (C := RX12) (T := TX12) (N := 64) hx hb hB cx_inX12 hown hK TH hm0 hk0 rfl ⟨by decide, rfl⟩ 22 (by decide) cw_1215 (fun _ h9 => h9) dX12_bound_70 (fun hv => ?_)
                    obtain ⟨xr19, hxr19, hmxr19, hkxr19⟩ : ∃ a : Nat, tw_fv E a0 22 = .ref a ∧ a ∈ L ∧ kp a = 332 := hv
                    rw [hxr19]
                    refine lv_iload hx hb dX12_bound_73 (lv_at hl 0 rfl) ?_
                    refine tw_iald (k := 332) (t0 := 0) (n := 24) (lo := 0) (hi := 9) hx hb hK TH hmxr19 hkxr19 (by decide) rfl rfl (i := y59_4) (vp_in_iff.mpr ⟨by  omega, by  omega⟩) dX12_bound_75 (fun hxe20a hxe20b => ?_)
                    obtain ⟨xe20, exe20⟩ : ∃ z : Int32, tw_iv E xr19 (Int32.toNatClampNeg y59_4) = z := ⟨_, rfl⟩
                    rw [exe20] at hxe20a hxe20b ⊢
                    refine lv_iload_n hx hb dX12_bound_76 rfl (lv_at hl 2 rfl) ?_
                    have hJ85 : ∀ (z85_0 : Int32) (H : Heap) (locs : List Loc) (ls : Array Slot), 0 ≤ z85_0.toInt → z85_0.toInt ≤ 1 → tw_H D cs kp L E A H → va_S A s.heap H locs → lv_has ls 5 [(4, .int y59_4), (2, .int y4_2), (1, .int y4_1), (0, .ref a0)] → W p l e { frames := 0, cells := 0, slots := 0, locals := 0 } s m [.ref a0].toArray below meth c H locs 0 0 (MQ below (tw_Q D cs kp0 L0 (fun v kq Lq Eq => (∃ x : Int32, v = some (.int x)) ∧ kp = kq ∧ L = Lq ∧ E = Eq) A) [.ref a0].toArray s 0 0 A) (F0 m 85 ls [.int z85_0, .int y59_3]) := by
                      intro z85_0 H locs ls hz85_0a hz85_0b TH hS hl
                      refine lv_isub hx hb dX12_bound_85 ?_
                      refine lv_topi (fun zi21 ezi21 => ?_)
                      refine lv_istore_n (lv' := [(3, .int zi21), (4, .int y59_4), (2, .int y4_2), (1, .int y4_1), (0, .ref a0)]) hx hb dX12_bound_86 rfl hl (by decide) rfl (fun ls hl => ?_)
                      obtain ⟨zi22, ezi22⟩ : ∃ z : Int32, z = y59_4 + Int32.ofInt 1 := ⟨_, rfl⟩
                      have hzi22 : zi22.toInt = y59_4.toInt + 1 := by rw [ezi22]; have : ((Int32.ofInt 1).toInt) = 1 := (by decide);  exact (ia_add (by omega) (by omega)).trans (by omega)
                      refine lv_iinc (v := zi22) (lv' := [(4, .int zi22), (3, .int zi21), (2, .int y4_2), (1, .int y4_1), (0, .ref a0)]) hx hb dX12_bound_87 hl (k := 1) rfl ezi22.symm (by decide) rfl (fun ls hl => ?_)
                      refine lv_goto (tgt := 59) hx hb dX12_bound_90 (by decide) ?_
                      exact ih59 (n59 - 1) (by   omega) zi22 zi21 _ _ ls (by omega) (by omega) (by   omega) TH hS (lv_sub hl [0, 1, 2, 3, 4] rfl)
                    refine lv_icmp_ne (tgt := 84) hx hb dX12_bound_77 (by decide) (fun hc23 => ?_) (fun hc23 => ?_)
                    · have hf24 : ¬ (xe20.toInt = y4_2.toInt) := fun q => hc23 ((fa_eq _ _).mpr (by  omega))
                      refine lv_iconst (v := 0) hx hb dX12_bound_84 (by decide) ?_
                      exact hJ85 (0 : Int32) _ _ ls (by have : ((0 : Int32).toInt) = 0 := (by decide); omega) (by have : ((0 : Int32).toInt) = 0 := (by decide); omega) TH hS (lv_sub hl [0, 2, 3, 4] rfl)
                    · have hf25 : xe20.toInt = y4_2.toInt := by have z := (fa_eq _ _).mp hc23;  omega
                      refine lv_iconst (v := 1) hx hb dX12_bound_80 (by decide) ?_
                      refine lv_goto (tgt := 85) hx hb dX12_bound_81 (by decide) ?_
                      exact hJ85 (1 : Int32) _ _ ls (by have : ((1 : Int32).toInt) = 1 := (by decide); omega) (by have : ((1 : Int32).toInt) = 1 := (by decide); omega) TH hS (lv_sub hl [0, 2, 3, 4] rfl)
              exact hJ59 25 (0 : Int32) y17_3 _ _ ls (by have : ((0 : Int32).toInt) = 0 := (by decide); omega) (by have : ((0 : Int32).toInt) = 0 := (by decide); omega) (by have : ((0 : Int32).toInt) = 0 := (by decide);  omega) TH hS (lv_sub hl [0, 1, 2, 3, 4] rfl)
            · have hf26 : ¬ (xi6.toInt ≤ y17_4.toInt) := fun q => hc7 ((fa_le _ _).mpr (by  omega))
              refine lv_iload_n hx hb dX12_bound_26 rfl (lv_at hl 1 rfl) ?_
              refine lv_aload_n hx hb dX12_bound_27 rfl (lv_at hl 4 rfl) ?_
              refine tw_get (ci := 12) (C := RX12) (T := TX12) (N := 64) hx hb hB cx_inX12 hown hK TH hm0 hk0 rfl ⟨by decide, rfl⟩ 20 (by decide) cw_1213 (fun _ h9 => h9) dX12_bound_28 (fun hv => ?_)
              obtain ⟨xr27, hxr27, hmxr27, hkxr27⟩ : ∃ a : Nat, tw_fv E a0 20 = .ref a ∧ a ∈ L ∧ kp a = 330 := hv
              rw [hxr27]
              refine lv_aload_n hx hb dX12_bound_31 rfl (lv_at hl 4 rfl) ?_
              refine tw_get (ci := 12) (C := RX12) (T := TX12) (N := 64) hx hb hB cx_inX12 hown hK TH hm0 hk0 rfl ⟨by decide, rfl⟩ 45 (by decide) cw_1238 (fun _ h9 => h9) dX12_bound_32 (fun hv => ?_)
              obtain ⟨xr28, hxr28, hmxr28, hkxr28⟩ : ∃ a : Nat, tw_fv E a0 45 = .ref a ∧ a ∈ L ∧ kp a = 354 := hv
              rw [hxr28]
              refine lv_iload hx hb dX12_bound_35 (lv_at hl 0 rfl) ?_
              refine tw_iald (k := 354) (t0 := 0) (n := 40) (lo := 0) (hi := 149) hx hb hK TH hmxr28 hkxr28 (by decide) rfl rfl (i := y17_4) (vp_in_iff.mpr ⟨by  omega, by  omega⟩) dX12_bound_37 (fun hxe29a hxe29b => ?_)
              obtain ⟨xe29, exe29⟩ : ∃ z : Int32, tw_iv E xr28 (Int32.toNatClampNeg y17_4) = z := ⟨_, rfl⟩
              rw [exe29] at hxe29a hxe29b ⊢
              refine tw_iald (k := 330) (t0 := 0) (n := 150) (lo := 0) (hi := 9) hx hb hK TH hmxr27 hkxr27 (by decide) rfl rfl (i := xe29) (vp_in_iff.mpr ⟨by  omega, by  omega⟩) dX12_bound_38 (fun hxe30a hxe30b => ?_)
              obtain ⟨xe30, exe30⟩ : ∃ z : Int32, tw_iv E xr27 (Int32.toNatClampNeg xe29) = z := ⟨_, rfl⟩
              rw [exe30] at hxe30a hxe30b ⊢
              refine lv_iload_n hx hb dX12_bound_39 rfl (lv_at hl 2 rfl) ?_
              have hJ48 : ∀ (z48_0 : Int32) (H : Heap) (locs : List Loc) (ls : Array Slot), 0 ≤ z48_0.toInt → z48_0.toInt ≤ 1 → tw_H D cs kp L E A H → va_S A s.heap H locs → lv_has ls 5 [(4, .int y17_4), (2, .int y4_2), (1, .int y4_1), (0, .ref a0)] → W p l e { frames := 0, cells := 0, slots := 0, locals := 0 } s m [.ref a0].toArray below meth c H locs 0 0 (MQ below (tw_Q D cs kp0 L0 (fun v kq Lq Eq => (∃ x : Int32, v = some (.int x)) ∧ kp = kq ∧ L = Lq ∧ E = Eq) A) [.ref a0].toArray s 0 0 A) (F0 m 48 ls [.int z48_0, .int y17_3]) := by
                intro z48_0 H locs ls hz48_0a hz48_0b TH hS hl
                refine lv_iadd hx hb dX12_bound_48 ?_
                refine lv_topi (fun zi31 ezi31 => ?_)
                refine lv_istore_n (lv' := [(3, .int zi31), (4, .int y17_4), (2, .int y4_2), (1, .int y4_1), (0, .ref a0)]) hx hb dX12_bound_49 rfl hl (by decide) rfl (fun ls hl => ?_)
                obtain ⟨zi32, ezi32⟩ : ∃ z : Int32, z = y17_4 + Int32.ofInt 1 := ⟨_, rfl⟩
                have hzi32 : zi32.toInt = y17_4.toInt + 1 := by rw [ezi32]; have : ((Int32.ofInt 1).toInt) = 1 := (by decide);  exact (ia_add (by omega) (by omega)).trans (by omega)
                refine lv_iinc (v := zi32) (lv' := [(4, .int zi32), (3, .int zi31), (2, .int y4_2), (1, .int y4_1), (0, .ref a0)]) hx hb dX12_bound_50 hl (k := 1) rfl ezi32.symm (by decide) rfl (fun ls hl => ?_)
                refine lv_goto (tgt := 17) hx hb dX12_bound_53 (by decide) ?_
                exact ih17 (n17 - 1) (by   omega) zi32 zi31 _ _ ls (by omega) (by omega) (by   omega) TH hS (lv_sub hl [0, 1, 2, 3, 4] rfl)
              refine lv_icmp_ne (tgt := 47) hx hb dX12_bound_40 (by decide) (fun hc33 => ?_) (fun hc33 => ?_)
              · have hf34 : ¬ (xe30.toInt = y4_2.toInt) := fun q => hc33 ((fa_eq _ _).mpr (by  omega))
                refine lv_iconst (v := 0) hx hb dX12_bound_47 (by decide) ?_
                exact hJ48 (0 : Int32) _ _ ls (by have : ((0 : Int32).toInt) = 0 := (by decide); omega) (by have : ((0 : Int32).toInt) = 0 := (by decide); omega) TH hS (lv_sub hl [0, 2, 3, 4] rfl)
              · have hf35 : xe30.toInt = y4_2.toInt := by have z := (fa_eq _ _).mp hc33;  omega
                refine lv_iconst (v := 1) hx hb dX12_bound_43 (by decide) ?_
                refine lv_goto (tgt := 48) hx hb dX12_bound_44 (by decide) ?_
                exact hJ48 (1 : Int32) _ _ ls (by have : ((1 : Int32).toInt) = 1 := (by decide); omega) (by have : ((1 : Int32).toInt) = 1 := (by decide); omega) TH hS (lv_sub hl [0, 2, 3, 4] rfl)
        exact hJ17 41 (0 : Int32) (0 : Int32) _ _ ls (by have : ((0 : Int32).toInt) = 0 := (by decide); omega) (by have : ((0 : Int32).toInt) = 0 := (by decide); omega) (by have : ((0 : Int32).toInt) = 0 := (by decide);  omega) TH hS (lv_sub hl [0, 1, 2, 3, 4] rfl)
  exact hJ4 11 (0 : Int32) (0 : Int32) _ _ ls (by have : ((0 : Int32).toInt) = 0 := (by decide); omega) (by have : ((0 : Int32).toInt) = 0 := (by decide); omega) (by have : ((0 : Int32).toInt) = 0 := (by decide);  omega) TH hS (lv_sub hl [0, 1, 2] rfl)
set_option maxHeartbeats 4000000 in
set_option maxRecDepth 100000 in
theorem tX12_copies (l : Launch) (D : va_G) (cs : Nat → ClassId) {kp : Nat → Nat} {L : List Nat} {E : Nat → va_E} (a0 : Nat) (x1 : Int32) (x2 : Int32) (hm0 : a0 ∈ L) (hk0 : kp a0 = 12) (hp1a : 0 ≤ x1.toInt) (hp1b : x1.toInt ≤ 15) (hp2a : 0 ≤ x2.toInt) (hp2b : x2.toInt ≤ 15) (hpre0 : x1.toInt ≠ x2.toInt) (hg0 : rd_ok E a0) (sz : Nat) : Met l yX12_copies (.code yX12_copies cX12_copies 4 none :: cx_big) { frames := 0, cells := 0, slots := 0, locals := 0 } (tw_P D cs kp L E [.ref a0, .int x1, .int x2] sz) (tw_Q D cs kp L (fun v kq Lq Eq => v = none ∧ kp = kq ∧ L = Lq ∧ tw_fr kp L [] [326, 327, 328, 329] E Eq ∧ (∀ c : Nat, c < 150 → rw_h Eq a0 x2.toInt c = rw_h E a0 x1.toInt c ∧ rw_p Eq a0 x2.toInt c = rw_p E a0 x1.toInt c) ∧ (ot_ok Eq a0 x2.toInt E) ∧ rd_ok Eq a0) (va_A (va_pl L E) sz)) 0 0 (va_A (va_pl L E) sz) := by
  refine tw_ofW (by decide) (Nat.le_of_ble_eq_true rfl) ?_
  intro p e s m below meth c A ls hx hb hr hml hB hown hlocks hK hN hA TH hS hl
  have hown : s.vm.findClass "TreeMergeModel" = some m.cls := hown
  have hl : lv_has ls 4 [(0, .ref a0), (1, .int x1), (2, .int x2)] := hl
  obtain ⟨kp0, ekp⟩ : ∃ z, z = kp := ⟨_, rfl⟩
  obtain ⟨L0, eL⟩ : ∃ z, z = L := ⟨_, rfl⟩
  rw [show tw_Q D cs kp L = tw_Q D cs kp0 L0 by rw [ekp, eL]]
  have hex : ∀ a : Nat, a ∈ L0 → a ∈ L ∧ kp a = kp0 a := fun a h => ⟨by rw [← eL]; exact h, by rw [ekp]⟩
  have hF : tw_fr kp L [] [326, 327, 328, 329] E E := tw_fr.rf
  have hot : ot_ok E a0 (x2.toInt) E := ot_ok_rf
  have hch : cph_ok E a0 (x2.toInt) (x1.toInt) E (0) := cph_ok_zero (by omega)
  have hcp : cpp_ok E a0 (x2.toInt) (x1.toInt) E (0) := cpp_ok_zero (by omega)
  refine lv_iconst (v := 0) hx hb dX12_copies_0 (by decide) ?_
  refine lv_istore_n (lv' := [(3, .int 0), (0, .ref a0), (1, .int x1), (2, .int x2)]) hx hb dX12_copies_1 rfl hl (by decide) rfl (fun ls hl => ?_)
  have hJ2 : ∀ (n2 : Nat) (y2_3 : Int32) (Eg2 : Nat → va_E) (H : Heap) (locs : List Loc) (ls : Array Slot), 0 ≤ y2_3.toInt → y2_3.toInt ≤ 150 → 150 - y2_3.toInt ≤ (n2 : Int) → tw_fr kp L [] [326, 327, 328, 329] E Eg2 → rd_ok Eg2 a0 → ot_ok Eg2 a0 (x2.toInt) E → cph_ok Eg2 a0 (x2.toInt) (x1.toInt) E (y2_3.toInt) → cpp_ok Eg2 a0 (x2.toInt) (x1.toInt) E (y2_3.toInt) → tw_H D cs kp L Eg2 A H → va_S A s.heap H locs → lv_has ls 4 [(3, .int y2_3), (0, .ref a0), (1, .int x1), (2, .int x2)] → W p l e { frames := 0, cells := 0, slots := 0, locals := 0 } s m [.ref a0, .int x1, .int x2].toArray below meth c H locs 0 0 (MQ below (tw_Q D cs kp0 L0 (fun v kq Lq Eq => v = none ∧ kp = kq ∧ L = Lq ∧ tw_fr kp L [] [326, 327, 328, 329] E Eq ∧ (∀ c : Nat, c < 150 → rw_h Eq a0 x2.toInt c = rw_h E a0 x1.toInt c ∧ rw_p Eq a0 x2.toInt c = rw_p E a0 x1.toInt c) ∧ (ot_ok Eq a0 x2.toInt E) ∧ rd_ok Eq a0) A) [.ref a0, .int x1, .int x2].toArray s 0 0 A) (F0 m 2 ls []) := by
    intro n2
    induction n2 using Nat.strongRecOn with
    | _ n2 ih2 =>
      intro y2_3 Eg2 H locs ls hy2_3a hy2_3b hmeas2 hG2 hcg2_0 hcg2_1 hcg2_2 hcg2_3 TH hS hl
      have hF := hF.tr hG2 (fun _ h => ⟨h, rfl⟩) (by decide) (by decide)
      refine lv_iload_n hx hb dX12_copies_2 rfl (lv_at hl 0 rfl) ?_
      refine lv_sipush (v := 150) hx hb dX12_copies_3 (by decide) ?_
      refine lv_icmp_ge (tgt := 79) hx hb dX12_copies_6 (by decide) (fun hc1 => ?_) (fun hc1 => ?_)
      · have hf2 : 150 ≤ y2_3.toInt := by have z := (fa_le _ _).mp hc1; have : ((150 : Int32).toInt) = 150 := (by decide); omega
        exact tw_vret hx hb hr hlocks TH hS hex ⟨rfl, rfl, rfl, hF, (by  intro c hc; exact ⟨hcg2_2 c (by omega), hcg2_3 c (by omega)⟩), (by  exact hcg2_1), hcg2_0⟩ (Nat.le_of_ble_eq_true rfl) (Nat.le_of_ble_eq_true rfl) dX12_copies_79
      · have hf3 : ¬ (150 ≤ y2_3.toInt) := fun q => hc1 ((fa_le _ _).mpr (by have : ((150 : Int32).toInt) = 150 := (by decide); omega))
        refine lv_aload_n hx hb dX12_copies_9 rfl (lv_at hl 1 rfl) ?_
        refine tw_get (ci := 12) (C := RX12) (T := TX12) (N := 64) hx hb hB cx_inX12 hown hK TH hm0 hk0 rfl ⟨by decide, rfl⟩ 16 (by decide) cw_1209 (fun _ h9 => h9) dX12_copies_10 (fun hv => ?_)
        obtain ⟨xr4, hxr4, hmxr4, hkxr4⟩ : ∃ a : Nat, tw_fv Eg2 a0 16 = .ref a ∧ a ∈ L ∧ kp a = 316 := hv
        rw [hxr4]
        refine lv_iload_n hx hb dX12_copies_13 rfl (lv_at hl 3 rfl) ?_
        refine tw_aald (k := 316) (t0 := 5) (n := 16) (lo := 326) (hi := 0) (ty := .boolean) hx hb hK TH hmxr4 hkxr4 (by decide) rfl rfl (i := x2) (vp_in_iff.mpr ⟨by  omega, by  omega⟩) dX12_copies_14 (fun xr5 exr5 hmxr5 hkxr5 => ?_)
        have hkxr5 : kp xr5 = 326 := hkxr5
        refine lv_iload_n hx hb dX12_copies_15 rfl (lv_at hl 0 rfl) ?_
        refine lv_aload_n hx hb dX12_copies_16 rfl (lv_at hl 1 rfl) ?_
        refine tw_get (ci := 12) (C := RX12) (T := TX12) (N := 64) hx hb hB cx_inX12 hown hK TH hm0 hk0 rfl ⟨by decide, rfl⟩ 16 (by decide) cw_1209 (fun _ h9 => h9) dX12_copies_17 (fun hv => ?_)
        rw [hxr4]
        refine lv_iload_n hx hb dX12_copies_20 rfl (lv_at hl 2 rfl) ?_
        refine tw_aald (k := 316) (t0 := 5) (n := 16) (lo := 326) (hi := 0) (ty := .boolean) hx hb hK TH hmxr4 hkxr4 (by decide) rfl rfl (i := x1) (vp_in_iff.mpr ⟨by  omega, by  omega⟩) dX12_copies_21 (fun xr6 exr6 hmxr6 hkxr6 => ?_)
        have hkxr6 : kp xr6 = 326 := hkxr6
        refine lv_iload_n hx hb dX12_copies_22 rfl (lv_at hl 0 rfl) ?_
        refine tw_zald (k := 326) (t0 := 3) (n := 150) (lo := 0) (hi := 1) hx hb hK TH hmxr6 hkxr6 (by decide) rfl rfl (i := y2_3) (vp_in_iff.mpr ⟨by  omega, by  omega⟩) dX12_copies_23 (fun hxe7a hxe7b => ?_)
        obtain ⟨xe7, exe7⟩ : ∃ z : Int32, tw_iv Eg2 xr6 (Int32.toNatClampNeg y2_3) = z := ⟨_, rfl⟩
        rw [exe7] at hxe7a hxe7b ⊢
        refine tw_zast (k := 326) (n := 150) (lo := 0) (hi := 1) hx hb hK TH hS hmxr5 hkxr5 (by decide) rfl (i := y2_3) (x := xe7) (vp_in_iff.mpr ⟨by  omega, by  omega⟩) (by omega) (by omega) (by omega) (by omega) dX12_copies_24 (fun H locs E8 TH hS hp9 hp10 hp11 => ?_)
        have hst12 : tw_fr kp L [] [326] Eg2 E8 := tw_fr.ast tw_fr.rf (fun _ => hkxr5) hp9 hp10 (by decide)
        have hF := hF.tr hst12 (fun _ h => ⟨h, rfl⟩) (by decide) (by decide)
        have hG2 := hG2.tr hst12 (fun _ h => ⟨h, rfl⟩) (by decide) (by decide)
        have hmf13 : tw_fv E8 a0 16 = .ref xr4 := (hst12.1 a0 16 hm0 (by rw [hk0]; decide)).trans hxr4
        have hcg2_0_o := hcg2_0
        have hcg2_1_o := hcg2_1
        have hcg2_2_o := hcg2_2
        have hcg2_3_o := hcg2_3
        have hcg2_0 : rd_ok E8 a0 := rd_ok_fr TH hst12 hm0 hk0 (by decide) (by decide) hcg2_0
        have hcg2_1 : ot_ok E8 a0 (x2.toInt) E := ot_ok_h (i := x2) TH hm0 hk0 hcg2_0_o hxr4 exr5 hkxr4 hkxr5 hp9 hp10 (by omega) (by omega) hcg2_1_o
        have hcg2_2 : cph_ok E8 a0 (x2.toInt) (x1.toInt) E (y2_3.toInt + 1) := (by have rf_xe7 : rw_h Eg2 a0 (x1.toInt) (y2_3.toInt).toNat = xe7.toInt := rw_h_of (m := a0) (i := x1) (c := y2_3) hxr4 exr6 exe7; have q := rw_h_st (m := a0) (i := x2) (c := y2_3) hxr4 exr5 hkxr4 hkxr5 hp9 hp10 hp11; exact cph_push q (by omega) rf_xe7 (hcg2_1_o (x1.toInt) (by omega) (by omega) (by omega)).1 hcg2_2_o)
        have hcg2_3 : cpp_ok E8 a0 (x2.toInt) (x1.toInt) E (y2_3.toInt) := cpp_ok_fr TH hst12 hm0 hk0 (by decide) (by decide) (by omega) hcg2_3
        refine lv_aload_n hx hb dX12_copies_25 rfl (lv_at hl 1 rfl) ?_
        refine tw_get (ci := 12) (C := RX12) (T := TX12) (N := 64) hx hb hB cx_inX12 hown hK TH hm0 hk0 rfl ⟨by decide, rfl⟩ 17 (by decide) cw_1210 (fun _ h9 => h9) dX12_copies_26 (fun hv => ?_)
        obtain ⟨xr14, hxr14, hmxr14, hkxr14⟩ : ∃ a : Nat, tw_fv E8 a0 17 = .ref a ∧ a ∈ L ∧ kp a = 317 := hv
        rw [hxr14]
        refine lv_iload_n hx hb dX12_copies_29 rfl (lv_at hl 3 rfl) ?_
        refine tw_aald (k := 317) (t0 := 6) (n := 16) (lo := 327) (hi := 0) (ty := .long) hx hb hK TH hmxr14 hkxr14 (by decide) rfl rfl (i := x2) (vp_in_iff.mpr ⟨by  omega, by  omega⟩) dX12_copies_30 (fun xr15 exr15 hmxr15 hkxr15 => ?_)
        have hkxr15 : kp xr15 = 327 := hkxr15
        refine lv_iload_n hx hb dX12_copies_31 rfl (lv_at hl 0 rfl) ?_
        refine lv_aload_n hx hb dX12_copies_32 rfl (lv_at hl 1 rfl) ?_
        refine tw_get (ci := 12) (C := RX12) (T := TX12) (N := 64) hx hb hB cx_inX12 hown hK TH hm0 hk0 rfl ⟨by decide, rfl⟩ 17 (by decide) cw_1210 (fun _ h9 => h9) dX12_copies_33 (fun hv => ?_)
        rw [hxr14]
        refine lv_iload_n hx hb dX12_copies_36 rfl (lv_at hl 2 rfl) ?_
        refine tw_aald (k := 317) (t0 := 6) (n := 16) (lo := 327) (hi := 0) (ty := .long) hx hb hK TH hmxr14 hkxr14 (by decide) rfl rfl (i := x1) (vp_in_iff.mpr ⟨by  omega, by  omega⟩) dX12_copies_37 (fun xr16 exr16 hmxr16 hkxr16 => ?_)
        have hkxr16 : kp xr16 = 327 := hkxr16
        refine lv_iload_n hx hb dX12_copies_38 rfl (lv_at hl 0 rfl) ?_
        refine tw_lald2 (k := 327) (n := 150) (lo := 0) (hi := 0) hx hb hK TH hmxr16 hkxr16 (by decide) rfl (i := y2_3) (vp_in_iff.mpr ⟨by  omega, by  omega⟩) dX12_copies_39 (fun xl17 exl17 => ?_)
        refine tw_last2 (k := 327) (n := 150) (lo := 0) (hi := 0) hx hb hK TH hS hmxr15 hkxr15 (by decide) rfl (i := y2_3) (x := xl17) (vp_in_iff.mpr ⟨by  omega, by  omega⟩) dX12_copies_40 (fun H locs E18 TH hS hp19 hp20 hp22 => ?_)
        have hst21 : tw_fr kp L [] [327] E8 E18 := tw_fr.ast tw_fr.rf (fun _ => hkxr15) hp19 hp20 (by decide)
        have hF := hF.tr hst21 (fun _ h => ⟨h, rfl⟩) (by decide) (by decide)
        have hG2 := hG2.tr hst21 (fun _ h => ⟨h, rfl⟩) (by decide) (by decide)
        have hmf23 : tw_fv E18 a0 16 = .ref xr4 := (hst21.1 a0 16 hm0 (by rw [hk0]; decide)).trans hmf13
        have hmf24 : tw_fv E18 a0 17 = .ref xr14 := (hst21.1 a0 17 hm0 (by rw [hk0]; decide)).trans hxr14
        have hcg2_0 : rd_ok E18 a0 := rd_ok_fr TH hst21 hm0 hk0 (by decide) (by decide) hcg2_0
        have hcg2_1 : ot_ok E18 a0 (x2.toInt) E := ot_ok_fr TH hst21 hm0 hk0 (by decide) (by decide) hcg2_1
        have hcg2_2 : cph_ok E18 a0 (x2.toInt) (x1.toInt) E (y2_3.toInt + 1) := cph_ok_fr TH hst21 hm0 hk0 (by decide) (by decide) (by omega) hcg2_2
        have hcg2_3 : cpp_ok E18 a0 (x2.toInt) (x1.toInt) E (y2_3.toInt) := cpp_ok_fr TH hst21 hm0 hk0 (by decide) (by decide) (by omega) hcg2_3
        refine lv_aload_n hx hb dX12_copies_41 rfl (lv_at hl 1 rfl) ?_
        refine tw_get (ci := 12) (C := RX12) (T := TX12) (N := 64) hx hb hB cx_inX12 hown hK TH hm0 hk0 rfl ⟨by decide, rfl⟩ 18 (by decide) cw_1211 (fun _ h9 => h9) dX12_copies_42 (fun hv => ?_)
        obtain ⟨xr25, hxr25, hmxr25, hkxr25⟩ : ∃ a : Nat, tw_fv E18 a0 18 = .ref a ∧ a ∈ L ∧ kp a = 318 := hv
        rw [hxr25]
        refine lv_iload_n hx hb dX12_copies_45 rfl (lv_at hl 3 rfl) ?_
        refine tw_aald (k := 318) (t0 := 4) (n := 16) (lo := 328) (hi := 0) (ty := .int) hx hb hK TH hmxr25 hkxr25 (by decide) rfl rfl (i := x2) (vp_in_iff.mpr ⟨by  omega, by  omega⟩) dX12_copies_46 (fun xr26 exr26 hmxr26 hkxr26 => ?_)
        have hkxr26 : kp xr26 = 328 := hkxr26
        refine lv_iload_n hx hb dX12_copies_47 rfl (lv_at hl 0 rfl) ?_
        refine lv_aload_n hx hb dX12_copies_48 rfl (lv_at hl 1 rfl) ?_
        refine tw_get (ci := 12) (C := RX12) (T := TX12) (N := 64) hx hb hB cx_inX12 hown hK TH hm0 hk0 rfl ⟨by decide, rfl⟩ 18 (by decide) cw_1211 (fun _ h9 => h9) dX12_copies_49 (fun hv => ?_)
        rw [hxr25]
        refine lv_iload_n hx hb dX12_copies_52 rfl (lv_at hl 2 rfl) ?_
        refine tw_aald (k := 318) (t0 := 4) (n := 16) (lo := 328) (hi := 0) (ty := .int) hx hb hK TH hmxr25 hkxr25 (by decide) rfl rfl (i := x1) (vp_in_iff.mpr ⟨by  omega, by  omega⟩) dX12_copies_53 (fun xr27 exr27 hmxr27 hkxr27 => ?_)
        have hkxr27 : kp xr27 = 328 := hkxr27
        refine lv_iload_n hx hb dX12_copies_54 rfl (lv_at hl 0 rfl) ?_
        refine tw_iald (k := 328) (t0 := 0) (n := 150) (lo := (-1)) (hi := 149) hx hb hK TH hmxr27 hkxr27 (by decide) rfl rfl (i := y2_3) (vp_in_iff.mpr ⟨by  omega, by  omega⟩) dX12_copies_55 (fun hxe28a hxe28b => ?_)
        obtain ⟨xe28, exe28⟩ : ∃ z : Int32, tw_iv E18 xr27 (Int32.toNatClampNeg y2_3) = z := ⟨_, rfl⟩
        rw [exe28] at hxe28a hxe28b ⊢
        refine tw_iast (k := 328) (n := 150) (lo := (-1)) (hi := 149) hx hb hK TH hS hmxr26 hkxr26 (by decide) rfl (i := y2_3) (x := xe28) (vp_in_iff.mpr ⟨by  omega, by  omega⟩) (by omega) (by omega) dX12_copies_56 (fun H locs E29 TH hS hp30 hp31 hp32 => ?_)
        have hst33 : tw_fr kp L [] [328] E18 E29 := tw_fr.ast tw_fr.rf (fun _ => hkxr26) hp30 hp31 (by decide)
        have hF := hF.tr hst33 (fun _ h => ⟨h, rfl⟩) (by decide) (by decide)
        have hG2 := hG2.tr hst33 (fun _ h => ⟨h, rfl⟩) (by decide) (by decide)
        have hmf34 : tw_fv E29 a0 16 = .ref xr4 := (hst33.1 a0 16 hm0 (by rw [hk0]; decide)).trans hmf23
        have hmf35 : tw_fv E29 a0 17 = .ref xr14 := (hst33.1 a0 17 hm0 (by rw [hk0]; decide)).trans hmf24
        have hmf36 : tw_fv E29 a0 18 = .ref xr25 := (hst33.1 a0 18 hm0 (by rw [hk0]; decide)).trans hxr25
        have hcg2_0_o := hcg2_0
        have hcg2_1_o := hcg2_1
        have hcg2_2_o := hcg2_2
        have hcg2_3_o := hcg2_3
        have hcg2_0 : rd_ok E29 a0 := rd_ok_fr TH hst33 hm0 hk0 (by decide) (by decide) hcg2_0
        have hcg2_1 : ot_ok E29 a0 (x2.toInt) E := ot_ok_p (i := x2) TH hm0 hk0 hcg2_0_o hxr25 exr26 hkxr25 hkxr26 hp30 hp31 (by omega) (by omega) hcg2_1_o
        have hcg2_2 : cph_ok E29 a0 (x2.toInt) (x1.toInt) E (y2_3.toInt + 1) := cph_ok_fr TH hst33 hm0 hk0 (by decide) (by decide) (by omega) hcg2_2
        have hcg2_3 : cpp_ok E29 a0 (x2.toInt) (x1.toInt) E (y2_3.toInt + 1) := (by have rf_xe28 : rw_p E18 a0 (x1.toInt) (y2_3.toInt).toNat = xe28.toInt := rw_p_of (m := a0) (i := x1) (c := y2_3) hxr25 exr27 exe28; have q := rw_p_st (m := a0) (i := x2) (c := y2_3) hxr25 exr26 hkxr25 hkxr26 hp30 hp31 hp32; exact cpp_push q (by omega) rf_xe28 (hcg2_1_o (x1.toInt) (by omega) (by omega) (by omega)).2 hcg2_3_o)
        refine lv_aload_n hx hb dX12_copies_57 rfl (lv_at hl 1 rfl) ?_
        refine tw_get (ci := 12) (C := RX12) (T := TX12) (N := 64) hx hb hB cx_inX12 hown hK TH hm0 hk0 rfl ⟨by decide, rfl⟩ 19 (by decide) cw_1212 (fun _ h9 => h9) dX12_copies_58 (fun hv => ?_)
        obtain ⟨xr37, hxr37, hmxr37, hkxr37⟩ : ∃ a : Nat, tw_fv E29 a0 19 = .ref a ∧ a ∈ L ∧ kp a = 319 := hv
        rw [hxr37]
        refine lv_iload_n hx hb dX12_copies_61 rfl (lv_at hl 3 rfl) ?_
        refine tw_aald (k := 319) (t0 := 4) (n := 16) (lo := 329) (hi := 0) (ty := .int) hx hb hK TH hmxr37 hkxr37 (by decide) rfl rfl (i := x2) (vp_in_iff.mpr ⟨by  omega, by  omega⟩) dX12_copies_62 (fun xr38 exr38 hmxr38 hkxr38 => ?_)
        have hkxr38 : kp xr38 = 329 := hkxr38
        refine lv_iload_n hx hb dX12_copies_63 rfl (lv_at hl 0 rfl) ?_
        refine lv_aload_n hx hb dX12_copies_64 rfl (lv_at hl 1 rfl) ?_
        refine tw_get (ci := 12) (C := RX12) (T := TX12) (N := 64) hx hb hB cx_inX12 hown hK TH hm0 hk0 rfl ⟨by decide, rfl⟩ 19 (by decide) cw_1212 (fun _ h9 => h9) dX12_copies_65 (fun hv => ?_)
        rw [hxr37]
        refine lv_iload_n hx hb dX12_copies_68 rfl (lv_at hl 2 rfl) ?_
        refine tw_aald (k := 319) (t0 := 4) (n := 16) (lo := 329) (hi := 0) (ty := .int) hx hb hK TH hmxr37 hkxr37 (by decide) rfl rfl (i := x1) (vp_in_iff.mpr ⟨by  omega, by  omega⟩) dX12_copies_69 (fun xr39 exr39 hmxr39 hkxr39 => ?_)
        have hkxr39 : kp xr39 = 329 := hkxr39
        refine lv_iload_n hx hb dX12_copies_70 rfl (lv_at hl 0 rfl) ?_
        refine tw_iald (k := 329) (t0 := 0) (n := 150) (lo := (-2147483648)) (hi := 2147483647) hx hb hK TH hmxr39 hkxr39 (by decide) rfl rfl (i := y2_3) (vp_in_iff.mpr ⟨by  omega, by  omega⟩) dX12_copies_71 (fun hxe40a hxe40b => ?_)
        obtain ⟨xe40, exe40⟩ : ∃ z : Int32, tw_iv E29 xr39 (Int32.toNatClampNeg y2_3) = z := ⟨_, rfl⟩
        rw [exe40] at hxe40a hxe40b ⊢
        refine tw_iast (k := 329) (n := 150) (lo := (-2147483648)) (hi := 2147483647) hx hb hK TH hS hmxr38 hkxr38 (by decide) rfl (i := y2_3) (x := xe40) (vp_in_iff.mpr ⟨by  omega, by  omega⟩) (ia_lo _) (ia_hi _) dX12_copies_72 (fun H locs E41 TH hS hp42 hp43 hp44 => ?_)
        have hst45 : tw_fr kp L [] [329] E29 E41 := tw_fr.ast tw_fr.rf (fun _ => hkxr38) hp42 hp43 (by decide)
        have hF := hF.tr hst45 (fun _ h => ⟨h, rfl⟩) (by decide) (by decide)
        have hG2 := hG2.tr hst45 (fun _ h => ⟨h, rfl⟩) (by decide) (by decide)
        have hmf46 : tw_fv E41 a0 16 = .ref xr4 := (hst45.1 a0 16 hm0 (by rw [hk0]; decide)).trans hmf34
        have hmf47 : tw_fv E41 a0 17 = .ref xr14 := (hst45.1 a0 17 hm0 (by rw [hk0]; decide)).trans hmf35
        have hmf48 : tw_fv E41 a0 18 = .ref xr25 := (hst45.1 a0 18 hm0 (by rw [hk0]; decide)).trans hmf36
        have hmf49 : tw_fv E41 a0 19 = .ref xr37 := (hst45.1 a0 19 hm0 (by rw [hk0]; decide)).trans hxr37
        have hcg2_0 : rd_ok E41 a0 := rd_ok_fr TH hst45 hm0 hk0 (by decide) (by decide) hcg2_0
        have hcg2_1 : ot_ok E41 a0 (x2.toInt) E := ot_ok_fr TH hst45 hm0 hk0 (by decide) (by decide) hcg2_1
        have hcg2_2 : cph_ok E41 a0 (x2.toInt) (x1.toInt) E (y2_3.toInt + 1) := cph_ok_fr TH hst45 hm0 hk0 (by decide) (by decide) (by omega) hcg2_2
        have hcg2_3 : cpp_ok E41 a0 (x2.toInt) (x1.toInt) E (y2_3.toInt + 1) := cpp_ok_fr TH hst45 hm0 hk0 (by decide) (by decide) (by omega) hcg2_3
        obtain ⟨zi50, ezi50⟩ : ∃ z : Int32, z = y2_3 + Int32.ofInt 1 := ⟨_, rfl⟩
        have hzi50 : zi50.toInt = y2_3.toInt + 1 := by rw [ezi50]; have : ((Int32.ofInt 1).toInt) = 1 := (by decide);  exact (ia_add (by omega) (by omega)).trans (by omega)
        refine lv_iinc (v := zi50) (lv' := [(3, .int zi50), (0, .ref a0), (1, .int x1), (2, .int x2)]) hx hb dX12_copies_73 hl (k := 0) rfl ezi50.symm (by decide) rfl (fun ls hl => ?_)
        refine lv_goto (tgt := 2) hx hb dX12_copies_76 (by decide) ?_
        exact ih2 (n2 - 1) (by   omega) zi50 _ _ _ ls (by omega) (by omega) (by   omega) hG2 hcg2_0 hcg2_1 (cph_ok_cast (by  omega) hcg2_2) (cpp_ok_cast (by  omega) hcg2_3) TH hS (lv_sub hl [0, 1, 2, 3] rfl)
  exact hJ2 151 (0 : Int32) _ _ _ ls (by have : ((0 : Int32).toInt) = 0 := (by decide); omega) (by have : ((0 : Int32).toInt) = 0 := (by decide); omega) (by have : ((0 : Int32).toInt) = 0 := (by decide);  omega) tw_fr.rf hg0 hot (cph_ok_cast (by have : ((0 : Int32).toInt) = 0 := (by decide); omega) hch) (cpp_ok_cast (by have : ((0 : Int32).toInt) = 0 := (by decide); omega) hcp) TH hS (lv_sub hl [0, 1, 2, 3] rfl)
set_option maxHeartbeats 4000000 in
set_option maxRecDepth 100000 in
theorem tX12_noPending (l : Launch) (D : va_G) (cs : Nat → ClassId) {kp : Nat → Nat} {L : List Nat} {E : Nat → va_E} (a0 : Nat) (x1 : Int32) (hm0 : a0 ∈ L) (hk0 : kp a0 = 12) (hp1a : (-1) ≤ x1.toInt) (hp1b : x1.toInt ≤ 12) (sz : Nat) : Met l yX12_noPending (.code yX12_noPending cX12_noPending 3 none :: cx_big) { frames := 0, cells := 0, slots := 0, locals := 0 } (tw_P D cs kp L E [.ref a0, .int x1] sz) (tw_Q D cs kp L (fun v kq Lq Eq => v = none ∧ kp = kq ∧ L = Lq ∧ tw_fr kp L [] [331, 333] E Eq) (va_A (va_pl L E) sz)) 0 0 (va_A (va_pl L E) sz) := by
  refine tw_ofW (by decide) (Nat.le_of_ble_eq_true rfl) ?_
  intro p e s m below meth c A ls hx hb hr hml hB hown hlocks hK hN hA TH hS hl
  have hown : s.vm.findClass "TreeMergeModel" = some m.cls := hown
  have hl : lv_has ls 3 [(0, .ref a0), (1, .int x1)] := hl
  obtain ⟨kp0, ekp⟩ : ∃ z, z = kp := ⟨_, rfl⟩
  obtain ⟨L0, eL⟩ : ∃ z, z = L := ⟨_, rfl⟩
  rw [show tw_Q D cs kp L = tw_Q D cs kp0 L0 by rw [ekp, eL]]
  have hex : ∀ a : Nat, a ∈ L0 → a ∈ L ∧ kp a = kp0 a := fun a h => ⟨by rw [← eL]; exact h, by rw [ekp]⟩
  have hF : tw_fr kp L [] [331, 333] E E := tw_fr.rf
  refine lv_iconst (v := 0) hx hb dX12_noPending_0 (by decide) ?_
  refine lv_istore_n (lv' := [(2, .int 0), (0, .ref a0), (1, .int x1)]) hx hb dX12_noPending_1 rfl hl (by decide) rfl (fun ls hl => ?_)
  have hJ2 : ∀ (n2 : Nat) (y2_2 : Int32) (Eg2 : Nat → va_E) (H : Heap) (locs : List Loc) (ls : Array Slot), 0 ≤ y2_2.toInt → y2_2.toInt ≤ 150 → 150 - y2_2.toInt ≤ (n2 : Int) → tw_fr kp L [] [331, 333] E Eg2 → tw_H D cs kp L Eg2 A H → va_S A s.heap H locs → lv_has ls 3 [(2, .int y2_2), (0, .ref a0), (1, .int x1)] → W p l e { frames := 0, cells := 0, slots := 0, locals := 0 } s m [.ref a0, .int x1].toArray below meth c H locs 0 0 (MQ below (tw_Q D cs kp0 L0 (fun v kq Lq Eq => v = none ∧ kp = kq ∧ L = Lq ∧ tw_fr kp L [] [331, 333] E Eq) A) [.ref a0, .int x1].toArray s 0 0 A) (F0 m 2 ls []) := by
    intro n2
    induction n2 using Nat.strongRecOn with
    | _ n2 ih2 =>
      intro y2_2 Eg2 H locs ls hy2_2a hy2_2b hmeas2 hG2 TH hS hl
      have hF := hF.tr hG2 (fun _ h => ⟨h, rfl⟩) (by decide) (by decide)
      refine lv_iload_n hx hb dX12_noPending_2 rfl (lv_at hl 0 rfl) ?_
      refine lv_aload_n hx hb dX12_noPending_3 rfl (lv_at hl 1 rfl) ?_
      refine tw_get (ci := 12) (C := RX12) (T := TX12) (N := 64) hx hb hB cx_inX12 hown hK TH hm0 hk0 rfl ⟨by decide, rfl⟩ 26 (by decide) cw_1219 (fun _ h9 => h9) dX12_noPending_4 (fun hv => ?_)
      obtain ⟨xi1, hxi1, hxi1a, hxi1b⟩ : ∃ x : Int32, tw_fv Eg2 a0 26 = .int x ∧ 0 ≤ x.toInt ∧ x.toInt ≤ 150 := hv
      rw [hxi1]
      refine lv_icmp_ge (tgt := 42) hx hb dX12_noPending_7 (by decide) (fun hc2 => ?_) (fun hc2 => ?_)
      · have hf3 : xi1.toInt ≤ y2_2.toInt := by have z := (fa_le _ _).mp hc2;  omega
        exact tw_vret hx hb hr hlocks TH hS hex ⟨rfl, rfl, rfl, hF⟩ (Nat.le_of_ble_eq_true rfl) (Nat.le_of_ble_eq_true rfl) dX12_noPending_42
      · have hf4 : ¬ (xi1.toInt ≤ y2_2.toInt) := fun q => hc2 ((fa_le _ _).mpr (by  omega))
        refine lv_aload_n hx hb dX12_noPending_10 rfl (lv_at hl 1 rfl) ?_
        refine tw_get (ci := 12) (C := RX12) (T := TX12) (N := 64) hx hb hB cx_inX12 hown hK TH hm0 hk0 rfl ⟨by decide, rfl⟩ 23 (by decide) cw_1216 (fun _ h9 => h9) dX12_noPending_11 (fun hv => ?_)
        obtain ⟨xr5, hxr5, hmxr5, hkxr5⟩ : ∃ a : Nat, tw_fv Eg2 a0 23 = .ref a ∧ a ∈ L ∧ kp a = 333 := hv
        rw [hxr5]
        refine lv_iload_n hx hb dX12_noPending_14 rfl (lv_at hl 0 rfl) ?_
        refine tw_zald (k := 333) (t0 := 3) (n := 150) (lo := 0) (hi := 1) hx hb hK TH hmxr5 hkxr5 (by decide) rfl rfl (i := y2_2) (vp_in_iff.mpr ⟨by  omega, by  omega⟩) dX12_noPending_15 (fun hxe6a hxe6b => ?_)
        obtain ⟨xe6, exe6⟩ : ∃ z : Int32, tw_iv Eg2 xr5 (Int32.toNatClampNeg y2_2) = z := ⟨_, rfl⟩
        rw [exe6] at hxe6a hxe6b ⊢
        have hJ36 : ∀  (Eg36 : Nat → va_E) (H : Heap) (locs : List Loc) (ls : Array Slot), tw_fr kp L [] [331, 333] Eg2 Eg36 → tw_H D cs kp L Eg36 A H → va_S A s.heap H locs → lv_has ls 3 [(2, .int y2_2), (0, .ref a0), (1, .int x1)] → W p l e { frames := 0, cells := 0, slots := 0, locals := 0 } s m [.ref a0, .int x1].toArray below meth c H locs 0 0 (MQ below (tw_Q D cs kp0 L0 (fun v kq Lq Eq => v = none ∧ kp = kq ∧ L = Lq ∧ tw_fr kp L [] [331, 333] E Eq) A) [.ref a0, .int x1].toArray s 0 0 A) (F0 m 36 ls []) := by
          intro Eg36 H locs ls hG36 TH hS hl
          have hF := hF.tr hG36 (fun _ h => ⟨h, rfl⟩) (by decide) (by decide)
          have hG2 := hG2.tr hG36 (fun _ h => ⟨h, rfl⟩) (by decide) (by decide)
          have hmf7 : tw_fv Eg36 a0 26 = .int xi1 := (hG36.1 a0 26 hm0 (by rw [hk0]; decide)).trans hxi1
          have hmf8 : tw_fv Eg36 a0 23 = .ref xr5 := (hG36.1 a0 23 hm0 (by rw [hk0]; decide)).trans hxr5
          obtain ⟨zi9, ezi9⟩ : ∃ z : Int32, z = y2_2 + Int32.ofInt 1 := ⟨_, rfl⟩
          have hzi9 : zi9.toInt = y2_2.toInt + 1 := by rw [ezi9]; have : ((Int32.ofInt 1).toInt) = 1 := (by decide);  exact (ia_add (by omega) (by omega)).trans (by omega)
          refine lv_iinc (v := zi9) (lv' := [(2, .int zi9), (0, .ref a0), (1, .int x1)]) hx hb dX12_noPending_36 hl (k := 0) rfl ezi9.symm (by decide) rfl (fun ls hl => ?_)
          refine lv_goto (tgt := 2) hx hb dX12_noPending_39 (by decide) ?_
          exact ih2 (n2 - 1) (by   omega) zi9 _ _ _ ls (by omega) (by omega) (by   omega) hG2 TH hS (lv_sub hl [0, 1, 2] rfl)
        have hG36 : tw_fr kp L [] [331, 333] Eg2 Eg2 := tw_fr.rf
        refine lv_if_ne (tgt := 22) hx hb dX12_noPending_16 (by decide) (fun hc10 => ?_) (fun hc10 => ?_)
        · have hf11 : ¬ (xe6.toInt = 0) := fun q => hc10 ((fa_eq _ _).mpr (by have : ((0 : Int32).toInt) = 0 := (by decide); omega))
          refine lv_aload_n hx hb dX12_noPending_22 rfl (lv_at hl 1 rfl) ?_
          refine tw_get (ci := 12) (C := RX12) (T := TX12) (N := 64) hx hb hB cx_inX12 hown hK TH hm0 hk0 rfl ⟨by decide, rfl⟩ 23 (by decide) cw_1216 (fun _ h9 => h9) dX12_noPending_23 (fun hv => ?_)
          rw [hxr5]
          refine lv_iload_n hx hb dX12_noPending_26 rfl (lv_at hl 0 rfl) ?_
          refine lv_iconst (v := 0) hx hb dX12_noPending_27 (by decide) ?_
          refine tw_zast (k := 333) (n := 150) (lo := 0) (hi := 1) hx hb hK TH hS hmxr5 hkxr5 (by decide) rfl (i := y2_2) (x := 0) (vp_in_iff.mpr ⟨by  omega, by  omega⟩) (by have : ((0 : Int32).toInt) = 0 := (by decide); omega) (by have : ((0 : Int32).toInt) = 0 := (by decide); omega) (by have : ((0 : Int32).toInt) = 0 := (by decide); omega) (by have : ((0 : Int32).toInt) = 0 := (by decide); omega) dX12_noPending_28 (fun H locs E12 TH hS hp13 hp14 hp15 => ?_)
          have hst16 : tw_fr kp L [] [333] Eg2 E12 := tw_fr.ast tw_fr.rf (fun _ => hkxr5) hp13 hp14 (by decide)
          have hF := hF.tr hst16 (fun _ h => ⟨h, rfl⟩) (by decide) (by decide)
          have hG2 := hG2.tr hst16 (fun _ h => ⟨h, rfl⟩) (by decide) (by decide)
          have hG36 := hG36.tr hst16 (fun _ h => ⟨h, rfl⟩) (by decide) (by decide)
          have hmf17 : tw_fv E12 a0 26 = .int xi1 := (hst16.1 a0 26 hm0 (by rw [hk0]; decide)).trans hxi1
          have hmf18 : tw_fv E12 a0 23 = .ref xr5 := (hst16.1 a0 23 hm0 (by rw [hk0]; decide)).trans hxr5
          refine lv_aload_n hx hb dX12_noPending_29 rfl (lv_at hl 1 rfl) ?_
          refine tw_get (ci := 12) (C := RX12) (T := TX12) (N := 64) hx hb hB cx_inX12 hown hK TH hm0 hk0 rfl ⟨by decide, rfl⟩ 21 (by decide) cw_1214 (fun _ h9 => h9) dX12_noPending_30 (fun hv => ?_)
          obtain ⟨xr19, hxr19, hmxr19, hkxr19⟩ : ∃ a : Nat, tw_fv E12 a0 21 = .ref a ∧ a ∈ L ∧ kp a = 331 := hv
          rw [hxr19]
          refine lv_iload_n hx hb dX12_noPending_33 rfl (lv_at hl 0 rfl) ?_
          refine lv_iload_n hx hb dX12_noPending_34 rfl (lv_at hl 2 rfl) ?_
          refine tw_iast (k := 331) (n := 150) (lo := (-1)) (hi := 12) hx hb hK TH hS hmxr19 hkxr19 (by decide) rfl (i := y2_2) (x := x1) (vp_in_iff.mpr ⟨by  omega, by  omega⟩) (by omega) (by omega) dX12_noPending_35 (fun H locs E20 TH hS hp21 hp22 hp23 => ?_)
          have hst24 : tw_fr kp L [] [331] E12 E20 := tw_fr.ast tw_fr.rf (fun _ => hkxr19) hp21 hp22 (by decide)
          have hF := hF.tr hst24 (fun _ h => ⟨h, rfl⟩) (by decide) (by decide)
          have hG2 := hG2.tr hst24 (fun _ h => ⟨h, rfl⟩) (by decide) (by decide)
          have hG36 := hG36.tr hst24 (fun _ h => ⟨h, rfl⟩) (by decide) (by decide)
          have hmf25 : tw_fv E20 a0 26 = .int xi1 := (hst24.1 a0 26 hm0 (by rw [hk0]; decide)).trans hmf17
          have hmf26 : tw_fv E20 a0 23 = .ref xr5 := (hst24.1 a0 23 hm0 (by rw [hk0]; decide)).trans hmf18
          have hmf27 : tw_fv E20 a0 21 = .ref xr19 := (hst24.1 a0 21 hm0 (by rw [hk0]; decide)).trans hxr19
          exact hJ36  _ _ _ ls hG36 TH hS (lv_sub hl [0, 1, 2] rfl)
        · have hf28 : xe6.toInt = 0 := by have z := (fa_eq _ _).mp hc10; have : ((0 : Int32).toInt) = 0 := (by decide); omega
          refine lv_goto (tgt := 36) hx hb dX12_noPending_19 (by decide) ?_
          exact hJ36  _ _ _ ls hG36 TH hS (lv_sub hl [0, 1, 2] rfl)
  exact hJ2 151 (0 : Int32) _ _ _ ls (by have : ((0 : Int32).toInt) = 0 := (by decide); omega) (by have : ((0 : Int32).toInt) = 0 := (by decide); omega) (by have : ((0 : Int32).toInt) = 0 := (by decide);  omega) tw_fr.rf TH hS (lv_sub hl [0, 1, 2] rfl)
set_option maxHeartbeats 4000000 in
set_option maxRecDepth 100000 in
theorem tX12_inDraft (l : Launch) (D : va_G) (cs : Nat → ClassId) {kp : Nat → Nat} {L : List Nat} {E : Nat → va_E} (a0 : Nat) (x1 : Int32) (fv0_26 : Int32) (fv0_29 : Int32) (hm0 : a0 ∈ L) (hk0 : kp a0 = 12) (hfv0_26 : tw_fv E a0 26 = .int fv0_26) (hfv0_29 : tw_fv E a0 29 = .int fv0_29) (sz : Nat) : Met l yX12_inDraft (.code yX12_inDraft cX12_inDraft 2 (some .boolean) :: cx_big) { frames := 1, cells := 0, slots := 0, locals := 25 } (tw_P D cs kp L E [.ref a0, .int x1] sz) (tw_Q D cs kp L (fun v kq Lq Eq => (∃ x : Int32, v = some (.int x) ∧ 0 ≤ x.toInt ∧ x.toInt ≤ 1 ∧ (x.toInt ≠ 0 → 0 ≤ x1.toInt ∧ x1.toInt < fv0_26.toInt ∧ fv0_29.toInt = 1) ∧ (x.toInt ≠ 0 → rw_h E a0 12 (x1.toInt).toNat ≠ 0)) ∧ kp = kq ∧ L = Lq ∧ E = Eq) (va_A (va_pl L E) sz)) 0 0 (va_A (va_pl L E) sz) := by
  refine tw_ofW (by decide) (Nat.le_of_ble_eq_true rfl) ?_
  intro p e s m below meth c A ls hx hb hr hml hB hown hlocks hK hN hA TH hS hl
  have hown : s.vm.findClass "TreeMergeModel" = some m.cls := hown
  have hl : lv_has ls 2 [(0, .ref a0), (1, .int x1)] := hl
  obtain ⟨kp0, ekp⟩ : ∃ z, z = kp := ⟨_, rfl⟩
  obtain ⟨L0, eL⟩ : ∃ z, z = L := ⟨_, rfl⟩
  rw [show tw_Q D cs kp L = tw_Q D cs kp0 L0 by rw [ekp, eL]]
  have hex : ∀ a : Nat, a ∈ L0 → a ∈ L ∧ kp a = kp0 a := fun a h => ⟨by rw [← eL]; exact h, by rw [ekp]⟩
  obtain ⟨qfv0_26, hqfv0_26, hqfv0_26a, hqfv0_26b⟩ := tw_rd TH hm0 hk0 (by decide) (by decide) (k := 26) rfl
  have eqfv0_26 : qfv0_26 = fv0_26 := by have q := hqfv0_26.symm.trans hfv0_26; injection q
  rw [eqfv0_26] at hqfv0_26a hqfv0_26b
  obtain ⟨qfv0_29, hqfv0_29, hqfv0_29a, hqfv0_29b⟩ := tw_rd TH hm0 hk0 (by decide) (by decide) (k := 29) rfl
  have eqfv0_29 : qfv0_29 = fv0_29 := by have q := hqfv0_29.symm.trans hfv0_29; injection q
  rw [eqfv0_29] at hqfv0_29a hqfv0_29b
  refine lv_aload_n hx hb dX12_inDraft_0 rfl (lv_at hl 0 rfl) ?_
  refine tw_get (ci := 12) (C := RX12) (T := TX12) (N := 64) hx hb hB cx_inX12 hown hK TH hm0 hk0 rfl ⟨by decide, rfl⟩ 29 (by decide) cw_1222 (fun _ h9 => h9) dX12_inDraft_1 (fun hv => ?_)
  rw [hfv0_29]
  refine lv_if_eq (tgt := 39) hx hb dX12_inDraft_4 (by decide) (fun hc1 => ?_) (fun hc1 => ?_)
  · have hf2 : fv0_29.toInt = 0 := by have z := (fa_eq _ _).mp hc1; have : ((0 : Int32).toInt) = 0 := (by decide); omega
    refine lv_iconst (v := 0) hx hb dX12_inDraft_39 (by decide) ?_
    exact tw_zret hx hb hr hlocks (by decide) TH hS hex ⟨⟨_, rfl, (show 0 ≤ Int32.toInt 0 from by have : ((0 : Int32).toInt) = 0 := (by decide); omega), (show Int32.toInt 0 ≤ 1 from by have : ((0 : Int32).toInt) = 0 := (by decide); omega), (by have : ((0 : Int32).toInt) = 0 := (by decide); omega), (by have : ((0 : Int32).toInt) = 0 := (by decide); intro q; exfalso; exact q (by decide))⟩, rfl, rfl, rfl⟩ (Nat.le_of_ble_eq_true rfl) (Nat.le_of_ble_eq_true rfl) dX12_inDraft_40
  · have hf3 : ¬ (fv0_29.toInt = 0) := fun q => hc1 ((fa_eq _ _).mpr (by have : ((0 : Int32).toInt) = 0 := (by decide); omega))
    refine lv_iload_n hx hb dX12_inDraft_7 rfl (lv_at hl 1 rfl) ?_
    refine lv_i2l (v := (x1).toInt64) hx hb dX12_inDraft_8 rfl ?_
    refine tw_topl (fun zl4 ezl4 => ?_)
    have hzl4 : zl4.toInt = x1.toInt := by rw [ezl4];  exact (Int32.toInt_toInt64 _)
    refine lv_lconst (v := 0) hx hb dX12_inDraft_9 (by decide) ?_
    refine tw_topl (fun zl5 ezl5 => ?_)
    have hzl5 : zl5.toInt = 0 := by rw [ezl5]; decide
    refine lv_aload_n hx hb dX12_inDraft_10 rfl (lv_at hl 0 rfl) ?_
    refine tw_get (ci := 12) (C := RX12) (T := TX12) (N := 64) hx hb hB cx_inX12 hown hK TH hm0 hk0 rfl ⟨by decide, rfl⟩ 26 (by decide) cw_1219 (fun _ h9 => h9) dX12_inDraft_11 (fun hv => ?_)
    rw [hfv0_26]
    refine lv_iconst (v := 1) hx hb dX12_inDraft_14 (by decide) ?_
    refine lv_isub hx hb dX12_inDraft_15 ?_
    refine lv_topi (fun zi6 ezi6 => ?_)
    have hzi6 : zi6.toInt = fv0_26.toInt - 1 := by rw [ezi6]; have : ((1 : Int32).toInt) = 1 := (by decide); have := ia_lo fv0_26; have := ia_hi fv0_26; exact (ia_sub (by omega) (by omega)).trans (by omega)
    refine lv_i2l (v := (zi6).toInt64) hx hb dX12_inDraft_16 rfl ?_
    refine tw_topl (fun zl7 ezl7 => ?_)
    have hzl7 : zl7.toInt = zi6.toInt := by rw [ezl7];  exact (Int32.toInt_toInt64 _)
    refine tw_Sc (n := 3) (post := (fun v kq Lq Eq => (∃ x : Int32, v = some (.int x) ∧ 0 ≤ x.toInt ∧ x.toInt ≤ 1 ∧ (x.toInt ≠ 0 → zl5.toInt ≤ zl4.toInt ∧ zl4.toInt ≤ zl7.toInt)) ∧ kp = kq ∧ L = Lq ∧ E = Eq)) (As := [.long zl4, .long zl5, .long zl7]) (rest := []) ⟨hx, hb, hml, hown, hB⟩ (fun sz => tX12_in l D cs zl4 zl5 zl7  sz) cg_12_171_X12_in rfl rfl (by decide +kernel) ⟨Nat.le_of_ble_eq_true rfl, Nat.le_of_ble_eq_true rfl⟩ hK hN TH hS hA rfl hl.1 rfl (Nat.le_of_ble_eq_true rfl) dX12_inDraft_17 ⟨Nat.le_of_ble_eq_true rfl, Nat.le_of_ble_eq_true rfl⟩ (fun v8 kp8 L8 E8 H locs hq8 hx8 TH hS => ?_)
    obtain ⟨⟨xc9, rfl, hxc9a, hxc9b, hpoxc9_0⟩, rfl, rfl, rfl⟩ := hq8
    refine W.eq (g2 := F0 m 20 ls [.int xc9]) rfl ?_
    refine lv_if_eq (tgt := 39) hx hb dX12_inDraft_20 (by decide) (fun hc10 => ?_) (fun hc10 => ?_)
    · have hf11 : xc9.toInt = 0 := by have z := (fa_eq _ _).mp hc10; have : ((0 : Int32).toInt) = 0 := (by decide); omega
      refine lv_iconst (v := 0) hx hb dX12_inDraft_39 (by decide) ?_
      exact tw_zret hx hb hr hlocks (by decide) TH hS hex ⟨⟨_, rfl, (show 0 ≤ Int32.toInt 0 from by have : ((0 : Int32).toInt) = 0 := (by decide); omega), (show Int32.toInt 0 ≤ 1 from by have : ((0 : Int32).toInt) = 0 := (by decide); omega), (by have : ((0 : Int32).toInt) = 0 := (by decide); omega), (by have : ((0 : Int32).toInt) = 0 := (by decide); intro q; exfalso; exact q (by decide))⟩, rfl, rfl, rfl⟩ (Nat.le_of_ble_eq_true rfl) (Nat.le_of_ble_eq_true rfl) dX12_inDraft_40
    · have hf12 : ¬ (xc9.toInt = 0) := fun q => hc10 ((fa_eq _ _).mpr (by have : ((0 : Int32).toInt) = 0 := (by decide); omega))
      refine lv_aload_n hx hb dX12_inDraft_23 rfl (lv_at hl 0 rfl) ?_
      refine tw_get (ci := 12) (C := RX12) (T := TX12) (N := 64) hx hb hB cx_inX12 hown hK TH hm0 hk0 rfl ⟨by decide, rfl⟩ 16 (by decide) cw_1209 (fun _ h9 => h9) dX12_inDraft_24 (fun hv => ?_)
      obtain ⟨xr13, hxr13, hmxr13, hkxr13⟩ : ∃ a : Nat, tw_fv E a0 16 = .ref a ∧ a ∈ L ∧ kp a = 316 := hv
      rw [hxr13]
      refine lv_bipush (v := 12) hx hb dX12_inDraft_27 (by decide) ?_
      refine tw_aald (k := 316) (t0 := 5) (n := 16) (lo := 326) (hi := 0) (ty := .boolean) hx hb hK TH hmxr13 hkxr13 (by decide) rfl rfl (i := 12) (vp_in_iff.mpr ⟨by have : ((12 : Int32).toInt) = 12 := (by decide); omega, by have : ((12 : Int32).toInt) = 12 := (by decide); omega⟩) dX12_inDraft_29 (fun xr14 exr14 hmxr14 hkxr14 => ?_)
      have hkxr14 : kp xr14 = 326 := hkxr14
      refine lv_iload_n hx hb dX12_inDraft_30 rfl (lv_at hl 1 rfl) ?_
      refine tw_zald (k := 326) (t0 := 3) (n := 150) (lo := 0) (hi := 1) hx hb hK TH hmxr14 hkxr14 (by decide) rfl rfl (i := x1) (vp_in_iff.mpr ⟨by  omega, by  omega⟩) dX12_inDraft_31 (fun hxe15a hxe15b => ?_)
      obtain ⟨xe15, exe15⟩ : ∃ z : Int32, tw_iv E xr14 (Int32.toNatClampNeg x1) = z := ⟨_, rfl⟩
      rw [exe15] at hxe15a hxe15b ⊢
      refine lv_if_eq (tgt := 39) hx hb dX12_inDraft_32 (by decide) (fun hc16 => ?_) (fun hc16 => ?_)
      · have hf17 : xe15.toInt = 0 := by have z := (fa_eq _ _).mp hc16; have : ((0 : Int32).toInt) = 0 := (by decide); omega
        refine lv_iconst (v := 0) hx hb dX12_inDraft_39 (by decide) ?_
        exact tw_zret hx hb hr hlocks (by decide) TH hS hex ⟨⟨_, rfl, (show 0 ≤ Int32.toInt 0 from by have : ((0 : Int32).toInt) = 0 := (by decide); omega), (show Int32.toInt 0 ≤ 1 from by have : ((0 : Int32).toInt) = 0 := (by decide); omega), (by have : ((0 : Int32).toInt) = 0 := (by decide); omega), (by have : ((0 : Int32).toInt) = 0 := (by decide); intro q; exfalso; exact q (by decide))⟩, rfl, rfl, rfl⟩ (Nat.le_of_ble_eq_true rfl) (Nat.le_of_ble_eq_true rfl) dX12_inDraft_40
      · have hf18 : ¬ (xe15.toInt = 0) := fun q => hc16 ((fa_eq _ _).mpr (by have : ((0 : Int32).toInt) = 0 := (by decide); omega))
        refine lv_iconst (v := 1) hx hb dX12_inDraft_35 (by decide) ?_
        refine lv_goto (tgt := 40) hx hb dX12_inDraft_36 (by decide) ?_
        exact tw_zret hx hb hr hlocks (by decide) TH hS hex ⟨⟨_, rfl, (show 0 ≤ Int32.toInt 1 from by have : ((1 : Int32).toInt) = 1 := (by decide); omega), (show Int32.toInt 1 ≤ 1 from by have : ((1 : Int32).toInt) = 1 := (by decide); omega), (by have : ((1 : Int32).toInt) = 1 := (by decide); omega), (by have : ((1 : Int32).toInt) = 1 := (by decide); have rf_xe15 : rw_h E a0 (12) (x1.toInt).toNat = xe15.toInt := (by have q := rw_h_of (m := a0) (i := (12 : Int32)) (c := x1) hxr13 exr14 exe15; rw [show ((12 : Int32).toInt) = 12 from (by decide)] at q; exact q); intro _; rw [rf_xe15]; omega)⟩, rfl, rfl, rfl⟩ (Nat.le_of_ble_eq_true rfl) (Nat.le_of_ble_eq_true rfl) dX12_inDraft_40
set_option maxHeartbeats 4000000 in
set_option maxRecDepth 100000 in
theorem tX12_isGood (l : Launch) (D : va_G) (cs : Nat → ClassId) {kp : Nat → Nat} {L : List Nat} {E : Nat → va_E} (x0 : Int64)  (sz : Nat) : Met l yX12_isGood (.code yX12_isGood cX12_isGood 4 (some .boolean) :: cx_big) { frames := 2, cells := 0, slots := 0, locals := 40 } (tw_P D cs kp L E [.long x0] sz) (tw_Q D cs kp L (fun v kq Lq Eq => (∃ x : Int32, v = some (.int x) ∧ 0 ≤ x.toInt ∧ x.toInt ≤ 1) ∧ kp = kq ∧ L = Lq ∧ E = Eq) (va_A (va_pl L E) sz)) 0 0 (va_A (va_pl L E) sz) := by
  refine tw_ofW (by decide) (Nat.le_of_ble_eq_true rfl) ?_
  intro p e s m below meth c A ls hx hb hr hml hB hown hlocks hK hN hA TH hS hl
  have hown : s.vm.findClass "TreeMergeModel" = some m.cls := hown
  have hl : lv_has ls 4 [(0, .long x0)] := hl
  obtain ⟨kp0, ekp⟩ : ∃ z, z = kp := ⟨_, rfl⟩
  obtain ⟨L0, eL⟩ : ∃ z, z = L := ⟨_, rfl⟩
  rw [show tw_Q D cs kp L = tw_Q D cs kp0 L0 by rw [ekp, eL]]
  have hex : ∀ a : Nat, a ∈ L0 → a ∈ L ∧ kp a = kp0 a := fun a h => ⟨by rw [← eL]; exact h, by rw [ekp]⟩
  refine lv_iconst (v := 0) hx hb dX12_isGood_0 (by decide) ?_
  refine lv_istore_n (lv' := [(2, .int 0), (0, .long x0)]) hx hb dX12_isGood_1 rfl hl (by decide) rfl (fun ls hl => ?_)
  have hJ2 : ∀ (n2 : Nat) (y2_2 : Int32) (H : Heap) (locs : List Loc) (ls : Array Slot), 0 ≤ y2_2.toInt → y2_2.toInt ≤ 8 → 8 - y2_2.toInt ≤ (n2 : Int) → tw_H D cs kp L E A H → va_S A s.heap H locs → lv_has ls 4 [(2, .int y2_2), (0, .long x0)] → W p l e { frames := 2, cells := 0, slots := 0, locals := 40 } s m [.long x0].toArray below meth c H locs 0 0 (MQ below (tw_Q D cs kp0 L0 (fun v kq Lq Eq => (∃ x : Int32, v = some (.int x) ∧ 0 ≤ x.toInt ∧ x.toInt ≤ 1) ∧ kp = kq ∧ L = Lq ∧ E = Eq) A) [.long x0].toArray s 0 0 A) (F0 m 2 ls []) := by
    intro n2
    induction n2 using Nat.strongRecOn with
    | _ n2 ih2 =>
      intro y2_2 H locs ls hy2_2a hy2_2b hmeas2 TH hS hl
      refine lv_iload_n hx hb dX12_isGood_2 rfl (lv_at hl 0 rfl) ?_
      refine lv_bipush (v := 8) hx hb dX12_isGood_3 (by decide) ?_
      refine lv_icmp_ge (tgt := 39) hx hb dX12_isGood_5 (by decide) (fun hc1 => ?_) (fun hc1 => ?_)
      · have hf2 : 8 ≤ y2_2.toInt := by have z := (fa_le _ _).mp hc1; have : ((8 : Int32).toInt) = 8 := (by decide); omega
        refine lv_iconst (v := 1) hx hb dX12_isGood_39 (by decide) ?_
        exact tw_zret hx hb hr hlocks (by decide) TH hS hex ⟨⟨_, rfl, (show 0 ≤ Int32.toInt 1 from by have : ((1 : Int32).toInt) = 1 := (by decide); omega), (show Int32.toInt 1 ≤ 1 from by have : ((1 : Int32).toInt) = 1 := (by decide); omega)⟩, rfl, rfl, rfl⟩ (Nat.le_of_ble_eq_true rfl) (Nat.le_of_ble_eq_true rfl) dX12_isGood_40
      · have hf3 : ¬ (8 ≤ y2_2.toInt) := fun q => hc1 ((fa_le _ _).mpr (by have : ((8 : Int32).toInt) = 8 := (by decide); omega))
        refine lv_lload_n hx hb dX12_isGood_8 rfl (lv_at hl 1 rfl) ?_
        refine lv_bipush (v := 8) hx hb dX12_isGood_9 (by decide) ?_
        refine lv_iload_n hx hb dX12_isGood_11 rfl (lv_at hl 0 rfl) ?_
        refine lv_imul hx hb dX12_isGood_12 ?_
        refine lv_topi (fun zi4 ezi4 => ?_)
        have hzi4 : zi4.toInt = 8 * y2_2.toInt := by rw [ezi4]; exact (ia_mul (by have hc : ((8 : Int32).toInt) = 8 := (by decide); rw [hc]; omega) (by have hc : ((8 : Int32).toInt) = 8 := (by decide); rw [hc]; omega)).trans (by have hc : ((8 : Int32).toInt) = 8 := (by decide); rw [hc])
        refine lv_lushr (v := ((x0).toUInt64 >>> (((zi4 : Int32)).toInt64.toUInt64 &&& Int64.toUInt64 63)).toInt64) hx hb dX12_isGood_13 rfl ?_
        refine tw_topl (fun zl5 ezl5 => ?_)
        refine lv_ldc2 hx hb hown (hB _ cw_1679) dX12_isGood_14 ?_
        refine lv_land hx hb dX12_isGood_17 ?_
        refine tw_topl (fun zl6 ezl6 => ?_)
        refine lv_l2i (v := (zl6).toInt32) hx hb dX12_isGood_18 rfl ?_
        refine lv_topi (fun zi7 ezi7 => ?_)
        refine lv_istore_n (lv' := [(3, .int zi7), (2, .int y2_2), (0, .long x0)]) hx hb dX12_isGood_19 rfl hl (by decide) rfl (fun ls hl => ?_)
        refine lv_iload_n hx hb dX12_isGood_20 rfl (lv_at hl 0 rfl) ?_
        have hJ33 : ∀  (H : Heap) (locs : List Loc) (ls : Array Slot), tw_H D cs kp L E A H → va_S A s.heap H locs → lv_has ls 4 [(2, .int y2_2), (0, .long x0)] → W p l e { frames := 2, cells := 0, slots := 0, locals := 40 } s m [.long x0].toArray below meth c H locs 0 0 (MQ below (tw_Q D cs kp0 L0 (fun v kq Lq Eq => (∃ x : Int32, v = some (.int x) ∧ 0 ≤ x.toInt ∧ x.toInt ≤ 1) ∧ kp = kq ∧ L = Lq ∧ E = Eq) A) [.long x0].toArray s 0 0 A) (F0 m 33 ls []) := by
          intro H locs ls TH hS hl
          obtain ⟨zi8, ezi8⟩ : ∃ z : Int32, z = y2_2 + Int32.ofInt 1 := ⟨_, rfl⟩
          have hzi8 : zi8.toInt = y2_2.toInt + 1 := by rw [ezi8]; have : ((Int32.ofInt 1).toInt) = 1 := (by decide);  exact (ia_add (by omega) (by omega)).trans (by omega)
          refine lv_iinc (v := zi8) (lv' := [(2, .int zi8), (0, .long x0)]) hx hb dX12_isGood_33 hl (k := 0) rfl ezi8.symm (by decide) rfl (fun ls hl => ?_)
          refine lv_goto (tgt := 2) hx hb dX12_isGood_36 (by decide) ?_
          exact ih2 (n2 - 1) (by   omega) zi8 _ _ ls (by omega) (by omega) (by   omega) TH hS (lv_sub hl [0, 1] rfl)
        refine lv_if_eq (tgt := 33) hx hb dX12_isGood_21 (by decide) (fun hc9 => ?_) (fun hc9 => ?_)
        · have hf10 : zi7.toInt = 0 := by have z := (fa_eq _ _).mp hc9; have : ((0 : Int32).toInt) = 0 := (by decide); omega
          exact hJ33  _ _ ls  TH hS (lv_sub hl [1, 2] rfl)
        · have hf11 : ¬ (zi7.toInt = 0) := fun q => hc9 ((fa_eq _ _).mpr (by have : ((0 : Int32).toInt) = 0 := (by decide); omega))
          refine lv_iload_n hx hb dX12_isGood_24 rfl (lv_at hl 0 rfl) ?_
          refine tw_Sc (n := 1) (post := (fun v kq Lq Eq => (∃ x : Int32, v = some (.int x) ∧ 0 ≤ x.toInt ∧ x.toInt ≤ 1) ∧ kp = kq ∧ L = Lq ∧ E = Eq)) (As := [.int zi7]) (rest := []) ⟨hx, hb, hml, hown, hB⟩ (fun sz => tX12_isOfWord l D cs zi7  sz) cg_12_185_X12_isOfWord rfl rfl (by decide +kernel) ⟨Nat.le_of_ble_eq_true rfl, Nat.le_of_ble_eq_true rfl⟩ hK hN TH hS hA rfl hl.1 rfl (Nat.le_of_ble_eq_true rfl) dX12_isGood_25 ⟨Nat.le_of_ble_eq_true rfl, Nat.le_of_ble_eq_true rfl⟩ (fun v12 kp12 L12 E12 H locs hq12 hx12 TH hS => ?_)
          obtain ⟨⟨xc13, rfl, hxc13a, hxc13b⟩, rfl, rfl, rfl⟩ := hq12
          refine W.eq (g2 := F0 m 28 ls [.int xc13]) rfl ?_
          refine lv_if_ne (tgt := 33) hx hb dX12_isGood_28 (by decide) (fun hc14 => ?_) (fun hc14 => ?_)
          · have hf15 : ¬ (xc13.toInt = 0) := fun q => hc14 ((fa_eq _ _).mpr (by have : ((0 : Int32).toInt) = 0 := (by decide); omega))
            exact hJ33  _ _ ls  TH hS (lv_sub hl [1, 2] rfl)
          · have hf16 : xc13.toInt = 0 := by have z := (fa_eq _ _).mp hc14; have : ((0 : Int32).toInt) = 0 := (by decide); omega
            refine lv_iconst (v := 0) hx hb dX12_isGood_31 (by decide) ?_
            exact tw_zret hx hb hr hlocks (by decide) TH hS hex ⟨⟨_, rfl, (show 0 ≤ Int32.toInt 0 from by have : ((0 : Int32).toInt) = 0 := (by decide); omega), (show Int32.toInt 0 ≤ 1 from by have : ((0 : Int32).toInt) = 0 := (by decide); omega)⟩, rfl, rfl, rfl⟩ (Nat.le_of_ble_eq_true rfl) (Nat.le_of_ble_eq_true rfl) dX12_isGood_32
  exact hJ2 9 (0 : Int32) _ _ ls (by have : ((0 : Int32).toInt) = 0 := (by decide); omega) (by have : ((0 : Int32).toInt) = 0 := (by decide); omega) (by have : ((0 : Int32).toInt) = 0 := (by decide);  omega) TH hS (lv_sub hl [0, 1] rfl)
set_option maxHeartbeats 4000000 in
set_option maxRecDepth 100000 in
theorem tX12_packed (l : Launch) (D : va_G) (cs : Nat → ClassId) {kp : Nat → Nat} {L : List Nat} {E : Nat → va_E} (x0 : Int64)  (sz : Nat) : Met l yX12_packed (.code yX12_packed cX12_packed 7 (some .long) :: cx_big) { frames := 0, cells := 0, slots := 0, locals := 0 } (tw_P D cs kp L E [.long x0] sz) (tw_Q D cs kp L (fun v kq Lq Eq => (∃ x : Int64, v = some (.long x)) ∧ kp = kq ∧ L = Lq ∧ E = Eq) (va_A (va_pl L E) sz)) 0 0 (va_A (va_pl L E) sz) := by
  refine tw_ofW (by decide) (Nat.le_of_ble_eq_true rfl) ?_
  intro p e s m below meth c A ls hx hb hr hml hB hown hlocks hK hN hA TH hS hl
  have hown : s.vm.findClass "TreeMergeModel" = some m.cls := hown
  have hl : lv_has ls 7 [(0, .long x0)] := hl
  obtain ⟨kp0, ekp⟩ : ∃ z, z = kp := ⟨_, rfl⟩
  obtain ⟨L0, eL⟩ : ∃ z, z = L := ⟨_, rfl⟩
  rw [show tw_Q D cs kp L = tw_Q D cs kp0 L0 by rw [ekp, eL]]
  have hex : ∀ a : Nat, a ∈ L0 → a ∈ L ∧ kp a = kp0 a := fun a h => ⟨by rw [← eL]; exact h, by rw [ekp]⟩
  refine lv_lconst (v := 0) hx hb dX12_packed_0 (by decide) ?_
  refine tw_topl (fun zl1 ezl1 => ?_)
  have hzl1 : zl1.toInt = 0 := by rw [ezl1]; decide
  refine lv_lstore_n (lv' := [(2, .long zl1), (0, .long x0)]) hx hb dX12_packed_1 rfl hl (by decide) rfl (fun ls hl => ?_)
  refine lv_bipush (v := 7) hx hb dX12_packed_2 (by decide) ?_
  refine lv_istore (lv' := [(4, .int 7), (2, .long zl1), (0, .long x0)]) hx hb dX12_packed_4 hl (by decide) rfl (fun ls hl => ?_)
  have hJ6 : ∀ (n6 : Nat) (y6_4 : Int32) (y6_2 : Int64) (H : Heap) (locs : List Loc) (ls : Array Slot), (-1) ≤ y6_4.toInt → y6_4.toInt ≤ 7 → y6_4.toInt - (-1) ≤ (n6 : Int) → tw_H D cs kp L E A H → va_S A s.heap H locs → lv_has ls 7 [(4, .int y6_4), (2, .long y6_2), (0, .long x0)] → W p l e { frames := 0, cells := 0, slots := 0, locals := 0 } s m [.long x0].toArray below meth c H locs 0 0 (MQ below (tw_Q D cs kp0 L0 (fun v kq Lq Eq => (∃ x : Int64, v = some (.long x)) ∧ kp = kq ∧ L = Lq ∧ E = Eq) A) [.long x0].toArray s 0 0 A) (F0 m 6 ls []) := by
    intro n6
    induction n6 using Nat.strongRecOn with
    | _ n6 ih6 =>
      intro y6_4 y6_2 H locs ls hy6_4a hy6_4b hmeas6 TH hS hl
      refine lv_iload hx hb dX12_packed_6 (lv_at hl 0 rfl) ?_
      refine lv_if_lt (tgt := 49) hx hb dX12_packed_8 (by decide) (fun hc2 => ?_) (fun hc2 => ?_)
      · have hf3 : y6_4.toInt < 0 := by have z := (fa_lt _ _).mp hc2; have : ((0 : Int32).toInt) = 0 := (by decide); omega
        refine lv_lload_n hx hb dX12_packed_49 rfl (lv_at hl 1 rfl) ?_
        exact tw_lret hx hb hr hlocks TH hS hex ⟨⟨_, rfl⟩, rfl, rfl, rfl⟩ (Nat.le_of_ble_eq_true rfl) (Nat.le_of_ble_eq_true rfl) dX12_packed_50
      · have hf4 : ¬ (y6_4.toInt < 0) := fun q => hc2 ((fa_lt _ _).mpr (by have : ((0 : Int32).toInt) = 0 := (by decide); omega))
        refine lv_lload_n hx hb dX12_packed_11 rfl (lv_at hl 2 rfl) ?_
        refine lv_bipush (v := 8) hx hb dX12_packed_12 (by decide) ?_
        refine lv_iload hx hb dX12_packed_14 (lv_at hl 0 rfl) ?_
        refine lv_imul hx hb dX12_packed_16 ?_
        refine lv_topi (fun zi5 ezi5 => ?_)
        have hzi5 : zi5.toInt = 8 * y6_4.toInt := by rw [ezi5]; exact (ia_mul (by have hc : ((8 : Int32).toInt) = 8 := (by decide); rw [hc]; omega) (by have hc : ((8 : Int32).toInt) = 8 := (by decide); rw [hc]; omega)).trans (by have hc : ((8 : Int32).toInt) = 8 := (by decide); rw [hc])
        refine lv_lushr (v := ((x0).toUInt64 >>> (((zi5 : Int32)).toInt64.toUInt64 &&& Int64.toUInt64 63)).toInt64) hx hb dX12_packed_17 rfl ?_
        refine tw_topl (fun zl6 ezl6 => ?_)
        refine lv_ldc2 hx hb hown (hB _ cw_1679) dX12_packed_18 ?_
        refine lv_land hx hb dX12_packed_21 ?_
        refine tw_topl (fun zl7 ezl7 => ?_)
        refine lv_lstore (lv' := [(5, .long zl7), (4, .int y6_4), (2, .long y6_2), (0, .long x0)]) hx hb dX12_packed_22 hl (by decide) rfl (fun ls hl => ?_)
        refine lv_lload hx hb dX12_packed_24 (lv_at hl 0 rfl) ?_
        refine lv_lconst (v := 0) hx hb dX12_packed_26 (by decide) ?_
        refine tw_topl (fun zl8 ezl8 => ?_)
        have hzl8 : zl8.toInt = 0 := by rw [ezl8]; decide
        refine W.lcmp hx hb dX12_packed_27 ?_
        have hzi9 := ia_lc zl7 zl8
        generalize lg_cmp zl7 zl8 = zi9 at hzi9 ⊢
        have hJ42 : ∀ (z42_0 : Int64) (H : Heap) (locs : List Loc) (ls : Array Slot), tw_H D cs kp L E A H → va_S A s.heap H locs → lv_has ls 7 [(4, .int y6_4), (0, .long x0)] → W p l e { frames := 0, cells := 0, slots := 0, locals := 0 } s m [.long x0].toArray below meth c H locs 0 0 (MQ below (tw_Q D cs kp0 L0 (fun v kq Lq Eq => (∃ x : Int64, v = some (.long x)) ∧ kp = kq ∧ L = Lq ∧ E = Eq) A) [.long x0].toArray s 0 0 A) (F0 m 42 ls [.long z42_0]) := by
          intro z42_0 H locs ls TH hS hl
          refine lv_lstore_n (lv' := [(2, .long z42_0), (4, .int y6_4), (0, .long x0)]) hx hb dX12_packed_42 rfl hl (by decide) rfl (fun ls hl => ?_)
          obtain ⟨zi10, ezi10⟩ : ∃ z : Int32, z = y6_4 + Int32.ofInt (-1) := ⟨_, rfl⟩
          have hzi10 : zi10.toInt = y6_4.toInt + (-1) := by rw [ezi10]; have : ((Int32.ofInt (-1)).toInt) = (-1) := (by decide);  exact (ia_add (by omega) (by omega)).trans (by omega)
          refine lv_iinc (v := zi10) (lv' := [(4, .int zi10), (2, .long z42_0), (0, .long x0)]) hx hb dX12_packed_43 hl (k := 1) rfl ezi10.symm (by decide) rfl (fun ls hl => ?_)
          refine lv_goto (tgt := 6) hx hb dX12_packed_46 (by decide) ?_
          exact ih6 (n6 - 1) (by   omega) zi10 z42_0 _ _ ls (by omega) (by omega) (by   omega) TH hS (lv_sub hl [0, 1, 2] rfl)
        refine lv_if_ne (tgt := 35) hx hb dX12_packed_28 (by decide) (fun hc11 => ?_) (fun hc11 => ?_)
        · have hf12 : ¬ (zi9.toInt = 0) := fun q => hc11 ((fa_eq _ _).mpr (by have : ((0 : Int32).toInt) = 0 := (by decide); omega))
          refine lv_lload_n hx hb dX12_packed_35 rfl (lv_at hl 2 rfl) ?_
          refine lv_bipush (v := 8) hx hb dX12_packed_36 (by decide) ?_
          refine lv_lshl (v := ((y6_2) <<< (((8 : Int32)).toInt64 &&& 63))) hx hb dX12_packed_38 rfl ?_
          refine tw_topl (fun zl13 ezl13 => ?_)
          refine lv_lload hx hb dX12_packed_39 (lv_at hl 0 rfl) ?_
          refine lv_lor hx hb dX12_packed_41 ?_
          refine tw_topl (fun zl14 ezl14 => ?_)
          exact hJ42 zl14 _ _ ls  TH hS (lv_sub hl [1, 3] rfl)
        · have hf15 : zi9.toInt = 0 := by have z := (fa_eq _ _).mp hc11; have : ((0 : Int32).toInt) = 0 := (by decide); omega
          refine lv_lload_n hx hb dX12_packed_31 rfl (lv_at hl 2 rfl) ?_
          refine lv_goto (tgt := 42) hx hb dX12_packed_32 (by decide) ?_
          exact hJ42 y6_2 _ _ ls  TH hS (lv_sub hl [1, 3] rfl)
  exact hJ6 9 (7 : Int32) zl1 _ _ ls (by have : ((7 : Int32).toInt) = 7 := (by decide); omega) (by have : ((7 : Int32).toInt) = 7 := (by decide); omega) (by have : ((7 : Int32).toInt) = 7 := (by decide);  omega) TH hS (lv_sub hl [0, 1, 2] rfl)
set_option maxHeartbeats 4000000 in
set_option maxRecDepth 100000 in
theorem tX12_unsettle (l : Launch) (D : va_G) (cs : Nat → ClassId) {kp : Nat → Nat} {L : List Nat} {E : Nat → va_E} (a0 : Nat) (hm0 : a0 ∈ L) (hk0 : kp a0 = 12) (sz : Nat) : Met l yX12_unsettle (.code yX12_unsettle cX12_unsettle 2 (some .int) :: cx_big) { frames := 0, cells := 0, slots := 0, locals := 0 } (tw_P D cs kp L E [.ref a0] sz) (tw_Q D cs kp L (fun v kq Lq Eq => (∃ x : Int32, v = some (.int x)) ∧ kp = kq ∧ L = Lq ∧ tw_fr kp L [(12, 58)] [] E Eq) (va_A (va_pl L E) sz)) 0 0 (va_A (va_pl L E) sz) := by
  refine tw_ofW (by decide) (Nat.le_of_ble_eq_true rfl) ?_
  intro p e s m below meth c A ls hx hb hr hml hB hown hlocks hK hN hA TH hS hl
  have hown : s.vm.findClass "TreeMergeModel" = some m.cls := hown
  have hl : lv_has ls 2 [(0, .ref a0)] := hl
  obtain ⟨kp0, ekp⟩ : ∃ z, z = kp := ⟨_, rfl⟩
  obtain ⟨L0, eL⟩ : ∃ z, z = L := ⟨_, rfl⟩
  rw [show tw_Q D cs kp L = tw_Q D cs kp0 L0 by rw [ekp, eL]]
  have hex : ∀ a : Nat, a ∈ L0 → a ∈ L ∧ kp a = kp0 a := fun a h => ⟨by rw [← eL]; exact h, by rw [ekp]⟩
  have hF : tw_fr kp L [(12, 58)] [] E E := tw_fr.rf
  refine lv_aload_n hx hb dX12_unsettle_0 rfl (lv_at hl 0 rfl) ?_
  refine tw_get (ci := 12) (C := RX12) (T := TX12) (N := 64) hx hb hB cx_inX12 hown hK TH hm0 hk0 rfl ⟨by decide, rfl⟩ 58 (by decide) cw_1251 (fun _ h9 => h9) dX12_unsettle_1 (fun hv => ?_)
  obtain ⟨xi1, hxi1, hxi1a, hxi1b⟩ : ∃ x : Int32, tw_fv E a0 58 = .int x ∧ 0 ≤ x.toInt ∧ x.toInt ≤ 450 := hv
  rw [hxi1]
  refine lv_istore_n (lv' := [(1, .int xi1), (0, .ref a0)]) hx hb dX12_unsettle_4 rfl hl (by decide) rfl (fun ls hl => ?_)
  refine lv_aload_n hx hb dX12_unsettle_5 rfl (lv_at hl 1 rfl) ?_
  refine lv_iconst (v := 0) hx hb dX12_unsettle_6 (by decide) ?_
  refine tw_put (ci := 12) (v := .int 0) (ty := .int) (C := RX12) (T := TX12) (N := 64) hx hb hB cx_inX12 tyX12 tyX12_ok nmX12 hown hK TH hS hm0 hk0 rfl ⟨by decide, rfl⟩ 58 (by decide) cw_1251 (fun _ h9 => h9) rfl (by decide +kernel) rfl rfl ⟨_, rfl, (show 0 ≤ Int32.toInt 0 from by have : ((0 : Int32).toInt) = 0 := (by decide); omega), (show Int32.toInt 0 ≤ 450 from by have : ((0 : Int32).toInt) = 0 := (by decide); omega)⟩ dX12_unsettle_7 (fun H locs E2 TH hS hmf6 hp3 hp4 => ?_)
  have hst5 : tw_fr kp L [(12, 58)] [] E E2 := tw_fr.put tw_fr.rf (fun _ => hk0) (by decide) hp3 hp4 (by decide)
  have hF := hF.tr hst5 (fun _ h => ⟨h, rfl⟩) (by decide) (by decide)
  refine lv_iload_n hx hb dX12_unsettle_10 rfl (lv_at hl 0 rfl) ?_
  exact tw_iret hx hb hr hlocks TH hS hex ⟨⟨_, rfl⟩, rfl, rfl, hF⟩ (Nat.le_of_ble_eq_true rfl) (Nat.le_of_ble_eq_true rfl) dX12_unsettle_11
set_option maxHeartbeats 4000000 in
set_option maxRecDepth 100000 in
theorem tX12_settledFor (l : Launch) (D : va_G) (cs : Nat → ClassId) {kp : Nat → Nat} {L : List Nat} {E : Nat → va_E} (a0 : Nat) (x1 : Int32) (x2 : Int32) (x3 : Int32) (x4 : Int32) (hm0 : a0 ∈ L) (hk0 : kp a0 = 12) (sz : Nat) : Met l yX12_settledFor (.code yX12_settledFor cX12_settledFor 6 (some .int) :: cx_big) { frames := 0, cells := 0, slots := 0, locals := 0 } (tw_P D cs kp L E [.ref a0, .int x1, .int x2, .int x3, .int x4] sz) (tw_Q D cs kp L (fun v kq Lq Eq => (∃ x : Int32, v = some (.int x) ∧ (-1) ≤ x.toInt ∧ x.toInt ≤ 11 ∧ (x.toInt = -1 ↔ st_ns E a0 x1.toInt x2.toInt x3.toInt x4.toInt)) ∧ kp = kq ∧ L = Lq ∧ E = Eq) (va_A (va_pl L E) sz)) 0 0 (va_A (va_pl L E) sz) := by
  refine tw_ofW (by decide) (Nat.le_of_ble_eq_true rfl) ?_
  intro p e s m below meth c A ls hx hb hr hml hB hown hlocks hK hN hA TH hS hl
  have hown : s.vm.findClass "TreeMergeModel" = some m.cls := hown
  have hl : lv_has ls 6 [(0, .ref a0), (1, .int x1), (2, .int x2), (3, .int x3), (4, .int x4)] := hl
  obtain ⟨kp0, ekp⟩ : ∃ z, z = kp := ⟨_, rfl⟩
  obtain ⟨L0, eL⟩ : ∃ z, z = L := ⟨_, rfl⟩
  rw [show tw_Q D cs kp L = tw_Q D cs kp0 L0 by rw [ekp, eL]]
  have hex : ∀ a : Nat, a ∈ L0 → a ∈ L ∧ kp a = kp0 a := fun a h => ⟨by rw [← eL]; exact h, by rw [ekp]⟩
  refine lv_iconst (v := 0) hx hb dX12_settledFor_0 (by decide) ?_
  refine lv_istore (lv' := [(5, .int 0), (0, .ref a0), (1, .int x1), (2, .int x2), (3, .int x3), (4, .int x4)]) hx hb dX12_settledFor_1 hl (by decide) rfl (fun ls hl => ?_)
  have hJ3 : ∀ (n3 : Nat) (y3_5 : Int32) (H : Heap) (locs : List Loc) (ls : Array Slot), 0 ≤ y3_5.toInt → y3_5.toInt ≤ 450 → (st_nk E a0 (x1.toInt) (x2.toInt) (x3.toInt) (x4.toInt) (y3_5.toInt)) → 450 - y3_5.toInt ≤ (n3 : Int) → tw_H D cs kp L E A H → va_S A s.heap H locs → lv_has ls 6 [(5, .int y3_5), (0, .ref a0), (1, .int x1), (2, .int x2), (3, .int x3), (4, .int x4)] → W p l e { frames := 0, cells := 0, slots := 0, locals := 0 } s m [.ref a0, .int x1, .int x2, .int x3, .int x4].toArray below meth c H locs 0 0 (MQ below (tw_Q D cs kp0 L0 (fun v kq Lq Eq => (∃ x : Int32, v = some (.int x) ∧ (-1) ≤ x.toInt ∧ x.toInt ≤ 11 ∧ (x.toInt = -1 ↔ st_ns E a0 x1.toInt x2.toInt x3.toInt x4.toInt)) ∧ kp = kq ∧ L = Lq ∧ E = Eq) A) [.ref a0, .int x1, .int x2, .int x3, .int x4].toArray s 0 0 A) (F0 m 3 ls []) := by
    intro n3
    induction n3 using Nat.strongRecOn with
    | _ n3 ih3 =>
      intro y3_5 H locs ls hy3_5a hy3_5b hin3_0 hmeas3 TH hS hl
      refine lv_iload hx hb dX12_settledFor_3 (lv_at hl 0 rfl) ?_
      refine lv_aload_n hx hb dX12_settledFor_5 rfl (lv_at hl 1 rfl) ?_
      refine tw_get (ci := 12) (C := RX12) (T := TX12) (N := 64) hx hb hB cx_inX12 hown hK TH hm0 hk0 rfl ⟨by decide, rfl⟩ 58 (by decide) cw_1251 (fun _ h9 => h9) dX12_settledFor_6 (fun hv => ?_)
      obtain ⟨xi1, hxi1, hxi1a, hxi1b⟩ : ∃ x : Int32, tw_fv E a0 58 = .int x ∧ 0 ≤ x.toInt ∧ x.toInt ≤ 450 := hv
      rw [hxi1]
      refine lv_icmp_ge (tgt := 71) hx hb dX12_settledFor_9 (by decide) (fun hc2 => ?_) (fun hc2 => ?_)
      · have hf3 : xi1.toInt ≤ y3_5.toInt := by have z := (fa_le _ _).mp hc2;  omega
        refine lv_iconst (v := (-1)) hx hb dX12_settledFor_71 (by decide) ?_
        exact tw_iret hx hb hr hlocks TH hS hex ⟨⟨_, rfl, (show (-1) ≤ Int32.toInt (-1) from by have : (((-1) : Int32).toInt) = (-1) := (by decide); omega), (show Int32.toInt (-1) ≤ 11 from by have : (((-1) : Int32).toInt) = (-1) := (by decide); omega), (by have : (((-1) : Int32).toInt) = (-1) := (by decide); refine ⟨fun _ => ?_, fun _ => by decide⟩; unfold st_ns; rw [tw_fi_of hxi1]; intro j hj; exact hin3_0 j (by omega))⟩, rfl, rfl, rfl⟩ (Nat.le_of_ble_eq_true rfl) (Nat.le_of_ble_eq_true rfl) dX12_settledFor_72
      · have hf4 : ¬ (xi1.toInt ≤ y3_5.toInt) := fun q => hc2 ((fa_le _ _).mpr (by  omega))
        refine lv_aload_n hx hb dX12_settledFor_12 rfl (lv_at hl 1 rfl) ?_
        refine tw_get (ci := 12) (C := RX12) (T := TX12) (N := 64) hx hb hB cx_inX12 hown hK TH hm0 hk0 rfl ⟨by decide, rfl⟩ 54 (by decide) cw_1247 (fun _ h9 => h9) dX12_settledFor_13 (fun hv => ?_)
        obtain ⟨xr5, hxr5, hmxr5, hkxr5⟩ : ∃ a : Nat, tw_fv E a0 54 = .ref a ∧ a ∈ L ∧ kp a = 360 := hv
        rw [hxr5]
        refine lv_iload hx hb dX12_settledFor_16 (lv_at hl 0 rfl) ?_
        refine tw_iald (k := 360) (t0 := 0) (n := 450) (lo := 0) (hi := 149) hx hb hK TH hmxr5 hkxr5 (by decide) rfl rfl (i := y3_5) (vp_in_iff.mpr ⟨by  omega, by  omega⟩) dX12_settledFor_18 (fun hxe6a hxe6b => ?_)
        obtain ⟨xe6, exe6⟩ : ∃ z : Int32, tw_iv E xr5 (Int32.toNatClampNeg y3_5) = z := ⟨_, rfl⟩
        rw [exe6] at hxe6a hxe6b ⊢
        refine lv_iload_n hx hb dX12_settledFor_19 rfl (lv_at hl 2 rfl) ?_
        refine lv_icmp_ne (tgt := 65) hx hb dX12_settledFor_20 (by decide) (fun hc7 => ?_) (fun hc7 => ?_)
        · have hf8 : ¬ (xe6.toInt = x1.toInt) := fun q => hc7 ((fa_eq _ _).mpr (by  omega))
          obtain ⟨zi9, ezi9⟩ : ∃ z : Int32, z = y3_5 + Int32.ofInt 1 := ⟨_, rfl⟩
          have hzi9 : zi9.toInt = y3_5.toInt + 1 := by rw [ezi9]; have : ((Int32.ofInt 1).toInt) = 1 := (by decide);  exact (ia_add (by omega) (by omega)).trans (by omega)
          refine lv_iinc (v := zi9) (lv' := [(5, .int zi9), (0, .ref a0), (1, .int x1), (2, .int x2), (3, .int x3), (4, .int x4)]) hx hb dX12_settledFor_65 hl (k := 0) rfl ezi9.symm (by decide) rfl (fun ls hl => ?_)
          refine lv_goto (tgt := 3) hx hb dX12_settledFor_68 (by decide) ?_
          exact ih3 (n3 - 1) (by   omega) zi9 _ _ ls (by omega) (by omega) (by  have rf_xe6 : tw_el E a0 54 (y3_5.toInt).toNat = xe6.toInt := (by rw [tw_el_of hxr5]; exact congrArg Int32.toInt exe6); refine st_nk_step hin3_0 (by omega) (show zi9.toInt = y3_5.toInt + 1 by omega) ?_; (try rw [rf_xe6]); omega) (by   omega) TH hS (lv_sub hl [0, 1, 2, 3, 4, 5] rfl)
        · have hf10 : xe6.toInt = x1.toInt := by have z := (fa_eq _ _).mp hc7;  omega
          refine lv_aload_n hx hb dX12_settledFor_23 rfl (lv_at hl 1 rfl) ?_
          refine tw_get (ci := 12) (C := RX12) (T := TX12) (N := 64) hx hb hB cx_inX12 hown hK TH hm0 hk0 rfl ⟨by decide, rfl⟩ 55 (by decide) cw_1248 (fun _ h9 => h9) dX12_settledFor_24 (fun hv => ?_)
          obtain ⟨xr11, hxr11, hmxr11, hkxr11⟩ : ∃ a : Nat, tw_fv E a0 55 = .ref a ∧ a ∈ L ∧ kp a = 361 := hv
          rw [hxr11]
          refine lv_iload hx hb dX12_settledFor_27 (lv_at hl 0 rfl) ?_
          refine tw_iald (k := 361) (t0 := 0) (n := 450) (lo := 0) (hi := 3) hx hb hK TH hmxr11 hkxr11 (by decide) rfl rfl (i := y3_5) (vp_in_iff.mpr ⟨by  omega, by  omega⟩) dX12_settledFor_29 (fun hxe12a hxe12b => ?_)
          obtain ⟨xe12, exe12⟩ : ∃ z : Int32, tw_iv E xr11 (Int32.toNatClampNeg y3_5) = z := ⟨_, rfl⟩
          rw [exe12] at hxe12a hxe12b ⊢
          refine lv_iload_n hx hb dX12_settledFor_30 rfl (lv_at hl 3 rfl) ?_
          refine lv_icmp_ne (tgt := 65) hx hb dX12_settledFor_31 (by decide) (fun hc13 => ?_) (fun hc13 => ?_)
          · have hf14 : ¬ (xe12.toInt = x2.toInt) := fun q => hc13 ((fa_eq _ _).mpr (by  omega))
            obtain ⟨zi15, ezi15⟩ : ∃ z : Int32, z = y3_5 + Int32.ofInt 1 := ⟨_, rfl⟩
            have hzi15 : zi15.toInt = y3_5.toInt + 1 := by rw [ezi15]; have : ((Int32.ofInt 1).toInt) = 1 := (by decide);  exact (ia_add (by omega) (by omega)).trans (by omega)
            refine lv_iinc (v := zi15) (lv' := [(5, .int zi15), (0, .ref a0), (1, .int x1), (2, .int x2), (3, .int x3), (4, .int x4)]) hx hb dX12_settledFor_65 hl (k := 0) rfl ezi15.symm (by decide) rfl (fun ls hl => ?_)
            refine lv_goto (tgt := 3) hx hb dX12_settledFor_68 (by decide) ?_
            exact ih3 (n3 - 1) (by   omega) zi15 _ _ ls (by omega) (by omega) (by  have rf_xe6 : tw_el E a0 54 (y3_5.toInt).toNat = xe6.toInt := (by rw [tw_el_of hxr5]; exact congrArg Int32.toInt exe6); have rf_xe12 : tw_el E a0 55 (y3_5.toInt).toNat = xe12.toInt := (by rw [tw_el_of hxr11]; exact congrArg Int32.toInt exe12); refine st_nk_step hin3_0 (by omega) (show zi15.toInt = y3_5.toInt + 1 by omega) ?_; (try rw [rf_xe6]); (try rw [rf_xe12]); omega) (by   omega) TH hS (lv_sub hl [0, 1, 2, 3, 4, 5] rfl)
          · have hf16 : xe12.toInt = x2.toInt := by have z := (fa_eq _ _).mp hc13;  omega
            refine lv_aload_n hx hb dX12_settledFor_34 rfl (lv_at hl 1 rfl) ?_
            refine tw_get (ci := 12) (C := RX12) (T := TX12) (N := 64) hx hb hB cx_inX12 hown hK TH hm0 hk0 rfl ⟨by decide, rfl⟩ 56 (by decide) cw_1249 (fun _ h9 => h9) dX12_settledFor_35 (fun hv => ?_)
            obtain ⟨xr17, hxr17, hmxr17, hkxr17⟩ : ∃ a : Nat, tw_fv E a0 56 = .ref a ∧ a ∈ L ∧ kp a = 362 := hv
            rw [hxr17]
            refine lv_iload hx hb dX12_settledFor_38 (lv_at hl 0 rfl) ?_
            refine tw_iald (k := 362) (t0 := 0) (n := 450) (lo := 0) (hi := 11) hx hb hK TH hmxr17 hkxr17 (by decide) rfl rfl (i := y3_5) (vp_in_iff.mpr ⟨by  omega, by  omega⟩) dX12_settledFor_40 (fun hxe18a hxe18b => ?_)
            obtain ⟨xe18, exe18⟩ : ∃ z : Int32, tw_iv E xr17 (Int32.toNatClampNeg y3_5) = z := ⟨_, rfl⟩
            rw [exe18] at hxe18a hxe18b ⊢
            refine lv_iload_n hx hb dX12_settledFor_41 rfl (lv_at hl 4 rfl) ?_
            refine lv_icmp_eq (tgt := 57) hx hb dX12_settledFor_42 (by decide) (fun hc19 => ?_) (fun hc19 => ?_)
            · have hf20 : xe18.toInt = x3.toInt := by have z := (fa_eq _ _).mp hc19;  omega
              refine lv_aload_n hx hb dX12_settledFor_57 rfl (lv_at hl 1 rfl) ?_
              refine tw_get (ci := 12) (C := RX12) (T := TX12) (N := 64) hx hb hB cx_inX12 hown hK TH hm0 hk0 rfl ⟨by decide, rfl⟩ 56 (by decide) cw_1249 (fun _ h9 => h9) dX12_settledFor_58 (fun hv => ?_)
              rw [hxr17]
              refine lv_iload hx hb dX12_settledFor_61 (lv_at hl 0 rfl) ?_
              refine tw_iald (k := 362) (t0 := 0) (n := 450) (lo := 0) (hi := 11) hx hb hK TH hmxr17 hkxr17 (by decide) rfl rfl (i := y3_5) (vp_in_iff.mpr ⟨by  omega, by  omega⟩) dX12_settledFor_63 (fun hxe21a hxe21b => ?_)
              rw [exe18]
              exact tw_iret hx hb hr hlocks TH hS hex ⟨⟨_, rfl, (show (-1) ≤ Int32.toInt xe18 from by  omega), (show Int32.toInt xe18 ≤ 11 from by  omega), (by  have rf_xe6 : tw_el E a0 54 (y3_5.toInt).toNat = xe6.toInt := (by rw [tw_el_of hxr5]; exact congrArg Int32.toInt exe6); have rf_xe12 : tw_el E a0 55 (y3_5.toInt).toNat = xe12.toInt := (by rw [tw_el_of hxr11]; exact congrArg Int32.toInt exe12); have rf_xe18 : tw_el E a0 56 (y3_5.toInt).toNat = xe18.toInt := (by rw [tw_el_of hxr17]; exact congrArg Int32.toInt exe18); refine ⟨fun q => absurd q (by omega), fun q => ?_⟩; exfalso; unfold st_ns at q; rw [tw_fi_of hxi1] at q; refine q (y3_5.toInt).toNat (by omega) ?_; (try rw [rf_xe6]); (try rw [rf_xe12]); (try rw [rf_xe18]); omega)⟩, rfl, rfl, rfl⟩ (Nat.le_of_ble_eq_true rfl) (Nat.le_of_ble_eq_true rfl) dX12_settledFor_64
            · have hf22 : ¬ (xe18.toInt = x3.toInt) := fun q => hc19 ((fa_eq _ _).mpr (by  omega))
              refine lv_aload_n hx hb dX12_settledFor_45 rfl (lv_at hl 1 rfl) ?_
              refine tw_get (ci := 12) (C := RX12) (T := TX12) (N := 64) hx hb hB cx_inX12 hown hK TH hm0 hk0 rfl ⟨by decide, rfl⟩ 56 (by decide) cw_1249 (fun _ h9 => h9) dX12_settledFor_46 (fun hv => ?_)
              rw [hxr17]
              refine lv_iload hx hb dX12_settledFor_49 (lv_at hl 0 rfl) ?_
              refine tw_iald (k := 362) (t0 := 0) (n := 450) (lo := 0) (hi := 11) hx hb hK TH hmxr17 hkxr17 (by decide) rfl rfl (i := y3_5) (vp_in_iff.mpr ⟨by  omega, by  omega⟩) dX12_settledFor_51 (fun hxe23a hxe23b => ?_)
              rw [exe18]
              refine lv_iload hx hb dX12_settledFor_52 (lv_at hl 5 rfl) ?_
              refine lv_icmp_ne (tgt := 65) hx hb dX12_settledFor_54 (by decide) (fun hc24 => ?_) (fun hc24 => ?_)
              · have hf25 : ¬ (xe18.toInt = x4.toInt) := fun q => hc24 ((fa_eq _ _).mpr (by  omega))
                obtain ⟨zi26, ezi26⟩ : ∃ z : Int32, z = y3_5 + Int32.ofInt 1 := ⟨_, rfl⟩
                have hzi26 : zi26.toInt = y3_5.toInt + 1 := by rw [ezi26]; have : ((Int32.ofInt 1).toInt) = 1 := (by decide);  exact (ia_add (by omega) (by omega)).trans (by omega)
                refine lv_iinc (v := zi26) (lv' := [(5, .int zi26), (0, .ref a0), (1, .int x1), (2, .int x2), (3, .int x3), (4, .int x4)]) hx hb dX12_settledFor_65 hl (k := 0) rfl ezi26.symm (by decide) rfl (fun ls hl => ?_)
                refine lv_goto (tgt := 3) hx hb dX12_settledFor_68 (by decide) ?_
                exact ih3 (n3 - 1) (by   omega) zi26 _ _ ls (by omega) (by omega) (by  have rf_xe6 : tw_el E a0 54 (y3_5.toInt).toNat = xe6.toInt := (by rw [tw_el_of hxr5]; exact congrArg Int32.toInt exe6); have rf_xe12 : tw_el E a0 55 (y3_5.toInt).toNat = xe12.toInt := (by rw [tw_el_of hxr11]; exact congrArg Int32.toInt exe12); have rf_xe18 : tw_el E a0 56 (y3_5.toInt).toNat = xe18.toInt := (by rw [tw_el_of hxr17]; exact congrArg Int32.toInt exe18); refine st_nk_step hin3_0 (by omega) (show zi26.toInt = y3_5.toInt + 1 by omega) ?_; (try rw [rf_xe6]); (try rw [rf_xe12]); (try rw [rf_xe18]); omega) (by   omega) TH hS (lv_sub hl [0, 1, 2, 3, 4, 5] rfl)
              · have hf27 : xe18.toInt = x4.toInt := by have z := (fa_eq _ _).mp hc24;  omega
                refine lv_aload_n hx hb dX12_settledFor_57 rfl (lv_at hl 1 rfl) ?_
                refine tw_get (ci := 12) (C := RX12) (T := TX12) (N := 64) hx hb hB cx_inX12 hown hK TH hm0 hk0 rfl ⟨by decide, rfl⟩ 56 (by decide) cw_1249 (fun _ h9 => h9) dX12_settledFor_58 (fun hv => ?_)
                rw [hxr17]
                refine lv_iload hx hb dX12_settledFor_61 (lv_at hl 0 rfl) ?_
                refine tw_iald (k := 362) (t0 := 0) (n := 450) (lo := 0) (hi := 11) hx hb hK TH hmxr17 hkxr17 (by decide) rfl rfl (i := y3_5) (vp_in_iff.mpr ⟨by  omega, by  omega⟩) dX12_settledFor_63 (fun hxe28a hxe28b => ?_)
                rw [exe18]
                exact tw_iret hx hb hr hlocks TH hS hex ⟨⟨_, rfl, (show (-1) ≤ Int32.toInt xe18 from by  omega), (show Int32.toInt xe18 ≤ 11 from by  omega), (by  have rf_xe6 : tw_el E a0 54 (y3_5.toInt).toNat = xe6.toInt := (by rw [tw_el_of hxr5]; exact congrArg Int32.toInt exe6); have rf_xe12 : tw_el E a0 55 (y3_5.toInt).toNat = xe12.toInt := (by rw [tw_el_of hxr11]; exact congrArg Int32.toInt exe12); have rf_xe18 : tw_el E a0 56 (y3_5.toInt).toNat = xe18.toInt := (by rw [tw_el_of hxr17]; exact congrArg Int32.toInt exe18); refine ⟨fun q => absurd q (by omega), fun q => ?_⟩; exfalso; unfold st_ns at q; rw [tw_fi_of hxi1] at q; refine q (y3_5.toInt).toNat (by omega) ?_; (try rw [rf_xe6]); (try rw [rf_xe12]); (try rw [rf_xe18]); omega)⟩, rfl, rfl, rfl⟩ (Nat.le_of_ble_eq_true rfl) (Nat.le_of_ble_eq_true rfl) dX12_settledFor_64
  exact hJ3 451 (0 : Int32) _ _ ls (by have : ((0 : Int32).toInt) = 0 := (by decide); omega) (by have : ((0 : Int32).toInt) = 0 := (by decide); omega) (by have : ((0 : Int32).toInt) = 0 := (by decide); intro j hj; exact absurd hj (by omega)) (by have : ((0 : Int32).toInt) = 0 := (by decide);  omega) TH hS (lv_sub hl [0, 1, 2, 3, 4, 5] rfl)
set_option maxHeartbeats 4000000 in
set_option maxRecDepth 100000 in
theorem tX12_quarrels (l : Launch) (D : va_G) (cs : Nat → ClassId) {kp : Nat → Nat} {L : List Nat} {E : Nat → va_E} (a0 : Nat) (x1 : Int32) (x2 : Int32) (fv0_57 : Int32) (hm0 : a0 ∈ L) (hk0 : kp a0 = 12) (hfv0_57 : tw_fv E a0 57 = .int fv0_57) (hpre0 : fv0_57.toInt ≤ 1199) (sz : Nat) : Met l yX12_quarrels (.code yX12_quarrels cX12_quarrels 3 none :: cx_big) { frames := 0, cells := 0, slots := 0, locals := 0 } (tw_P D cs kp L E [.ref a0, .int x1, .int x2] sz) (tw_Q D cs kp L (fun v kq Lq Eq => v = none ∧ kp = kq ∧ L = Lq ∧ tw_fr kp L [(12, 57)] [359] E Eq ∧ (∃ z0 : Int32, tw_fv Eq a0 57 = .int z0 ∧ (z0.toInt = fv0_57.toInt + 1))) (va_A (va_pl L E) sz)) 0 0 (va_A (va_pl L E) sz) := by
  refine tw_ofW (by decide) (Nat.le_of_ble_eq_true rfl) ?_
  intro p e s m below meth c A ls hx hb hr hml hB hown hlocks hK hN hA TH hS hl
  have hown : s.vm.findClass "TreeMergeModel" = some m.cls := hown
  have hl : lv_has ls 3 [(0, .ref a0), (1, .int x1), (2, .int x2)] := hl
  obtain ⟨kp0, ekp⟩ : ∃ z, z = kp := ⟨_, rfl⟩
  obtain ⟨L0, eL⟩ : ∃ z, z = L := ⟨_, rfl⟩
  rw [show tw_Q D cs kp L = tw_Q D cs kp0 L0 by rw [ekp, eL]]
  have hex : ∀ a : Nat, a ∈ L0 → a ∈ L ∧ kp a = kp0 a := fun a h => ⟨by rw [← eL]; exact h, by rw [ekp]⟩
  have hF : tw_fr kp L [(12, 57)] [359] E E := tw_fr.rf
  obtain ⟨qfv0_57, hqfv0_57, hqfv0_57a, hqfv0_57b⟩ := tw_rd TH hm0 hk0 (by decide) (by decide) (k := 57) rfl
  have eqfv0_57 : qfv0_57 = fv0_57 := by have q := hqfv0_57.symm.trans hfv0_57; injection q
  rw [eqfv0_57] at hqfv0_57a hqfv0_57b
  refine lv_aload_n hx hb dX12_quarrels_0 rfl (lv_at hl 0 rfl) ?_
  refine tw_get (ci := 12) (C := RX12) (T := TX12) (N := 64) hx hb hB cx_inX12 hown hK TH hm0 hk0 rfl ⟨by decide, rfl⟩ 53 (by decide) cw_1246 (fun _ h9 => h9) dX12_quarrels_1 (fun hv => ?_)
  obtain ⟨xr1, hxr1, hmxr1, hkxr1⟩ : ∃ a : Nat, tw_fv E a0 53 = .ref a ∧ a ∈ L ∧ kp a = 359 := hv
  rw [hxr1]
  refine lv_aload_n hx hb dX12_quarrels_4 rfl (lv_at hl 0 rfl) ?_
  refine tw_get (ci := 12) (C := RX12) (T := TX12) (N := 64) hx hb hB cx_inX12 hown hK TH hm0 hk0 rfl ⟨by decide, rfl⟩ 57 (by decide) cw_1250 (fun _ h9 => h9) dX12_quarrels_5 (fun hv => ?_)
  rw [hfv0_57]
  refine lv_sipush (v := 1000) hx hb dX12_quarrels_8 (by decide) ?_
  refine lv_iload_n hx hb dX12_quarrels_11 rfl (lv_at hl 1 rfl) ?_
  refine lv_imul hx hb dX12_quarrels_12 ?_
  refine lv_topi (fun zi2 ezi2 => ?_)
  refine lv_iload_n hx hb dX12_quarrels_13 rfl (lv_at hl 2 rfl) ?_
  refine lv_iadd hx hb dX12_quarrels_14 ?_
  refine lv_topi (fun zi3 ezi3 => ?_)
  refine tw_iast (k := 359) (n := 1200) (lo := (-2147483648)) (hi := 2147483647) hx hb hK TH hS hmxr1 hkxr1 (by decide) rfl (i := fv0_57) (x := zi3) (vp_in_iff.mpr ⟨by  omega, by  omega⟩) (ia_lo _) (ia_hi _) dX12_quarrels_15 (fun H locs E4 TH hS hp5 hp6 hp7 => ?_)
  have hst8 : tw_fr kp L [] [359] E E4 := tw_fr.ast tw_fr.rf (fun _ => hkxr1) hp5 hp6 (by decide)
  have hF := hF.tr hst8 (fun _ h => ⟨h, rfl⟩) (by decide) (by decide)
  have hmf9 : tw_fv E4 a0 57 = .int fv0_57 := (hst8.1 a0 57 hm0 (by rw [hk0]; decide)).trans hfv0_57
  have hmf10 : tw_fv E4 a0 53 = .ref xr1 := (hst8.1 a0 53 hm0 (by rw [hk0]; decide)).trans hxr1
  refine lv_aload_n hx hb dX12_quarrels_16 rfl (lv_at hl 0 rfl) ?_
  refine lv_dup hx hb dX12_quarrels_17 rfl ?_
  refine tw_get (ci := 12) (C := RX12) (T := TX12) (N := 64) hx hb hB cx_inX12 hown hK TH hm0 hk0 rfl ⟨by decide, rfl⟩ 57 (by decide) cw_1250 (fun _ h9 => h9) dX12_quarrels_18 (fun hv => ?_)
  rw [hmf9]
  refine lv_iconst (v := 1) hx hb dX12_quarrels_21 (by decide) ?_
  refine lv_iadd hx hb dX12_quarrels_22 ?_
  refine lv_topi (fun zi11 ezi11 => ?_)
  have hzi11 : zi11.toInt = fv0_57.toInt + 1 := by rw [ezi11]; have : ((1 : Int32).toInt) = 1 := (by decide); have := ia_lo fv0_57; have := ia_hi fv0_57; exact (ia_add (by omega) (by omega)).trans (by omega)
  refine tw_put (ci := 12) (v := .int zi11) (ty := .int) (C := RX12) (T := TX12) (N := 64) hx hb hB cx_inX12 tyX12 tyX12_ok nmX12 hown hK TH hS hm0 hk0 rfl ⟨by decide, rfl⟩ 57 (by decide) cw_1250 (fun _ h9 => h9) rfl (by decide +kernel) rfl rfl ⟨_, rfl, (show 0 ≤ Int32.toInt zi11 from by  omega), (show Int32.toInt zi11 ≤ 1200 from by  omega)⟩ dX12_quarrels_23 (fun H locs E12 TH hS hmf16 hp13 hp14 => ?_)
  have hst15 : tw_fr kp L [(12, 57)] [] E4 E12 := tw_fr.put tw_fr.rf (fun _ => hk0) (by decide) hp13 hp14 (by decide)
  have hF := hF.tr hst15 (fun _ h => ⟨h, rfl⟩) (by decide) (by decide)
  have hmf17 : tw_fv E12 a0 53 = .ref xr1 := (hst15.1 a0 53 hm0 (by rw [hk0]; decide)).trans hmf10
  exact tw_vret hx hb hr hlocks TH hS hex ⟨rfl, rfl, rfl, hF, ⟨zi11, hmf16, by  omega⟩⟩ (Nat.le_of_ble_eq_true rfl) (Nat.le_of_ble_eq_true rfl) dX12_quarrels_26
set_option maxHeartbeats 4000000 in
set_option maxRecDepth 100000 in
theorem tX12_isOther (l : Launch) (D : va_G) (cs : Nat → ClassId) {kp : Nat → Nat} {L : List Nat} {E : Nat → va_E} (a0 : Nat) (x1 : Int32) (x2 : Int32) (x3 : Int32) (hm0 : a0 ∈ L) (hk0 : kp a0 = 12) (hp1a : 0 ≤ x1.toInt) (hp1b : x1.toInt ≤ 15) (hp2a : 0 ≤ x2.toInt) (hp2b : x2.toInt ≤ 149) (hp3a : 0 ≤ x3.toInt) (hp3b : x3.toInt ≤ 15) (sz : Nat) : Met l yX12_isOther (.code yX12_isOther cX12_isOther 4 (some .boolean) :: cx_big) { frames := 0, cells := 0, slots := 0, locals := 0 } (tw_P D cs kp L E [.ref a0, .int x1, .int x2, .int x3] sz) (tw_Q D cs kp L (fun v kq Lq Eq => (∃ x : Int32, v = some (.int x) ∧ 0 ≤ x.toInt ∧ x.toInt ≤ 1) ∧ kp = kq ∧ L = Lq ∧ E = Eq) (va_A (va_pl L E) sz)) 0 0 (va_A (va_pl L E) sz) := by
  refine tw_ofW (by decide) (Nat.le_of_ble_eq_true rfl) ?_
  intro p e s m below meth c A ls hx hb hr hml hB hown hlocks hK hN hA TH hS hl
  have hown : s.vm.findClass "TreeMergeModel" = some m.cls := hown
  have hl : lv_has ls 4 [(0, .ref a0), (1, .int x1), (2, .int x2), (3, .int x3)] := hl
  obtain ⟨kp0, ekp⟩ : ∃ z, z = kp := ⟨_, rfl⟩
  obtain ⟨L0, eL⟩ : ∃ z, z = L := ⟨_, rfl⟩
  rw [show tw_Q D cs kp L = tw_Q D cs kp0 L0 by rw [ekp, eL]]
  have hex : ∀ a : Nat, a ∈ L0 → a ∈ L ∧ kp a = kp0 a := fun a h => ⟨by rw [← eL]; exact h, by rw [ekp]⟩
  refine lv_aload_n hx hb dX12_isOther_0 rfl (lv_at hl 0 rfl) ?_
  refine tw_get (ci := 12) (C := RX12) (T := TX12) (N := 64) hx hb hB cx_inX12 hown hK TH hm0 hk0 rfl ⟨by decide, rfl⟩ 16 (by decide) cw_1209 (fun _ h9 => h9) dX12_isOther_1 (fun hv => ?_)
  obtain ⟨xr1, hxr1, hmxr1, hkxr1⟩ : ∃ a : Nat, tw_fv E a0 16 = .ref a ∧ a ∈ L ∧ kp a = 316 := hv
  rw [hxr1]
  refine lv_iload_n hx hb dX12_isOther_4 rfl (lv_at hl 3 rfl) ?_
  refine tw_aald (k := 316) (t0 := 5) (n := 16) (lo := 326) (hi := 0) (ty := .boolean) hx hb hK TH hmxr1 hkxr1 (by decide) rfl rfl (i := x3) (vp_in_iff.mpr ⟨by  omega, by  omega⟩) dX12_isOther_5 (fun xr2 exr2 hmxr2 hkxr2 => ?_)
  have hkxr2 : kp xr2 = 326 := hkxr2
  refine lv_iload_n hx hb dX12_isOther_6 rfl (lv_at hl 2 rfl) ?_
  refine tw_zald (k := 326) (t0 := 3) (n := 150) (lo := 0) (hi := 1) hx hb hK TH hmxr2 hkxr2 (by decide) rfl rfl (i := x2) (vp_in_iff.mpr ⟨by  omega, by  omega⟩) dX12_isOther_7 (fun hxe3a hxe3b => ?_)
  obtain ⟨xe3, exe3⟩ : ∃ z : Int32, tw_iv E xr2 (Int32.toNatClampNeg x2) = z := ⟨_, rfl⟩
  rw [exe3] at hxe3a hxe3b ⊢
  refine lv_if_eq (tgt := 50) hx hb dX12_isOther_8 (by decide) (fun hc4 => ?_) (fun hc4 => ?_)
  · have hf5 : xe3.toInt = 0 := by have z := (fa_eq _ _).mp hc4; have : ((0 : Int32).toInt) = 0 := (by decide); omega
    refine lv_iconst (v := 1) hx hb dX12_isOther_50 (by decide) ?_
    refine lv_goto (tgt := 55) hx hb dX12_isOther_51 (by decide) ?_
    exact tw_zret hx hb hr hlocks (by decide) TH hS hex ⟨⟨_, rfl, (show 0 ≤ Int32.toInt 1 from by have : ((1 : Int32).toInt) = 1 := (by decide); omega), (show Int32.toInt 1 ≤ 1 from by have : ((1 : Int32).toInt) = 1 := (by decide); omega)⟩, rfl, rfl, rfl⟩ (Nat.le_of_ble_eq_true rfl) (Nat.le_of_ble_eq_true rfl) dX12_isOther_55
  · have hf6 : ¬ (xe3.toInt = 0) := fun q => hc4 ((fa_eq _ _).mpr (by have : ((0 : Int32).toInt) = 0 := (by decide); omega))
    refine lv_aload_n hx hb dX12_isOther_11 rfl (lv_at hl 0 rfl) ?_
    refine tw_get (ci := 12) (C := RX12) (T := TX12) (N := 64) hx hb hB cx_inX12 hown hK TH hm0 hk0 rfl ⟨by decide, rfl⟩ 17 (by decide) cw_1210 (fun _ h9 => h9) dX12_isOther_12 (fun hv => ?_)
    obtain ⟨xr7, hxr7, hmxr7, hkxr7⟩ : ∃ a : Nat, tw_fv E a0 17 = .ref a ∧ a ∈ L ∧ kp a = 317 := hv
    rw [hxr7]
    refine lv_iload_n hx hb dX12_isOther_15 rfl (lv_at hl 1 rfl) ?_
    refine tw_aald (k := 317) (t0 := 6) (n := 16) (lo := 327) (hi := 0) (ty := .long) hx hb hK TH hmxr7 hkxr7 (by decide) rfl rfl (i := x1) (vp_in_iff.mpr ⟨by  omega, by  omega⟩) dX12_isOther_16 (fun xr8 exr8 hmxr8 hkxr8 => ?_)
    have hkxr8 : kp xr8 = 327 := hkxr8
    refine lv_iload_n hx hb dX12_isOther_17 rfl (lv_at hl 2 rfl) ?_
    refine tw_lald2 (k := 327) (n := 150) (lo := 0) (hi := 0) hx hb hK TH hmxr8 hkxr8 (by decide) rfl (i := x2) (vp_in_iff.mpr ⟨by  omega, by  omega⟩) dX12_isOther_18 (fun xl9 exl9 => ?_)
    refine lv_aload_n hx hb dX12_isOther_19 rfl (lv_at hl 0 rfl) ?_
    refine tw_get (ci := 12) (C := RX12) (T := TX12) (N := 64) hx hb hB cx_inX12 hown hK TH hm0 hk0 rfl ⟨by decide, rfl⟩ 17 (by decide) cw_1210 (fun _ h9 => h9) dX12_isOther_20 (fun hv => ?_)
    rw [hxr7]
    refine lv_iload_n hx hb dX12_isOther_23 rfl (lv_at hl 3 rfl) ?_
    refine tw_aald (k := 317) (t0 := 6) (n := 16) (lo := 327) (hi := 0) (ty := .long) hx hb hK TH hmxr7 hkxr7 (by decide) rfl rfl (i := x3) (vp_in_iff.mpr ⟨by  omega, by  omega⟩) dX12_isOther_24 (fun xr10 exr10 hmxr10 hkxr10 => ?_)
    have hkxr10 : kp xr10 = 327 := hkxr10
    refine lv_iload_n hx hb dX12_isOther_25 rfl (lv_at hl 2 rfl) ?_
    refine tw_lald2 (k := 327) (n := 150) (lo := 0) (hi := 0) hx hb hK TH hmxr10 hkxr10 (by decide) rfl (i := x2) (vp_in_iff.mpr ⟨by  omega, by  omega⟩) dX12_isOther_26 (fun xl11 exl11 => ?_)
    refine W.lcmp hx hb dX12_isOther_27 ?_
    have hzi12 := ia_lc xl9 xl11
    generalize lg_cmp xl9 xl11 = zi12 at hzi12 ⊢
    refine lv_if_ne (tgt := 50) hx hb dX12_isOther_28 (by decide) (fun hc13 => ?_) (fun hc13 => ?_)
    · have hf14 : ¬ (zi12.toInt = 0) := fun q => hc13 ((fa_eq _ _).mpr (by have : ((0 : Int32).toInt) = 0 := (by decide); omega))
      refine lv_iconst (v := 1) hx hb dX12_isOther_50 (by decide) ?_
      refine lv_goto (tgt := 55) hx hb dX12_isOther_51 (by decide) ?_
      exact tw_zret hx hb hr hlocks (by decide) TH hS hex ⟨⟨_, rfl, (show 0 ≤ Int32.toInt 1 from by have : ((1 : Int32).toInt) = 1 := (by decide); omega), (show Int32.toInt 1 ≤ 1 from by have : ((1 : Int32).toInt) = 1 := (by decide); omega)⟩, rfl, rfl, rfl⟩ (Nat.le_of_ble_eq_true rfl) (Nat.le_of_ble_eq_true rfl) dX12_isOther_55
    · have hf15 : zi12.toInt = 0 := by have z := (fa_eq _ _).mp hc13; have : ((0 : Int32).toInt) = 0 := (by decide); omega
      refine lv_aload_n hx hb dX12_isOther_31 rfl (lv_at hl 0 rfl) ?_
      refine tw_get (ci := 12) (C := RX12) (T := TX12) (N := 64) hx hb hB cx_inX12 hown hK TH hm0 hk0 rfl ⟨by decide, rfl⟩ 18 (by decide) cw_1211 (fun _ h9 => h9) dX12_isOther_32 (fun hv => ?_)
      obtain ⟨xr16, hxr16, hmxr16, hkxr16⟩ : ∃ a : Nat, tw_fv E a0 18 = .ref a ∧ a ∈ L ∧ kp a = 318 := hv
      rw [hxr16]
      refine lv_iload_n hx hb dX12_isOther_35 rfl (lv_at hl 1 rfl) ?_
      refine tw_aald (k := 318) (t0 := 4) (n := 16) (lo := 328) (hi := 0) (ty := .int) hx hb hK TH hmxr16 hkxr16 (by decide) rfl rfl (i := x1) (vp_in_iff.mpr ⟨by  omega, by  omega⟩) dX12_isOther_36 (fun xr17 exr17 hmxr17 hkxr17 => ?_)
      have hkxr17 : kp xr17 = 328 := hkxr17
      refine lv_iload_n hx hb dX12_isOther_37 rfl (lv_at hl 2 rfl) ?_
      refine tw_iald (k := 328) (t0 := 0) (n := 150) (lo := (-1)) (hi := 149) hx hb hK TH hmxr17 hkxr17 (by decide) rfl rfl (i := x2) (vp_in_iff.mpr ⟨by  omega, by  omega⟩) dX12_isOther_38 (fun hxe18a hxe18b => ?_)
      obtain ⟨xe18, exe18⟩ : ∃ z : Int32, tw_iv E xr17 (Int32.toNatClampNeg x2) = z := ⟨_, rfl⟩
      rw [exe18] at hxe18a hxe18b ⊢
      refine lv_aload_n hx hb dX12_isOther_39 rfl (lv_at hl 0 rfl) ?_
      refine tw_get (ci := 12) (C := RX12) (T := TX12) (N := 64) hx hb hB cx_inX12 hown hK TH hm0 hk0 rfl ⟨by decide, rfl⟩ 18 (by decide) cw_1211 (fun _ h9 => h9) dX12_isOther_40 (fun hv => ?_)
      rw [hxr16]
      refine lv_iload_n hx hb dX12_isOther_43 rfl (lv_at hl 3 rfl) ?_
      refine tw_aald (k := 318) (t0 := 4) (n := 16) (lo := 328) (hi := 0) (ty := .int) hx hb hK TH hmxr16 hkxr16 (by decide) rfl rfl (i := x3) (vp_in_iff.mpr ⟨by  omega, by  omega⟩) dX12_isOther_44 (fun xr19 exr19 hmxr19 hkxr19 => ?_)
      have hkxr19 : kp xr19 = 328 := hkxr19
      refine lv_iload_n hx hb dX12_isOther_45 rfl (lv_at hl 2 rfl) ?_
      refine tw_iald (k := 328) (t0 := 0) (n := 150) (lo := (-1)) (hi := 149) hx hb hK TH hmxr19 hkxr19 (by decide) rfl rfl (i := x2) (vp_in_iff.mpr ⟨by  omega, by  omega⟩) dX12_isOther_46 (fun hxe20a hxe20b => ?_)
      obtain ⟨xe20, exe20⟩ : ∃ z : Int32, tw_iv E xr19 (Int32.toNatClampNeg x2) = z := ⟨_, rfl⟩
      rw [exe20] at hxe20a hxe20b ⊢
      refine lv_icmp_eq (tgt := 54) hx hb dX12_isOther_47 (by decide) (fun hc21 => ?_) (fun hc21 => ?_)
      · have hf22 : xe18.toInt = xe20.toInt := by have z := (fa_eq _ _).mp hc21;  omega
        refine lv_iconst (v := 0) hx hb dX12_isOther_54 (by decide) ?_
        exact tw_zret hx hb hr hlocks (by decide) TH hS hex ⟨⟨_, rfl, (show 0 ≤ Int32.toInt 0 from by have : ((0 : Int32).toInt) = 0 := (by decide); omega), (show Int32.toInt 0 ≤ 1 from by have : ((0 : Int32).toInt) = 0 := (by decide); omega)⟩, rfl, rfl, rfl⟩ (Nat.le_of_ble_eq_true rfl) (Nat.le_of_ble_eq_true rfl) dX12_isOther_55
      · have hf23 : ¬ (xe18.toInt = xe20.toInt) := fun q => hc21 ((fa_eq _ _).mpr (by  omega))
        refine lv_iconst (v := 1) hx hb dX12_isOther_50 (by decide) ?_
        refine lv_goto (tgt := 55) hx hb dX12_isOther_51 (by decide) ?_
        exact tw_zret hx hb hr hlocks (by decide) TH hS hex ⟨⟨_, rfl, (show 0 ≤ Int32.toInt 1 from by have : ((1 : Int32).toInt) = 1 := (by decide); omega), (show Int32.toInt 1 ≤ 1 from by have : ((1 : Int32).toInt) = 1 := (by decide); omega)⟩, rfl, rfl, rfl⟩ (Nat.le_of_ble_eq_true rfl) (Nat.le_of_ble_eq_true rfl) dX12_isOther_55
set_option maxHeartbeats 4000000 in
set_option maxRecDepth 100000 in
theorem tX12_says (l : Launch) (D : va_G) (cs : Nat → ClassId) {kp : Nat → Nat} {L : List Nat} {E : Nat → va_E} (a0 : Nat) (x1 : Int32) (x2 : Int32) (x3 : Int32) (x4 : Int32) (hm0 : a0 ∈ L) (hk0 : kp a0 = 12) (hp1a : 0 ≤ x1.toInt) (hp1b : x1.toInt ≤ 15) (hp3a : 0 ≤ x3.toInt) (hp3b : x3.toInt ≤ 149) (hp4a : 0 ≤ x4.toInt) (hp4b : x4.toInt ≤ 149) (sz : Nat) : Met l yX12_says (.code yX12_says cX12_says 5 (some .int) :: cx_big) { frames := 0, cells := 0, slots := 0, locals := 0 } (tw_P D cs kp L E [.ref a0, .int x1, .int x2, .int x3, .int x4] sz) (tw_Q D cs kp L (fun v kq Lq Eq => (∃ x : Int32, v = some (.int x) ∧ (-1) ≤ x.toInt ∧ x.toInt ≤ 1) ∧ kp = kq ∧ L = Lq ∧ E = Eq) (va_A (va_pl L E) sz)) 0 0 (va_A (va_pl L E) sz) := by
  refine tw_ofW (by decide) (Nat.le_of_ble_eq_true rfl) ?_
  intro p e s m below meth c A ls hx hb hr hml hB hown hlocks hK hN hA TH hS hl
  have hown : s.vm.findClass "TreeMergeModel" = some m.cls := hown
  have hl : lv_has ls 5 [(0, .ref a0), (1, .int x1), (2, .int x2), (3, .int x3), (4, .int x4)] := hl
  obtain ⟨kp0, ekp⟩ : ∃ z, z = kp := ⟨_, rfl⟩
  obtain ⟨L0, eL⟩ : ∃ z, z = L := ⟨_, rfl⟩
  rw [show tw_Q D cs kp L = tw_Q D cs kp0 L0 by rw [ekp, eL]]
  have hex : ∀ a : Nat, a ∈ L0 → a ∈ L ∧ kp a = kp0 a := fun a h => ⟨by rw [← eL]; exact h, by rw [ekp]⟩
  refine lv_aload_n hx hb dX12_says_0 rfl (lv_at hl 0 rfl) ?_
  refine tw_get (ci := 12) (C := RX12) (T := TX12) (N := 64) hx hb hB cx_inX12 hown hK TH hm0 hk0 rfl ⟨by decide, rfl⟩ 16 (by decide) cw_1209 (fun _ h9 => h9) dX12_says_1 (fun hv => ?_)
  obtain ⟨xr1, hxr1, hmxr1, hkxr1⟩ : ∃ a : Nat, tw_fv E a0 16 = .ref a ∧ a ∈ L ∧ kp a = 316 := hv
  rw [hxr1]
  refine lv_iload_n hx hb dX12_says_4 rfl (lv_at hl 1 rfl) ?_
  refine tw_aald (k := 316) (t0 := 5) (n := 16) (lo := 326) (hi := 0) (ty := .boolean) hx hb hK TH hmxr1 hkxr1 (by decide) rfl rfl (i := x1) (vp_in_iff.mpr ⟨by  omega, by  omega⟩) dX12_says_5 (fun xr2 exr2 hmxr2 hkxr2 => ?_)
  have hkxr2 : kp xr2 = 326 := hkxr2
  refine lv_iload_n hx hb dX12_says_6 rfl (lv_at hl 3 rfl) ?_
  refine tw_zald (k := 326) (t0 := 3) (n := 150) (lo := 0) (hi := 1) hx hb hK TH hmxr2 hkxr2 (by decide) rfl rfl (i := x3) (vp_in_iff.mpr ⟨by  omega, by  omega⟩) dX12_says_7 (fun hxe3a hxe3b => ?_)
  obtain ⟨xe3, exe3⟩ : ∃ z : Int32, tw_iv E xr2 (Int32.toNatClampNeg x3) = z := ⟨_, rfl⟩
  rw [exe3] at hxe3a hxe3b ⊢
  refine lv_if_eq (tgt := 48) hx hb dX12_says_8 (by decide) (fun hc4 => ?_) (fun hc4 => ?_)
  · have hf5 : xe3.toInt = 0 := by have z := (fa_eq _ _).mp hc4; have : ((0 : Int32).toInt) = 0 := (by decide); omega
    refine lv_iconst (v := 0) hx hb dX12_says_48 (by decide) ?_
    exact tw_iret hx hb hr hlocks TH hS hex ⟨⟨_, rfl, (show (-1) ≤ Int32.toInt 0 from by have : ((0 : Int32).toInt) = 0 := (by decide); omega), (show Int32.toInt 0 ≤ 1 from by have : ((0 : Int32).toInt) = 0 := (by decide); omega)⟩, rfl, rfl, rfl⟩ (Nat.le_of_ble_eq_true rfl) (Nat.le_of_ble_eq_true rfl) dX12_says_49
  · have hf6 : ¬ (xe3.toInt = 0) := fun q => hc4 ((fa_eq _ _).mpr (by have : ((0 : Int32).toInt) = 0 := (by decide); omega))
    refine lv_aload_n hx hb dX12_says_11 rfl (lv_at hl 0 rfl) ?_
    refine tw_get (ci := 12) (C := RX12) (T := TX12) (N := 64) hx hb hB cx_inX12 hown hK TH hm0 hk0 rfl ⟨by decide, rfl⟩ 16 (by decide) cw_1209 (fun _ h9 => h9) dX12_says_12 (fun hv => ?_)
    rw [hxr1]
    refine lv_iload_n hx hb dX12_says_15 rfl (lv_at hl 1 rfl) ?_
    refine tw_aald (k := 316) (t0 := 5) (n := 16) (lo := 326) (hi := 0) (ty := .boolean) hx hb hK TH hmxr1 hkxr1 (by decide) rfl rfl (i := x1) (vp_in_iff.mpr ⟨by  omega, by  omega⟩) dX12_says_16 (fun xr7 exr7 hmxr7 hkxr7 => ?_)
    have ezxr7 : xr2 = xr7 := exr2.symm.trans exr7
    subst ezxr7
    refine lv_iload hx hb dX12_says_17 (lv_at hl 4 rfl) ?_
    refine tw_zald (k := 326) (t0 := 3) (n := 150) (lo := 0) (hi := 1) hx hb hK TH hmxr2 hkxr2 (by decide) rfl rfl (i := x4) (vp_in_iff.mpr ⟨by  omega, by  omega⟩) dX12_says_19 (fun hxe8a hxe8b => ?_)
    obtain ⟨xe8, exe8⟩ : ∃ z : Int32, tw_iv E xr2 (Int32.toNatClampNeg x4) = z := ⟨_, rfl⟩
    rw [exe8] at hxe8a hxe8b ⊢
    refine lv_if_eq (tgt := 48) hx hb dX12_says_20 (by decide) (fun hc9 => ?_) (fun hc9 => ?_)
    · have hf10 : xe8.toInt = 0 := by have z := (fa_eq _ _).mp hc9; have : ((0 : Int32).toInt) = 0 := (by decide); omega
      refine lv_iconst (v := 0) hx hb dX12_says_48 (by decide) ?_
      exact tw_iret hx hb hr hlocks TH hS hex ⟨⟨_, rfl, (show (-1) ≤ Int32.toInt 0 from by have : ((0 : Int32).toInt) = 0 := (by decide); omega), (show Int32.toInt 0 ≤ 1 from by have : ((0 : Int32).toInt) = 0 := (by decide); omega)⟩, rfl, rfl, rfl⟩ (Nat.le_of_ble_eq_true rfl) (Nat.le_of_ble_eq_true rfl) dX12_says_49
    · have hf11 : ¬ (xe8.toInt = 0) := fun q => hc9 ((fa_eq _ _).mpr (by have : ((0 : Int32).toInt) = 0 := (by decide); omega))
      refine lv_aload_n hx hb dX12_says_23 rfl (lv_at hl 0 rfl) ?_
      refine tw_get (ci := 12) (C := RX12) (T := TX12) (N := 64) hx hb hB cx_inX12 hown hK TH hm0 hk0 rfl ⟨by decide, rfl⟩ 18 (by decide) cw_1211 (fun _ h9 => h9) dX12_says_24 (fun hv => ?_)
      obtain ⟨xr12, hxr12, hmxr12, hkxr12⟩ : ∃ a : Nat, tw_fv E a0 18 = .ref a ∧ a ∈ L ∧ kp a = 318 := hv
      rw [hxr12]
      refine lv_iload_n hx hb dX12_says_27 rfl (lv_at hl 1 rfl) ?_
      refine tw_aald (k := 318) (t0 := 4) (n := 16) (lo := 328) (hi := 0) (ty := .int) hx hb hK TH hmxr12 hkxr12 (by decide) rfl rfl (i := x1) (vp_in_iff.mpr ⟨by  omega, by  omega⟩) dX12_says_28 (fun xr13 exr13 hmxr13 hkxr13 => ?_)
      have hkxr13 : kp xr13 = 328 := hkxr13
      refine lv_iload_n hx hb dX12_says_29 rfl (lv_at hl 3 rfl) ?_
      refine tw_iald (k := 328) (t0 := 0) (n := 150) (lo := (-1)) (hi := 149) hx hb hK TH hmxr13 hkxr13 (by decide) rfl rfl (i := x3) (vp_in_iff.mpr ⟨by  omega, by  omega⟩) dX12_says_30 (fun hxe14a hxe14b => ?_)
      obtain ⟨xe14, exe14⟩ : ∃ z : Int32, tw_iv E xr13 (Int32.toNatClampNeg x3) = z := ⟨_, rfl⟩
      rw [exe14] at hxe14a hxe14b ⊢
      refine lv_iload_n hx hb dX12_says_31 rfl (lv_at hl 2 rfl) ?_
      refine lv_icmp_ne (tgt := 48) hx hb dX12_says_32 (by decide) (fun hc15 => ?_) (fun hc15 => ?_)
      · have hf16 : ¬ (xe14.toInt = x2.toInt) := fun q => hc15 ((fa_eq _ _).mpr (by  omega))
        refine lv_iconst (v := 0) hx hb dX12_says_48 (by decide) ?_
        exact tw_iret hx hb hr hlocks TH hS hex ⟨⟨_, rfl, (show (-1) ≤ Int32.toInt 0 from by have : ((0 : Int32).toInt) = 0 := (by decide); omega), (show Int32.toInt 0 ≤ 1 from by have : ((0 : Int32).toInt) = 0 := (by decide); omega)⟩, rfl, rfl, rfl⟩ (Nat.le_of_ble_eq_true rfl) (Nat.le_of_ble_eq_true rfl) dX12_says_49
      · have hf17 : xe14.toInt = x2.toInt := by have z := (fa_eq _ _).mp hc15;  omega
        refine lv_aload_n hx hb dX12_says_35 rfl (lv_at hl 0 rfl) ?_
        refine tw_get (ci := 12) (C := RX12) (T := TX12) (N := 64) hx hb hB cx_inX12 hown hK TH hm0 hk0 rfl ⟨by decide, rfl⟩ 18 (by decide) cw_1211 (fun _ h9 => h9) dX12_says_36 (fun hv => ?_)
        rw [hxr12]
        refine lv_iload_n hx hb dX12_says_39 rfl (lv_at hl 1 rfl) ?_
        refine tw_aald (k := 318) (t0 := 4) (n := 16) (lo := 328) (hi := 0) (ty := .int) hx hb hK TH hmxr12 hkxr12 (by decide) rfl rfl (i := x1) (vp_in_iff.mpr ⟨by  omega, by  omega⟩) dX12_says_40 (fun xr18 exr18 hmxr18 hkxr18 => ?_)
        have ezxr18 : xr13 = xr18 := exr13.symm.trans exr18
        subst ezxr18
        refine lv_iload hx hb dX12_says_41 (lv_at hl 4 rfl) ?_
        refine tw_iald (k := 328) (t0 := 0) (n := 150) (lo := (-1)) (hi := 149) hx hb hK TH hmxr13 hkxr13 (by decide) rfl rfl (i := x4) (vp_in_iff.mpr ⟨by  omega, by  omega⟩) dX12_says_43 (fun hxe19a hxe19b => ?_)
        obtain ⟨xe19, exe19⟩ : ∃ z : Int32, tw_iv E xr13 (Int32.toNatClampNeg x4) = z := ⟨_, rfl⟩
        rw [exe19] at hxe19a hxe19b ⊢
        refine lv_iload_n hx hb dX12_says_44 rfl (lv_at hl 2 rfl) ?_
        refine lv_icmp_eq (tgt := 50) hx hb dX12_says_45 (by decide) (fun hc20 => ?_) (fun hc20 => ?_)
        · have hf21 : xe19.toInt = x2.toInt := by have z := (fa_eq _ _).mp hc20;  omega
          refine lv_aload_n hx hb dX12_says_50 rfl (lv_at hl 0 rfl) ?_
          refine tw_get (ci := 12) (C := RX12) (T := TX12) (N := 64) hx hb hB cx_inX12 hown hK TH hm0 hk0 rfl ⟨by decide, rfl⟩ 19 (by decide) cw_1212 (fun _ h9 => h9) dX12_says_51 (fun hv => ?_)
          obtain ⟨xr22, hxr22, hmxr22, hkxr22⟩ : ∃ a : Nat, tw_fv E a0 19 = .ref a ∧ a ∈ L ∧ kp a = 319 := hv
          rw [hxr22]
          refine lv_iload_n hx hb dX12_says_54 rfl (lv_at hl 1 rfl) ?_
          refine tw_aald (k := 319) (t0 := 4) (n := 16) (lo := 329) (hi := 0) (ty := .int) hx hb hK TH hmxr22 hkxr22 (by decide) rfl rfl (i := x1) (vp_in_iff.mpr ⟨by  omega, by  omega⟩) dX12_says_55 (fun xr23 exr23 hmxr23 hkxr23 => ?_)
          have hkxr23 : kp xr23 = 329 := hkxr23
          refine lv_iload_n hx hb dX12_says_56 rfl (lv_at hl 3 rfl) ?_
          refine tw_iald (k := 329) (t0 := 0) (n := 150) (lo := (-2147483648)) (hi := 2147483647) hx hb hK TH hmxr23 hkxr23 (by decide) rfl rfl (i := x3) (vp_in_iff.mpr ⟨by  omega, by  omega⟩) dX12_says_57 (fun hxe24a hxe24b => ?_)
          obtain ⟨xe24, exe24⟩ : ∃ z : Int32, tw_iv E xr23 (Int32.toNatClampNeg x3) = z := ⟨_, rfl⟩
          rw [exe24] at hxe24a hxe24b ⊢
          refine lv_aload_n hx hb dX12_says_58 rfl (lv_at hl 0 rfl) ?_
          refine tw_get (ci := 12) (C := RX12) (T := TX12) (N := 64) hx hb hB cx_inX12 hown hK TH hm0 hk0 rfl ⟨by decide, rfl⟩ 19 (by decide) cw_1212 (fun _ h9 => h9) dX12_says_59 (fun hv => ?_)
          rw [hxr22]
          refine lv_iload_n hx hb dX12_says_62 rfl (lv_at hl 1 rfl) ?_
          refine tw_aald (k := 319) (t0 := 4) (n := 16) (lo := 329) (hi := 0) (ty := .int) hx hb hK TH hmxr22 hkxr22 (by decide) rfl rfl (i := x1) (vp_in_iff.mpr ⟨by  omega, by  omega⟩) dX12_says_63 (fun xr25 exr25 hmxr25 hkxr25 => ?_)
          have ezxr25 : xr23 = xr25 := exr23.symm.trans exr25
          subst ezxr25
          refine lv_iload hx hb dX12_says_64 (lv_at hl 4 rfl) ?_
          refine tw_iald (k := 329) (t0 := 0) (n := 150) (lo := (-2147483648)) (hi := 2147483647) hx hb hK TH hmxr23 hkxr23 (by decide) rfl rfl (i := x4) (vp_in_iff.mpr ⟨by  omega, by  omega⟩) dX12_says_66 (fun hxe26a hxe26b => ?_)
          obtain ⟨xe26, exe26⟩ : ∃ z : Int32, tw_iv E xr23 (Int32.toNatClampNeg x4) = z := ⟨_, rfl⟩
          rw [exe26] at hxe26a hxe26b ⊢
          refine lv_icmp_ge (tgt := 74) hx hb dX12_says_67 (by decide) (fun hc27 => ?_) (fun hc27 => ?_)
          · have hf28 : xe26.toInt ≤ xe24.toInt := by have z := (fa_le _ _).mp hc27;  omega
            refine lv_iconst (v := (-1)) hx hb dX12_says_74 (by decide) ?_
            exact tw_iret hx hb hr hlocks TH hS hex ⟨⟨_, rfl, (show (-1) ≤ Int32.toInt (-1) from by have : (((-1) : Int32).toInt) = (-1) := (by decide); omega), (show Int32.toInt (-1) ≤ 1 from by have : (((-1) : Int32).toInt) = (-1) := (by decide); omega)⟩, rfl, rfl, rfl⟩ (Nat.le_of_ble_eq_true rfl) (Nat.le_of_ble_eq_true rfl) dX12_says_75
          · have hf29 : ¬ (xe26.toInt ≤ xe24.toInt) := fun q => hc27 ((fa_le _ _).mpr (by  omega))
            refine lv_iconst (v := 1) hx hb dX12_says_70 (by decide) ?_
            refine lv_goto (tgt := 75) hx hb dX12_says_71 (by decide) ?_
            exact tw_iret hx hb hr hlocks TH hS hex ⟨⟨_, rfl, (show (-1) ≤ Int32.toInt 1 from by have : ((1 : Int32).toInt) = 1 := (by decide); omega), (show Int32.toInt 1 ≤ 1 from by have : ((1 : Int32).toInt) = 1 := (by decide); omega)⟩, rfl, rfl, rfl⟩ (Nat.le_of_ble_eq_true rfl) (Nat.le_of_ble_eq_true rfl) dX12_says_75
        · have hf30 : ¬ (xe19.toInt = x2.toInt) := fun q => hc20 ((fa_eq _ _).mpr (by  omega))
          refine lv_iconst (v := 0) hx hb dX12_says_48 (by decide) ?_
          exact tw_iret hx hb hr hlocks TH hS hex ⟨⟨_, rfl, (show (-1) ≤ Int32.toInt 0 from by have : ((0 : Int32).toInt) = 0 := (by decide); omega), (show Int32.toInt 0 ≤ 1 from by have : ((0 : Int32).toInt) = 0 := (by decide); omega)⟩, rfl, rfl, rfl⟩ (Nat.le_of_ble_eq_true rfl) (Nat.le_of_ble_eq_true rfl) dX12_says_49
set_option maxHeartbeats 4000000 in
set_option maxRecDepth 100000 in
theorem tX12_ahead (l : Launch) (D : va_G) (cs : Nat → ClassId) {kp : Nat → Nat} {L : List Nat} {E : Nat → va_E} (a0 : Nat) (x1 : Int32) (x2 : Int32) (x3 : Int32) (x4 : Int32) (x5 : Int32) (x6 : Int32) (hm0 : a0 ∈ L) (hk0 : kp a0 = 12) (hp1a : 0 ≤ x1.toInt) (hp1b : x1.toInt ≤ 15) (hp2a : 0 ≤ x2.toInt) (hp2b : x2.toInt ≤ 15) (hp3a : 0 ≤ x3.toInt) (hp3b : x3.toInt ≤ 15) (hp5a : 0 ≤ x5.toInt) (hp5b : x5.toInt ≤ 149) (hp6a : 0 ≤ x6.toInt) (hp6b : x6.toInt ≤ 149) (sz : Nat) : Met l yX12_ahead (.code yX12_ahead cX12_ahead 10 (some .int) :: cx_big) { frames := 1, cells := 0, slots := 0, locals := 24 } (tw_P D cs kp L E [.ref a0, .int x1, .int x2, .int x3, .int x4, .int x5, .int x6] sz) (tw_Q D cs kp L (fun v kq Lq Eq => (∃ x : Int32, v = some (.int x) ∧ (-2) ≤ x.toInt ∧ x.toInt ≤ 2) ∧ kp = kq ∧ L = Lq ∧ E = Eq) (va_A (va_pl L E) sz)) 0 0 (va_A (va_pl L E) sz) := by
  refine tw_ofW (by decide) (Nat.le_of_ble_eq_true rfl) ?_
  intro p e s m below meth c A ls hx hb hr hml hB hown hlocks hK hN hA TH hS hl
  have hown : s.vm.findClass "TreeMergeModel" = some m.cls := hown
  have hl : lv_has ls 10 [(0, .ref a0), (1, .int x1), (2, .int x2), (3, .int x3), (4, .int x4), (5, .int x5), (6, .int x6)] := hl
  obtain ⟨kp0, ekp⟩ : ∃ z, z = kp := ⟨_, rfl⟩
  obtain ⟨L0, eL⟩ : ∃ z, z = L := ⟨_, rfl⟩
  rw [show tw_Q D cs kp L = tw_Q D cs kp0 L0 by rw [ekp, eL]]
  have hex : ∀ a : Nat, a ∈ L0 → a ∈ L ∧ kp a = kp0 a := fun a h => ⟨by rw [← eL]; exact h, by rw [ekp]⟩
  refine lv_aload_n hx hb dX12_ahead_0 rfl (lv_at hl 0 rfl) ?_
  refine lv_iload_n hx hb dX12_ahead_1 rfl (lv_at hl 1 rfl) ?_
  refine lv_iload hx hb dX12_ahead_2 (lv_at hl 4 rfl) ?_
  refine lv_iload hx hb dX12_ahead_4 (lv_at hl 5 rfl) ?_
  refine lv_iload hx hb dX12_ahead_6 (lv_at hl 6 rfl) ?_
  refine tw_Vc (o := a0) (ci := 12) (n := 4) (post := (fun v kq Lq Eq => (∃ x : Int32, v = some (.int x) ∧ (-1) ≤ x.toInt ∧ x.toInt ≤ 1) ∧ kp = kq ∧ L = Lq ∧ E = Eq)) (As := [.int x1, .int x4, .int x5, .int x6]) (rest := []) ⟨hx, hb, hml, hown, hB⟩ (fun sz => tX12_says l D cs a0 x1 x4 x5 x6 hm0 hk0 (by omega) (by omega) (by omega) (by omega) (by omega) (by omega) sz) cg_12_486_X12_says rfl rfl (by decide +kernel) ⟨Nat.le_of_ble_eq_true rfl, Nat.le_of_ble_eq_true rfl⟩ hK hN TH hS hA rfl hm0 hk0 (by decide) rfl hl.1 rfl (Nat.le_of_ble_eq_true rfl) dX12_ahead_8 ⟨Nat.le_of_ble_eq_true rfl, Nat.le_of_ble_eq_true rfl⟩ (fun v1 kp1 L1 E1 H locs hq1 hx1 TH hS => ?_)
  obtain ⟨⟨xc2, rfl, hxc2a, hxc2b⟩, rfl, rfl, rfl⟩ := hq1
  refine W.eq (g2 := F0 m 11 ls [.int xc2]) rfl ?_
  refine lv_istore (lv' := [(7, .int xc2), (0, .ref a0), (1, .int x1), (2, .int x2), (3, .int x3), (4, .int x4), (5, .int x5), (6, .int x6)]) hx hb dX12_ahead_11 hl (by decide) rfl (fun ls hl => ?_)
  refine lv_aload_n hx hb dX12_ahead_13 rfl (lv_at hl 1 rfl) ?_
  refine lv_iload_n hx hb dX12_ahead_14 rfl (lv_at hl 3 rfl) ?_
  refine lv_iload hx hb dX12_ahead_15 (lv_at hl 5 rfl) ?_
  refine lv_iload hx hb dX12_ahead_17 (lv_at hl 6 rfl) ?_
  refine lv_iload hx hb dX12_ahead_19 (lv_at hl 7 rfl) ?_
  refine tw_Vc (o := a0) (ci := 12) (n := 4) (post := (fun v kq Lq Eq => (∃ x : Int32, v = some (.int x) ∧ (-1) ≤ x.toInt ∧ x.toInt ≤ 1) ∧ kp = kq ∧ L = Lq ∧ E = Eq)) (As := [.int x2, .int x4, .int x5, .int x6]) (rest := []) ⟨hx, hb, hml, hown, hB⟩ (fun sz => tX12_says l D cs a0 x2 x4 x5 x6 hm0 hk0 (by omega) (by omega) (by omega) (by omega) (by omega) (by omega) sz) cg_12_486_X12_says rfl rfl (by decide +kernel) ⟨Nat.le_of_ble_eq_true rfl, Nat.le_of_ble_eq_true rfl⟩ hK hN TH hS hA rfl hm0 hk0 (by decide) rfl hl.1 rfl (Nat.le_of_ble_eq_true rfl) dX12_ahead_21 ⟨Nat.le_of_ble_eq_true rfl, Nat.le_of_ble_eq_true rfl⟩ (fun v3 kp3 L3 E3 H locs hq3 hx3 TH hS => ?_)
  obtain ⟨⟨xc4, rfl, hxc4a, hxc4b⟩, rfl, rfl, rfl⟩ := hq3
  refine W.eq (g2 := F0 m 24 ls [.int xc4]) rfl ?_
  refine lv_istore (lv' := [(8, .int xc4), (7, .int xc2), (0, .ref a0), (1, .int x1), (2, .int x2), (3, .int x3), (4, .int x4), (5, .int x5), (6, .int x6)]) hx hb dX12_ahead_24 hl (by decide) rfl (fun ls hl => ?_)
  refine lv_iload hx hb dX12_ahead_26 (lv_at hl 1 rfl) ?_
  refine lv_if_eq (tgt := 36) hx hb dX12_ahead_28 (by decide) (fun hc5 => ?_) (fun hc5 => ?_)
  · have hf6 : xc2.toInt = 0 := by have z := (fa_eq _ _).mp hc5; have : ((0 : Int32).toInt) = 0 := (by decide); omega
    refine lv_iload hx hb dX12_ahead_36 (lv_at hl 1 rfl) ?_
    refine lv_iload hx hb dX12_ahead_38 (lv_at hl 0 rfl) ?_
    refine lv_iadd hx hb dX12_ahead_40 ?_
    refine lv_topi (fun zi7 ezi7 => ?_)
    have hzi7 : zi7.toInt = xc2.toInt + xc4.toInt := by rw [ezi7];  have := ia_lo xc2; have := ia_hi xc2; have := ia_lo xc4; have := ia_hi xc4; exact (ia_add (by omega) (by omega)).trans (by omega)
    exact tw_iret hx hb hr hlocks TH hS hex ⟨⟨_, rfl, (show (-2) ≤ Int32.toInt zi7 from by  omega), (show Int32.toInt zi7 ≤ 2 from by  omega)⟩, rfl, rfl, rfl⟩ (Nat.le_of_ble_eq_true rfl) (Nat.le_of_ble_eq_true rfl) dX12_ahead_41
  · have hf8 : ¬ (xc2.toInt = 0) := fun q => hc5 ((fa_eq _ _).mpr (by have : ((0 : Int32).toInt) = 0 := (by decide); omega))
    refine lv_iload hx hb dX12_ahead_31 (lv_at hl 0 rfl) ?_
    refine lv_if_ne (tgt := 42) hx hb dX12_ahead_33 (by decide) (fun hc9 => ?_) (fun hc9 => ?_)
    · have hf10 : ¬ (xc4.toInt = 0) := fun q => hc9 ((fa_eq _ _).mpr (by have : ((0 : Int32).toInt) = 0 := (by decide); omega))
      refine lv_iload hx hb dX12_ahead_42 (lv_at hl 1 rfl) ?_
      refine lv_iload hx hb dX12_ahead_44 (lv_at hl 0 rfl) ?_
      refine lv_icmp_ne (tgt := 52) hx hb dX12_ahead_46 (by decide) (fun hc11 => ?_) (fun hc11 => ?_)
      · have hf12 : ¬ (xc2.toInt = xc4.toInt) := fun q => hc11 ((fa_eq _ _).mpr (by  omega))
        refine lv_aload_n hx hb dX12_ahead_52 rfl (lv_at hl 2 rfl) ?_
        refine lv_iload_n hx hb dX12_ahead_53 rfl (lv_at hl 5 rfl) ?_
        refine lv_iload hx hb dX12_ahead_54 (lv_at hl 6 rfl) ?_
        refine lv_iload hx hb dX12_ahead_56 (lv_at hl 7 rfl) ?_
        refine lv_iload hx hb dX12_ahead_58 (lv_at hl 8 rfl) ?_
        refine tw_Vc (o := a0) (ci := 12) (n := 4) (post := (fun v kq Lq Eq => (∃ x : Int32, v = some (.int x) ∧ (-1) ≤ x.toInt ∧ x.toInt ≤ 1) ∧ kp = kq ∧ L = Lq ∧ E = Eq)) (As := [.int x3, .int x4, .int x5, .int x6]) (rest := []) ⟨hx, hb, hml, hown, hB⟩ (fun sz => tX12_says l D cs a0 x3 x4 x5 x6 hm0 hk0 (by omega) (by omega) (by omega) (by omega) (by omega) (by omega) sz) cg_12_486_X12_says rfl rfl (by decide +kernel) ⟨Nat.le_of_ble_eq_true rfl, Nat.le_of_ble_eq_true rfl⟩ hK hN TH hS hA rfl hm0 hk0 (by decide) rfl hl.1 rfl (Nat.le_of_ble_eq_true rfl) dX12_ahead_60 ⟨Nat.le_of_ble_eq_true rfl, Nat.le_of_ble_eq_true rfl⟩ (fun v13 kp13 L13 E13 H locs hq13 hx13 TH hS => ?_)
        obtain ⟨⟨xc14, rfl, hxc14a, hxc14b⟩, rfl, rfl, rfl⟩ := hq13
        refine W.eq (g2 := F0 m 63 ls [.int xc14]) rfl ?_
        refine lv_istore (lv' := [(9, .int xc14), (8, .int xc4), (7, .int xc2), (0, .ref a0), (1, .int x1), (2, .int x2), (3, .int x3), (4, .int x4), (5, .int x5), (6, .int x6)]) hx hb dX12_ahead_63 hl (by decide) rfl (fun ls hl => ?_)
        refine lv_iload hx hb dX12_ahead_65 (lv_at hl 0 rfl) ?_
        refine lv_if_ne (tgt := 74) hx hb dX12_ahead_67 (by decide) (fun hc15 => ?_) (fun hc15 => ?_)
        · have hf16 : ¬ (xc14.toInt = 0) := fun q => hc15 ((fa_eq _ _).mpr (by have : ((0 : Int32).toInt) = 0 := (by decide); omega))
          refine lv_iload hx hb dX12_ahead_74 (lv_at hl 0 rfl) ?_
          refine lv_iload hx hb dX12_ahead_76 (lv_at hl 2 rfl) ?_
          refine lv_icmp_ne (tgt := 86) hx hb dX12_ahead_78 (by decide) (fun hc17 => ?_) (fun hc17 => ?_)
          · have hf18 : ¬ (xc14.toInt = xc2.toInt) := fun q => hc17 ((fa_eq _ _).mpr (by  omega))
            refine lv_iload hx hb dX12_ahead_86 (lv_at hl 2 rfl) ?_
            exact tw_iret hx hb hr hlocks TH hS hex ⟨⟨_, rfl, (show (-2) ≤ Int32.toInt xc2 from by  omega), (show Int32.toInt xc2 ≤ 2 from by  omega)⟩, rfl, rfl, rfl⟩ (Nat.le_of_ble_eq_true rfl) (Nat.le_of_ble_eq_true rfl) dX12_ahead_88
          · have hf19 : xc14.toInt = xc2.toInt := by have z := (fa_eq _ _).mp hc17;  omega
            refine lv_iload hx hb dX12_ahead_81 (lv_at hl 1 rfl) ?_
            refine lv_goto (tgt := 88) hx hb dX12_ahead_83 (by decide) ?_
            exact tw_iret hx hb hr hlocks TH hS hex ⟨⟨_, rfl, (show (-2) ≤ Int32.toInt xc4 from by  omega), (show Int32.toInt xc4 ≤ 2 from by  omega)⟩, rfl, rfl, rfl⟩ (Nat.le_of_ble_eq_true rfl) (Nat.le_of_ble_eq_true rfl) dX12_ahead_88
        · have hf20 : xc14.toInt = 0 := by have z := (fa_eq _ _).mp hc15; have : ((0 : Int32).toInt) = 0 := (by decide); omega
          refine lv_iconst (v := 2) hx hb dX12_ahead_70 (by decide) ?_
          refine lv_goto (tgt := 88) hx hb dX12_ahead_71 (by decide) ?_
          exact tw_iret hx hb hr hlocks TH hS hex ⟨⟨_, rfl, (show (-2) ≤ Int32.toInt 2 from by have : ((2 : Int32).toInt) = 2 := (by decide); omega), (show Int32.toInt 2 ≤ 2 from by have : ((2 : Int32).toInt) = 2 := (by decide); omega)⟩, rfl, rfl, rfl⟩ (Nat.le_of_ble_eq_true rfl) (Nat.le_of_ble_eq_true rfl) dX12_ahead_88
      · have hf21 : xc2.toInt = xc4.toInt := by have z := (fa_eq _ _).mp hc11;  omega
        refine lv_iload hx hb dX12_ahead_49 (lv_at hl 1 rfl) ?_
        exact tw_iret hx hb hr hlocks TH hS hex ⟨⟨_, rfl, (show (-2) ≤ Int32.toInt xc2 from by  omega), (show Int32.toInt xc2 ≤ 2 from by  omega)⟩, rfl, rfl, rfl⟩ (Nat.le_of_ble_eq_true rfl) (Nat.le_of_ble_eq_true rfl) dX12_ahead_51
    · have hf22 : xc4.toInt = 0 := by have z := (fa_eq _ _).mp hc9; have : ((0 : Int32).toInt) = 0 := (by decide); omega
      refine lv_iload hx hb dX12_ahead_36 (lv_at hl 1 rfl) ?_
      refine lv_iload hx hb dX12_ahead_38 (lv_at hl 0 rfl) ?_
      refine lv_iadd hx hb dX12_ahead_40 ?_
      refine lv_topi (fun zi23 ezi23 => ?_)
      have hzi23 : zi23.toInt = xc2.toInt + xc4.toInt := by rw [ezi23];  have := ia_lo xc2; have := ia_hi xc2; have := ia_lo xc4; have := ia_hi xc4; exact (ia_add (by omega) (by omega)).trans (by omega)
      exact tw_iret hx hb hr hlocks TH hS hex ⟨⟨_, rfl, (show (-2) ≤ Int32.toInt zi23 from by  omega), (show Int32.toInt zi23 ≤ 2 from by  omega)⟩, rfl, rfl, rfl⟩ (Nat.le_of_ble_eq_true rfl) (Nat.le_of_ble_eq_true rfl) dX12_ahead_41
set_option maxHeartbeats 4000000 in
set_option maxRecDepth 100000 in
theorem tX12_isFree (l : Launch) (D : va_G) (cs : Nat → ClassId) {kp : Nat → Nat} {L : List Nat} {E : Nat → va_E} (a0 : Nat) (x1 : Int32) (x2 : Int32) (x3 : Int32) (x4 : Int32) (x5 : Int32) (hm0 : a0 ∈ L) (hk0 : kp a0 = 12) (hp1a : 0 ≤ x1.toInt) (hp1b : x1.toInt ≤ 15) (hp2a : 0 ≤ x2.toInt) (hp2b : x2.toInt ≤ 15) (hp3a : 0 ≤ x3.toInt) (hp3b : x3.toInt ≤ 15) (hp5a : 0 ≤ x5.toInt) (hp5b : x5.toInt ≤ 149) (sz : Nat) : Met l yX12_isFree (.code yX12_isFree cX12_isFree 7 (some .boolean) :: cx_big) { frames := 2, cells := 0, slots := 0, locals := 53 } (tw_P D cs kp L E [.ref a0, .int x1, .int x2, .int x3, .int x4, .int x5] sz) (tw_Q D cs kp L (fun v kq Lq Eq => (∃ x : Int32, v = some (.int x) ∧ 0 ≤ x.toInt ∧ x.toInt ≤ 1) ∧ kp = kq ∧ L = Lq ∧ E = Eq) (va_A (va_pl L E) sz)) 0 0 (va_A (va_pl L E) sz) := by
  refine tw_ofW (by decide) (Nat.le_of_ble_eq_true rfl) ?_
  intro p e s m below meth c A ls hx hb hr hml hB hown hlocks hK hN hA TH hS hl
  have hown : s.vm.findClass "TreeMergeModel" = some m.cls := hown
  have hl : lv_has ls 7 [(0, .ref a0), (1, .int x1), (2, .int x2), (3, .int x3), (4, .int x4), (5, .int x5)] := hl
  obtain ⟨kp0, ekp⟩ : ∃ z, z = kp := ⟨_, rfl⟩
  obtain ⟨L0, eL⟩ : ∃ z, z = L := ⟨_, rfl⟩
  rw [show tw_Q D cs kp L = tw_Q D cs kp0 L0 by rw [ekp, eL]]
  have hex : ∀ a : Nat, a ∈ L0 → a ∈ L ∧ kp a = kp0 a := fun a h => ⟨by rw [← eL]; exact h, by rw [ekp]⟩
  refine lv_iconst (v := 0) hx hb dX12_isFree_0 (by decide) ?_
  refine lv_istore (lv' := [(6, .int 0), (0, .ref a0), (1, .int x1), (2, .int x2), (3, .int x3), (4, .int x4), (5, .int x5)]) hx hb dX12_isFree_1 hl (by decide) rfl (fun ls hl => ?_)
  have hJ3 : ∀ (n3 : Nat) (y3_6 : Int32) (H : Heap) (locs : List Loc) (ls : Array Slot), 0 ≤ y3_6.toInt → y3_6.toInt ≤ 150 → 150 - y3_6.toInt ≤ (n3 : Int) → tw_H D cs kp L E A H → va_S A s.heap H locs → lv_has ls 7 [(6, .int y3_6), (0, .ref a0), (1, .int x1), (2, .int x2), (3, .int x3), (4, .int x4), (5, .int x5)] → W p l e { frames := 2, cells := 0, slots := 0, locals := 53 } s m [.ref a0, .int x1, .int x2, .int x3, .int x4, .int x5].toArray below meth c H locs 0 0 (MQ below (tw_Q D cs kp0 L0 (fun v kq Lq Eq => (∃ x : Int32, v = some (.int x) ∧ 0 ≤ x.toInt ∧ x.toInt ≤ 1) ∧ kp = kq ∧ L = Lq ∧ E = Eq) A) [.ref a0, .int x1, .int x2, .int x3, .int x4, .int x5].toArray s 0 0 A) (F0 m 3 ls []) := by
    intro n3
    induction n3 using Nat.strongRecOn with
    | _ n3 ih3 =>
      intro y3_6 H locs ls hy3_6a hy3_6b hmeas3 TH hS hl
      refine lv_iload hx hb dX12_isFree_3 (lv_at hl 0 rfl) ?_
      refine lv_sipush (v := 150) hx hb dX12_isFree_5 (by decide) ?_
      refine lv_icmp_ge (tgt := 84) hx hb dX12_isFree_8 (by decide) (fun hc1 => ?_) (fun hc1 => ?_)
      · have hf2 : 150 ≤ y3_6.toInt := by have z := (fa_le _ _).mp hc1; have : ((150 : Int32).toInt) = 150 := (by decide); omega
        refine lv_iconst (v := 1) hx hb dX12_isFree_84 (by decide) ?_
        exact tw_zret hx hb hr hlocks (by decide) TH hS hex ⟨⟨_, rfl, (show 0 ≤ Int32.toInt 1 from by have : ((1 : Int32).toInt) = 1 := (by decide); omega), (show Int32.toInt 1 ≤ 1 from by have : ((1 : Int32).toInt) = 1 := (by decide); omega)⟩, rfl, rfl, rfl⟩ (Nat.le_of_ble_eq_true rfl) (Nat.le_of_ble_eq_true rfl) dX12_isFree_85
      · have hf3 : ¬ (150 ≤ y3_6.toInt) := fun q => hc1 ((fa_le _ _).mpr (by have : ((150 : Int32).toInt) = 150 := (by decide); omega))
        refine lv_iload hx hb dX12_isFree_11 (lv_at hl 0 rfl) ?_
        refine lv_iload hx hb dX12_isFree_13 (lv_at hl 6 rfl) ?_
        have hJ78 : ∀  (H : Heap) (locs : List Loc) (ls : Array Slot), tw_H D cs kp L E A H → va_S A s.heap H locs → lv_has ls 7 [(6, .int y3_6), (0, .ref a0), (1, .int x1), (2, .int x2), (3, .int x3), (4, .int x4), (5, .int x5)] → W p l e { frames := 2, cells := 0, slots := 0, locals := 53 } s m [.ref a0, .int x1, .int x2, .int x3, .int x4, .int x5].toArray below meth c H locs 0 0 (MQ below (tw_Q D cs kp0 L0 (fun v kq Lq Eq => (∃ x : Int32, v = some (.int x) ∧ 0 ≤ x.toInt ∧ x.toInt ≤ 1) ∧ kp = kq ∧ L = Lq ∧ E = Eq) A) [.ref a0, .int x1, .int x2, .int x3, .int x4, .int x5].toArray s 0 0 A) (F0 m 78 ls []) := by
          intro H locs ls TH hS hl
          obtain ⟨zi4, ezi4⟩ : ∃ z : Int32, z = y3_6 + Int32.ofInt 1 := ⟨_, rfl⟩
          have hzi4 : zi4.toInt = y3_6.toInt + 1 := by rw [ezi4]; have : ((Int32.ofInt 1).toInt) = 1 := (by decide);  exact (ia_add (by omega) (by omega)).trans (by omega)
          refine lv_iinc (v := zi4) (lv' := [(6, .int zi4), (0, .ref a0), (1, .int x1), (2, .int x2), (3, .int x3), (4, .int x4), (5, .int x5)]) hx hb dX12_isFree_78 hl (k := 0) rfl ezi4.symm (by decide) rfl (fun ls hl => ?_)
          refine lv_goto (tgt := 3) hx hb dX12_isFree_81 (by decide) ?_
          exact ih3 (n3 - 1) (by   omega) zi4 _ _ ls (by omega) (by omega) (by   omega) TH hS (lv_sub hl [0, 1, 2, 3, 4, 5, 6] rfl)
        refine lv_icmp_eq (tgt := 78) hx hb dX12_isFree_15 (by decide) (fun hc5 => ?_) (fun hc5 => ?_)
        · have hf6 : y3_6.toInt = x5.toInt := by have z := (fa_eq _ _).mp hc5;  omega
          exact hJ78  _ _ ls  TH hS (lv_sub hl [0, 1, 2, 3, 4, 5, 6] rfl)
        · have hf7 : ¬ (y3_6.toInt = x5.toInt) := fun q => hc5 ((fa_eq _ _).mpr (by  omega))
          refine lv_aload_n hx hb dX12_isFree_18 rfl (lv_at hl 1 rfl) ?_
          refine tw_get (ci := 12) (C := RX12) (T := TX12) (N := 64) hx hb hB cx_inX12 hown hK TH hm0 hk0 rfl ⟨by decide, rfl⟩ 16 (by decide) cw_1209 (fun _ h9 => h9) dX12_isFree_19 (fun hv => ?_)
          obtain ⟨xr8, hxr8, hmxr8, hkxr8⟩ : ∃ a : Nat, tw_fv E a0 16 = .ref a ∧ a ∈ L ∧ kp a = 316 := hv
          rw [hxr8]
          refine lv_bipush (v := 13) hx hb dX12_isFree_22 (by decide) ?_
          refine tw_aald (k := 316) (t0 := 5) (n := 16) (lo := 326) (hi := 0) (ty := .boolean) hx hb hK TH hmxr8 hkxr8 (by decide) rfl rfl (i := 13) (vp_in_iff.mpr ⟨by have : ((13 : Int32).toInt) = 13 := (by decide); omega, by have : ((13 : Int32).toInt) = 13 := (by decide); omega⟩) dX12_isFree_24 (fun xr9 exr9 hmxr9 hkxr9 => ?_)
          have hkxr9 : kp xr9 = 326 := hkxr9
          refine lv_iload hx hb dX12_isFree_25 (lv_at hl 0 rfl) ?_
          refine tw_zald (k := 326) (t0 := 3) (n := 150) (lo := 0) (hi := 1) hx hb hK TH hmxr9 hkxr9 (by decide) rfl rfl (i := y3_6) (vp_in_iff.mpr ⟨by  omega, by  omega⟩) dX12_isFree_27 (fun hxe10a hxe10b => ?_)
          obtain ⟨xe10, exe10⟩ : ∃ z : Int32, tw_iv E xr9 (Int32.toNatClampNeg y3_6) = z := ⟨_, rfl⟩
          rw [exe10] at hxe10a hxe10b ⊢
          refine lv_if_eq (tgt := 78) hx hb dX12_isFree_28 (by decide) (fun hc11 => ?_) (fun hc11 => ?_)
          · have hf12 : xe10.toInt = 0 := by have z := (fa_eq _ _).mp hc11; have : ((0 : Int32).toInt) = 0 := (by decide); omega
            exact hJ78  _ _ ls  TH hS (lv_sub hl [0, 1, 2, 3, 4, 5, 6] rfl)
          · have hf13 : ¬ (xe10.toInt = 0) := fun q => hc11 ((fa_eq _ _).mpr (by have : ((0 : Int32).toInt) = 0 := (by decide); omega))
            refine lv_aload_n hx hb dX12_isFree_31 rfl (lv_at hl 1 rfl) ?_
            refine tw_get (ci := 12) (C := RX12) (T := TX12) (N := 64) hx hb hB cx_inX12 hown hK TH hm0 hk0 rfl ⟨by decide, rfl⟩ 18 (by decide) cw_1211 (fun _ h9 => h9) dX12_isFree_32 (fun hv => ?_)
            obtain ⟨xr14, hxr14, hmxr14, hkxr14⟩ : ∃ a : Nat, tw_fv E a0 18 = .ref a ∧ a ∈ L ∧ kp a = 318 := hv
            rw [hxr14]
            refine lv_bipush (v := 13) hx hb dX12_isFree_35 (by decide) ?_
            refine tw_aald (k := 318) (t0 := 4) (n := 16) (lo := 328) (hi := 0) (ty := .int) hx hb hK TH hmxr14 hkxr14 (by decide) rfl rfl (i := 13) (vp_in_iff.mpr ⟨by have : ((13 : Int32).toInt) = 13 := (by decide); omega, by have : ((13 : Int32).toInt) = 13 := (by decide); omega⟩) dX12_isFree_37 (fun xr15 exr15 hmxr15 hkxr15 => ?_)
            have hkxr15 : kp xr15 = 328 := hkxr15
            refine lv_iload hx hb dX12_isFree_38 (lv_at hl 0 rfl) ?_
            refine tw_iald (k := 328) (t0 := 0) (n := 150) (lo := (-1)) (hi := 149) hx hb hK TH hmxr15 hkxr15 (by decide) rfl rfl (i := y3_6) (vp_in_iff.mpr ⟨by  omega, by  omega⟩) dX12_isFree_40 (fun hxe16a hxe16b => ?_)
            obtain ⟨xe16, exe16⟩ : ∃ z : Int32, tw_iv E xr15 (Int32.toNatClampNeg y3_6) = z := ⟨_, rfl⟩
            rw [exe16] at hxe16a hxe16b ⊢
            refine lv_iload hx hb dX12_isFree_41 (lv_at hl 5 rfl) ?_
            refine lv_icmp_ne (tgt := 78) hx hb dX12_isFree_43 (by decide) (fun hc17 => ?_) (fun hc17 => ?_)
            · have hf18 : ¬ (xe16.toInt = x4.toInt) := fun q => hc17 ((fa_eq _ _).mpr (by  omega))
              exact hJ78  _ _ ls  TH hS (lv_sub hl [0, 1, 2, 3, 4, 5, 6] rfl)
            · have hf19 : xe16.toInt = x4.toInt := by have z := (fa_eq _ _).mp hc17;  omega
              refine lv_aload_n hx hb dX12_isFree_46 rfl (lv_at hl 1 rfl) ?_
              refine tw_get (ci := 12) (C := RX12) (T := TX12) (N := 64) hx hb hB cx_inX12 hown hK TH hm0 hk0 rfl ⟨by decide, rfl⟩ 59 (by decide) cw_1252 (fun _ h9 => h9) dX12_isFree_47 (fun hv => ?_)
              obtain ⟨xr20, hxr20, hmxr20, hkxr20⟩ : ∃ a : Nat, tw_fv E a0 59 = .ref a ∧ a ∈ L ∧ kp a = 363 := hv
              rw [hxr20]
              refine lv_iload hx hb dX12_isFree_50 (lv_at hl 0 rfl) ?_
              refine tw_zald (k := 363) (t0 := 3) (n := 150) (lo := 0) (hi := 1) hx hb hK TH hmxr20 hkxr20 (by decide) rfl rfl (i := y3_6) (vp_in_iff.mpr ⟨by  omega, by  omega⟩) dX12_isFree_52 (fun hxe21a hxe21b => ?_)
              obtain ⟨xe21, exe21⟩ : ∃ z : Int32, tw_iv E xr20 (Int32.toNatClampNeg y3_6) = z := ⟨_, rfl⟩
              rw [exe21] at hxe21a hxe21b ⊢
              refine lv_if_eq (tgt := 59) hx hb dX12_isFree_53 (by decide) (fun hc22 => ?_) (fun hc22 => ?_)
              · have hf23 : xe21.toInt = 0 := by have z := (fa_eq _ _).mp hc22; have : ((0 : Int32).toInt) = 0 := (by decide); omega
                refine lv_aload_n hx hb dX12_isFree_59 rfl (lv_at hl 1 rfl) ?_
                refine lv_iload_n hx hb dX12_isFree_60 rfl (lv_at hl 2 rfl) ?_
                refine lv_iload_n hx hb dX12_isFree_61 rfl (lv_at hl 3 rfl) ?_
                refine lv_iload_n hx hb dX12_isFree_62 rfl (lv_at hl 4 rfl) ?_
                refine lv_iload hx hb dX12_isFree_63 (lv_at hl 5 rfl) ?_
                refine lv_iload hx hb dX12_isFree_65 (lv_at hl 0 rfl) ?_
                refine lv_iload hx hb dX12_isFree_67 (lv_at hl 6 rfl) ?_
                refine tw_Vc (o := a0) (ci := 12) (n := 6) (post := (fun v kq Lq Eq => (∃ x : Int32, v = some (.int x) ∧ (-2) ≤ x.toInt ∧ x.toInt ≤ 2) ∧ kp = kq ∧ L = Lq ∧ E = Eq)) (As := [.int x1, .int x2, .int x3, .int x4, .int y3_6, .int x5]) (rest := []) ⟨hx, hb, hml, hown, hB⟩ (fun sz => tX12_ahead l D cs a0 x1 x2 x3 x4 y3_6 x5 hm0 hk0 (by omega) (by omega) (by omega) (by omega) (by omega) (by omega) (by omega) (by omega) (by omega) (by omega) sz) cg_12_489_X12_ahead rfl rfl (by decide +kernel) ⟨Nat.le_of_ble_eq_true rfl, Nat.le_of_ble_eq_true rfl⟩ hK hN TH hS hA rfl hm0 hk0 (by decide) rfl hl.1 rfl (Nat.le_of_ble_eq_true rfl) dX12_isFree_69 ⟨Nat.le_of_ble_eq_true rfl, Nat.le_of_ble_eq_true rfl⟩ (fun v24 kp24 L24 E24 H locs hq24 hx24 TH hS => ?_)
                obtain ⟨⟨xc25, rfl, hxc25a, hxc25b⟩, rfl, rfl, rfl⟩ := hq24
                refine W.eq (g2 := F0 m 72 ls [.int xc25]) rfl ?_
                refine lv_iconst (v := 1) hx hb dX12_isFree_72 (by decide) ?_
                refine lv_icmp_ne (tgt := 78) hx hb dX12_isFree_73 (by decide) (fun hc26 => ?_) (fun hc26 => ?_)
                · have hf27 : ¬ (xc25.toInt = 1) := fun q => hc26 ((fa_eq _ _).mpr (by have : ((1 : Int32).toInt) = 1 := (by decide); omega))
                  exact hJ78  _ _ ls  TH hS (lv_sub hl [0, 1, 2, 3, 4, 5, 6] rfl)
                · have hf28 : xc25.toInt = 1 := by have z := (fa_eq _ _).mp hc26; have : ((1 : Int32).toInt) = 1 := (by decide); omega
                  refine lv_iconst (v := 0) hx hb dX12_isFree_76 (by decide) ?_
                  exact tw_zret hx hb hr hlocks (by decide) TH hS hex ⟨⟨_, rfl, (show 0 ≤ Int32.toInt 0 from by have : ((0 : Int32).toInt) = 0 := (by decide); omega), (show Int32.toInt 0 ≤ 1 from by have : ((0 : Int32).toInt) = 0 := (by decide); omega)⟩, rfl, rfl, rfl⟩ (Nat.le_of_ble_eq_true rfl) (Nat.le_of_ble_eq_true rfl) dX12_isFree_77
              · have hf29 : ¬ (xe21.toInt = 0) := fun q => hc22 ((fa_eq _ _).mpr (by have : ((0 : Int32).toInt) = 0 := (by decide); omega))
                refine lv_goto (tgt := 78) hx hb dX12_isFree_56 (by decide) ?_
                exact hJ78  _ _ ls  TH hS (lv_sub hl [0, 1, 2, 3, 4, 5, 6] rfl)
  exact hJ3 151 (0 : Int32) _ _ ls (by have : ((0 : Int32).toInt) = 0 := (by decide); omega) (by have : ((0 : Int32).toInt) = 0 := (by decide); omega) (by have : ((0 : Int32).toInt) = 0 := (by decide);  omega) TH hS (lv_sub hl [0, 1, 2, 3, 4, 5, 6] rfl)
set_option maxHeartbeats 4000000 in
set_option maxRecDepth 100000 in
theorem tX12_ordersKids (l : Launch) (D : va_G) (cs : Nat → ClassId) {kp : Nat → Nat} {L : List Nat} {E : Nat → va_E} (a0 : Nat) (x1 : Int32) (x2 : Int32) (x3 : Int32) (x4 : Int32) (hm0 : a0 ∈ L) (hk0 : kp a0 = 12) (hp1a : 0 ≤ x1.toInt) (hp1b : x1.toInt ≤ 15) (hp2a : 0 ≤ x2.toInt) (hp2b : x2.toInt ≤ 15) (hp3a : 0 ≤ x3.toInt) (hp3b : x3.toInt ≤ 15) (hp4a : 0 ≤ x4.toInt) (hp4b : x4.toInt ≤ 149) (sz : Nat) : Met l yX12_ordersKids (.code yX12_ordersKids cX12_ordersKids 9 (some .boolean) :: cx_big) { frames := 3, cells := 0, slots := 0, locals := 79 } (tw_P D cs kp L E [.ref a0, .int x1, .int x2, .int x3, .int x4] sz) (tw_Q D cs kp L (fun v kq Lq Eq => (∃ x : Int32, v = some (.int x) ∧ 0 ≤ x.toInt ∧ x.toInt ≤ 1) ∧ kp = kq ∧ L = Lq ∧ tw_fr kp L [] [329, 363] E Eq) (va_A (va_pl L E) sz)) 0 0 (va_A (va_pl L E) sz) := by
  refine tw_ofW (by decide) (Nat.le_of_ble_eq_true rfl) ?_
  intro p e s m below meth c A ls hx hb hr hml hB hown hlocks hK hN hA TH hS hl
  have hown : s.vm.findClass "TreeMergeModel" = some m.cls := hown
  have hl : lv_has ls 9 [(0, .ref a0), (1, .int x1), (2, .int x2), (3, .int x3), (4, .int x4)] := hl
  obtain ⟨kp0, ekp⟩ : ∃ z, z = kp := ⟨_, rfl⟩
  obtain ⟨L0, eL⟩ : ∃ z, z = L := ⟨_, rfl⟩
  rw [show tw_Q D cs kp L = tw_Q D cs kp0 L0 by rw [ekp, eL]]
  have hex : ∀ a : Nat, a ∈ L0 → a ∈ L ∧ kp a = kp0 a := fun a h => ⟨by rw [← eL]; exact h, by rw [ekp]⟩
  have hF : tw_fr kp L [] [329, 363] E E := tw_fr.rf
  refine lv_aload_n hx hb dX12_ordersKids_0 rfl (lv_at hl 0 rfl) ?_
  refine lv_bipush (v := 13) hx hb dX12_ordersKids_1 (by decide) ?_
  refine lv_iload hx hb dX12_ordersKids_3 (lv_at hl 4 rfl) ?_
  refine tw_Vc (o := a0) (ci := 12) (n := 2) (post := (fun v kq Lq Eq => (∃ x : Int32, v = some (.int x) ∧ 0 ≤ x.toInt ∧ x.toInt ≤ 150 ∧ (x.toInt = 0 → nk_inv (rw_h E a0 (13 : Int32).toInt) (rw_p E a0 (13 : Int32).toInt) x4.toInt 150)) ∧ kp = kq ∧ L = Lq ∧ E = Eq)) (As := [.int 13, .int x4]) (rest := []) ⟨hx, hb, hml, hown, hB⟩ (fun sz => tX12_kidsOf l D cs a0 (13 : Int32) x4 hm0 hk0 (by have : ((13 : Int32).toInt) = 13 := (by decide); omega) (by have : ((13 : Int32).toInt) = 13 := (by decide); omega) sz) cg_12_315_X12_kidsOf rfl rfl (by decide +kernel) ⟨Nat.le_of_ble_eq_true rfl, Nat.le_of_ble_eq_true rfl⟩ hK hN TH hS hA rfl hm0 hk0 (by decide) rfl hl.1 rfl (Nat.le_of_ble_eq_true rfl) dX12_ordersKids_5 ⟨Nat.le_of_ble_eq_true rfl, Nat.le_of_ble_eq_true rfl⟩ (fun v1 kp1 L1 E1 H locs hq1 hx1 TH hS => ?_)
  obtain ⟨⟨xc2, rfl, hxc2a, hxc2b, hpoxc2_0⟩, rfl, rfl, rfl⟩ := hq1
  refine W.eq (g2 := F0 m 8 ls [.int xc2]) rfl ?_
  refine lv_istore (lv' := [(5, .int xc2), (0, .ref a0), (1, .int x1), (2, .int x2), (3, .int x3), (4, .int x4)]) hx hb dX12_ordersKids_8 hl (by decide) rfl (fun ls hl => ?_)
  refine lv_iconst (v := 0) hx hb dX12_ordersKids_10 (by decide) ?_
  refine lv_istore (lv' := [(6, .int 0), (5, .int xc2), (0, .ref a0), (1, .int x1), (2, .int x2), (3, .int x3), (4, .int x4)]) hx hb dX12_ordersKids_11 hl (by decide) rfl (fun ls hl => ?_)
  have hJ13 : ∀ (n13 : Nat) (y13_6 : Int32) (Eg13 : Nat → va_E) (H : Heap) (locs : List Loc) (ls : Array Slot), 0 ≤ y13_6.toInt → y13_6.toInt ≤ 150 → 150 - y13_6.toInt ≤ (n13 : Int) → tw_fr kp L [] [363] E Eg13 → tw_H D cs kp L Eg13 A H → va_S A s.heap H locs → lv_has ls 9 [(6, .int y13_6), (5, .int xc2), (0, .ref a0), (1, .int x1), (2, .int x2), (3, .int x3), (4, .int x4)] → W p l e { frames := 3, cells := 0, slots := 0, locals := 79 } s m [.ref a0, .int x1, .int x2, .int x3, .int x4].toArray below meth c H locs 0 0 (MQ below (tw_Q D cs kp0 L0 (fun v kq Lq Eq => (∃ x : Int32, v = some (.int x) ∧ 0 ≤ x.toInt ∧ x.toInt ≤ 1) ∧ kp = kq ∧ L = Lq ∧ tw_fr kp L [] [329, 363] E Eq) A) [.ref a0, .int x1, .int x2, .int x3, .int x4].toArray s 0 0 A) (F0 m 13 ls []) := by
    intro n13
    induction n13 using Nat.strongRecOn with
    | _ n13 ih13 =>
      intro y13_6 Eg13 H locs ls hy13_6a hy13_6b hmeas13 hG13 TH hS hl
      have hF := hF.tr hG13 (fun _ h => ⟨h, rfl⟩) (by decide) (by decide)
      refine lv_iload hx hb dX12_ordersKids_13 (lv_at hl 0 rfl) ?_
      refine lv_sipush (v := 150) hx hb dX12_ordersKids_15 (by decide) ?_
      refine lv_icmp_ge (tgt := 137) hx hb dX12_ordersKids_18 (by decide) (fun hc3 => ?_) (fun hc3 => ?_)
      · have hf4 : 150 ≤ y13_6.toInt := by have z := (fa_le _ _).mp hc3; have : ((150 : Int32).toInt) = 150 := (by decide); omega
        refine lv_iconst (v := 0) hx hb dX12_ordersKids_137 (by decide) ?_
        refine lv_istore (lv' := [(6, .int 0), (5, .int xc2), (0, .ref a0), (1, .int x1), (2, .int x2), (3, .int x3), (4, .int x4)]) hx hb dX12_ordersKids_138 hl (by decide) rfl (fun ls hl => ?_)
        have hJ140 : ∀ (n140 : Nat) (y140_6 : Int32) (Eg140 : Nat → va_E) (H : Heap) (locs : List Loc) (ls : Array Slot), 0 ≤ y140_6.toInt → y140_6.toInt ≤ 150 → 150 - y140_6.toInt ≤ (n140 : Int) → tw_fr kp L [] [329, 363] Eg13 Eg140 → tw_H D cs kp L Eg140 A H → va_S A s.heap H locs → lv_has ls 9 [(6, .int y140_6), (5, .int xc2), (0, .ref a0), (1, .int x1), (2, .int x2), (3, .int x3), (4, .int x4)] → W p l e { frames := 3, cells := 0, slots := 0, locals := 79 } s m [.ref a0, .int x1, .int x2, .int x3, .int x4].toArray below meth c H locs 0 0 (MQ below (tw_Q D cs kp0 L0 (fun v kq Lq Eq => (∃ x : Int32, v = some (.int x) ∧ 0 ≤ x.toInt ∧ x.toInt ≤ 1) ∧ kp = kq ∧ L = Lq ∧ tw_fr kp L [] [329, 363] E Eq) A) [.ref a0, .int x1, .int x2, .int x3, .int x4].toArray s 0 0 A) (F0 m 140 ls []) := by
          intro n140
          induction n140 using Nat.strongRecOn with
          | _ n140 ih140 =>
            intro y140_6 Eg140 H locs ls hy140_6a hy140_6b hmeas140 hG140 TH hS hl
            have hF := hF.tr hG140 (fun _ h => ⟨h, rfl⟩) (by decide) (by decide)
            refine lv_iload hx hb dX12_ordersKids_140 (lv_at hl 0 rfl) ?_
            refine lv_iload hx hb dX12_ordersKids_142 (lv_at hl 1 rfl) ?_
            refine lv_icmp_ge (tgt := 279) hx hb dX12_ordersKids_144 (by decide) (fun hc5 => ?_) (fun hc5 => ?_)
            · have hf6 : xc2.toInt ≤ y140_6.toInt := by have z := (fa_le _ _).mp hc5;  omega
              refine lv_iconst (v := 1) hx hb dX12_ordersKids_279 (by decide) ?_
              exact tw_zret hx hb hr hlocks (by decide) TH hS hex ⟨⟨_, rfl, (show 0 ≤ Int32.toInt 1 from by have : ((1 : Int32).toInt) = 1 := (by decide); omega), (show Int32.toInt 1 ≤ 1 from by have : ((1 : Int32).toInt) = 1 := (by decide); omega)⟩, rfl, rfl, hF⟩ (Nat.le_of_ble_eq_true rfl) (Nat.le_of_ble_eq_true rfl) dX12_ordersKids_280
            · have hf7 : ¬ (xc2.toInt ≤ y140_6.toInt) := fun q => hc5 ((fa_le _ _).mpr (by  omega))
              refine lv_iconst (v := (-1)) hx hb dX12_ordersKids_147 (by decide) ?_
              refine lv_istore (lv' := [(7, .int (-1)), (6, .int y140_6), (5, .int xc2), (0, .ref a0), (1, .int x1), (2, .int x2), (3, .int x3), (4, .int x4)]) hx hb dX12_ordersKids_148 hl (by decide) rfl (fun ls hl => ?_)
              refine lv_iconst (v := 0) hx hb dX12_ordersKids_150 (by decide) ?_
              refine lv_istore (lv' := [(8, .int 0), (7, .int (-1)), (6, .int y140_6), (5, .int xc2), (0, .ref a0), (1, .int x1), (2, .int x2), (3, .int x3), (4, .int x4)]) hx hb dX12_ordersKids_151 hl (by decide) rfl (fun ls hl => ?_)
              have hJ153 : ∀ (n153 : Nat) (y153_8 : Int32) (y153_7 : Int32) (H : Heap) (locs : List Loc) (ls : Array Slot), 0 ≤ y153_8.toInt → y153_8.toInt ≤ 150 → (-1) ≤ y153_7.toInt → y153_7.toInt ≤ 149 → 150 - y153_8.toInt ≤ (n153 : Int) → tw_H D cs kp L Eg140 A H → va_S A s.heap H locs → lv_has ls 9 [(8, .int y153_8), (7, .int y153_7), (6, .int y140_6), (5, .int xc2), (0, .ref a0), (1, .int x1), (2, .int x2), (3, .int x3), (4, .int x4)] → W p l e { frames := 3, cells := 0, slots := 0, locals := 79 } s m [.ref a0, .int x1, .int x2, .int x3, .int x4].toArray below meth c H locs 0 0 (MQ below (tw_Q D cs kp0 L0 (fun v kq Lq Eq => (∃ x : Int32, v = some (.int x) ∧ 0 ≤ x.toInt ∧ x.toInt ≤ 1) ∧ kp = kq ∧ L = Lq ∧ tw_fr kp L [] [329, 363] E Eq) A) [.ref a0, .int x1, .int x2, .int x3, .int x4].toArray s 0 0 A) (F0 m 153 ls []) := by
                intro n153
                induction n153 using Nat.strongRecOn with
                | _ n153 ih153 =>
                  intro y153_8 y153_7 H locs ls hy153_8a hy153_8b hy153_7a hy153_7b hmeas153 TH hS hl
                  refine lv_iload hx hb dX12_ordersKids_153 (lv_at hl 0 rfl) ?_
                  refine lv_sipush (v := 150) hx hb dX12_ordersKids_155 (by decide) ?_
                  refine lv_icmp_ge (tgt := 245) hx hb dX12_ordersKids_158 (by decide) (fun hc8 => ?_) (fun hc8 => ?_)
                  · have hf9 : 150 ≤ y153_8.toInt := by have z := (fa_le _ _).mp hc8; have : ((150 : Int32).toInt) = 150 := (by decide); omega
                    refine lv_iload hx hb dX12_ordersKids_245 (lv_at hl 1 rfl) ?_
                    refine lv_iconst (v := (-1)) hx hb dX12_ordersKids_247 (by decide) ?_
                    refine lv_icmp_ne (tgt := 253) hx hb dX12_ordersKids_248 (by decide) (fun hc10 => ?_) (fun hc10 => ?_)
                    · have hf11 : ¬ (y153_7.toInt = (-1)) := fun q => hc10 ((fa_eq _ _).mpr (by have : (((-1) : Int32).toInt) = (-1) := (by decide); omega))
                      refine lv_aload_n hx hb dX12_ordersKids_253 rfl (lv_at hl 4 rfl) ?_
                      refine tw_get (ci := 12) (C := RX12) (T := TX12) (N := 64) hx hb hB cx_inX12 hown hK TH hm0 hk0 rfl ⟨by decide, rfl⟩ 59 (by decide) cw_1252 (fun _ h9 => h9) dX12_ordersKids_254 (fun hv => ?_)
                      obtain ⟨xr12, hxr12, hmxr12, hkxr12⟩ : ∃ a : Nat, tw_fv Eg140 a0 59 = .ref a ∧ a ∈ L ∧ kp a = 363 := hv
                      rw [hxr12]
                      refine lv_iload hx hb dX12_ordersKids_257 (lv_at hl 1 rfl) ?_
                      refine lv_iconst (v := 1) hx hb dX12_ordersKids_259 (by decide) ?_
                      refine tw_zast (k := 363) (n := 150) (lo := 0) (hi := 1) hx hb hK TH hS hmxr12 hkxr12 (by decide) rfl (i := y153_7) (x := 1) (vp_in_iff.mpr ⟨by  omega, by  omega⟩) (by have : ((1 : Int32).toInt) = 1 := (by decide); omega) (by have : ((1 : Int32).toInt) = 1 := (by decide); omega) (by have : ((1 : Int32).toInt) = 1 := (by decide); omega) (by have : ((1 : Int32).toInt) = 1 := (by decide); omega) dX12_ordersKids_260 (fun H locs E13 TH hS hp14 hp15 hp16 => ?_)
                      have hst17 : tw_fr kp L [] [363] Eg140 E13 := tw_fr.ast tw_fr.rf (fun _ => hkxr12) hp14 hp15 (by decide)
                      have hF := hF.tr hst17 (fun _ h => ⟨h, rfl⟩) (by decide) (by decide)
                      have hG140 := hG140.tr hst17 (fun _ h => ⟨h, rfl⟩) (by decide) (by decide)
                      have hmf18 : tw_fv E13 a0 59 = .ref xr12 := (hst17.1 a0 59 hm0 (by rw [hk0]; decide)).trans hxr12
                      refine lv_aload_n hx hb dX12_ordersKids_261 rfl (lv_at hl 4 rfl) ?_
                      refine tw_get (ci := 12) (C := RX12) (T := TX12) (N := 64) hx hb hB cx_inX12 hown hK TH hm0 hk0 rfl ⟨by decide, rfl⟩ 19 (by decide) cw_1212 (fun _ h9 => h9) dX12_ordersKids_262 (fun hv => ?_)
                      obtain ⟨xr19, hxr19, hmxr19, hkxr19⟩ : ∃ a : Nat, tw_fv E13 a0 19 = .ref a ∧ a ∈ L ∧ kp a = 319 := hv
                      rw [hxr19]
                      refine lv_bipush (v := 13) hx hb dX12_ordersKids_265 (by decide) ?_
                      refine tw_aald (k := 319) (t0 := 4) (n := 16) (lo := 329) (hi := 0) (ty := .int) hx hb hK TH hmxr19 hkxr19 (by decide) rfl rfl (i := 13) (vp_in_iff.mpr ⟨by have : ((13 : Int32).toInt) = 13 := (by decide); omega, by have : ((13 : Int32).toInt) = 13 := (by decide); omega⟩) dX12_ordersKids_267 (fun xr20 exr20 hmxr20 hkxr20 => ?_)
                      have hkxr20 : kp xr20 = 329 := hkxr20
                      refine lv_iload hx hb dX12_ordersKids_268 (lv_at hl 1 rfl) ?_
                      refine lv_iload hx hb dX12_ordersKids_270 (lv_at hl 2 rfl) ?_
                      refine tw_iast (k := 329) (n := 150) (lo := (-2147483648)) (hi := 2147483647) hx hb hK TH hS hmxr20 hkxr20 (by decide) rfl (i := y153_7) (x := y140_6) (vp_in_iff.mpr ⟨by  omega, by  omega⟩) (ia_lo _) (ia_hi _) dX12_ordersKids_272 (fun H locs E21 TH hS hp22 hp23 hp24 => ?_)
                      have hst25 : tw_fr kp L [] [329] E13 E21 := tw_fr.ast tw_fr.rf (fun _ => hkxr20) hp22 hp23 (by decide)
                      have hF := hF.tr hst25 (fun _ h => ⟨h, rfl⟩) (by decide) (by decide)
                      have hG140 := hG140.tr hst25 (fun _ h => ⟨h, rfl⟩) (by decide) (by decide)
                      have hmf26 : tw_fv E21 a0 59 = .ref xr12 := (hst25.1 a0 59 hm0 (by rw [hk0]; decide)).trans hmf18
                      have hmf27 : tw_fv E21 a0 19 = .ref xr19 := (hst25.1 a0 19 hm0 (by rw [hk0]; decide)).trans hxr19
                      obtain ⟨zi28, ezi28⟩ : ∃ z : Int32, z = y140_6 + Int32.ofInt 1 := ⟨_, rfl⟩
                      have hzi28 : zi28.toInt = y140_6.toInt + 1 := by rw [ezi28]; have : ((Int32.ofInt 1).toInt) = 1 := (by decide);  exact (ia_add (by omega) (by omega)).trans (by omega)
                      refine lv_iinc (v := zi28) (lv' := [(6, .int zi28), (8, .int y153_8), (7, .int y153_7), (5, .int xc2), (0, .ref a0), (1, .int x1), (2, .int x2), (3, .int x3), (4, .int x4)]) hx hb dX12_ordersKids_273 hl (k := 2) rfl ezi28.symm (by decide) rfl (fun ls hl => ?_)
                      refine lv_goto (tgt := 140) hx hb dX12_ordersKids_276 (by decide) ?_
                      exact ih140 (n140 - 1) (by   omega) zi28 _ _ _ ls (by omega) (by omega) (by   omega) hG140 TH hS (lv_sub hl [0, 3, 4, 5, 6, 7, 8] rfl)
                    · have hf29 : y153_7.toInt = (-1) := by have z := (fa_eq _ _).mp hc10; have : (((-1) : Int32).toInt) = (-1) := (by decide); omega
                      refine lv_iconst (v := 0) hx hb dX12_ordersKids_251 (by decide) ?_
                      exact tw_zret hx hb hr hlocks (by decide) TH hS hex ⟨⟨_, rfl, (show 0 ≤ Int32.toInt 0 from by have : ((0 : Int32).toInt) = 0 := (by decide); omega), (show Int32.toInt 0 ≤ 1 from by have : ((0 : Int32).toInt) = 0 := (by decide); omega)⟩, rfl, rfl, hF⟩ (Nat.le_of_ble_eq_true rfl) (Nat.le_of_ble_eq_true rfl) dX12_ordersKids_252
                  · have hf30 : ¬ (150 ≤ y153_8.toInt) := fun q => hc8 ((fa_le _ _).mpr (by have : ((150 : Int32).toInt) = 150 := (by decide); omega))
                    refine lv_aload_n hx hb dX12_ordersKids_161 rfl (lv_at hl 4 rfl) ?_
                    refine tw_get (ci := 12) (C := RX12) (T := TX12) (N := 64) hx hb hB cx_inX12 hown hK TH hm0 hk0 rfl ⟨by decide, rfl⟩ 16 (by decide) cw_1209 (fun _ h9 => h9) dX12_ordersKids_162 (fun hv => ?_)
                    obtain ⟨xr31, hxr31, hmxr31, hkxr31⟩ : ∃ a : Nat, tw_fv Eg140 a0 16 = .ref a ∧ a ∈ L ∧ kp a = 316 := hv
                    rw [hxr31]
                    refine lv_bipush (v := 13) hx hb dX12_ordersKids_165 (by decide) ?_
                    refine tw_aald (k := 316) (t0 := 5) (n := 16) (lo := 326) (hi := 0) (ty := .boolean) hx hb hK TH hmxr31 hkxr31 (by decide) rfl rfl (i := 13) (vp_in_iff.mpr ⟨by have : ((13 : Int32).toInt) = 13 := (by decide); omega, by have : ((13 : Int32).toInt) = 13 := (by decide); omega⟩) dX12_ordersKids_167 (fun xr32 exr32 hmxr32 hkxr32 => ?_)
                    have hkxr32 : kp xr32 = 326 := hkxr32
                    refine lv_iload hx hb dX12_ordersKids_168 (lv_at hl 0 rfl) ?_
                    refine tw_zald (k := 326) (t0 := 3) (n := 150) (lo := 0) (hi := 1) hx hb hK TH hmxr32 hkxr32 (by decide) rfl rfl (i := y153_8) (vp_in_iff.mpr ⟨by  omega, by  omega⟩) dX12_ordersKids_170 (fun hxe33a hxe33b => ?_)
                    obtain ⟨xe33, exe33⟩ : ∃ z : Int32, tw_iv Eg140 xr32 (Int32.toNatClampNeg y153_8) = z := ⟨_, rfl⟩
                    rw [exe33] at hxe33a hxe33b ⊢
                    have hJ239 : ∀ (y239_7 : Int32) (H : Heap) (locs : List Loc) (ls : Array Slot), (-1) ≤ y239_7.toInt → y239_7.toInt ≤ 149 → tw_H D cs kp L Eg140 A H → va_S A s.heap H locs → lv_has ls 9 [(8, .int y153_8), (7, .int y239_7), (6, .int y140_6), (5, .int xc2), (0, .ref a0), (1, .int x1), (2, .int x2), (3, .int x3), (4, .int x4)] → W p l e { frames := 3, cells := 0, slots := 0, locals := 79 } s m [.ref a0, .int x1, .int x2, .int x3, .int x4].toArray below meth c H locs 0 0 (MQ below (tw_Q D cs kp0 L0 (fun v kq Lq Eq => (∃ x : Int32, v = some (.int x) ∧ 0 ≤ x.toInt ∧ x.toInt ≤ 1) ∧ kp = kq ∧ L = Lq ∧ tw_fr kp L [] [329, 363] E Eq) A) [.ref a0, .int x1, .int x2, .int x3, .int x4].toArray s 0 0 A) (F0 m 239 ls []) := by
                      intro y239_7 H locs ls hy239_7a hy239_7b TH hS hl
                      obtain ⟨zi34, ezi34⟩ : ∃ z : Int32, z = y153_8 + Int32.ofInt 1 := ⟨_, rfl⟩
                      have hzi34 : zi34.toInt = y153_8.toInt + 1 := by rw [ezi34]; have : ((Int32.ofInt 1).toInt) = 1 := (by decide);  exact (ia_add (by omega) (by omega)).trans (by omega)
                      refine lv_iinc (v := zi34) (lv' := [(8, .int zi34), (7, .int y239_7), (6, .int y140_6), (5, .int xc2), (0, .ref a0), (1, .int x1), (2, .int x2), (3, .int x3), (4, .int x4)]) hx hb dX12_ordersKids_239 hl (k := 0) rfl ezi34.symm (by decide) rfl (fun ls hl => ?_)
                      refine lv_goto (tgt := 153) hx hb dX12_ordersKids_242 (by decide) ?_
                      exact ih153 (n153 - 1) (by   omega) zi34 y239_7 _ _ ls (by omega) (by omega) (by omega) (by omega) (by   omega) TH hS (lv_sub hl [0, 1, 2, 3, 4, 5, 6, 7, 8] rfl)
                    refine lv_if_eq (tgt := 239) hx hb dX12_ordersKids_171 (by decide) (fun hc35 => ?_) (fun hc35 => ?_)
                    · have hf36 : xe33.toInt = 0 := by have z := (fa_eq _ _).mp hc35; have : ((0 : Int32).toInt) = 0 := (by decide); omega
                      exact hJ239 y153_7 _ _ ls (by omega) (by omega) TH hS (lv_sub hl [0, 1, 2, 3, 4, 5, 6, 7, 8] rfl)
                    · have hf37 : ¬ (xe33.toInt = 0) := fun q => hc35 ((fa_eq _ _).mpr (by have : ((0 : Int32).toInt) = 0 := (by decide); omega))
                      refine lv_aload_n hx hb dX12_ordersKids_174 rfl (lv_at hl 4 rfl) ?_
                      refine tw_get (ci := 12) (C := RX12) (T := TX12) (N := 64) hx hb hB cx_inX12 hown hK TH hm0 hk0 rfl ⟨by decide, rfl⟩ 18 (by decide) cw_1211 (fun _ h9 => h9) dX12_ordersKids_175 (fun hv => ?_)
                      obtain ⟨xr38, hxr38, hmxr38, hkxr38⟩ : ∃ a : Nat, tw_fv Eg140 a0 18 = .ref a ∧ a ∈ L ∧ kp a = 318 := hv
                      rw [hxr38]
                      refine lv_bipush (v := 13) hx hb dX12_ordersKids_178 (by decide) ?_
                      refine tw_aald (k := 318) (t0 := 4) (n := 16) (lo := 328) (hi := 0) (ty := .int) hx hb hK TH hmxr38 hkxr38 (by decide) rfl rfl (i := 13) (vp_in_iff.mpr ⟨by have : ((13 : Int32).toInt) = 13 := (by decide); omega, by have : ((13 : Int32).toInt) = 13 := (by decide); omega⟩) dX12_ordersKids_180 (fun xr39 exr39 hmxr39 hkxr39 => ?_)
                      have hkxr39 : kp xr39 = 328 := hkxr39
                      refine lv_iload hx hb dX12_ordersKids_181 (lv_at hl 0 rfl) ?_
                      refine tw_iald (k := 328) (t0 := 0) (n := 150) (lo := (-1)) (hi := 149) hx hb hK TH hmxr39 hkxr39 (by decide) rfl rfl (i := y153_8) (vp_in_iff.mpr ⟨by  omega, by  omega⟩) dX12_ordersKids_183 (fun hxe40a hxe40b => ?_)
                      obtain ⟨xe40, exe40⟩ : ∃ z : Int32, tw_iv Eg140 xr39 (Int32.toNatClampNeg y153_8) = z := ⟨_, rfl⟩
                      rw [exe40] at hxe40a hxe40b ⊢
                      refine lv_iload hx hb dX12_ordersKids_184 (lv_at hl 8 rfl) ?_
                      refine lv_icmp_ne (tgt := 239) hx hb dX12_ordersKids_186 (by decide) (fun hc41 => ?_) (fun hc41 => ?_)
                      · have hf42 : ¬ (xe40.toInt = x4.toInt) := fun q => hc41 ((fa_eq _ _).mpr (by  omega))
                        exact hJ239 y153_7 _ _ ls (by omega) (by omega) TH hS (lv_sub hl [0, 1, 2, 3, 4, 5, 6, 7, 8] rfl)
                      · have hf43 : xe40.toInt = x4.toInt := by have z := (fa_eq _ _).mp hc41;  omega
                        refine lv_aload_n hx hb dX12_ordersKids_189 rfl (lv_at hl 4 rfl) ?_
                        refine tw_get (ci := 12) (C := RX12) (T := TX12) (N := 64) hx hb hB cx_inX12 hown hK TH hm0 hk0 rfl ⟨by decide, rfl⟩ 59 (by decide) cw_1252 (fun _ h9 => h9) dX12_ordersKids_190 (fun hv => ?_)
                        obtain ⟨xr44, hxr44, hmxr44, hkxr44⟩ : ∃ a : Nat, tw_fv Eg140 a0 59 = .ref a ∧ a ∈ L ∧ kp a = 363 := hv
                        rw [hxr44]
                        refine lv_iload hx hb dX12_ordersKids_193 (lv_at hl 0 rfl) ?_
                        refine tw_zald (k := 363) (t0 := 3) (n := 150) (lo := 0) (hi := 1) hx hb hK TH hmxr44 hkxr44 (by decide) rfl rfl (i := y153_8) (vp_in_iff.mpr ⟨by  omega, by  omega⟩) dX12_ordersKids_195 (fun hxe45a hxe45b => ?_)
                        obtain ⟨xe45, exe45⟩ : ∃ z : Int32, tw_iv Eg140 xr44 (Int32.toNatClampNeg y153_8) = z := ⟨_, rfl⟩
                        rw [exe45] at hxe45a hxe45b ⊢
                        refine lv_if_ne (tgt := 239) hx hb dX12_ordersKids_196 (by decide) (fun hc46 => ?_) (fun hc46 => ?_)
                        · have hf47 : ¬ (xe45.toInt = 0) := fun q => hc46 ((fa_eq _ _).mpr (by have : ((0 : Int32).toInt) = 0 := (by decide); omega))
                          exact hJ239 y153_7 _ _ ls (by omega) (by omega) TH hS (lv_sub hl [0, 1, 2, 3, 4, 5, 6, 7, 8] rfl)
                        · have hf48 : xe45.toInt = 0 := by have z := (fa_eq _ _).mp hc46; have : ((0 : Int32).toInt) = 0 := (by decide); omega
                          refine lv_aload_n hx hb dX12_ordersKids_199 rfl (lv_at hl 4 rfl) ?_
                          refine lv_iload_n hx hb dX12_ordersKids_200 rfl (lv_at hl 5 rfl) ?_
                          refine lv_iload_n hx hb dX12_ordersKids_201 rfl (lv_at hl 6 rfl) ?_
                          refine lv_iload_n hx hb dX12_ordersKids_202 rfl (lv_at hl 7 rfl) ?_
                          refine lv_iload hx hb dX12_ordersKids_203 (lv_at hl 8 rfl) ?_
                          refine lv_iload hx hb dX12_ordersKids_205 (lv_at hl 0 rfl) ?_
                          refine tw_Vc (o := a0) (ci := 12) (n := 5) (post := (fun v kq Lq Eq => (∃ x : Int32, v = some (.int x) ∧ 0 ≤ x.toInt ∧ x.toInt ≤ 1) ∧ kp = kq ∧ L = Lq ∧ Eg140 = Eq)) (As := [.int x1, .int x2, .int x3, .int x4, .int y153_8]) (rest := []) ⟨hx, hb, hml, hown, hB⟩ (fun sz => tX12_isFree l D cs a0 x1 x2 x3 x4 y153_8 hm0 hk0 (by omega) (by omega) (by omega) (by omega) (by omega) (by omega) (by omega) (by omega) sz) cg_12_493_X12_isFree rfl rfl (by decide +kernel) ⟨Nat.le_of_ble_eq_true rfl, Nat.le_of_ble_eq_true rfl⟩ hK hN TH hS hA rfl hm0 hk0 (by decide) rfl hl.1 rfl (Nat.le_of_ble_eq_true rfl) dX12_ordersKids_207 ⟨Nat.le_of_ble_eq_true rfl, Nat.le_of_ble_eq_true rfl⟩ (fun v49 kp49 L49 E49 H locs hq49 hx49 TH hS => ?_)
                          obtain ⟨⟨xc50, rfl, hxc50a, hxc50b⟩, rfl, rfl, rfl⟩ := hq49
                          refine W.eq (g2 := F0 m 210 ls [.int xc50]) rfl ?_
                          refine lv_if_ne (tgt := 216) hx hb dX12_ordersKids_210 (by decide) (fun hc51 => ?_) (fun hc51 => ?_)
                          · have hf52 : ¬ (xc50.toInt = 0) := fun q => hc51 ((fa_eq _ _).mpr (by have : ((0 : Int32).toInt) = 0 := (by decide); omega))
                            refine lv_iload hx hb dX12_ordersKids_216 (lv_at hl 1 rfl) ?_
                            refine lv_iconst (v := (-1)) hx hb dX12_ordersKids_218 (by decide) ?_
                            have hJ235 : ∀  (H : Heap) (locs : List Loc) (ls : Array Slot), tw_H D cs kp L Eg140 A H → va_S A s.heap H locs → lv_has ls 9 [(8, .int y153_8), (6, .int y140_6), (5, .int xc2), (0, .ref a0), (1, .int x1), (2, .int x2), (3, .int x3), (4, .int x4)] → W p l e { frames := 3, cells := 0, slots := 0, locals := 79 } s m [.ref a0, .int x1, .int x2, .int x3, .int x4].toArray below meth c H locs 0 0 (MQ below (tw_Q D cs kp0 L0 (fun v kq Lq Eq => (∃ x : Int32, v = some (.int x) ∧ 0 ≤ x.toInt ∧ x.toInt ≤ 1) ∧ kp = kq ∧ L = Lq ∧ tw_fr kp L [] [329, 363] E Eq) A) [.ref a0, .int x1, .int x2, .int x3, .int x4].toArray s 0 0 A) (F0 m 235 ls []) := by
                              intro H locs ls TH hS hl
                              refine lv_iload hx hb dX12_ordersKids_235 (lv_at hl 0 rfl) ?_
                              refine lv_istore (lv' := [(7, .int y153_8), (8, .int y153_8), (6, .int y140_6), (5, .int xc2), (0, .ref a0), (1, .int x1), (2, .int x2), (3, .int x3), (4, .int x4)]) hx hb dX12_ordersKids_237 hl (by decide) rfl (fun ls hl => ?_)
                              exact hJ239 y153_8 _ _ ls (by omega) (by omega) TH hS (lv_sub hl [1, 0, 2, 3, 4, 5, 6, 7, 8] rfl)
                            refine lv_icmp_eq (tgt := 235) hx hb dX12_ordersKids_219 (by decide) (fun hc53 => ?_) (fun hc53 => ?_)
                            · have hf54 : y153_7.toInt = (-1) := by have z := (fa_eq _ _).mp hc53; have : (((-1) : Int32).toInt) = (-1) := (by decide); omega
                              exact hJ235  _ _ ls  TH hS (lv_sub hl [0, 2, 3, 4, 5, 6, 7, 8] rfl)
                            · have hf55 : ¬ (y153_7.toInt = (-1)) := fun q => hc53 ((fa_eq _ _).mpr (by have : (((-1) : Int32).toInt) = (-1) := (by decide); omega))
                              refine lv_aload_n hx hb dX12_ordersKids_222 rfl (lv_at hl 4 rfl) ?_
                              refine lv_bipush (v := 13) hx hb dX12_ordersKids_223 (by decide) ?_
                              refine lv_iload hx hb dX12_ordersKids_225 (lv_at hl 0 rfl) ?_
                              refine lv_iload hx hb dX12_ordersKids_227 (lv_at hl 1 rfl) ?_
                              refine tw_Vc (o := a0) (ci := 12) (n := 3) (post := (fun v kq Lq Eq => (∃ x : Int32, v = some (.int x) ∧ 0 ≤ x.toInt ∧ x.toInt ≤ 1) ∧ kp = kq ∧ L = Lq ∧ Eg140 = Eq)) (As := [.int 13, .int y153_8, .int y153_7]) (rest := []) ⟨hx, hb, hml, hown, hB⟩ (fun sz => tX12_isAhead l D cs a0 (13 : Int32) y153_8 y153_7 hm0 hk0 (by have : ((13 : Int32).toInt) = 13 := (by decide); omega) (by have : ((13 : Int32).toInt) = 13 := (by decide); omega) (by omega) (by omega) (by omega) (by omega) (by have : ((13 : Int32).toInt) = 13 := (by decide); omega) (by have : ((13 : Int32).toInt) = 13 := (by decide); omega) sz) cg_12_308_X12_isAhead rfl rfl (by decide +kernel) ⟨Nat.le_of_ble_eq_true rfl, Nat.le_of_ble_eq_true rfl⟩ hK hN TH hS hA rfl hm0 hk0 (by decide) rfl hl.1 rfl (Nat.le_of_ble_eq_true rfl) dX12_ordersKids_229 ⟨Nat.le_of_ble_eq_true rfl, Nat.le_of_ble_eq_true rfl⟩ (fun v56 kp56 L56 E56 H locs hq56 hx56 TH hS => ?_)
                              obtain ⟨⟨xc57, rfl, hxc57a, hxc57b⟩, rfl, rfl, rfl⟩ := hq56
                              refine W.eq (g2 := F0 m 232 ls [.int xc57]) rfl ?_
                              refine lv_if_eq (tgt := 239) hx hb dX12_ordersKids_232 (by decide) (fun hc58 => ?_) (fun hc58 => ?_)
                              · have hf59 : xc57.toInt = 0 := by have z := (fa_eq _ _).mp hc58; have : ((0 : Int32).toInt) = 0 := (by decide); omega
                                exact hJ239 y153_7 _ _ ls (by omega) (by omega) TH hS (lv_sub hl [0, 1, 2, 3, 4, 5, 6, 7, 8] rfl)
                              · have hf60 : ¬ (xc57.toInt = 0) := fun q => hc58 ((fa_eq _ _).mpr (by have : ((0 : Int32).toInt) = 0 := (by decide); omega))
                                exact hJ235  _ _ ls  TH hS (lv_sub hl [0, 2, 3, 4, 5, 6, 7, 8] rfl)
                          · have hf61 : xc50.toInt = 0 := by have z := (fa_eq _ _).mp hc51; have : ((0 : Int32).toInt) = 0 := (by decide); omega
                            refine lv_goto (tgt := 239) hx hb dX12_ordersKids_213 (by decide) ?_
                            exact hJ239 y153_7 _ _ ls (by omega) (by omega) TH hS (lv_sub hl [0, 1, 2, 3, 4, 5, 6, 7, 8] rfl)
              exact hJ153 151 (0 : Int32) ((-1) : Int32) _ _ ls (by have : ((0 : Int32).toInt) = 0 := (by decide); omega) (by have : ((0 : Int32).toInt) = 0 := (by decide); omega) (by have : (((-1) : Int32).toInt) = (-1) := (by decide); omega) (by have : (((-1) : Int32).toInt) = (-1) := (by decide); omega) (by have : (((-1) : Int32).toInt) = (-1) := (by decide); have : ((0 : Int32).toInt) = 0 := (by decide);  omega) TH hS (lv_sub hl [0, 1, 2, 3, 4, 5, 6, 7, 8] rfl)
        exact hJ140 151 (0 : Int32) _ _ _ ls (by have : ((0 : Int32).toInt) = 0 := (by decide); omega) (by have : ((0 : Int32).toInt) = 0 := (by decide); omega) (by have : ((0 : Int32).toInt) = 0 := (by decide);  omega) tw_fr.rf TH hS (lv_sub hl [0, 1, 2, 3, 4, 5, 6] rfl)
      · have hf62 : ¬ (150 ≤ y13_6.toInt) := fun q => hc3 ((fa_le _ _).mpr (by have : ((150 : Int32).toInt) = 150 := (by decide); omega))
        refine lv_aload_n hx hb dX12_ordersKids_21 rfl (lv_at hl 2 rfl) ?_
        refine tw_get (ci := 12) (C := RX12) (T := TX12) (N := 64) hx hb hB cx_inX12 hown hK TH hm0 hk0 rfl ⟨by decide, rfl⟩ 59 (by decide) cw_1252 (fun _ h9 => h9) dX12_ordersKids_22 (fun hv => ?_)
        obtain ⟨xr63, hxr63, hmxr63, hkxr63⟩ : ∃ a : Nat, tw_fv Eg13 a0 59 = .ref a ∧ a ∈ L ∧ kp a = 363 := hv
        rw [hxr63]
        refine lv_iload hx hb dX12_ordersKids_25 (lv_at hl 0 rfl) ?_
        refine lv_iconst (v := 0) hx hb dX12_ordersKids_27 (by decide) ?_
        refine tw_zast (k := 363) (n := 150) (lo := 0) (hi := 1) hx hb hK TH hS hmxr63 hkxr63 (by decide) rfl (i := y13_6) (x := 0) (vp_in_iff.mpr ⟨by  omega, by  omega⟩) (by have : ((0 : Int32).toInt) = 0 := (by decide); omega) (by have : ((0 : Int32).toInt) = 0 := (by decide); omega) (by have : ((0 : Int32).toInt) = 0 := (by decide); omega) (by have : ((0 : Int32).toInt) = 0 := (by decide); omega) dX12_ordersKids_28 (fun H locs E64 TH hS hp65 hp66 hp67 => ?_)
        have hst68 : tw_fr kp L [] [363] Eg13 E64 := tw_fr.ast tw_fr.rf (fun _ => hkxr63) hp65 hp66 (by decide)
        have hF := hF.tr hst68 (fun _ h => ⟨h, rfl⟩) (by decide) (by decide)
        have hG13 := hG13.tr hst68 (fun _ h => ⟨h, rfl⟩) (by decide) (by decide)
        have hmf69 : tw_fv E64 a0 59 = .ref xr63 := (hst68.1 a0 59 hm0 (by rw [hk0]; decide)).trans hxr63
        refine lv_aload_n hx hb dX12_ordersKids_29 rfl (lv_at hl 2 rfl) ?_
        refine tw_get (ci := 12) (C := RX12) (T := TX12) (N := 64) hx hb hB cx_inX12 hown hK TH hm0 hk0 rfl ⟨by decide, rfl⟩ 16 (by decide) cw_1209 (fun _ h9 => h9) dX12_ordersKids_30 (fun hv => ?_)
        obtain ⟨xr70, hxr70, hmxr70, hkxr70⟩ : ∃ a : Nat, tw_fv E64 a0 16 = .ref a ∧ a ∈ L ∧ kp a = 316 := hv
        rw [hxr70]
        refine lv_bipush (v := 13) hx hb dX12_ordersKids_33 (by decide) ?_
        refine tw_aald (k := 316) (t0 := 5) (n := 16) (lo := 326) (hi := 0) (ty := .boolean) hx hb hK TH hmxr70 hkxr70 (by decide) rfl rfl (i := 13) (vp_in_iff.mpr ⟨by have : ((13 : Int32).toInt) = 13 := (by decide); omega, by have : ((13 : Int32).toInt) = 13 := (by decide); omega⟩) dX12_ordersKids_35 (fun xr71 exr71 hmxr71 hkxr71 => ?_)
        have hkxr71 : kp xr71 = 326 := hkxr71
        refine lv_iload hx hb dX12_ordersKids_36 (lv_at hl 0 rfl) ?_
        refine tw_zald (k := 326) (t0 := 3) (n := 150) (lo := 0) (hi := 1) hx hb hK TH hmxr71 hkxr71 (by decide) rfl rfl (i := y13_6) (vp_in_iff.mpr ⟨by  omega, by  omega⟩) dX12_ordersKids_38 (fun hxe72a hxe72b => ?_)
        obtain ⟨xe72, exe72⟩ : ∃ z : Int32, tw_iv E64 xr71 (Int32.toNatClampNeg y13_6) = z := ⟨_, rfl⟩
        rw [exe72] at hxe72a hxe72b ⊢
        have hJ131 : ∀  (H : Heap) (locs : List Loc) (ls : Array Slot), tw_H D cs kp L E64 A H → va_S A s.heap H locs → lv_has ls 9 [(6, .int y13_6), (5, .int xc2), (0, .ref a0), (1, .int x1), (2, .int x2), (3, .int x3), (4, .int x4)] → W p l e { frames := 3, cells := 0, slots := 0, locals := 79 } s m [.ref a0, .int x1, .int x2, .int x3, .int x4].toArray below meth c H locs 0 0 (MQ below (tw_Q D cs kp0 L0 (fun v kq Lq Eq => (∃ x : Int32, v = some (.int x) ∧ 0 ≤ x.toInt ∧ x.toInt ≤ 1) ∧ kp = kq ∧ L = Lq ∧ tw_fr kp L [] [329, 363] E Eq) A) [.ref a0, .int x1, .int x2, .int x3, .int x4].toArray s 0 0 A) (F0 m 131 ls []) := by
          intro H locs ls TH hS hl
          obtain ⟨zi73, ezi73⟩ : ∃ z : Int32, z = y13_6 + Int32.ofInt 1 := ⟨_, rfl⟩
          have hzi73 : zi73.toInt = y13_6.toInt + 1 := by rw [ezi73]; have : ((Int32.ofInt 1).toInt) = 1 := (by decide);  exact (ia_add (by omega) (by omega)).trans (by omega)
          refine lv_iinc (v := zi73) (lv' := [(6, .int zi73), (5, .int xc2), (0, .ref a0), (1, .int x1), (2, .int x2), (3, .int x3), (4, .int x4)]) hx hb dX12_ordersKids_131 hl (k := 0) rfl ezi73.symm (by decide) rfl (fun ls hl => ?_)
          refine lv_goto (tgt := 13) hx hb dX12_ordersKids_134 (by decide) ?_
          exact ih13 (n13 - 1) (by   omega) zi73 _ _ _ ls (by omega) (by omega) (by   omega) hG13 TH hS (lv_sub hl [0, 1, 2, 3, 4, 5, 6] rfl)
        refine lv_if_eq (tgt := 131) hx hb dX12_ordersKids_39 (by decide) (fun hc74 => ?_) (fun hc74 => ?_)
        · have hf75 : xe72.toInt = 0 := by have z := (fa_eq _ _).mp hc74; have : ((0 : Int32).toInt) = 0 := (by decide); omega
          exact hJ131  _ _ ls  TH hS (lv_sub hl [0, 1, 2, 3, 4, 5, 6] rfl)
        · have hf76 : ¬ (xe72.toInt = 0) := fun q => hc74 ((fa_eq _ _).mpr (by have : ((0 : Int32).toInt) = 0 := (by decide); omega))
          refine lv_aload_n hx hb dX12_ordersKids_42 rfl (lv_at hl 2 rfl) ?_
          refine tw_get (ci := 12) (C := RX12) (T := TX12) (N := 64) hx hb hB cx_inX12 hown hK TH hm0 hk0 rfl ⟨by decide, rfl⟩ 18 (by decide) cw_1211 (fun _ h9 => h9) dX12_ordersKids_43 (fun hv => ?_)
          obtain ⟨xr77, hxr77, hmxr77, hkxr77⟩ : ∃ a : Nat, tw_fv E64 a0 18 = .ref a ∧ a ∈ L ∧ kp a = 318 := hv
          rw [hxr77]
          refine lv_bipush (v := 13) hx hb dX12_ordersKids_46 (by decide) ?_
          refine tw_aald (k := 318) (t0 := 4) (n := 16) (lo := 328) (hi := 0) (ty := .int) hx hb hK TH hmxr77 hkxr77 (by decide) rfl rfl (i := 13) (vp_in_iff.mpr ⟨by have : ((13 : Int32).toInt) = 13 := (by decide); omega, by have : ((13 : Int32).toInt) = 13 := (by decide); omega⟩) dX12_ordersKids_48 (fun xr78 exr78 hmxr78 hkxr78 => ?_)
          have hkxr78 : kp xr78 = 328 := hkxr78
          refine lv_iload hx hb dX12_ordersKids_49 (lv_at hl 0 rfl) ?_
          refine tw_iald (k := 328) (t0 := 0) (n := 150) (lo := (-1)) (hi := 149) hx hb hK TH hmxr78 hkxr78 (by decide) rfl rfl (i := y13_6) (vp_in_iff.mpr ⟨by  omega, by  omega⟩) dX12_ordersKids_51 (fun hxe79a hxe79b => ?_)
          obtain ⟨xe79, exe79⟩ : ∃ z : Int32, tw_iv E64 xr78 (Int32.toNatClampNeg y13_6) = z := ⟨_, rfl⟩
          rw [exe79] at hxe79a hxe79b ⊢
          refine lv_iload hx hb dX12_ordersKids_52 (lv_at hl 6 rfl) ?_
          refine lv_icmp_eq (tgt := 60) hx hb dX12_ordersKids_54 (by decide) (fun hc80 => ?_) (fun hc80 => ?_)
          · have hf81 : xe79.toInt = x4.toInt := by have z := (fa_eq _ _).mp hc80;  omega
            refine lv_iconst (v := 0) hx hb dX12_ordersKids_60 (by decide) ?_
            refine lv_istore (lv' := [(7, .int 0), (6, .int y13_6), (5, .int xc2), (0, .ref a0), (1, .int x1), (2, .int x2), (3, .int x3), (4, .int x4)]) hx hb dX12_ordersKids_61 hl (by decide) rfl (fun ls hl => ?_)
            have hJ63 : ∀ (n63 : Nat) (y63_7 : Int32) (H : Heap) (locs : List Loc) (ls : Array Slot), 0 ≤ y63_7.toInt → y63_7.toInt ≤ 150 → 150 - y63_7.toInt ≤ (n63 : Int) → tw_H D cs kp L E64 A H → va_S A s.heap H locs → lv_has ls 9 [(7, .int y63_7), (6, .int y13_6), (5, .int xc2), (0, .ref a0), (1, .int x1), (2, .int x2), (3, .int x3), (4, .int x4)] → W p l e { frames := 3, cells := 0, slots := 0, locals := 79 } s m [.ref a0, .int x1, .int x2, .int x3, .int x4].toArray below meth c H locs 0 0 (MQ below (tw_Q D cs kp0 L0 (fun v kq Lq Eq => (∃ x : Int32, v = some (.int x) ∧ 0 ≤ x.toInt ∧ x.toInt ≤ 1) ∧ kp = kq ∧ L = Lq ∧ tw_fr kp L [] [329, 363] E Eq) A) [.ref a0, .int x1, .int x2, .int x3, .int x4].toArray s 0 0 A) (F0 m 63 ls []) := by
              intro n63
              induction n63 using Nat.strongRecOn with
              | _ n63 ih63 =>
                intro y63_7 H locs ls hy63_7a hy63_7b hmeas63 TH hS hl
                refine lv_iload hx hb dX12_ordersKids_63 (lv_at hl 0 rfl) ?_
                refine lv_sipush (v := 150) hx hb dX12_ordersKids_65 (by decide) ?_
                refine lv_icmp_ge (tgt := 131) hx hb dX12_ordersKids_68 (by decide) (fun hc82 => ?_) (fun hc82 => ?_)
                · have hf83 : 150 ≤ y63_7.toInt := by have z := (fa_le _ _).mp hc82; have : ((150 : Int32).toInt) = 150 := (by decide); omega
                  exact hJ131  _ _ ls  TH hS (lv_sub hl [1, 2, 3, 4, 5, 6, 7] rfl)
                · have hf84 : ¬ (150 ≤ y63_7.toInt) := fun q => hc82 ((fa_le _ _).mpr (by have : ((150 : Int32).toInt) = 150 := (by decide); omega))
                  refine lv_iload hx hb dX12_ordersKids_71 (lv_at hl 0 rfl) ?_
                  refine lv_iload hx hb dX12_ordersKids_73 (lv_at hl 1 rfl) ?_
                  have hJ125 : ∀  (H : Heap) (locs : List Loc) (ls : Array Slot), tw_H D cs kp L E64 A H → va_S A s.heap H locs → lv_has ls 9 [(7, .int y63_7), (6, .int y13_6), (5, .int xc2), (0, .ref a0), (1, .int x1), (2, .int x2), (3, .int x3), (4, .int x4)] → W p l e { frames := 3, cells := 0, slots := 0, locals := 79 } s m [.ref a0, .int x1, .int x2, .int x3, .int x4].toArray below meth c H locs 0 0 (MQ below (tw_Q D cs kp0 L0 (fun v kq Lq Eq => (∃ x : Int32, v = some (.int x) ∧ 0 ≤ x.toInt ∧ x.toInt ≤ 1) ∧ kp = kq ∧ L = Lq ∧ tw_fr kp L [] [329, 363] E Eq) A) [.ref a0, .int x1, .int x2, .int x3, .int x4].toArray s 0 0 A) (F0 m 125 ls []) := by
                    intro H locs ls TH hS hl
                    obtain ⟨zi85, ezi85⟩ : ∃ z : Int32, z = y63_7 + Int32.ofInt 1 := ⟨_, rfl⟩
                    have hzi85 : zi85.toInt = y63_7.toInt + 1 := by rw [ezi85]; have : ((Int32.ofInt 1).toInt) = 1 := (by decide);  exact (ia_add (by omega) (by omega)).trans (by omega)
                    refine lv_iinc (v := zi85) (lv' := [(7, .int zi85), (6, .int y13_6), (5, .int xc2), (0, .ref a0), (1, .int x1), (2, .int x2), (3, .int x3), (4, .int x4)]) hx hb dX12_ordersKids_125 hl (k := 0) rfl ezi85.symm (by decide) rfl (fun ls hl => ?_)
                    refine lv_goto (tgt := 63) hx hb dX12_ordersKids_128 (by decide) ?_
                    exact ih63 (n63 - 1) (by   omega) zi85 _ _ ls (by omega) (by omega) (by   omega) TH hS (lv_sub hl [0, 1, 2, 3, 4, 5, 6, 7] rfl)
                  refine lv_icmp_eq (tgt := 125) hx hb dX12_ordersKids_75 (by decide) (fun hc86 => ?_) (fun hc86 => ?_)
                  · have hf87 : y63_7.toInt = y13_6.toInt := by have z := (fa_eq _ _).mp hc86;  omega
                    exact hJ125  _ _ ls  TH hS (lv_sub hl [0, 1, 2, 3, 4, 5, 6, 7] rfl)
                  · have hf88 : ¬ (y63_7.toInt = y13_6.toInt) := fun q => hc86 ((fa_eq _ _).mpr (by  omega))
                    refine lv_aload_n hx hb dX12_ordersKids_78 rfl (lv_at hl 3 rfl) ?_
                    refine tw_get (ci := 12) (C := RX12) (T := TX12) (N := 64) hx hb hB cx_inX12 hown hK TH hm0 hk0 rfl ⟨by decide, rfl⟩ 16 (by decide) cw_1209 (fun _ h9 => h9) dX12_ordersKids_79 (fun hv => ?_)
                    rw [hxr70]
                    refine lv_bipush (v := 13) hx hb dX12_ordersKids_82 (by decide) ?_
                    refine tw_aald (k := 316) (t0 := 5) (n := 16) (lo := 326) (hi := 0) (ty := .boolean) hx hb hK TH hmxr70 hkxr70 (by decide) rfl rfl (i := 13) (vp_in_iff.mpr ⟨by have : ((13 : Int32).toInt) = 13 := (by decide); omega, by have : ((13 : Int32).toInt) = 13 := (by decide); omega⟩) dX12_ordersKids_84 (fun xr89 exr89 hmxr89 hkxr89 => ?_)
                    have ezxr89 : xr71 = xr89 := exr71.symm.trans exr89
                    subst ezxr89
                    refine lv_iload hx hb dX12_ordersKids_85 (lv_at hl 0 rfl) ?_
                    refine tw_zald (k := 326) (t0 := 3) (n := 150) (lo := 0) (hi := 1) hx hb hK TH hmxr71 hkxr71 (by decide) rfl rfl (i := y63_7) (vp_in_iff.mpr ⟨by  omega, by  omega⟩) dX12_ordersKids_87 (fun hxe90a hxe90b => ?_)
                    obtain ⟨xe90, exe90⟩ : ∃ z : Int32, tw_iv E64 xr71 (Int32.toNatClampNeg y63_7) = z := ⟨_, rfl⟩
                    rw [exe90] at hxe90a hxe90b ⊢
                    refine lv_if_eq (tgt := 125) hx hb dX12_ordersKids_88 (by decide) (fun hc91 => ?_) (fun hc91 => ?_)
                    · have hf92 : xe90.toInt = 0 := by have z := (fa_eq _ _).mp hc91; have : ((0 : Int32).toInt) = 0 := (by decide); omega
                      exact hJ125  _ _ ls  TH hS (lv_sub hl [0, 1, 2, 3, 4, 5, 6, 7] rfl)
                    · have hf93 : ¬ (xe90.toInt = 0) := fun q => hc91 ((fa_eq _ _).mpr (by have : ((0 : Int32).toInt) = 0 := (by decide); omega))
                      refine lv_aload_n hx hb dX12_ordersKids_91 rfl (lv_at hl 3 rfl) ?_
                      refine tw_get (ci := 12) (C := RX12) (T := TX12) (N := 64) hx hb hB cx_inX12 hown hK TH hm0 hk0 rfl ⟨by decide, rfl⟩ 18 (by decide) cw_1211 (fun _ h9 => h9) dX12_ordersKids_92 (fun hv => ?_)
                      rw [hxr77]
                      refine lv_bipush (v := 13) hx hb dX12_ordersKids_95 (by decide) ?_
                      refine tw_aald (k := 318) (t0 := 4) (n := 16) (lo := 328) (hi := 0) (ty := .int) hx hb hK TH hmxr77 hkxr77 (by decide) rfl rfl (i := 13) (vp_in_iff.mpr ⟨by have : ((13 : Int32).toInt) = 13 := (by decide); omega, by have : ((13 : Int32).toInt) = 13 := (by decide); omega⟩) dX12_ordersKids_97 (fun xr94 exr94 hmxr94 hkxr94 => ?_)
                      have ezxr94 : xr78 = xr94 := exr78.symm.trans exr94
                      subst ezxr94
                      refine lv_iload hx hb dX12_ordersKids_98 (lv_at hl 0 rfl) ?_
                      refine tw_iald (k := 328) (t0 := 0) (n := 150) (lo := (-1)) (hi := 149) hx hb hK TH hmxr78 hkxr78 (by decide) rfl rfl (i := y63_7) (vp_in_iff.mpr ⟨by  omega, by  omega⟩) dX12_ordersKids_100 (fun hxe95a hxe95b => ?_)
                      obtain ⟨xe95, exe95⟩ : ∃ z : Int32, tw_iv E64 xr78 (Int32.toNatClampNeg y63_7) = z := ⟨_, rfl⟩
                      rw [exe95] at hxe95a hxe95b ⊢
                      refine lv_iload hx hb dX12_ordersKids_101 (lv_at hl 7 rfl) ?_
                      refine lv_icmp_ne (tgt := 125) hx hb dX12_ordersKids_103 (by decide) (fun hc96 => ?_) (fun hc96 => ?_)
                      · have hf97 : ¬ (xe95.toInt = x4.toInt) := fun q => hc96 ((fa_eq _ _).mpr (by  omega))
                        exact hJ125  _ _ ls  TH hS (lv_sub hl [0, 1, 2, 3, 4, 5, 6, 7] rfl)
                      · have hf98 : xe95.toInt = x4.toInt := by have z := (fa_eq _ _).mp hc96;  omega
                        refine lv_aload_n hx hb dX12_ordersKids_106 rfl (lv_at hl 3 rfl) ?_
                        refine lv_iload_n hx hb dX12_ordersKids_107 rfl (lv_at hl 4 rfl) ?_
                        refine lv_iload_n hx hb dX12_ordersKids_108 rfl (lv_at hl 5 rfl) ?_
                        refine lv_iload_n hx hb dX12_ordersKids_109 rfl (lv_at hl 6 rfl) ?_
                        refine lv_iload hx hb dX12_ordersKids_110 (lv_at hl 7 rfl) ?_
                        refine lv_iload hx hb dX12_ordersKids_112 (lv_at hl 1 rfl) ?_
                        refine lv_iload hx hb dX12_ordersKids_114 (lv_at hl 0 rfl) ?_
                        refine tw_Vc (o := a0) (ci := 12) (n := 6) (post := (fun v kq Lq Eq => (∃ x : Int32, v = some (.int x) ∧ (-2) ≤ x.toInt ∧ x.toInt ≤ 2) ∧ kp = kq ∧ L = Lq ∧ E64 = Eq)) (As := [.int x1, .int x2, .int x3, .int x4, .int y13_6, .int y63_7]) (rest := []) ⟨hx, hb, hml, hown, hB⟩ (fun sz => tX12_ahead l D cs a0 x1 x2 x3 x4 y13_6 y63_7 hm0 hk0 (by omega) (by omega) (by omega) (by omega) (by omega) (by omega) (by omega) (by omega) (by omega) (by omega) sz) cg_12_489_X12_ahead rfl rfl (by decide +kernel) ⟨Nat.le_of_ble_eq_true rfl, Nat.le_of_ble_eq_true rfl⟩ hK hN TH hS hA rfl hm0 hk0 (by decide) rfl hl.1 rfl (Nat.le_of_ble_eq_true rfl) dX12_ordersKids_116 ⟨Nat.le_of_ble_eq_true rfl, Nat.le_of_ble_eq_true rfl⟩ (fun v99 kp99 L99 E99 H locs hq99 hx99 TH hS => ?_)
                        obtain ⟨⟨xc100, rfl, hxc100a, hxc100b⟩, rfl, rfl, rfl⟩ := hq99
                        refine W.eq (g2 := F0 m 119 ls [.int xc100]) rfl ?_
                        refine lv_iconst (v := 2) hx hb dX12_ordersKids_119 (by decide) ?_
                        refine lv_icmp_ne (tgt := 125) hx hb dX12_ordersKids_120 (by decide) (fun hc101 => ?_) (fun hc101 => ?_)
                        · have hf102 : ¬ (xc100.toInt = 2) := fun q => hc101 ((fa_eq _ _).mpr (by have : ((2 : Int32).toInt) = 2 := (by decide); omega))
                          exact hJ125  _ _ ls  TH hS (lv_sub hl [0, 1, 2, 3, 4, 5, 6, 7] rfl)
                        · have hf103 : xc100.toInt = 2 := by have z := (fa_eq _ _).mp hc101; have : ((2 : Int32).toInt) = 2 := (by decide); omega
                          refine lv_iconst (v := 0) hx hb dX12_ordersKids_123 (by decide) ?_
                          exact tw_zret hx hb hr hlocks (by decide) TH hS hex ⟨⟨_, rfl, (show 0 ≤ Int32.toInt 0 from by have : ((0 : Int32).toInt) = 0 := (by decide); omega), (show Int32.toInt 0 ≤ 1 from by have : ((0 : Int32).toInt) = 0 := (by decide); omega)⟩, rfl, rfl, hF⟩ (Nat.le_of_ble_eq_true rfl) (Nat.le_of_ble_eq_true rfl) dX12_ordersKids_124
            exact hJ63 151 (0 : Int32) _ _ ls (by have : ((0 : Int32).toInt) = 0 := (by decide); omega) (by have : ((0 : Int32).toInt) = 0 := (by decide); omega) (by have : ((0 : Int32).toInt) = 0 := (by decide);  omega) TH hS (lv_sub hl [0, 1, 2, 3, 4, 5, 6, 7] rfl)
          · have hf104 : ¬ (xe79.toInt = x4.toInt) := fun q => hc80 ((fa_eq _ _).mpr (by  omega))
            refine lv_goto (tgt := 131) hx hb dX12_ordersKids_57 (by decide) ?_
            exact hJ131  _ _ ls  TH hS (lv_sub hl [0, 1, 2, 3, 4, 5, 6] rfl)
  exact hJ13 151 (0 : Int32) _ _ _ ls (by have : ((0 : Int32).toInt) = 0 := (by decide); omega) (by have : ((0 : Int32).toInt) = 0 := (by decide); omega) (by have : ((0 : Int32).toInt) = 0 := (by decide);  omega) tw_fr.rf TH hS (lv_sub hl [0, 1, 2, 3, 4, 5, 6] rfl)
